section
/-! STRETCHES of standing, gives, coldest, with bounds done -/
theorem p_flo_0  (m : z_M) : z_R 92 (m, 0, [(2, 3), (2, 18), (9, 0), (9, 0)], []) = z_R 92 (m, 4, [(2, 3), (2, 18), (0, 0), (0, 0)], []) :=
  have hK : kt_at 92 = kt_92 := rfl
  (z_R_run hK (n := 4) (g' := (m, 4, [(2, 3), (2, 18), (0, 0), (0, 0)], [])) rfl).trans (rfl)
theorem p_flo_4  (m : z_M) (x2 : Int) (x3 : Int) : z_R 92 (m, 4, [(2, 3), (2, 18), (0, x2), (0, x3)], []) = if 9 ≤ x3 then some (m, some (0, x2)) else if ¬ u_hs (m 3 8) (m 3 9) x3 = 0 then if m 19 (x3).toNat ≤ 0 then z_R 92 (m, 4, [(2, 3), (2, 18), (0, x2), (0, x3 + 1)], []) else z_R 92 (m, 4, [(2, 3), (2, 18), (0, z_or x2 (z_shl 1 x3)), (0, x3 + 1)], []) else z_R 92 (m, 4, [(2, 3), (2, 18), (0, x2), (0, z_add x3 1)], []) :=
  have hK : kt_at 92 = kt_92 := rfl
  (z_R_run hK (n := 2) (g' := (m, 7, [(2, 3), (2, 18), (0, x2), (0, x3)], [(0, 9), (0, x3)])) rfl).trans (z_R_ifd hK (c := 9 ≤ x3) (p1 := 39) (p2 := 10) rfl rfl rfl (fun h1 => (z_R_run hK (n := 1) (g' := (m, 40, [(2, 3), (2, 18), (0, x2), (0, x3)], [(0, x2)])) rfl).trans (z_R_ret hK rfl rfl rfl)) (fun h1 => (z_R_run hK (n := 2) (g' := (m, 12, [(2, 3), (2, 18), (0, x2), (0, x3)], [(0, x3), (2, 3)])) rfl).trans (z_R_cif hK rfl rfl rfl rfl rfl (c_ifhas _ _ rfl rfl) (fun h2 => have h4 := u_hs_rng h2; (z_R_run hK (n := 3) (g' := (m, 22, [(2, 3), (2, 18), (0, x2), (0, x3)], [(2, 19)])) rfl).trans ((z_R_run hK (n := 1) (g' := (m, 23, [(2, 3), (2, 18), (0, x2), (0, x3)], [(0, x3), (2, 19)])) rfl).trans (z_R_ixT hK (n := 9) (g' := (m, 24, [(2, 3), (2, 18), (0, x2), (0, x3)], [(0, m 19 (x3).toNat)])) rfl rfl rfl  (show 0 ≤ x3 ∧ x3 < 9 by omega) (z_R_ifd hK (c := m 19 (x3).toNat ≤ 0) (p1 := 33) (p2 := 27) rfl rfl rfl (fun h3 => (z_R_run hK (n := 1) (g' := (m, 36, [(2, 3), (2, 18), (0, x2), (0, z_add x3 1)], [])) rfl).trans ((congrArg (fun vv => z_R 92 (m, 36, [(2, 3), (2, 18), (0, x2), (0, vv)], [])) (z_add_eq (by omega) (by omega))).trans ((z_R_run hK (n := 1) (g' := (m, 4, [(2, 3), (2, 18), (0, x2), (0, x3 + 1)], [])) rfl).trans (rfl)))) (fun h3 => (z_R_run hK (n := 7) (g' := (m, 36, [(2, 3), (2, 18), (0, z_or x2 (z_shl 1 x3)), (0, z_add x3 1)], [])) rfl).trans ((congrArg (fun vv => z_R 92 (m, 36, [(2, 3), (2, 18), (0, z_or x2 (z_shl 1 x3)), (0, vv)], [])) (z_add_eq (by omega) (by omega))).trans ((z_R_run hK (n := 1) (g' := (m, 4, [(2, 3), (2, 18), (0, z_or x2 (z_shl 1 x3)), (0, x3 + 1)], [])) rfl).trans (rfl)))))))) (fun h2 => (z_R_run hK (n := 3) (g' := (m, 4, [(2, 3), (2, 18), (0, x2), (0, z_add x3 1)], [])) rfl).trans (rfl)))))
theorem p_st2_0  (m : z_M) (n : Int) : z_R 96 (m, 0, [(2, 24), (2, 18), (0, n)], []) = (z_R 97 (m, 0, [(2, 24), (2, 18), (0, n), (0, m 3 10), (9, 0), (9, 0)], [])).bind fun qq => z_R 96 (qq.1, 13, [(2, 24), (2, 18), (0, n)], qq.2.toList ++ []) :=
  have hK : kt_at 96 = kt_96 := rfl
  (z_R_run hK (n := 5) (g' := (m, 7, [(2, 24), (2, 18), (0, n)], [(2, 3), (0, n), (2, 18), (2, 24)])) rfl).trans ((z_R_run hK (n := 1) (g' := (m, 10, [(2, 24), (2, 18), (0, n)], [(0, m 3 10), (0, n), (2, 18), (2, 24)])) rfl).trans (z_R_call hK rfl rfl rfl rfl rfl))
theorem p_st2_13  (m : z_M) (x2 : Int) (u : Int) : z_R 96 (m, 13, [(2, 24), (2, 18), (0, x2)], [(0, u)]) = some (m, some (0, u)) :=
  have hK : kt_at 96 = kt_96 := rfl
  z_R_ret hK rfl rfl rfl
theorem p_st3_0  (m : z_M) (n : Int) (b : Int) : z_R 97 (m, 0, [(2, 24), (2, 18), (0, n), (0, b), (9, 0), (9, 0)], []) = (z_R 92 (m, 0, [(2, 3), (2, 18), (9, 0), (9, 0)], [])).bind fun qq => z_R 97 (qq.1, 8, [(2, 24), (2, 18), (0, n), (0, b), (9, 0), (9, 0)], qq.2.toList ++ []) :=
  have hK : kt_at 97 = kt_97 := rfl
  (z_R_run hK (n := 2) (g' := (m, 4, [(2, 24), (2, 18), (0, n), (0, b), (9, 0), (9, 0)], [(2, 3)])) rfl).trans ((z_R_run hK (n := 1) (g' := (m, 5, [(2, 24), (2, 18), (0, n), (0, b), (9, 0), (9, 0)], [(2, 18), (2, 3)])) rfl).trans (z_R_call hK rfl rfl rfl rfl rfl))
theorem p_st3_8  (m : z_M) (x2 : Int) (x3 : Int) (u : Int) : z_R 97 (m, 8, [(2, 24), (2, 18), (0, x2), (0, x3), (9, 0), (9, 0)], [(0, u)]) = z_R 97 (m, 15, [(2, 24), (2, 18), (0, x2), (0, x3), (0, z_and u x3), (0, 0)], []) :=
  have hK : kt_at 97 = kt_97 := rfl
  (z_R_run hK (n := 5) (g' := (m, 15, [(2, 24), (2, 18), (0, x2), (0, x3), (0, z_and u x3), (0, 0)], [])) rfl).trans (rfl)
theorem p_st3_15  (m : z_M) (x2 : Int) (x3 : Int) (x4 : Int) (x5 : Int) : z_R 97 (m, 15, [(2, 24), (2, 18), (0, x2), (0, x3), (0, x4), (0, x5)], []) = if x2 ≤ x5 then some (m, some (0, x2)) else (z_R 68 (m, 0, [(2, 24), (2, 18), (0, x3), (9, 0), (9, 0), (9, 0)], [])).bind fun qq => z_R 97 (qq.1, 27, [(2, 24), (2, 18), (0, x2), (0, x3), (0, x4), (0, x5)], qq.2.toList ++ []) :=
  have hK : kt_at 97 = kt_97 := rfl
  (z_R_run hK (n := 2) (g' := (m, 18, [(2, 24), (2, 18), (0, x2), (0, x3), (0, x4), (0, x5)], [(0, x2), (0, x5)])) rfl).trans (z_R_ifd hK (c := x2 ≤ x5) (p1 := 46) (p2 := 21) rfl rfl rfl (fun h1 => (z_R_run hK (n := 1) (g' := (m, 47, [(2, 24), (2, 18), (0, x2), (0, x3), (0, x4), (0, x5)], [(0, x2)])) rfl).trans (z_R_ret hK rfl rfl rfl)) (fun h1 => (z_R_run hK (n := 3) (g' := (m, 24, [(2, 24), (2, 18), (0, x2), (0, x3), (0, x4), (0, x5)], [(0, x3), (2, 18), (2, 24)])) rfl).trans (z_R_call hK rfl rfl rfl rfl rfl)))
theorem p_st3_27  (m : z_M) (x2 : Int) (x3 : Int) (x4 : Int) (x5 : Int) : z_R 97 (m, 27, [(2, 24), (2, 18), (0, x2), (0, x3), (0, x4), (0, x5)], []) = if z_and (m 24 10) x4 = 0 then z_R 97 (m, 15, [(2, 24), (2, 18), (0, x2), (0, x3), (0, x4), (0, z_add x5 1)], []) else some (m, some (0, x5)) :=
  have hK : kt_at 97 = kt_97 := rfl
  (z_R_run hK (n := 4) (g' := (m, 34, [(2, 24), (2, 18), (0, x2), (0, x3), (0, x4), (0, x5)], [(0, z_and (m 24 10) x4)])) rfl).trans (z_R_ifd hK (c := z_and (m 24 10) x4 = 0) (p1 := 40) (p2 := 37) rfl rfl rfl (fun h1 => (z_R_run hK (n := 2) (g' := (m, 15, [(2, 24), (2, 18), (0, x2), (0, x3), (0, x4), (0, z_add x5 1)], [])) rfl).trans (rfl)) (fun h1 => (z_R_run hK (n := 1) (g' := (m, 39, [(2, 24), (2, 18), (0, x2), (0, x3), (0, x4), (0, x5)], [(0, x5)])) rfl).trans (z_R_ret hK rfl rfl rfl)))
theorem p_col_0  (m : z_M) (n : Int) : z_R 95 (m, 0, [(2, 0), (0, n), (9, 0)], []) = if n < 1 then some (m, some (0, (-1))) else if n ≤ 100 then z_R 95 (m, 15, [(2, 0), (0, n), (0, 0)], []) else some (m, some (0, (-1))) :=
  have hK : kt_at 95 = kt_95 := rfl
  (z_R_run hK (n := 2) (g' := (m, 2, [(2, 0), (0, n), (9, 0)], [(0, 1), (0, n)])) rfl).trans (z_R_ifd hK (c := n < 1) (p1 := 11) (p2 := 5) rfl rfl rfl (fun h1 => (z_R_run hK (n := 1) (g' := (m, 12, [(2, 0), (0, n), (9, 0)], [(0, (-1))])) rfl).trans (z_R_ret hK rfl rfl rfl)) (fun h1 => (z_R_run hK (n := 2) (g' := (m, 8, [(2, 0), (0, n), (9, 0)], [(0, 100), (0, n)])) rfl).trans (z_R_ifd hK (c := n ≤ 100) (p1 := 13) (p2 := 11) rfl rfl rfl (fun h2 => (z_R_run hK (n := 2) (g' := (m, 15, [(2, 0), (0, n), (0, 0)], [])) rfl).trans (rfl)) (fun h2 => (z_R_run hK (n := 1) (g' := (m, 12, [(2, 0), (0, n), (9, 0)], [(0, (-1))])) rfl).trans (z_R_ret hK rfl rfl rfl)))))
theorem p_col_15  (m : z_M) (x1 : Int) (x2 : Int) : z_R 95 (m, 15, [(2, 0), (0, x1), (0, x2)], []) = if 9 < x2 then some (m, some (0, (-2))) else (z_R 61 (m, 0, [(2, 18), (2, 12)], [])).bind fun qq => z_R 95 (qq.1, 32, [(2, 0), (0, x1), (0, x2)], qq.2.toList ++ []) :=
  have hK : kt_at 95 = kt_95 := rfl
  (z_R_run hK (n := 2) (g' := (m, 18, [(2, 0), (0, x1), (0, x2)], [(0, 9), (0, x2)])) rfl).trans (z_R_ifd hK (c := 9 < x2) (p1 := 64) (p2 := 21) rfl rfl rfl (fun h1 => (z_R_run hK (n := 1) (g' := (m, 66, [(2, 0), (0, x1), (0, x2)], [(0, (-2))])) rfl).trans (z_R_ret hK rfl rfl rfl)) (fun h1 => (z_R_run hK (n := 2) (g' := (m, 25, [(2, 0), (0, x1), (0, x2)], [(2, 18)])) rfl).trans ((z_R_run hK (n := 2) (g' := (m, 29, [(2, 0), (0, x1), (0, x2)], [(2, 12), (2, 18)])) rfl).trans (z_R_call hK rfl rfl rfl rfl rfl))))
theorem p_col_32  (m : z_M) (x1 : Int) (x2 : Int) : z_R 95 (m, 32, [(2, 0), (0, x1), (0, x2)], []) = (z_R 96 (z_up m 18 8 x2, 0, [(2, 24), (2, 18), (0, x1)], [])).bind fun qq => z_R 95 (qq.1, 52, [(2, 0), (0, x1), (0, x2)], qq.2.toList ++ []) :=
  have hK : kt_at 95 = kt_95 := rfl
  (z_R_run hK (n := 2) (g' := (m, 36, [(2, 0), (0, x1), (0, x2)], [(2, 18)])) rfl).trans ((z_R_run hK (n := 4) (g' := (z_up m 18 8 x2, 44, [(2, 0), (0, x1), (0, x2)], [(2, 24)])) rfl).trans ((z_R_run hK (n := 2) (g' := (z_up m 18 8 x2, 48, [(2, 0), (0, x1), (0, x2)], [(2, 18), (2, 24)])) rfl).trans ((z_R_run hK (n := 1) (g' := (z_up m 18 8 x2, 49, [(2, 0), (0, x1), (0, x2)], [(0, x1), (2, 18), (2, 24)])) rfl).trans (z_R_call hK rfl rfl rfl rfl rfl))))
theorem p_col_52  (m : z_M) (x1 : Int) (x2 : Int) (u : Int) : z_R 95 (m, 52, [(2, 0), (0, x1), (0, x2)], [(0, u)]) = if u = x1 then some (m, some (0, x2)) else z_R 95 (m, 15, [(2, 0), (0, x1), (0, z_add x2 1)], []) :=
  have hK : kt_at 95 = kt_95 := rfl
  (z_R_run hK (n := 1) (g' := (m, 53, [(2, 0), (0, x1), (0, x2)], [(0, x1), (0, u)])) rfl).trans (z_R_ifnd hK (c := u = x1) (p1 := 58) (p2 := 56) rfl rfl rfl (fun h1 => (z_R_run hK (n := 2) (g' := (m, 15, [(2, 0), (0, x1), (0, z_add x2 1)], [])) rfl).trans (rfl)) (fun h1 => (z_R_run hK (n := 1) (g' := (m, 57, [(2, 0), (0, x1), (0, x2)], [(0, x2)])) rfl).trans (z_R_ret hK rfl rfl rfl)))
theorem p_giv_0  (m : z_M) : z_R 91 (m, 0, [(2, 0), (9, 0), (9, 0), (9, 0)], []) = (z_R 61 (m, 0, [(2, 18), (2, 12)], [])).bind fun qq => z_R 91 (qq.1, 11, [(2, 0), (9, 0), (9, 0), (9, 0)], qq.2.toList ++ []) :=
  have hK : kt_at 91 = kt_91 := rfl
  (z_R_run hK (n := 2) (g' := (m, 4, [(2, 0), (9, 0), (9, 0), (9, 0)], [(2, 18)])) rfl).trans ((z_R_run hK (n := 2) (g' := (m, 8, [(2, 0), (9, 0), (9, 0), (9, 0)], [(2, 12), (2, 18)])) rfl).trans (z_R_call hK rfl rfl rfl rfl rfl))
theorem p_giv_11  (m : z_M) : z_R 91 (m, 11, [(2, 0), (9, 0), (9, 0), (9, 0)], []) = (z_R 92 (m, 0, [(2, 3), (2, 18), (9, 0), (9, 0)], [])).bind fun qq => z_R 91 (qq.1, 22, [(2, 0), (9, 0), (9, 0), (9, 0)], qq.2.toList ++ []) :=
  have hK : kt_at 91 = kt_91 := rfl
  (z_R_run hK (n := 2) (g' := (m, 15, [(2, 0), (9, 0), (9, 0), (9, 0)], [(2, 3)])) rfl).trans ((z_R_run hK (n := 2) (g' := (m, 19, [(2, 0), (9, 0), (9, 0), (9, 0)], [(2, 18), (2, 3)])) rfl).trans (z_R_call hK rfl rfl rfl rfl rfl))
theorem p_giv_22  (m : z_M) (u : Int) : z_R 91 (m, 22, [(2, 0), (9, 0), (9, 0), (9, 0)], [(0, u)]) = z_R 91 (m, 25, [(2, 0), (0, u), (0, 1), (9, 0)], []) :=
  have hK : kt_at 91 = kt_91 := rfl
  (z_R_run hK (n := 3) (g' := (m, 25, [(2, 0), (0, u), (0, 1), (9, 0)], [])) rfl).trans (rfl)
theorem p_giv_25  (m : z_M) (x1 : Int) (x2 : Int) (v3 : z_V) : z_R 91 (m, 25, [(2, 0), (0, x1), (0, x2), v3], []) = if 100 < x2 then some (m, some (0, (-2))) else (z_R 67 (m, 0, [(2, 24), (2, 18), (0, 1), (9, 0)], [])).bind fun qq => z_R 91 (qq.1, 43, [(2, 0), (0, x1), (0, x2), v3], qq.2.toList ++ []) :=
  have hK : kt_at 91 = kt_91 := rfl
  (z_R_run hK (n := 2) (g' := (m, 28, [(2, 0), (0, x1), (0, x2), v3], [(0, 100), (0, x2)])) rfl).trans (z_R_ifd hK (c := 100 < x2) (p1 := 82) (p2 := 31) rfl rfl rfl (fun h1 => (z_R_run hK (n := 1) (g' := (m, 84, [(2, 0), (0, x1), (0, x2), v3], [(0, (-2))])) rfl).trans (z_R_ret hK rfl rfl rfl)) (fun h1 => (z_R_run hK (n := 2) (g' := (m, 35, [(2, 0), (0, x1), (0, x2), v3], [(2, 24)])) rfl).trans ((z_R_run hK (n := 2) (g' := (m, 39, [(2, 0), (0, x1), (0, x2), v3], [(2, 18), (2, 24)])) rfl).trans ((z_R_run hK (n := 1) (g' := (m, 40, [(2, 0), (0, x1), (0, x2), v3], [(0, 1), (2, 18), (2, 24)])) rfl).trans (z_R_call hK rfl rfl rfl rfl rfl)))))
theorem p_giv_43  (m : z_M) (x1 : Int) (x2 : Int) (v3 : z_V) : z_R 91 (m, 43, [(2, 0), (0, x1), (0, x2), v3], []) = if z_and (m 24 10) x1 = 0 then z_R 91 (m, 25, [(2, 0), (0, x1), (0, z_add x2 1), (0, z_and (m 24 10) x1)], []) else (z_R 93 (m, 0, [(0, z_and (m 24 10) x1), (9, 0)], [])).bind fun qq => z_R 91 (qq.1, 62, [(2, 0), (0, x1), (0, x2), (0, z_and (m 24 10) x1)], qq.2.toList ++ [(2, 0)]) :=
  have hK : kt_at 91 = kt_91 := rfl
  (z_R_run hK (n := 2) (g' := (m, 47, [(2, 0), (0, x1), (0, x2), v3], [(2, 24)])) rfl).trans ((z_R_run hK (n := 5) (g' := (m, 54, [(2, 0), (0, x1), (0, x2), (0, z_and (m 24 10) x1)], [(0, z_and (m 24 10) x1)])) rfl).trans (z_R_ifd hK (c := z_and (m 24 10) x1 = 0) (p1 := 76) (p2 := 57) rfl rfl rfl (fun h1 => (z_R_run hK (n := 2) (g' := (m, 25, [(2, 0), (0, x1), (0, z_add x2 1), (0, z_and (m 24 10) x1)], [])) rfl).trans (rfl)) (fun h1 => (z_R_run hK (n := 2) (g' := (m, 59, [(2, 0), (0, x1), (0, x2), (0, z_and (m 24 10) x1)], [(0, z_and (m 24 10) x1), (2, 0)])) rfl).trans (z_R_call hK rfl rfl rfl rfl rfl))))
theorem p_giv_62  (m : z_M) (x1 : Int) (x2 : Int) (x3 : Int) (u : Int) : z_R 91 (m, 62, [(2, 0), (0, x1), (0, x2), (0, x3)], [(0, u), (2, 0)]) = (z_R 77 (m, 0, [(2, 0), (1, z_i2l u), (9, 0), (1, z_i2l (m 24 11)), (9, 0)], [])).bind fun qq => z_R 91 (qq.1, 74, [(2, 0), (0, x1), (0, x2), (0, x3)], qq.2.toList ++ []) :=
  have hK : kt_at 91 = kt_91 := rfl
  (z_R_run hK (n := 3) (g' := (m, 67, [(2, 0), (0, x1), (0, x2), (0, x3)], [(2, 24), (1, z_i2l u), (2, 0)])) rfl).trans ((z_R_run hK (n := 2) (g' := (m, 71, [(2, 0), (0, x1), (0, x2), (0, x3)], [(1, z_i2l (m 24 11)), (1, z_i2l u), (2, 0)])) rfl).trans (z_R_call hK rfl rfl rfl rfl rfl))
theorem p_giv_74  (m : z_M) (x1 : Int) (x2 : Int) (x3 : Int) : z_R 91 (m, 74, [(2, 0), (0, x1), (0, x2), (0, x3)], []) = some (m, some (0, x2)) :=
  have hK : kt_at 91 = kt_91 := rfl
  (z_R_run hK (n := 1) (g' := (m, 75, [(2, 0), (0, x1), (0, x2), (0, x3)], [(0, x2)])) rfl).trans (z_R_ret hK rfl rfl rfl)
theorem p_fst_0  (m : z_M) (b : Int) : z_R 93 (m, 0, [(0, b), (9, 0)], []) = z_R 93 (m, 2, [(0, b), (0, 0)], []) :=
  have hK : kt_at 93 = kt_93 := rfl
  (z_R_run hK (n := 2) (g' := (m, 2, [(0, b), (0, 0)], [])) rfl).trans (rfl)
theorem p_fst_2  (m : z_M) (x0 : Int) (x1 : Int) : z_R 93 (m, 2, [(0, x0), (0, x1)], []) = if 9 ≤ x1 then some (m, some (0, (-1))) else if z_and (z_shr x0 x1) 1 = 0 then z_R 93 (m, 2, [(0, x0), (0, z_add x1 1)], []) else some (m, some (0, x1)) :=
  have hK : kt_at 93 = kt_93 := rfl
  (z_R_run hK (n := 2) (g' := (m, 5, [(0, x0), (0, x1)], [(0, 9), (0, x1)])) rfl).trans (z_R_ifd hK (c := 9 ≤ x1) (p1 := 24) (p2 := 8) rfl rfl rfl (fun h1 => (z_R_run hK (n := 1) (g' := (m, 25, [(0, x0), (0, x1)], [(0, (-1))])) rfl).trans (z_R_ret hK rfl rfl rfl)) (fun h1 => (z_R_run hK (n := 5) (g' := (m, 13, [(0, x0), (0, x1)], [(0, z_and (z_shr x0 x1) 1)])) rfl).trans (z_R_ifd hK (c := z_and (z_shr x0 x1) 1 = 0) (p1 := 18) (p2 := 16) rfl rfl rfl (fun h2 => (z_R_run hK (n := 2) (g' := (m, 2, [(0, x0), (0, z_add x1 1)], [])) rfl).trans (rfl)) (fun h2 => (z_R_run hK (n := 1) (g' := (m, 17, [(0, x0), (0, x1)], [(0, x1)])) rfl).trans (z_R_ret hK rfl rfl rfl)))))
theorem p_ntz_0  (m : z_M) (a : Int) : z_R 224 (m, 0, [(0, a), (9, 0)], []) = if 0 < z_and (z_xor a (-1)) (z_sub a 1) then if z_and (z_xor a (-1)) (z_sub a 1) ≤ 65536 then if z_and (z_xor a (-1)) (z_sub a 1) ≤ 256 then if z_and (z_xor a (-1)) (z_sub a 1) ≤ 16 then if z_and (z_xor a (-1)) (z_sub a 1) ≤ 4 then some (m, some (0, z_add 1 (z_ush (z_and (z_xor a (-1)) (z_sub a 1)) 1))) else some (m, some (0, z_add 3 (z_ush (z_ush (z_and (z_xor a (-1)) (z_sub a 1)) 2) 1))) else if z_ush (z_and (z_xor a (-1)) (z_sub a 1)) 4 ≤ 4 then some (m, some (0, z_add 5 (z_ush (z_ush (z_and (z_xor a (-1)) (z_sub a 1)) 4) 1))) else some (m, some (0, z_add 7 (z_ush (z_ush (z_ush (z_and (z_xor a (-1)) (z_sub a 1)) 4) 2) 1))) else if z_ush (z_and (z_xor a (-1)) (z_sub a 1)) 8 ≤ 16 then if z_ush (z_and (z_xor a (-1)) (z_sub a 1)) 8 ≤ 4 then some (m, some (0, z_add 9 (z_ush (z_ush (z_and (z_xor a (-1)) (z_sub a 1)) 8) 1))) else some (m, some (0, z_add 11 (z_ush (z_ush (z_ush (z_and (z_xor a (-1)) (z_sub a 1)) 8) 2) 1))) else if z_ush (z_ush (z_and (z_xor a (-1)) (z_sub a 1)) 8) 4 ≤ 4 then some (m, some (0, z_add 13 (z_ush (z_ush (z_ush (z_and (z_xor a (-1)) (z_sub a 1)) 8) 4) 1))) else some (m, some (0, z_add 15 (z_ush (z_ush (z_ush (z_ush (z_and (z_xor a (-1)) (z_sub a 1)) 8) 4) 2) 1))) else if z_ush (z_and (z_xor a (-1)) (z_sub a 1)) 16 ≤ 256 then if z_ush (z_and (z_xor a (-1)) (z_sub a 1)) 16 ≤ 16 then if z_ush (z_and (z_xor a (-1)) (z_sub a 1)) 16 ≤ 4 then some (m, some (0, z_add 17 (z_ush (z_ush (z_and (z_xor a (-1)) (z_sub a 1)) 16) 1))) else some (m, some (0, z_add 19 (z_ush (z_ush (z_ush (z_and (z_xor a (-1)) (z_sub a 1)) 16) 2) 1))) else if z_ush (z_ush (z_and (z_xor a (-1)) (z_sub a 1)) 16) 4 ≤ 4 then some (m, some (0, z_add 21 (z_ush (z_ush (z_ush (z_and (z_xor a (-1)) (z_sub a 1)) 16) 4) 1))) else some (m, some (0, z_add 23 (z_ush (z_ush (z_ush (z_ush (z_and (z_xor a (-1)) (z_sub a 1)) 16) 4) 2) 1))) else if z_ush (z_ush (z_and (z_xor a (-1)) (z_sub a 1)) 16) 8 ≤ 16 then if z_ush (z_ush (z_and (z_xor a (-1)) (z_sub a 1)) 16) 8 ≤ 4 then some (m, some (0, z_add 25 (z_ush (z_ush (z_ush (z_and (z_xor a (-1)) (z_sub a 1)) 16) 8) 1))) else some (m, some (0, z_add 27 (z_ush (z_ush (z_ush (z_ush (z_and (z_xor a (-1)) (z_sub a 1)) 16) 8) 2) 1))) else if z_ush (z_ush (z_ush (z_and (z_xor a (-1)) (z_sub a 1)) 16) 8) 4 ≤ 4 then some (m, some (0, z_add 29 (z_ush (z_ush (z_ush (z_ush (z_and (z_xor a (-1)) (z_sub a 1)) 16) 8) 4) 1))) else some (m, some (0, z_add 31 (z_ush (z_ush (z_ush (z_ush (z_ush (z_and (z_xor a (-1)) (z_sub a 1)) 16) 8) 4) 2) 1))) else some (m, some (0, z_and (z_and (z_xor a (-1)) (z_sub a 1)) 32)) :=
  have hK : kt_at 224 = kt_224 := rfl
  (z_R_run hK (n := 9) (g' := (m, 9, [(0, z_and (z_xor a (-1)) (z_sub a 1)), (9, 0)], [(0, z_and (z_xor a (-1)) (z_sub a 1))])) rfl).trans (z_R_ifd hK (c := 0 < z_and (z_xor a (-1)) (z_sub a 1)) (p1 := 17) (p2 := 12) rfl rfl rfl (fun h1 => (z_R_run hK (n := 4) (g' := (m, 23, [(0, z_and (z_xor a (-1)) (z_sub a 1)), (0, 1)], [(0, 65536), (0, z_and (z_xor a (-1)) (z_sub a 1))])) rfl).trans (z_R_ifd hK (c := z_and (z_xor a (-1)) (z_sub a 1) ≤ 65536) (p1 := 34) (p2 := 26) rfl rfl rfl (fun h2 => (z_R_run hK (n := 2) (g' := (m, 38, [(0, z_and (z_xor a (-1)) (z_sub a 1)), (0, 1)], [(0, 256), (0, z_and (z_xor a (-1)) (z_sub a 1))])) rfl).trans (z_R_ifd hK (c := z_and (z_xor a (-1)) (z_sub a 1) ≤ 256) (p1 := 49) (p2 := 41) rfl rfl rfl (fun h3 => (z_R_run hK (n := 2) (g' := (m, 52, [(0, z_and (z_xor a (-1)) (z_sub a 1)), (0, 1)], [(0, 16), (0, z_and (z_xor a (-1)) (z_sub a 1))])) rfl).trans (z_R_ifd hK (c := z_and (z_xor a (-1)) (z_sub a 1) ≤ 16) (p1 := 62) (p2 := 55) rfl rfl rfl (fun h4 => (z_R_run hK (n := 2) (g' := (m, 64, [(0, z_and (z_xor a (-1)) (z_sub a 1)), (0, 1)], [(0, 4), (0, z_and (z_xor a (-1)) (z_sub a 1))])) rfl).trans (z_R_ifd hK (c := z_and (z_xor a (-1)) (z_sub a 1) ≤ 4) (p1 := 74) (p2 := 67) rfl rfl rfl (fun h5 => (z_R_run hK (n := 5) (g' := (m, 79, [(0, z_and (z_xor a (-1)) (z_sub a 1)), (0, 1)], [(0, z_add 1 (z_ush (z_and (z_xor a (-1)) (z_sub a 1)) 1))])) rfl).trans (z_R_ret hK rfl rfl rfl)) (fun h5 => (z_R_run hK (n := 10) (g' := (m, 79, [(0, z_ush (z_and (z_xor a (-1)) (z_sub a 1)) 2), (0, 3)], [(0, z_add 3 (z_ush (z_ush (z_and (z_xor a (-1)) (z_sub a 1)) 2) 1))])) rfl).trans (z_R_ret hK rfl rfl rfl)))) (fun h4 => (z_R_run hK (n := 7) (g' := (m, 64, [(0, z_ush (z_and (z_xor a (-1)) (z_sub a 1)) 4), (0, 5)], [(0, 4), (0, z_ush (z_and (z_xor a (-1)) (z_sub a 1)) 4)])) rfl).trans (z_R_ifd hK (c := z_ush (z_and (z_xor a (-1)) (z_sub a 1)) 4 ≤ 4) (p1 := 74) (p2 := 67) rfl rfl rfl (fun h6 => (z_R_run hK (n := 5) (g' := (m, 79, [(0, z_ush (z_and (z_xor a (-1)) (z_sub a 1)) 4), (0, 5)], [(0, z_add 5 (z_ush (z_ush (z_and (z_xor a (-1)) (z_sub a 1)) 4) 1))])) rfl).trans (z_R_ret hK rfl rfl rfl)) (fun h6 => (z_R_run hK (n := 10) (g' := (m, 79, [(0, z_ush (z_ush (z_and (z_xor a (-1)) (z_sub a 1)) 4) 2), (0, 7)], [(0, z_add 7 (z_ush (z_ush (z_ush (z_and (z_xor a (-1)) (z_sub a 1)) 4) 2) 1))])) rfl).trans (z_R_ret hK rfl rfl rfl)))))) (fun h3 => (z_R_run hK (n := 7) (g' := (m, 52, [(0, z_ush (z_and (z_xor a (-1)) (z_sub a 1)) 8), (0, 9)], [(0, 16), (0, z_ush (z_and (z_xor a (-1)) (z_sub a 1)) 8)])) rfl).trans (z_R_ifd hK (c := z_ush (z_and (z_xor a (-1)) (z_sub a 1)) 8 ≤ 16) (p1 := 62) (p2 := 55) rfl rfl rfl (fun h7 => (z_R_run hK (n := 2) (g' := (m, 64, [(0, z_ush (z_and (z_xor a (-1)) (z_sub a 1)) 8), (0, 9)], [(0, 4), (0, z_ush (z_and (z_xor a (-1)) (z_sub a 1)) 8)])) rfl).trans (z_R_ifd hK (c := z_ush (z_and (z_xor a (-1)) (z_sub a 1)) 8 ≤ 4) (p1 := 74) (p2 := 67) rfl rfl rfl (fun h8 => (z_R_run hK (n := 5) (g' := (m, 79, [(0, z_ush (z_and (z_xor a (-1)) (z_sub a 1)) 8), (0, 9)], [(0, z_add 9 (z_ush (z_ush (z_and (z_xor a (-1)) (z_sub a 1)) 8) 1))])) rfl).trans (z_R_ret hK rfl rfl rfl)) (fun h8 => (z_R_run hK (n := 10) (g' := (m, 79, [(0, z_ush (z_ush (z_and (z_xor a (-1)) (z_sub a 1)) 8) 2), (0, 11)], [(0, z_add 11 (z_ush (z_ush (z_ush (z_and (z_xor a (-1)) (z_sub a 1)) 8) 2) 1))])) rfl).trans (z_R_ret hK rfl rfl rfl)))) (fun h7 => (z_R_run hK (n := 7) (g' := (m, 64, [(0, z_ush (z_ush (z_and (z_xor a (-1)) (z_sub a 1)) 8) 4), (0, 13)], [(0, 4), (0, z_ush (z_ush (z_and (z_xor a (-1)) (z_sub a 1)) 8) 4)])) rfl).trans (z_R_ifd hK (c := z_ush (z_ush (z_and (z_xor a (-1)) (z_sub a 1)) 8) 4 ≤ 4) (p1 := 74) (p2 := 67) rfl rfl rfl (fun h9 => (z_R_run hK (n := 5) (g' := (m, 79, [(0, z_ush (z_ush (z_and (z_xor a (-1)) (z_sub a 1)) 8) 4), (0, 13)], [(0, z_add 13 (z_ush (z_ush (z_ush (z_and (z_xor a (-1)) (z_sub a 1)) 8) 4) 1))])) rfl).trans (z_R_ret hK rfl rfl rfl)) (fun h9 => (z_R_run hK (n := 10) (g' := (m, 79, [(0, z_ush (z_ush (z_ush (z_and (z_xor a (-1)) (z_sub a 1)) 8) 4) 2), (0, 15)], [(0, z_add 15 (z_ush (z_ush (z_ush (z_ush (z_and (z_xor a (-1)) (z_sub a 1)) 8) 4) 2) 1))])) rfl).trans (z_R_ret hK rfl rfl rfl)))))))) (fun h2 => (z_R_run hK (n := 7) (g' := (m, 38, [(0, z_ush (z_and (z_xor a (-1)) (z_sub a 1)) 16), (0, 17)], [(0, 256), (0, z_ush (z_and (z_xor a (-1)) (z_sub a 1)) 16)])) rfl).trans (z_R_ifd hK (c := z_ush (z_and (z_xor a (-1)) (z_sub a 1)) 16 ≤ 256) (p1 := 49) (p2 := 41) rfl rfl rfl (fun h10 => (z_R_run hK (n := 2) (g' := (m, 52, [(0, z_ush (z_and (z_xor a (-1)) (z_sub a 1)) 16), (0, 17)], [(0, 16), (0, z_ush (z_and (z_xor a (-1)) (z_sub a 1)) 16)])) rfl).trans (z_R_ifd hK (c := z_ush (z_and (z_xor a (-1)) (z_sub a 1)) 16 ≤ 16) (p1 := 62) (p2 := 55) rfl rfl rfl (fun h11 => (z_R_run hK (n := 2) (g' := (m, 64, [(0, z_ush (z_and (z_xor a (-1)) (z_sub a 1)) 16), (0, 17)], [(0, 4), (0, z_ush (z_and (z_xor a (-1)) (z_sub a 1)) 16)])) rfl).trans (z_R_ifd hK (c := z_ush (z_and (z_xor a (-1)) (z_sub a 1)) 16 ≤ 4) (p1 := 74) (p2 := 67) rfl rfl rfl (fun h12 => (z_R_run hK (n := 5) (g' := (m, 79, [(0, z_ush (z_and (z_xor a (-1)) (z_sub a 1)) 16), (0, 17)], [(0, z_add 17 (z_ush (z_ush (z_and (z_xor a (-1)) (z_sub a 1)) 16) 1))])) rfl).trans (z_R_ret hK rfl rfl rfl)) (fun h12 => (z_R_run hK (n := 10) (g' := (m, 79, [(0, z_ush (z_ush (z_and (z_xor a (-1)) (z_sub a 1)) 16) 2), (0, 19)], [(0, z_add 19 (z_ush (z_ush (z_ush (z_and (z_xor a (-1)) (z_sub a 1)) 16) 2) 1))])) rfl).trans (z_R_ret hK rfl rfl rfl)))) (fun h11 => (z_R_run hK (n := 7) (g' := (m, 64, [(0, z_ush (z_ush (z_and (z_xor a (-1)) (z_sub a 1)) 16) 4), (0, 21)], [(0, 4), (0, z_ush (z_ush (z_and (z_xor a (-1)) (z_sub a 1)) 16) 4)])) rfl).trans (z_R_ifd hK (c := z_ush (z_ush (z_and (z_xor a (-1)) (z_sub a 1)) 16) 4 ≤ 4) (p1 := 74) (p2 := 67) rfl rfl rfl (fun h13 => (z_R_run hK (n := 5) (g' := (m, 79, [(0, z_ush (z_ush (z_and (z_xor a (-1)) (z_sub a 1)) 16) 4), (0, 21)], [(0, z_add 21 (z_ush (z_ush (z_ush (z_and (z_xor a (-1)) (z_sub a 1)) 16) 4) 1))])) rfl).trans (z_R_ret hK rfl rfl rfl)) (fun h13 => (z_R_run hK (n := 10) (g' := (m, 79, [(0, z_ush (z_ush (z_ush (z_and (z_xor a (-1)) (z_sub a 1)) 16) 4) 2), (0, 23)], [(0, z_add 23 (z_ush (z_ush (z_ush (z_ush (z_and (z_xor a (-1)) (z_sub a 1)) 16) 4) 2) 1))])) rfl).trans (z_R_ret hK rfl rfl rfl)))))) (fun h10 => (z_R_run hK (n := 7) (g' := (m, 52, [(0, z_ush (z_ush (z_and (z_xor a (-1)) (z_sub a 1)) 16) 8), (0, 25)], [(0, 16), (0, z_ush (z_ush (z_and (z_xor a (-1)) (z_sub a 1)) 16) 8)])) rfl).trans (z_R_ifd hK (c := z_ush (z_ush (z_and (z_xor a (-1)) (z_sub a 1)) 16) 8 ≤ 16) (p1 := 62) (p2 := 55) rfl rfl rfl (fun h14 => (z_R_run hK (n := 2) (g' := (m, 64, [(0, z_ush (z_ush (z_and (z_xor a (-1)) (z_sub a 1)) 16) 8), (0, 25)], [(0, 4), (0, z_ush (z_ush (z_and (z_xor a (-1)) (z_sub a 1)) 16) 8)])) rfl).trans (z_R_ifd hK (c := z_ush (z_ush (z_and (z_xor a (-1)) (z_sub a 1)) 16) 8 ≤ 4) (p1 := 74) (p2 := 67) rfl rfl rfl (fun h15 => (z_R_run hK (n := 5) (g' := (m, 79, [(0, z_ush (z_ush (z_and (z_xor a (-1)) (z_sub a 1)) 16) 8), (0, 25)], [(0, z_add 25 (z_ush (z_ush (z_ush (z_and (z_xor a (-1)) (z_sub a 1)) 16) 8) 1))])) rfl).trans (z_R_ret hK rfl rfl rfl)) (fun h15 => (z_R_run hK (n := 10) (g' := (m, 79, [(0, z_ush (z_ush (z_ush (z_and (z_xor a (-1)) (z_sub a 1)) 16) 8) 2), (0, 27)], [(0, z_add 27 (z_ush (z_ush (z_ush (z_ush (z_and (z_xor a (-1)) (z_sub a 1)) 16) 8) 2) 1))])) rfl).trans (z_R_ret hK rfl rfl rfl)))) (fun h14 => (z_R_run hK (n := 7) (g' := (m, 64, [(0, z_ush (z_ush (z_ush (z_and (z_xor a (-1)) (z_sub a 1)) 16) 8) 4), (0, 29)], [(0, 4), (0, z_ush (z_ush (z_ush (z_and (z_xor a (-1)) (z_sub a 1)) 16) 8) 4)])) rfl).trans (z_R_ifd hK (c := z_ush (z_ush (z_ush (z_and (z_xor a (-1)) (z_sub a 1)) 16) 8) 4 ≤ 4) (p1 := 74) (p2 := 67) rfl rfl rfl (fun h16 => (z_R_run hK (n := 5) (g' := (m, 79, [(0, z_ush (z_ush (z_ush (z_and (z_xor a (-1)) (z_sub a 1)) 16) 8) 4), (0, 29)], [(0, z_add 29 (z_ush (z_ush (z_ush (z_ush (z_and (z_xor a (-1)) (z_sub a 1)) 16) 8) 4) 1))])) rfl).trans (z_R_ret hK rfl rfl rfl)) (fun h16 => (z_R_run hK (n := 10) (g' := (m, 79, [(0, z_ush (z_ush (z_ush (z_ush (z_and (z_xor a (-1)) (z_sub a 1)) 16) 8) 4) 2), (0, 31)], [(0, z_add 31 (z_ush (z_ush (z_ush (z_ush (z_ush (z_and (z_xor a (-1)) (z_sub a 1)) 16) 8) 4) 2) 1))])) rfl).trans (z_R_ret hK rfl rfl rfl)))))))))) (fun h1 => (z_R_run hK (n := 3) (g' := (m, 16, [(0, z_and (z_xor a (-1)) (z_sub a 1)), (9, 0)], [(0, z_and (z_and (z_xor a (-1)) (z_sub a 1)) 32)])) rfl).trans (z_R_ret hK rfl rfl rfl)))
theorem p_tco_0  (m : z_M) (n : Int) : z_R 226 (m, 0, [(2, 251), (0, n), (9, 0)], []) = if 1 ≤ n ∧ n ≤ 100 then z_R 226 (z_up m 251 11 0, 19, [(2, 251), (0, n), (0, 0)], []) else some (z_up m 251 11 0, some (0, (-1))) :=
  have hK : kt_at 226 = kt_226 := rfl
  (z_R_run hK (n := 6) (g' := (z_up m 251 11 0, 9, [(2, 251), (0, n), (9, 0)], [(0, 100), (0, 1), (0, n)])) rfl).trans (z_R_cif hK rfl rfl rfl rfl rfl (t_ifin _ _ _ _) (fun h1 => (z_R_run hK (n := 3) (g' := (z_up m 251 11 0, 19, [(2, 251), (0, n), (0, 0)], [])) rfl).trans (rfl)) (fun h1 => (z_R_run hK (n := 2) (g' := (z_up m 251 11 0, 16, [(2, 251), (0, n), (9, 0)], [(0, (-1))])) rfl).trans (z_R_ret hK rfl rfl rfl)))
theorem p_tco_19  (m : z_M) (x1 : Int) (x2 : Int) : z_R 226 (m, 19, [(2, 251), (0, x1), (0, x2)], []) = if 9 < x2 then some (m, some (0, (-2))) else (z_R 219 (m, 0, [(2, 251)], [])).bind fun qq => z_R 226 (qq.1, 29, [(2, 251), (0, x1), (0, x2)], qq.2.toList ++ []) :=
  have hK : kt_at 226 = kt_226 := rfl
  (z_R_run hK (n := 2) (g' := (m, 22, [(2, 251), (0, x1), (0, x2)], [(0, 9), (0, x2)])) rfl).trans (z_R_ifd hK (c := 9 < x2) (p1 := 54) (p2 := 25) rfl rfl rfl (fun h1 => (z_R_run hK (n := 1) (g' := (m, 56, [(2, 251), (0, x1), (0, x2)], [(0, (-2))])) rfl).trans (z_R_ret hK rfl rfl rfl)) (fun h1 => (z_R_run hK (n := 1) (g' := (m, 26, [(2, 251), (0, x1), (0, x2)], [(2, 251)])) rfl).trans (z_R_call hK rfl rfl rfl rfl rfl)))
theorem p_tco_29  (m : z_M) (x1 : Int) (x2 : Int) : z_R 226 (m, 29, [(2, 251), (0, x1), (0, x2)], []) = (z_R 221 (z_up m 264 36 x2, 0, [(2, 251), (0, x1), (9, 0), (9, 0)], [])).bind fun qq => z_R 226 (qq.1, 42, [(2, 251), (0, x1), (0, x2)], qq.2.toList ++ []) :=
  have hK : kt_at 226 = kt_226 := rfl
  (z_R_run hK (n := 2) (g' := (m, 33, [(2, 251), (0, x1), (0, x2)], [(2, 264)])) rfl).trans ((z_R_run hK (n := 5) (g' := (z_up m 264 36 x2, 39, [(2, 251), (0, x1), (0, x2)], [(0, x1), (2, 251)])) rfl).trans (z_R_call hK rfl rfl rfl rfl rfl))
theorem p_tco_42  (m : z_M) (x1 : Int) (x2 : Int) (u : Int) : z_R 226 (m, 42, [(2, 251), (0, x1), (0, x2)], [(0, u)]) = if u = x1 then some (m, some (0, x2)) else z_R 226 (m, 19, [(2, 251), (0, x1), (0, z_add x2 1)], []) :=
  have hK : kt_at 226 = kt_226 := rfl
  (z_R_run hK (n := 1) (g' := (m, 43, [(2, 251), (0, x1), (0, x2)], [(0, x1), (0, u)])) rfl).trans (z_R_ifnd hK (c := u = x1) (p1 := 48) (p2 := 46) rfl rfl rfl (fun h1 => (z_R_run hK (n := 2) (g' := (m, 19, [(2, 251), (0, x1), (0, z_add x2 1)], [])) rfl).trans (rfl)) (fun h1 => (z_R_run hK (n := 1) (g' := (m, 47, [(2, 251), (0, x1), (0, x2)], [(0, x2)])) rfl).trans (z_R_ret hK rfl rfl rfl)))
theorem p_tgi_0  (m : z_M) : z_R 220 (m, 0, [(2, 251), (9, 0)], []) = (z_R 219 (z_up m 251 11 0, 0, [(2, 251)], [])).bind fun qq => z_R 220 (qq.1, 9, [(2, 251), (9, 0)], qq.2.toList ++ []) :=
  have hK : kt_at 220 = kt_220 := rfl
  (z_R_run hK (n := 4) (g' := (z_up m 251 11 0, 6, [(2, 251), (9, 0)], [(2, 251)])) rfl).trans (z_R_call hK rfl rfl rfl rfl rfl)
theorem p_tgi_9  (m : z_M) : z_R 220 (m, 9, [(2, 251), (9, 0)], []) = (z_R 221 (m, 0, [(2, 251), (0, 100), (9, 0), (9, 0)], [])).bind fun qq => z_R 220 (qq.1, 15, [(2, 251), (9, 0)], qq.2.toList ++ []) :=
  have hK : kt_at 220 = kt_220 := rfl
  (z_R_run hK (n := 2) (g' := (m, 12, [(2, 251), (9, 0)], [(0, 100), (2, 251)])) rfl).trans (z_R_call hK rfl rfl rfl rfl rfl)
theorem p_tgi_15  (m : z_M) (u : Int) : z_R 220 (m, 15, [(2, 251), (9, 0)], [(0, u)]) = if u = 100 then some (m, some (0, (-2))) else (z_R 223 (z_up m 251 10 0, 0, [(2, 251), (2, 264), (9, 0), (9, 0)], [])).bind fun qq => z_R 220 (qq.1, 39, [(2, 251), (0, u)], qq.2.toList ++ [(2, 251)]) :=
  have hK : kt_at 220 = kt_220 := rfl
  (z_R_run hK (n := 3) (g' := (m, 19, [(2, 251), (0, u)], [(0, 100), (0, u)])) rfl).trans (z_R_ifnd hK (c := u = 100) (p1 := 25) (p2 := 22) rfl rfl rfl (fun h1 => (z_R_run hK (n := 7) (g' := (z_up m 251 10 0, 36, [(2, 251), (0, u)], [(2, 264), (2, 251), (2, 251)])) rfl).trans (z_R_call hK rfl rfl rfl rfl rfl)) (fun h1 => (z_R_run hK (n := 1) (g' := (m, 24, [(2, 251), (0, u)], [(0, (-2))])) rfl).trans (z_R_ret hK rfl rfl rfl)))
theorem p_tgi_39  (m : z_M) (x1 : Int) (u : Int) : z_R 220 (m, 39, [(2, 251), (0, x1)], [(0, u), (2, 251)]) = (z_R 222 (m, 0, [(2, 251), (9, 0), (9, 0)], [])).bind fun qq => z_R 220 (qq.1, 43, [(2, 251), (0, x1)], qq.2.toList ++ [(0, u), (2, 251)]) :=
  have hK : kt_at 220 = kt_220 := rfl
  (z_R_run hK (n := 1) (g' := (m, 40, [(2, 251), (0, x1)], [(2, 251), (0, u), (2, 251)])) rfl).trans (z_R_call hK rfl rfl rfl rfl rfl)
theorem p_tgi_43  (m : z_M) (x1 : Int) (s0 : Int) (u : Int) : z_R 220 (m, 43, [(2, 251), (0, x1)], [(0, u), (0, s0), (2, 251)]) = (z_R 224 (m, 0, [(0, z_and s0 u), (9, 0)], [])).bind fun qq => z_R 220 (qq.1, 47, [(2, 251), (0, x1)], qq.2.toList ++ [(2, 251)]) :=
  have hK : kt_at 220 = kt_220 := rfl
  (z_R_run hK (n := 1) (g' := (m, 44, [(2, 251), (0, x1)], [(0, z_and s0 u), (2, 251)])) rfl).trans (z_R_call hK rfl rfl rfl rfl rfl)
theorem p_tgi_47  (m : z_M) (x1 : Int) (u : Int) : z_R 220 (m, 47, [(2, 251), (0, x1)], [(0, u), (2, 251)]) = (z_R 210 (m, 0, [(2, 251), (1, z_i2l u), (9, 0)], [])).bind fun qq => z_R 220 (qq.1, 51, [(2, 251), (0, x1)], qq.2.toList ++ []) :=
  have hK : kt_at 220 = kt_220 := rfl
  (z_R_run hK (n := 1) (g' := (m, 48, [(2, 251), (0, x1)], [(1, z_i2l u), (2, 251)])) rfl).trans (z_R_call hK rfl rfl rfl rfl rfl)
theorem p_tgi_51  (m : z_M) (x1 : Int) : z_R 220 (m, 51, [(2, 251), (0, x1)], []) = (z_R 210 (m, 0, [(2, 251), (1, z_i2l (m 251 30)), (9, 0)], [])).bind fun qq => z_R 220 (qq.1, 60, [(2, 251), (0, x1)], qq.2.toList ++ []) :=
  have hK : kt_at 220 = kt_220 := rfl
  (z_R_run hK (n := 4) (g' := (m, 57, [(2, 251), (0, x1)], [(1, z_i2l (m 251 30)), (2, 251)])) rfl).trans (z_R_call hK rfl rfl rfl rfl rfl)
theorem p_tgi_60  (m : z_M) (x1 : Int) : z_R 220 (m, 60, [(2, 251), (0, x1)], []) = some (m, some (0, z_add x1 1)) :=
  have hK : kt_at 220 = kt_220 := rfl
  (z_R_run hK (n := 3) (g' := (m, 63, [(2, 251), (0, x1)], [(0, z_add x1 1)])) rfl).trans (z_R_ret hK rfl rfl rfl)
end
section
/-! STANDING: sets of rooms as bits; coldest and gives, of what both are in -/
theorem b_one {v : BitVec 32} {x : Nat} (hx : x < 32) (h : ¬ (v.sshiftRight x &&& 1#32) = 0#32) : (1#32 <<< x) &&& v = 1#32 <<< x := by
  have hb : v.getLsbD x = true := by
    cases hc : v.getLsbD x with
    | true => rfl
    | false =>
      refine absurd (BitVec.eq_of_getLsbD_eq fun i hi => ?_) h
      rw [BitVec.getLsbD_and, BitVec.getLsbD_one, BitVec.getLsbD_zero]
      by_cases e : i = 0
      · subst e
        rw [BitVec.getLsbD_sshiftRight, Nat.add_zero, if_pos hx, hc]
        simp
      · simp [e]
  refine BitVec.eq_of_getLsbD_eq fun i hi => ?_
  rw [BitVec.getLsbD_and, BitVec.getLsbD_shiftLeft, BitVec.getLsbD_one]
  by_cases e : i = x
  · rw [e, hb, Bool.and_true]
  · by_cases e2 : i < x
    · simp [e2]
    · have : ¬ i - x = 0 := by omega
      simp [this]
theorem b_amt {x : Nat} (hx : x < 9) : (((Int32.ofInt (x : Int)) &&& 31).toBitVec.smod 32).toNat = x := by
  have : ∀ x, x < 9 → (((Int32.ofInt ((x : Nat) : Int)) &&& 31).toBitVec.smod 32).toNat = x := by decide +kernel
  exact this x hx
theorem z_one {R : Int} {x : Nat} (hx : x < 9) (h : ¬ z_and (z_shr R (x : Int)) 1 = 0) : z_and (z_shl 1 (x : Int)) R = z_shl 1 (x : Int) := by
  have h' : ¬ ((Int32.ofInt R).toBitVec.sshiftRight x &&& 1#32) = 0#32 := fun z => h (by
    unfold z_and z_shr
    rw [Int32.ofInt_toInt]
    have e : (Int32.ofInt R >>> (Int32.ofInt (x : Int) &&& 31)) &&& Int32.ofInt 1 = 0 := by
      apply Int32.toBitVec_inj.mp
      rw [Int32.toBitVec_and, Int32.toBitVec_shiftRight, BitVec.sshiftRight_eq', b_amt hx]
      exact z
    rw [e]
    rfl)
  have k := b_one (by omega) h'
  unfold z_and z_shl
  rw [Int32.ofInt_toInt]
  have e : (Int32.ofInt 1 <<< (Int32.ofInt (x : Int) &&& 31)) &&& Int32.ofInt R = Int32.ofInt 1 <<< (Int32.ofInt (x : Int) &&& 31) := by
    apply Int32.toBitVec_inj.mp
    rw [Int32.toBitVec_and, Int32.toBitVec_shiftLeft, BitVec.shiftLeft_eq', b_amt hx]
    exact k
  rw [e]
theorem z_and_or {a b c : Int} : z_and (z_or a b) c = z_or (z_and a c) (z_and b c) := by
  unfold z_and z_or
  rw [Int32.ofInt_toInt, Int32.ofInt_toInt, Int32.ofInt_toInt]
  have e : (Int32.ofInt a ||| Int32.ofInt b) &&& Int32.ofInt c = (Int32.ofInt a &&& Int32.ofInt c) ||| (Int32.ofInt b &&& Int32.ofInt c) := by
    apply Int32.toBitVec_inj.mp
    rw [Int32.toBitVec_and, Int32.toBitVec_or, Int32.toBitVec_or, Int32.toBitVec_and, Int32.toBitVec_and]
    exact BitVec.and_or_distrib_right
  rw [e]
theorem z_or0 {b : Int} (h : z_w b = b) : z_or b 0 = b := by
  unfold z_or
  have e : Int32.ofInt b ||| Int32.ofInt 0 = Int32.ofInt b := by
    apply Int32.toBitVec_inj.mp
    rw [Int32.toBitVec_or]
    exact BitVec.or_zero
  rw [e]
  exact h
theorem z_or_w {a b : Int} : z_w (z_or a b) = z_or a b := by
  unfold z_w z_or
  rw [Int32.ofInt_toInt]
/-- a set of rooms as bits -/
def s_bt (P : Nat → Bool) : Nat → Nat → Int → Int
  | 0, _, b => b
  | f + 1, x, b => s_bt P f (x + 1) (if P x = true then z_or b (z_shl 1 (x : Int)) else b)
theorem s_bt_cg {P Q : Nat → Bool} : ∀ (f x : Nat) (b : Int), (∀ y, x ≤ y → y < x + f → P y = Q y) → s_bt P f x b = s_bt Q f x b := by
  intro f
  induction f with
  | zero => intro x b h; rfl
  | succ f ih =>
    intro x b h
    unfold s_bt
    rw [h x (Nat.le_refl _) (by omega)]
    exact ih (x + 1) _ (fun y h1 h2 => h y (by omega) (by omega))
theorem s_bt_and {P : Nat → Bool} {R : Int} (hP : ∀ x, x < 9 → P x = true → ¬ z_and (z_shr R (x : Int)) 1 = 0) : ∀ (f x : Nat) (b : Int), x + f = 9 → z_and b R = b → z_and (s_bt P f x b) R = s_bt P f x b := by
  intro f
  induction f with
  | zero => intro x b hx h; exact h
  | succ f ih =>
    intro x b hx h
    unfold s_bt
    refine ih (x + 1) _ (by omega) ?_
    by_cases c : P x = true
    · rw [if_pos c, z_and_or, h, z_one (by omega) (hP x (by omega) c)]
    · rw [if_neg c]; exact h
/-- rooms without ICE; rooms with ICE -/
def s_G (w h : Nat) (A : Nat → Int) : Int := s_bt (fun k => decide (¬ u_hs (w : Int) (h : Int) (k : Int) = 0 ∧ A k = 0)) 9 0 0
def s_F (w h : Nat) (A : Nat → Int) : Int := s_bt (fun k => decide (¬ u_hs (w : Int) (h : Int) (k : Int) = 0 ∧ 0 < A k)) 9 0 0
theorem hr_k_gb {w h : Int} {n : Nat} (hn : n ≤ 5) : ∀ (f x : Nat) (A : Nat → Int) (g fb fm : Int), x + f = 9 → (hr_k w h n f x A g fb fm).2.1 = s_bt (fun k => decide (¬ u_hs w h (k : Int) = 0 ∧ A k = 0)) f x g := by
  intro f
  induction f with
  | zero => intro x A g fb fm hx; rfl
  | succ f ih =>
    intro x A g fb fm hx
    unfold hr_k s_bt
    by_cases c : u_hs w h (x : Int) = 0
    · rw [if_pos c, if_neg (fun z => (of_decide_eq_true z).1 c)]
      exact ih _ _ _ _ _ (by omega)
    rw [if_neg c]
    by_cases c2 : A x = 0
    · rw [if_pos c2, if_pos (decide_eq_true ⟨c, c2⟩), ih _ _ _ _ _ (by omega)]
      refine s_bt_cg f (x + 1) _ (fun y h1 h2 => ?_)
      rw [hr_p_hi (by omega) n 0 _ _ _ (by omega), hr_st_18 (by omega)]
    · rw [if_neg c2, if_neg (fun z => c2 (of_decide_eq_true z).2)]
      exact ih _ _ _ _ _ (by omega)
theorem hr_K_gb {w h : Nat} {heat price : Int} {ml : hr_M} {wm : Nat → Int} {n : Nat} (hn : n ≤ 5) {A : Nat → Int} : (hr_K w h heat price ml wm n A).2.1 = s_G w h (hr_A w h heat price ml wm n A) := by
  have e : ∀ k, k < 9 → hr_A w h heat price ml wm n A k = hr_F (w : Int) (h : Int) 9 0 (hr_y w h (hr_me (w : Int) (h : Int) heat ml wm n A) h (hr_o wm price n 0 A)) k := fun k hk => by
    unfold hr_A hr_K
    rw [u_up_ne (by omega), hr_k_hi hn (Or.inl (by omega))]
  unfold hr_K s_G
  rw [hr_k_gb hn 9 0 _ 0 0 0 (by decide)]
  exact s_bt_cg 9 0 0 (fun y _ h2 => by rw [e y (by omega)])
/-- for how many hours they stand, at most N -/
def s_sta (w h n : Nat) (heat price : Int) (cs : List Int) (D : Nat → Int) (F : Int) (N : Nat) : Nat → Nat → (Nat → Int) → Int
  | 0, _, _ => (N : Int)
  | f + 1, x, B => if z_and (s_G w h (hr_A w h heat price (c_ml cs) (wmD D (B 35)) n B)) F = 0 then s_sta w h n heat price cs D F N f (x + 1) (hr_A w h heat price (c_ml cs) (wmD D (B 35)) n B) else (x : Int)
section
variable {w h n : Nat} {heat price : Int} {D A : Nat → Int} {c : Nat} {U : Nat → Nat → Int} {kn : Nat → Int} {KS : Nat → Nat → Int} {cs : List Int} {m : z_M}
theorem C_flo {B : Nat → Int} (h8 : m 3 8 = (w : Int)) (h9 : m 3 9 = (h : Int)) (hB : cS m 18 n = B) : ∀ (f x : Nat) (b : Int), x + f = 9 → z_R 92 (m, 4, [(2, 3), (2, 18), (0, b), (0, (x : Int))], []) = some (m, some (0, s_bt (fun k => decide (¬ u_hs (w : Int) (h : Int) (k : Int) = 0 ∧ 0 < B k)) f x b)) := by
  intro f
  induction f with
  | zero =>
    intro x b hx
    rw [p_flo_4, if_pos (by omega)]
    rfl
  | succ f ih =>
    intro x b hx
    have eB : m 19 x = B x := by
      rw [← hB]
      exact (cS_at1 (s := 18) (by omega)).symm
    rw [p_flo_4, if_neg (show ¬ (9 : Int) ≤ (x : Int) by omega), h8, h9, z_add_eq (x := (x : Int)) (y := 1) (by omega) (by omega), tc1, Int.toNat_natCast, eB]
    unfold s_bt
    by_cases c1 : u_hs (w : Int) (h : Int) (x : Int) = 0
    · rw [if_neg (not_not_intro c1), if_neg (fun z => (of_decide_eq_true z).1 c1)]
      exact ih (x + 1) b (by omega)
    · rw [if_pos c1]
      by_cases c2 : B x ≤ 0
      · rw [if_pos c2, if_neg (fun z => by have := (of_decide_eq_true z).2; omega)]
        exact ih (x + 1) b (by omega)
      · rw [if_neg c2, if_pos (decide_eq_true ⟨c1, by omega⟩)]
        exact ih (x + 1) _ (by omega)
theorem C_sta3 {F0 : Int} {N : Nat} (hN6 : N ≤ 1000) (hN : w_N w h n heat D) {x4 : Int} (hx4 : ∀ g, z_and g x4 = z_and g F0) {R : Int} : ∀ (f x : Nat) (m : z_M) (B : Nat → Int), x + f = N → C_is w h n heat price D A c U kn KS cs m → m 3 10 = R → cS m 18 n = B → hr_ok n B → 0 ≤ B 35 → B 35 + (f : Int) ≤ 2147483647 → z_w (m 24 6) = m 24 6 → z_w (m 24 9) = m 24 9 → ∃ m1, z_R 97 (m, 15, [(2, 24), (2, 18), (0, (N : Int)), (0, R), (0, x4), (0, (x : Int))], []) = some (m1, some (0, s_sta w h n heat price cs D F0 N f x B)) ∧ C_is w h n heat price D A c U kn KS cs m1 ∧ z_w (m1 24 6) = m1 24 6 ∧ z_w (m1 24 9) = m1 24 9 := by
  intro f
  induction f with
  | zero =>
    intro x m B hx hi hR hB hok ht ht2 k6 k9
    rw [p_st3_15, if_pos (by omega)]
    exact ⟨m, rfl, hi, k6, k9⟩
  | succ f ih =>
    intro x m B hx hi hR hB hok ht ht2 k6 k9
    obtain ⟨m1, a1, a2, a3, a4, a5, a6, a7, a8, a9⟩ := c_hour z_st_18 hN.1.1 hN.1.2.1 (price := price) ⟨hN.1.2.2, hN.2.1, c_ml_ok cs, hN.2.2⟩ m (C_cfg hi) hB hok ht (by omega) k6 k9
    rw [hR] at a1
    have a1 : z_R 68 (m, 0, [(2, 24), (2, 18), (0, R), (9, 0), (9, 0), (9, 0)], []) = some (m1, none) := a1
    have hC1 : C_is w h n heat price D A c U kn KS cs m1 := C_fr hi fun p k hk => by
      have hk' := hk
      unfold C_hit at hk'
      have hk' := of_decide_eq_true hk'
      exact a9.of (by (try unfold r_LHs); (repeat' (first | exact trivial | refine z_of_c ?_ ?_)) <;> omega)
    have l6 : z_w (m1 24 6) = m1 24 6 := by rw [a3, z_add_w]; exact z_w_w
    have l9 : z_w (m1 24 9) = m1 24 9 := by rw [a6, z_add_w]; exact z_w_w
    rw [p_st3_15, if_neg (by omega), a1, zb_n, p_st3_27, a7, hx4, hr_K_gb hN.1.2.2, z_add_eq (by omega) (by omega), tc1]
    unfold s_sta
    by_cases c1 : z_and (s_G w h (hr_A w h heat price (c_ml cs) (wmD D (B 35)) n B)) F0 = 0
    · rw [if_pos c1, if_pos c1]
      have hok' := hr_A_ok (price := price) hN.1.1 hN.1.2.1 hN.1.2.2 hN.2.1 (c_ml_ok cs) (hN.2.2 (B 35) ht) hok
      have e35 : hr_A w h heat price (c_ml cs) (wmD D (B 35)) n B 35 = B 35 + 1 := by rw [hr_A_35 hN.1.1 hN.1.2.1 hN.1.2.2, z_add_eq (by omega) (by omega)]
      exact ih (x + 1) m1 _ (by omega) hC1 ((a9.of (by (try unfold r_LHs); (repeat' (first | exact trivial | refine z_of_c ?_ ?_)) <;> omega)).trans hR) a2 hok' (by rw [e35]; omega) (by rw [e35]; omega) l6 l9
    · rw [if_neg c1, if_neg c1]
      exact ⟨m1, rfl, hC1, l6, l9⟩
/-- standing, of the scratch State -/
theorem C_stand {B : Nat → Int} (hN : w_N w h n heat D) (hok : hr_ok n B) (ht : 0 ≤ B 35 ∧ B 35 ≤ 1073741824) (hi : C_is w h n heat price D A c U kn KS cs m) (hB : cS m 18 n = B) (k6 : z_w (m 24 6) = m 24 6) (k9 : z_w (m 24 9) = m 24 9) {N : Nat} (hN6 : N ≤ 1000) : ∃ m1, z_R 96 (m, 0, [(2, 24), (2, 18), (0, (N : Int))], []) = some (m1, some (0, s_sta w h n heat price cs D (s_F w h B) N N 0 B)) ∧ C_is w h n heat price D A c U kn KS cs m1 ∧ z_w (m1 24 6) = m1 24 6 ∧ z_w (m1 24 9) = m1 24 9 := by
  have e := C_flo (w := w) (h := h) (n := n) hi.1.1 hi.1.2.1 hB 9 0 0 (by decide)
  have e : z_R 92 (m, 4, [(2, 3), (2, 18), (0, 0), (0, 0)], []) = some (m, some (0, s_F w h B)) := e
  have ea : z_and (s_F w h B) (m 3 10) = s_F w h B := s_bt_and (fun x hx hP z => (of_decide_eq_true hP).1 ((hi.1.2.2.2.2.2.1 x hx).mp z)) 9 0 0 (by decide) (by
    unfold z_and
    have : Int32.ofInt 0 &&& Int32.ofInt (m 3 10) = Int32.ofInt 0 := by
      apply Int32.toBitVec_inj.mp
      rw [Int32.toBitVec_and]
      exact BitVec.zero_and
    rw [this]
    rfl)
  obtain ⟨m1, a1, a2, a3⟩ := C_sta3 (F0 := s_F w h B) (x4 := z_and (s_F w h B) (m 3 10)) hN6 hN (fun g => by rw [ea]) (R := m 3 10) N 0 m B (by omega) hi rfl hB hok ht.1 (by omega) k6 k9
  have a1 : z_R 97 (m, 15, [(2, 24), (2, 18), (0, (N : Int)), (0, m 3 10), (0, z_and (s_F w h B) (m 3 10)), (0, 0)], []) = some (m1, some (0, s_sta w h n heat price cs D (s_F w h B) N N 0 B)) := a1
  rw [p_st2_0, p_st3_0, p_flo_0, e, zb_v, p_st3_8, a1, zb_v, p_st2_13]
  exact ⟨m1, rfl, a2, a3⟩
/-! the reference -/
theorem R_ice {B : Nat → Int} (h1 : m 251 1 = (w : Int)) (h2 : m 251 2 = (h : Int)) (hB : rS m 252 n = B) : ∀ (f x : Nat) (b : Int), x + f = 9 → z_w b = b → z_R 222 (m, 4, [(2, 251), (0, b), (0, (x : Int))], []) = some (m, some (0, s_bt (fun k => decide (¬ u_hs (w : Int) (h : Int) (k : Int) = 0 ∧ 0 < B k)) f x b)) := by
  intro f
  induction f with
  | zero =>
    intro x b hx hb
    rw [q_ice_4, if_pos (by omega)]
    rfl
  | succ f ih =>
    intro x b hx hb
    have eB : m 252 x = B x := by
      rw [← hB]
      exact (rS_at (by omega) (a_vis_lo (by omega))).symm
    rw [q_ice_4, if_neg (show ¬ (9 : Int) ≤ (x : Int) by omega), h1, h2, z_add_eq (x := (x : Int)) (y := 1) (by omega) (by omega), tc1, Int.toNat_natCast, eB, z_or0 hb]
    unfold s_bt
    by_cases c1 : u_hs (w : Int) (h : Int) (x : Int) = 0
    · rw [if_neg (not_not_intro c1), if_neg (fun z => (of_decide_eq_true z).1 c1)]
      exact ih (x + 1) b (by omega) hb
    · rw [if_pos c1]
      by_cases c2 : B x ≤ 0
      · rw [if_pos c2, if_neg (fun z => by have := (of_decide_eq_true z).2; omega)]
        exact ih (x + 1) b (by omega) hb
      · rw [if_neg c2, if_pos (decide_eq_true ⟨c1, by omega⟩)]
        exact ih (x + 1) _ (by omega) z_or_w
theorem R_tha {B : Nat → Int} (h1 : m 251 1 = (w : Int)) (h2 : m 251 2 = (h : Int)) (hB : rS m 264 n = B) : ∀ (f x : Nat) (b : Int), x + f = 9 → z_w b = b → z_R 223 (m, 4, [(2, 251), (2, 264), (0, b), (0, (x : Int))], []) = some (m, some (0, s_bt (fun k => decide (¬ u_hs (w : Int) (h : Int) (k : Int) = 0 ∧ B k = 0)) f x b)) := by
  intro f
  induction f with
  | zero =>
    intro x b hx hb
    rw [q_tha_4, if_pos (by omega)]
    rfl
  | succ f ih =>
    intro x b hx hb
    have eB : m 264 x = B x := by
      rw [← hB]
      exact (rS_at (by omega) (a_vis_lo (by omega))).symm
    rw [q_tha_4, if_neg (show ¬ (9 : Int) ≤ (x : Int) by omega), h1, h2, z_add_eq (x := (x : Int)) (y := 1) (by omega) (by omega), tc1, Int.toNat_natCast, eB, z_or0 hb]
    unfold s_bt
    by_cases c1 : u_hs (w : Int) (h : Int) (x : Int) = 0
    · rw [if_neg (not_not_intro c1), if_neg (fun z => (of_decide_eq_true z).1 c1)]
      exact ih (x + 1) b (by omega) hb
    · rw [if_pos c1]
      by_cases c2 : B x = 0
      · rw [if_pos c2, if_pos (decide_eq_true ⟨c1, c2⟩)]
        exact ih (x + 1) _ (by omega) z_or_w
      · rw [if_neg c2, if_neg (fun z => c2 (of_decide_eq_true z).2)]
        exact ih (x + 1) b (by omega) hb
theorem R_sta1 {F : Int} {N : Nat} (hN6 : N ≤ 1000) (hN : w_N w h n heat D) : ∀ (f x : Nat) (m : z_M) (B : Nat → Int), x + f = N → R_is w h n heat price D A c U kn KS cs m → rS m 264 n = B → hr_ok n B → 0 ≤ B 35 → B 35 + (f : Int) ≤ 2147483647 → ∃ m1, z_R 221 (m, 7, [(2, 251), (0, (N : Int)), (0, F), (0, (x : Int))], []) = some (m1, some (0, s_sta w h n heat price cs D F N f x B)) ∧ z_same (r_LHs 264) m m1 := by
  intro f
  induction f with
  | zero =>
    intro x m B hx hi hB hok ht ht2
    rw [q_sta_7, if_pos (by omega)]
    exact ⟨m, rfl, z_same.rf⟩
  | succ f ih =>
    intro x m B hx hi hB hok ht ht2
    obtain ⟨m1, a1, a2, a3, a4, a5, a6, a7⟩ := r_hour (a := 264) z_A_264 (Or.inr rfl) hN.1.1 hN.1.2.1 (price := price) ⟨hN.1.2.2, hN.2.1, c_ml_ok cs, hN.2.2⟩ m (R_cfg hi) hB hok ht (by omega)
    have a1 : z_R 208 (m, 0, [(2, 251), (2, 264), (9, 0), (9, 0), (9, 0)], []) = some (m1, none) := a1
    have s1 : z_same (r_LHs 264) m m1 := a7.subo (by (try unfold r_LHs); (repeat' (first | exact trivial | refine z_sbo_c ?_ ?_)) <;> (intro k h1 h2; first | exact z_on_h rfl (by omega) (by omega) | exact z_on_t (z_on_h rfl (by omega) (by omega)) | exact z_on_t (z_on_t (z_on_h rfl (by omega) (by omega))) | exact z_on_t (z_on_t (z_on_t (z_on_h rfl (by omega) (by omega)))) | exact z_on_t (z_on_t (z_on_t (z_on_t (z_on_h rfl (by omega) (by omega))))) | exact z_on_t (z_on_t (z_on_t (z_on_t (z_on_t (z_on_h rfl (by omega) (by omega)))))) | exact z_on_t (z_on_t (z_on_t (z_on_t (z_on_t (z_on_t (z_on_h rfl (by omega) (by omega))))))) | exact z_on_t (z_on_t (z_on_t (z_on_t (z_on_t (z_on_t (z_on_t (z_on_h rfl (by omega) (by omega)))))))) | exact z_on_t (z_on_t (z_on_t (z_on_t (z_on_t (z_on_t (z_on_t (z_on_t (z_on_h rfl (by omega) (by omega))))))))) | exact z_on_t (z_on_t (z_on_t (z_on_t (z_on_t (z_on_t (z_on_t (z_on_t (z_on_t (z_on_h rfl (by omega) (by omega)))))))))) | exact z_on_t (z_on_t (z_on_t (z_on_t (z_on_t (z_on_t (z_on_t (z_on_t (z_on_t (z_on_t (z_on_h rfl (by omega) (by omega))))))))))) | exact z_on_t (z_on_t (z_on_t (z_on_t (z_on_t (z_on_t (z_on_t (z_on_t (z_on_t (z_on_t (z_on_t (z_on_h rfl (by omega) (by omega)))))))))))) | exact z_on_t (z_on_t (z_on_t (z_on_t (z_on_t (z_on_t (z_on_t (z_on_t (z_on_t (z_on_t (z_on_t (z_on_t (z_on_h rfl (by omega) (by omega)))))))))))))))
    have hR1 := R_off264 hi s1
    have hv := R_tha (w := w) (h := h) (n := n) hR1.1.1 hR1.1.2.1 a2 9 0 0 (by decide) (by decide +kernel)
    have hv : z_R 223 (m1, 4, [(2, 251), (2, 264), (0, 0), (0, 0)], []) = some (m1, some (0, s_G w h (hr_A w h heat price (c_ml cs) (wmD D (B 35)) n B))) := hv
    rw [q_sta_7, if_neg (by omega), a1, zb_n, q_sta_20, q_tha_0, hv, zb_v, q_sta_28, z_add_eq (by omega) (by omega), tc1]
    unfold s_sta
    by_cases c1 : z_and (s_G w h (hr_A w h heat price (c_ml cs) (wmD D (B 35)) n B)) F = 0
    · rw [if_pos c1, if_pos c1]
      have hok' := hr_A_ok (price := price) hN.1.1 hN.1.2.1 hN.1.2.2 hN.2.1 (c_ml_ok cs) (hN.2.2 (B 35) ht) hok
      have e35 : hr_A w h heat price (c_ml cs) (wmD D (B 35)) n B 35 = B 35 + 1 := by rw [hr_A_35 hN.1.1 hN.1.2.1 hN.1.2.2, z_add_eq (by omega) (by omega)]
      obtain ⟨m2, b1, b2⟩ := ih (x + 1) m1 _ (by omega) hR1 a2 hok' (by rw [e35]; omega) (by rw [e35]; omega)
      exact ⟨m2, b1, s1.tr b2⟩
    · rw [if_neg c1, if_neg c1]
      exact ⟨m1, rfl, s1⟩
/-- standing, of the State that was laid down -/
theorem R_stand {B : Nat → Int} (hN : w_N w h n heat D) (hok : hr_ok n B) (ht : 0 ≤ B 35 ∧ B 35 ≤ 1073741824) (hi : R_is w h n heat price D A c U kn KS cs m) (hB : rS m 264 n = B) {N : Nat} (hN6 : N ≤ 1000) : ∃ m1, z_R 221 (m, 0, [(2, 251), (0, (N : Int)), (9, 0), (9, 0)], []) = some (m1, some (0, s_sta w h n heat price cs D (s_F w h A) N N 0 B)) ∧ R_is w h n heat price D A c U kn KS cs m1 := by
  have hv := R_ice (w := w) (h := h) (n := n) hi.1.1 hi.1.2.1 hi.2.2.1 9 0 0 (by decide) (by decide +kernel)
  have hv : z_R 222 (m, 4, [(2, 251), (0, 0), (0, 0)], []) = some (m, some (0, s_F w h A)) := hv
  obtain ⟨m1, a1, a2⟩ := R_sta1 (F := s_F w h A) hN6 hN N 0 m B (by omega) hi hB hok ht.1 (by omega)
  have a1 : z_R 221 (m, 7, [(2, 251), (0, (N : Int)), (0, s_F w h A), (0, 0)], []) = some (m1, some (0, s_sta w h n heat price cs D (s_F w h A) N N 0 B)) := a1
  rw [q_sta_0, q_ice_0, hv, zb_v, q_sta_4, a1]
  exact ⟨m1, rfl, R_off264 hi a2⟩
/-! coldest -/
def o_col (w h n : Nat) (heat price : Int) (cs : List Int) (D A : Nat → Int) (N : Nat) : Nat → Nat → Int
  | 0, _ => -2
  | f + 1, x => if s_sta w h n heat price cs D (s_F w h A) N N 0 (u_up A 36 (x : Int)) = (N : Int) then (x : Int) else o_col w h n heat price cs D A N f (x + 1)
def o_coldest (w h n : Nat) (heat price : Int) (cs : List Int) (D A : Nat → Int) (a : Int) : Int := if ¬ (1 ≤ a ∧ a ≤ 100) then -1 else o_col w h n heat price cs D A a.toNat 10 0
theorem s_F_36 {v : Int} : s_F w h (u_up A 36 v) = s_F w h A := s_bt_cg 9 0 0 (fun y _ h2 => by rw [u_up_ne (by omega)])
theorem C_col1 (hN : w_N w h n heat D) (hok : hr_ok n A) (ht : 0 ≤ A 35 ∧ A 35 ≤ 1073741824) {N : Nat} (hN6 : N ≤ 100) : ∀ (f x : Nat) (m : z_M), x + f = 10 → C_is w h n heat price D A c U kn KS cs m → z_w (m 24 6) = m 24 6 → z_w (m 24 9) = m 24 9 → ∃ m1, z_R 95 (m, 15, [(2, 0), (0, (N : Int)), (0, (x : Int))], []) = some (m1, some (0, o_col w h n heat price cs D A N f x)) ∧ C_is w h n heat price D A c U kn KS cs m1 := by
  intro f
  induction f with
  | zero =>
    intro x m hx hi k6 k9
    rw [p_col_15, if_pos (by omega)]
    exact ⟨m, rfl, hi⟩
  | succ f ih =>
    intro x m hx hi k6 k9
    obtain ⟨m2, b1, b2, b3⟩ := c_become z_st_12 z_st_18 (by decide) m
    have b1 : z_R 61 (m, 0, [(2, 18), (2, 12)], []) = some (m2, none) := b1
    have hC2 : C_is w h n heat price D A c U kn KS cs m2 := C_fr hi fun p k hk => by
      have hk' := hk
      unfold C_hit at hk'
      have hk' := of_decide_eq_true hk'
      exact b3.of (by (try unfold r_LHs); (repeat' (first | exact trivial | refine z_of_c ?_ ?_)) <;> omega)
    have hA2 : cS m2 18 n = A := (cS_cR b2).trans hi.2.2.1
    have hC3 : C_is w h n heat price D A c U kn KS cs (z_up m2 18 8 (x : Int)) := C_upn hC2 (by decide)
    have hA3 : cS (z_up m2 18 8 (x : Int)) 18 n = u_up A 36 (x : Int) := by rw [cS_frost, hA2]
    have j6 : (z_up m2 18 8 (x : Int)) 24 6 = m 24 6 := (zu_p (by decide)).trans (b3.of (by (try unfold r_LHs); (repeat' (first | exact trivial | refine z_of_c ?_ ?_)) <;> omega))
    have j9 : (z_up m2 18 8 (x : Int)) 24 9 = m 24 9 := (zu_p (by decide)).trans (b3.of (by (try unfold r_LHs); (repeat' (first | exact trivial | refine z_of_c ?_ ?_)) <;> omega))
    rw [p_col_15, if_neg (by omega), b1, zb_n, p_col_32]
    generalize z_up m2 18 8 (x : Int) = m3 at hC3 hA3 j6 j9 ⊢
    have hok3 : hr_ok n (u_up A 36 (x : Int)) := hr_ok_up hok (by decide) (fun _ => by omega) (fun p h1 h2 => by have := hN.1.2.2; omega)
    have h35 : u_up A 36 (x : Int) 35 = A 35 := u_up_ne (by decide)
    obtain ⟨m4, c1, c2, c3, c4⟩ := C_stand hN hok3 (by rw [h35]; exact ht) hC3 hA3 (by rw [j6]; exact k6) (by rw [j9]; exact k9) (N := N) (by omega)
    rw [s_F_36] at c1
    rw [c1, zb_v, p_col_52, z_add_eq (by omega) (by omega), tc1]
    unfold o_col
    by_cases z : s_sta w h n heat price cs D (s_F w h A) N N 0 (u_up A 36 (x : Int)) = (N : Int)
    · rw [if_pos z, if_pos z]
      exact ⟨m4, rfl, c2⟩
    · rw [if_neg z, if_neg z]
      exact ih (x + 1) m4 (by omega) c2 c3 c4
theorem C_coldest (hi : C_is w h n heat price D A c U kn KS cs m) (hN : w_N w h n heat D) (hok : hr_ok n A) (ht : 0 ≤ A 35 ∧ A 35 ≤ 1073741824) (k6 : z_w (m 24 6) = m 24 6) (k9 : z_w (m 24 9) = m 24 9) (a : Int) : ∃ m1, z_R 95 (m, 0, [(2, 0), (0, a), (9, 0)], []) = some (m1, some (0, o_coldest w h n heat price cs D A a)) ∧ C_is w h n heat price D A c U kn KS cs m1 := by
  rw [p_col_0]
  by_cases c1 : a < 1
  · have e : o_coldest w h n heat price cs D A a = -1 := if_pos (by omega)
    rw [if_pos c1, e]
    exact ⟨m, rfl, hi⟩
  rw [if_neg c1]
  by_cases c2 : a ≤ 100
  · have e : o_coldest w h n heat price cs D A a = o_col w h n heat price cs D A a.toNat 10 0 := if_neg (by omega)
    obtain ⟨N, rfl⟩ : ∃ N : Nat, a = (N : Int) := ⟨a.toNat, by omega⟩
    rw [Int.toNat_natCast] at e
    rw [if_pos c2, e]
    exact C_col1 hN hok ht (by omega) 10 0 m (by decide) hi k6 k9
  · have e : o_coldest w h n heat price cs D A a = -1 := if_pos (by omega)
    rw [if_neg c2, e]
    exact ⟨m, rfl, hi⟩
theorem R_col1 (hN : w_N w h n heat D) (hok : hr_ok n A) (ht : 0 ≤ A 35 ∧ A 35 ≤ 1073741824) {N : Nat} (hN6 : N ≤ 100) : ∀ (f x : Nat) (m : z_M), x + f = 10 → R_is w h n heat price D A c U kn KS cs m → ∃ m1, z_R 226 (m, 19, [(2, 251), (0, (N : Int)), (0, (x : Int))], []) = some (m1, some (0, o_col w h n heat price cs D A N f x)) ∧ R_is w h n heat price D A c U kn KS cs m1 := by
  intro f
  induction f with
  | zero =>
    intro x m hx hi
    rw [p_tco_19, if_pos (by omega)]
    exact ⟨m, rfl, hi⟩
  | succ f ih =>
    intro x m hx hi
    obtain ⟨m2, b1, b2, b3⟩ := R_lt hi
    have hR3 : R_is w h n heat price D A c U kn KS cs (z_up m2 264 36 (x : Int)) := R_upn b2 (by decide)
    have hA3 : rS (z_up m2 264 36 (x : Int)) 264 n = u_up A 36 (x : Int) := by rw [rS_up (by decide) (a_vis_hi (by decide)), b3]
    rw [p_tco_19, if_neg (by omega), b1, zb_n, p_tco_29]
    generalize z_up m2 264 36 (x : Int) = m3 at hR3 hA3 ⊢
    have hok3 : hr_ok n (u_up A 36 (x : Int)) := hr_ok_up hok (by decide) (fun _ => by omega) (fun p h1 h2 => by have := hN.1.2.2; omega)
    have h35 : u_up A 36 (x : Int) 35 = A 35 := u_up_ne (by decide)
    obtain ⟨m4, c1, c2⟩ := R_stand hN hok3 (by rw [h35]; exact ht) hR3 hA3 (N := N) (by omega)
    rw [c1, zb_v, p_tco_42, z_add_eq (by omega) (by omega), tc1]
    unfold o_col
    by_cases z : s_sta w h n heat price cs D (s_F w h A) N N 0 (u_up A 36 (x : Int)) = (N : Int)
    · rw [if_pos z, if_pos z]
      exact ⟨m4, rfl, c2⟩
    · rw [if_neg z, if_neg z]
      exact ih (x + 1) m4 (by omega) c2
theorem R_coldest (hi : R_is w h n heat price D A c U kn KS cs m) (hN : w_N w h n heat D) (hok : hr_ok n A) (ht : 0 ≤ A 35 ∧ A 35 ≤ 1073741824) (a : Int) : ∃ m1, z_R 226 (m, 0, [(2, 251), (0, a), (9, 0)], []) = some (m1, some (0, o_coldest w h n heat price cs D A a)) ∧ R_is w h n heat price D A c U kn KS cs m1 := by
  have hu := R_upn (p0 := 251) (k0 := 11) (v := 0) hi (by decide)
  rw [p_tco_0]
  by_cases c1 : 1 ≤ a ∧ a ≤ 100
  · have e : o_coldest w h n heat price cs D A a = o_col w h n heat price cs D A a.toNat 10 0 := if_neg (not_not_intro c1)
    obtain ⟨N, rfl⟩ : ∃ N : Nat, a = (N : Int) := ⟨a.toNat, by omega⟩
    rw [Int.toNat_natCast] at e
    rw [if_pos c1, e]
    exact R_col1 hN hok ht (by omega) 10 0 _ (by decide) hu
  · have e : o_coldest w h n heat price cs D A a = -1 := if_pos c1
    rw [if_neg c1, e]
    exact ⟨_, rfl, hu⟩
/-! gives -/
theorem s_sta_x {F : Int} {N : Nat} : ∀ (f x : Nat) (B : Nat → Int), x + f = N → s_sta w h n heat price cs D F N f x B = (N : Int) ∨ ((x : Int) ≤ s_sta w h n heat price cs D F N f x B ∧ s_sta w h n heat price cs D F N f x B < (N : Int)) := by
  intro f
  induction f with
  | zero => intro x B hx; exact Or.inl rfl
  | succ f ih =>
    intro x B hx
    unfold s_sta
    by_cases c1 : z_and (s_G w h (hr_A w h heat price (c_ml cs) (wmD D (B 35)) n B)) F = 0
    · rw [if_pos c1]
      rcases ih (x + 1) _ (by omega) with z | z
      · exact Or.inl z
      · exact Or.inr ⟨by omega, z.2⟩
    · rw [if_neg c1]
      exact Or.inr ⟨by omega, by omega⟩
def o_gv (s : Int) : Int := if s = 100 then -2 else s + 1
theorem p_fstn : ∀ (f x : Nat) (b : Int) (m : z_M), x + f = 9 → ∃ v, z_R 93 (m, 2, [(0, b), (0, (x : Int))], []) = some (m, some (0, v)) := by
  intro f
  induction f with
  | zero =>
    intro x b m hx
    rw [p_fst_2, if_pos (by omega)]
    exact ⟨_, rfl⟩
  | succ f ih =>
    intro x b m hx
    rw [p_fst_2, if_neg (by omega), z_add_eq (by omega) (by omega), tc1]
    by_cases c1 : z_and (z_shr b (x : Int)) 1 = 0
    · rw [if_pos c1]; exact ih (x + 1) b m (by omega)
    · rw [if_neg c1]; exact ⟨_, rfl⟩
theorem C_giv1 {F : Int} (hN : w_N w h n heat D) : ∀ (f x : Nat) (v3 : z_V) (m : z_M) (B : Nat → Int), x + f = 100 → C_is w h n heat price D A c U kn KS cs m → cS m 18 n = B → hr_ok n B → 0 ≤ B 35 → B 35 + (f : Int) ≤ 2147483647 → z_w (m 24 6) = m 24 6 → z_w (m 24 9) = m 24 9 → ∃ m1, z_R 91 (m, 25, [(2, 0), (0, F), (0, ((x + 1 : Nat) : Int)), v3], []) = some (m1, some (0, o_gv (s_sta w h n heat price cs D F 100 f x B))) ∧ C_is w h n heat price D A c U kn KS cs m1 := by
  intro f
  induction f with
  | zero =>
    intro x v3 m B hx hi hB hok ht ht2 k6 k9
    rw [p_giv_25, if_pos (by omega)]
    exact ⟨m, rfl, hi⟩
  | succ f ih =>
    intro x v3 m B hx hi hB hok ht ht2 k6 k9
    obtain ⟨m1, a1, a2, a3, a4, a5, a6, a7, a8, a9⟩ := c_hour z_st_18 hN.1.1 hN.1.2.1 (price := price) ⟨hN.1.2.2, hN.2.1, c_ml_ok cs, hN.2.2⟩ m (C_cfg hi) hB hok ht (by omega) k6 k9
    have a1 : z_R 68 (m, 0, [(2, 24), (2, ((18 : Nat) : Int)), (0, m 3 10), (9, 0), (9, 0), (9, 0)], []) = some (m1, none) := a1
    have g1 : z_R 67 (m, 0, [(2, 24), (2, ((18 : Nat) : Int)), (0, 1), (9, 0)], []) = some (m1, none) := by
      rw [s_goOn_0 z_st_18 m 1 ⟨by decide, by decide⟩, s_goOn_2 z_st_18 m 1 0 ⟨by decide, by decide⟩ ⟨by decide, by decide⟩, if_neg (show ¬ (1 : Int) ≤ 0 by decide), a1, zb_n, s_goOn_19 z_st_18 m1 1 0 ⟨by decide, by decide⟩, s_goOn_2 z_st_18 m1 1 (0 + 1) ⟨by decide, by decide⟩ ⟨by decide, by decide⟩, if_pos (show (1 : Int) ≤ 0 + 1 by decide)]
    have g1 : z_R 67 (m, 0, [(2, 24), (2, 18), (0, 1), (9, 0)], []) = some (m1, none) := g1
    have hC1 : C_is w h n heat price D A c U kn KS cs m1 := C_fr hi fun p k hk => by
      have hk' := hk
      unfold C_hit at hk'
      have hk' := of_decide_eq_true hk'
      exact a9.of (by (try unfold r_LHs); (repeat' (first | exact trivial | refine z_of_c ?_ ?_)) <;> omega)
    rw [p_giv_25, if_neg (by omega), g1, zb_n, p_giv_43, a7, hr_K_gb hN.1.2.2, z_add_eq (by omega) (by omega), tc1]
    unfold s_sta
    by_cases c1 : z_and (s_G w h (hr_A w h heat price (c_ml cs) (wmD D (B 35)) n B)) F = 0
    · rw [if_pos c1, if_pos c1]
      have hok' := hr_A_ok (price := price) hN.1.1 hN.1.2.1 hN.1.2.2 hN.2.1 (c_ml_ok cs) (hN.2.2 (B 35) ht) hok
      have e35 : hr_A w h heat price (c_ml cs) (wmD D (B 35)) n B 35 = B 35 + 1 := by rw [hr_A_35 hN.1.1 hN.1.2.1 hN.1.2.2, z_add_eq (by omega) (by omega)]
      exact ih (x + 1) _ m1 _ (by omega) hC1 a2 hok' (by rw [e35]; omega) (by rw [e35]; omega) (by rw [a3, z_add_w]; exact z_w_w) (by rw [a6, z_add_w]; exact z_w_w)
    · obtain ⟨v, hv⟩ := p_fstn 9 0 (z_and (s_G w h (hr_A w h heat price (c_ml cs) (wmD D (B 35)) n B)) F) m1 (by decide)
      have hv : z_R 93 (m1, 2, [(0, z_and (s_G w h (hr_A w h heat price (c_ml cs) (wmD D (B 35)) n B)) F), (0, 0)], []) = some (m1, some (0, v)) := hv
      have eo : o_gv (x : Int) = ((x + 1 : Nat) : Int) := (if_neg (by omega)).trans (by omega)
      rw [if_neg c1, if_neg c1, p_fst_0, hv, zb_v, p_giv_62, c_tell2, zb_n, p_giv_74, eo]
      exact ⟨_, rfl, C_tell2 hC1 _ _⟩
theorem C_gives (hi : C_is w h n heat price D A c U kn KS cs m) (hN : w_N w h n heat D) (hok : hr_ok n A) (ht : 0 ≤ A 35 ∧ A 35 ≤ 1073741824) (k6 : z_w (m 24 6) = m 24 6) (k9 : z_w (m 24 9) = m 24 9) : ∃ m1, z_R 91 (m, 0, [(2, 0), (9, 0), (9, 0), (9, 0)], []) = some (m1, some (0, o_gv (s_sta w h n heat price cs D (s_F w h A) 100 100 0 A))) ∧ C_is w h n heat price D A c U kn KS cs m1 := by
  obtain ⟨m2, b1, b2, b3⟩ := c_become z_st_12 z_st_18 (by decide) m
  have b1 : z_R 61 (m, 0, [(2, 18), (2, 12)], []) = some (m2, none) := b1
  have hC2 : C_is w h n heat price D A c U kn KS cs m2 := C_fr hi fun p k hk => by
    have hk' := hk
    unfold C_hit at hk'
    have hk' := of_decide_eq_true hk'
    exact b3.of (by (try unfold r_LHs); (repeat' (first | exact trivial | refine z_of_c ?_ ?_)) <;> omega)
  have hA2 : cS m2 18 n = A := (cS_cR b2).trans hi.2.2.1
  have j6 : m2 24 6 = m 24 6 := b3.of (by (try unfold r_LHs); (repeat' (first | exact trivial | refine z_of_c ?_ ?_)) <;> omega)
  have j9 : m2 24 9 = m 24 9 := b3.of (by (try unfold r_LHs); (repeat' (first | exact trivial | refine z_of_c ?_ ?_)) <;> omega)
  have e := C_flo (w := w) (h := h) (n := n) hC2.1.1 hC2.1.2.1 hA2 9 0 0 (by decide)
  have e : z_R 92 (m2, 4, [(2, 3), (2, 18), (0, 0), (0, 0)], []) = some (m2, some (0, s_F w h A)) := e
  obtain ⟨m3, c1, c2⟩ := C_giv1 (F := s_F w h A) hN 100 0 (9, 0) m2 A (by decide) hC2 hA2 hok ht.1 (by omega) (by rw [j6]; exact k6) (by rw [j9]; exact k9)
  have c1 : z_R 91 (m2, 25, [(2, 0), (0, s_F w h A), (0, 1), (9, 0)], []) = some (m3, some (0, o_gv (s_sta w h n heat price cs D (s_F w h A) 100 100 0 A))) := c1
  rw [p_giv_0, b1, zb_n, p_giv_11, p_flo_0, e, zb_v, p_giv_22, c1]
  exact ⟨m3, rfl, c2⟩
theorem p_ntzn (m : z_M) (a : Int) : ∃ v, z_R 224 (m, 0, [(0, a), (9, 0)], []) = some (m, some (0, v)) := by
  rw [p_ntz_0]
  (repeat' split) <;> exact ⟨_, rfl⟩
theorem R_gives (hi : R_is w h n heat price D A c U kn KS cs m) (hN : w_N w h n heat D) (hok : hr_ok n A) (ht : 0 ≤ A 35 ∧ A 35 ≤ 1073741824) : ∃ m1, z_R 220 (m, 0, [(2, 251), (9, 0)], []) = some (m1, some (0, o_gv (s_sta w h n heat price cs D (s_F w h A) 100 100 0 A))) ∧ R_is w h n heat price D A c U kn KS cs m1 := by
  have hu := R_upn (p0 := 251) (k0 := 11) (v := 0) hi (by decide)
  rw [p_tgi_0]
  generalize z_up m 251 11 0 = m0 at hu ⊢
  obtain ⟨m2, b1, b2, b3⟩ := R_lt hu
  obtain ⟨m3, c1, c2⟩ := R_stand hN hok ht b2 b3 (N := 100) (by decide)
  have c1 : z_R 221 (m2, 0, [(2, 251), (0, 100), (9, 0), (9, 0)], []) = some (m3, some (0, s_sta w h n heat price cs D (s_F w h A) 100 100 0 A)) := c1
  have hx := s_sta_x (w := w) (h := h) (n := n) (heat := heat) (price := price) (cs := cs) (D := D) (F := s_F w h A) 100 0 A rfl
  rw [b1, zb_n, p_tgi_9, c1, zb_v, p_tgi_15]
  generalize s_sta w h n heat price cs D (s_F w h A) 100 100 0 A = s at hx ⊢
  by_cases z : s = 100
  · have e : o_gv s = -2 := if_pos z
    rw [if_pos z, e]
    exact ⟨m3, rfl, c2⟩
  · have e : o_gv s = s + 1 := if_neg z
    have hx : (0 : Int) ≤ s ∧ s < 100 := by
      rcases hx with y | y
      · exact absurd y z
      · exact y
    have hR4 := R_upn (p0 := 251) (k0 := 10) (v := 0) c2 (by decide)
    have k10 : (z_up m3 251 10 0) 251 10 = ((0 : Nat) : Int) := zu_self
    rw [if_neg z, e]
    generalize z_up m3 251 10 0 = m4 at hR4 k10 ⊢
    obtain ⟨v1, h1⟩ := q_thaq 9 0 0 m4 (by decide)
    have h1 : z_R 223 (m4, 4, [(2, 251), (2, 264), (0, 0), (0, 0)], []) = some (m4, some (0, v1)) := h1
    obtain ⟨v2, h2⟩ := q_iceq 9 0 0 m4 (by decide)
    have h2 : z_R 222 (m4, 4, [(2, 251), (0, 0), (0, 0)], []) = some (m4, some (0, v2)) := h2
    obtain ⟨v3, h3⟩ := p_ntzn m4 (z_and v1 v2)
    rw [q_tha_0, h1, zb_v, p_tgi_39, q_ice_0, h2, zb_v, p_tgi_43, h3, zb_v, p_tgi_47, t_tell (j := 0) _ _ (by decide) k10, zb_n, p_tgi_51, t_tell (j := 1) _ _ (by decide) zu_self, zb_n, p_tgi_60, z_add_eq (by omega) (by omega)]
    exact ⟨_, rfl, R_upn (R_upn (R_upn (R_upn hR4 (by decide)) (by decide)) (by decide)) (by decide)⟩
end
theorem core_coldest : l_rel2 Rel_C (773, 112, 95, 1, false, 784, 115, 226) := by
  intro M1 M2 M3 σ σ1 σ2 as v1 v2 C1 C2 ρ1 ρ2 ha hR hh hM1 hC1 hp1 hE1 hC2 hp2 hE2
  obtain ⟨a, rfl⟩ := as_one ha
  have hE1 : z_R 95 (z_m σ, 0, [(2, 0), (0, a.toInt), (9, 0)], []) = some (z_m σ1, some (0, v1.toInt)) := z_R_iff.mpr hE1
  have hE2 : z_R 226 (z_m σ1, 0, [(2, 251), (0, a.toInt), (9, 0)], []) = some (z_m σ2, some (0, v2.toInt)) := z_R_iff.mpr hE2
  have hT := T_two (y1 := 95) (y2 := 226) (by decide +kernel) (by decide +kernel) hC1 hC2 hp1 hp2 hR.1
  obtain ⟨w, h, n, heat, price, D, A, c, U, kn, KS, cs, cC, cR, cW⟩ := hR.2
  obtain ⟨b1, b2, -, -, hok, b35, -, b7⟩ := core_b hh hM1 cR
  have hN : w_N w h n heat D := ⟨b1, b2, b7⟩
  have kk := core_24 hh
  have f1 := R_off2_ok (y := 95) (by decide +kernel) hC1 hp1
  have f2 := C_off_ok (y := 226) (by decide +kernel) hC2 hp2
  have cR1 := R_fr cR f1
  have z := core_do cR1 (fun q => C_fr q f2) (C_coldest cC hN hok b35 kk.1 kk.2 a.toInt) (fun q => R_coldest q hN hok b35 a.toInt) hE1 hE2
  exact ⟨⟨hT, Core_mk z.1.1 z.1.2 cW⟩, fun _ => z.2⟩
theorem core_gives : l_rel2 Rel_C (729, 104, 91, 0, false, 734, 107, 220) := by
  intro M1 M2 M3 σ σ1 σ2 as v1 v2 C1 C2 ρ1 ρ2 ha hR hh hM1 hC1 hp1 hE1 hC2 hp2 hE2
  obtain rfl := as_nil ha
  have hE1 : z_R 91 (z_m σ, 0, [(2, 0), (9, 0), (9, 0), (9, 0)], []) = some (z_m σ1, some (0, v1.toInt)) := z_R_iff.mpr hE1
  have hE2 : z_R 220 (z_m σ1, 0, [(2, 251), (9, 0)], []) = some (z_m σ2, some (0, v2.toInt)) := z_R_iff.mpr hE2
  have hT := T_two (y1 := 91) (y2 := 220) (by decide +kernel) (by decide +kernel) hC1 hC2 hp1 hp2 hR.1
  obtain ⟨w, h, n, heat, price, D, A, c, U, kn, KS, cs, cC, cR, cW⟩ := hR.2
  obtain ⟨b1, b2, -, -, hok, b35, -, b7⟩ := core_b hh hM1 cR
  have hN : w_N w h n heat D := ⟨b1, b2, b7⟩
  have kk := core_24 hh
  have f1 := R_off2_ok (y := 91) (by decide +kernel) hC1 hp1
  have f2 := C_off_ok (y := 220) (by decide +kernel) hC2 hp2
  have cR1 := R_fr cR f1
  have z := core_do cR1 (fun q => C_fr q f2) (C_gives cC hN hok b35 kk.1 kk.2) (fun q => R_gives q hN hok b35) hE1 hE2
  exact ⟨⟨hT, Core_mk z.1.1 z.1.2 cW⟩, fun _ => z.2⟩
end
section
/-! STRETCHES of burden, with bounds done -/
theorem b_bur_0  (m : z_M) : z_R 115 (m, 0, [(2, 0), (9, 0), (9, 0), (9, 0), (9, 0)], []) = z_R 115 (m, 6, [(2, 0), (0, (-1)), (0, (-1)), (0, 0), (9, 0)], []) :=
  have hK : kt_at 115 = kt_115 := rfl
  (z_R_run hK (n := 6) (g' := (m, 6, [(2, 0), (0, (-1)), (0, (-1)), (0, 0), (9, 0)], [])) rfl).trans (rfl)
theorem b_bur_6  (m : z_M) (x1 : Int) (x2 : Int) (x3 : Int) (v4 : z_V) (h_n : 0 ≤ m 3 11 ∧ m 3 11 ≤ 5) : z_R 115 (m, 6, [(2, 0), (0, x1), (0, x2), (0, x3), v4], []) = if m 3 11 ≤ x3 then if x2 = (-1) then some (m, some (0, (-2))) else (z_R 61 (m, 0, [(2, 18), (2, 12)], [])).bind fun qq => z_R 115 (qq.1, 102, [(2, 0), (0, x1), (0, x2), (0, x3), v4], qq.2.toList ++ []) else if 0 ≤ x3 ∧ x3 < 5 then if m 15 (x3).toNat = (-1) then z_R 115 (m, 6, [(2, 0), (0, x1), (0, x2), (0, x3 + 1), v4], []) else (z_R 61 (m, 0, [(2, 18), (2, 12)], [])).bind fun qq => z_R 115 (qq.1, 41, [(2, 0), (0, x1), (0, x2), (0, x3), v4], qq.2.toList ++ []) else none :=
  have hK : kt_at 115 = kt_115 := rfl
  (z_R_run hK (n := 3) (g' := (m, 11, [(2, 0), (0, x1), (0, x2), (0, x3), v4], [(2, 3), (0, x3)])) rfl).trans ((z_R_run hK (n := 1) (g' := (m, 14, [(2, 0), (0, x1), (0, x2), (0, x3), v4], [(0, m 3 11), (0, x3)])) rfl).trans (z_R_ifd hK (c := m 3 11 ≤ x3) (p1 := 83) (p2 := 17) rfl rfl rfl (fun h1 => (z_R_run hK (n := 2) (g' := (m, 85, [(2, 0), (0, x1), (0, x2), (0, x3), v4], [(0, (-1)), (0, x2)])) rfl).trans (z_R_ifnd hK (c := x2 = (-1)) (p1 := 91) (p2 := 88) rfl rfl rfl (fun h2 => (z_R_run hK (n := 2) (g' := (m, 95, [(2, 0), (0, x1), (0, x2), (0, x3), v4], [(2, 18)])) rfl).trans ((z_R_run hK (n := 2) (g' := (m, 99, [(2, 0), (0, x1), (0, x2), (0, x3), v4], [(2, 12), (2, 18)])) rfl).trans (z_R_call hK rfl rfl rfl rfl rfl))) (fun h2 => (z_R_run hK (n := 1) (g' := (m, 90, [(2, 0), (0, x1), (0, x2), (0, x3), v4], [(0, (-2))])) rfl).trans (z_R_ret hK rfl rfl rfl)))) (fun h1 => (z_R_run hK (n := 2) (g' := (m, 21, [(2, 0), (0, x1), (0, x2), (0, x3), v4], [(2, 12)])) rfl).trans ((z_R_run hK (n := 1) (g' := (m, 24, [(2, 0), (0, x1), (0, x2), (0, x3), v4], [(2, 15)])) rfl).trans ((z_R_run hK (n := 1) (g' := (m, 25, [(2, 0), (0, x1), (0, x2), (0, x3), v4], [(0, x3), (2, 15)])) rfl).trans (z_R_ixD hK (n := 5) (g' := (m, 26, [(2, 0), (0, x1), (0, x2), (0, x3), v4], [(0, m 15 (x3).toNat)])) rfl rfl rfl  (fun h3 => (z_R_run hK (n := 1) (g' := (m, 27, [(2, 0), (0, x1), (0, x2), (0, x3), v4], [(0, (-1)), (0, m 15 (x3).toNat)])) rfl).trans (z_R_ifd hK (c := m 15 (x3).toNat = (-1)) (p1 := 77) (p2 := 30) rfl rfl rfl (fun h4 => (z_R_run hK (n := 1) (g' := (m, 80, [(2, 0), (0, x1), (0, x2), (0, z_add x3 1), v4], [])) rfl).trans ((congrArg (fun vv => z_R 115 (m, 80, [(2, 0), (0, x1), (0, x2), (0, vv), v4], [])) (z_add_eq (by omega) (by omega))).trans ((z_R_run hK (n := 1) (g' := (m, 6, [(2, 0), (0, x1), (0, x2), (0, x3 + 1), v4], [])) rfl).trans (rfl)))) (fun h4 => (z_R_run hK (n := 2) (g' := (m, 34, [(2, 0), (0, x1), (0, x2), (0, x3), v4], [(2, 18)])) rfl).trans ((z_R_run hK (n := 2) (g' := (m, 38, [(2, 0), (0, x1), (0, x2), (0, x3), v4], [(2, 12), (2, 18)])) rfl).trans (z_R_call hK rfl rfl rfl rfl rfl)))))))))))
theorem b_bur_41  (m : z_M) (x1 : Int) (x2 : Int) (x3 : Int) (v4 : z_V) : z_R 115 (m, 41, [(2, 0), (0, x1), (0, x2), (0, x3), v4], []) = if 0 ≤ x3 ∧ x3 < 5 then (z_R 96 (z_up m 21 (x3).toNat (-1), 0, [(2, 24), (2, 18), (0, 100)], [])).bind fun qq => z_R 115 (qq.1, 64, [(2, 0), (0, x1), (0, x2), (0, x3), v4], qq.2.toList ++ []) else none :=
  have hK : kt_at 115 = kt_115 := rfl
  (z_R_run hK (n := 2) (g' := (m, 45, [(2, 0), (0, x1), (0, x2), (0, x3), v4], [(2, 18)])) rfl).trans ((z_R_run hK (n := 1) (g' := (m, 48, [(2, 0), (0, x1), (0, x2), (0, x3), v4], [(2, 21)])) rfl).trans ((z_R_run hK (n := 2) (g' := (m, 50, [(2, 0), (0, x1), (0, x2), (0, x3), v4], [(0, (-1)), (0, x3), (2, 21)])) rfl).trans (z_R_ixD hK (n := 5) (g' := (z_up m 21 (x3).toNat (-1), 51, [(2, 0), (0, x1), (0, x2), (0, x3), v4], [])) rfl rfl rfl (fun h1 => (z_R_run hK (n := 2) (g' := (z_up m 21 (x3).toNat (-1), 55, [(2, 0), (0, x1), (0, x2), (0, x3), v4], [(2, 24)])) rfl).trans ((z_R_run hK (n := 2) (g' := (z_up m 21 (x3).toNat (-1), 59, [(2, 0), (0, x1), (0, x2), (0, x3), v4], [(2, 18), (2, 24)])) rfl).trans ((z_R_run hK (n := 1) (g' := (z_up m 21 (x3).toNat (-1), 61, [(2, 0), (0, x1), (0, x2), (0, x3), v4], [(0, 100), (2, 18), (2, 24)])) rfl).trans (z_R_call hK rfl rfl rfl rfl rfl)))))))
theorem b_bur_64  (m : z_M) (x1 : Int) (x2 : Int) (x3 : Int) (v4 : z_V) (u : Int) : z_R 115 (m, 64, [(2, 0), (0, x1), (0, x2), (0, x3), v4], [(0, u)]) = if u ≤ x1 then z_R 115 (m, 6, [(2, 0), (0, x1), (0, x2), (0, z_add x3 1), (0, u)], []) else z_R 115 (m, 6, [(2, 0), (0, u), (0, x3), (0, z_add x3 1), (0, u)], []) :=
  have hK : kt_at 115 = kt_115 := rfl
  (z_R_run hK (n := 3) (g' := (m, 69, [(2, 0), (0, x1), (0, x2), (0, x3), (0, u)], [(0, x1), (0, u)])) rfl).trans (z_R_ifd hK (c := u ≤ x1) (p1 := 77) (p2 := 72) rfl rfl rfl (fun h1 => (z_R_run hK (n := 2) (g' := (m, 6, [(2, 0), (0, x1), (0, x2), (0, z_add x3 1), (0, u)], [])) rfl).trans (rfl)) (fun h1 => (z_R_run hK (n := 6) (g' := (m, 6, [(2, 0), (0, u), (0, x3), (0, z_add x3 1), (0, u)], [])) rfl).trans (rfl)))
theorem b_bur_102  (m : z_M) (x1 : Int) (x2 : Int) (x3 : Int) (v4 : z_V) : z_R 115 (m, 102, [(2, 0), (0, x1), (0, x2), (0, x3), v4], []) = (z_R 96 (m, 0, [(2, 24), (2, 18), (0, 100)], [])).bind fun qq => z_R 115 (qq.1, 118, [(2, 0), (0, x1), (0, x2), (0, x3), v4], qq.2.toList ++ [(1, z_i2l x1), (2, 0)]) :=
  have hK : kt_at 115 = kt_115 := rfl
  (z_R_run hK (n := 5) (g' := (m, 109, [(2, 0), (0, x1), (0, x2), (0, x3), v4], [(2, 24), (1, z_i2l x1), (2, 0)])) rfl).trans ((z_R_run hK (n := 2) (g' := (m, 113, [(2, 0), (0, x1), (0, x2), (0, x3), v4], [(2, 18), (2, 24), (1, z_i2l x1), (2, 0)])) rfl).trans ((z_R_run hK (n := 1) (g' := (m, 115, [(2, 0), (0, x1), (0, x2), (0, x3), v4], [(0, 100), (2, 18), (2, 24), (1, z_i2l x1), (2, 0)])) rfl).trans (z_R_call hK rfl rfl rfl rfl rfl)))
theorem b_bur_118  (m : z_M) (x1 : Int) (x2 : Int) (x3 : Int) (v4 : z_V) (s0 : Int) (u : Int) : z_R 115 (m, 118, [(2, 0), (0, x1), (0, x2), (0, x3), v4], [(0, u), (1, s0), (2, 0)]) = (z_R 77 (m, 0, [(2, 0), (1, s0), (9, 0), (1, z_i2l u), (9, 0)], [])).bind fun qq => z_R 115 (qq.1, 122, [(2, 0), (0, x1), (0, x2), (0, x3), v4], qq.2.toList ++ []) :=
  have hK : kt_at 115 = kt_115 := rfl
  (z_R_run hK (n := 1) (g' := (m, 119, [(2, 0), (0, x1), (0, x2), (0, x3), v4], [(1, z_i2l u), (1, s0), (2, 0)])) rfl).trans (z_R_call hK rfl rfl rfl rfl rfl)
theorem b_bur_122  (m : z_M) (x1 : Int) (x2 : Int) (x3 : Int) (v4 : z_V) : z_R 115 (m, 122, [(2, 0), (0, x1), (0, x2), (0, x3), v4], []) = some (m, some (0, x2)) :=
  have hK : kt_at 115 = kt_115 := rfl
  (z_R_run hK (n := 1) (g' := (m, 123, [(2, 0), (0, x1), (0, x2), (0, x3), v4], [(0, x2)])) rfl).trans (z_R_ret hK rfl rfl rfl)
theorem b_fl_0  (m : z_M) : z_R 228 (m, 0, [(2, 251), (9, 0)], []) = z_R 228 (z_up m 251 39 0, 7, [(2, 251), (0, 0)], []) :=
  have hK : kt_at 228 = kt_228 := rfl
  (z_R_run hK (n := 5) (g' := (z_up m 251 39 0, 7, [(2, 251), (0, 0)], [])) rfl).trans (rfl)
theorem b_fl_7  (m : z_M) (x1 : Int) (h_n : 0 ≤ m 251 3 ∧ m 251 3 ≤ 5) : z_R 228 (m, 7, [(2, 251), (0, x1)], []) = if m 251 3 ≤ x1 then some (m, none) else if 0 ≤ z_add 18 x1 ∧ z_add 18 x1 < 37 then if m 252 (z_add 18 x1).toNat = (-1) then z_R 228 (m, 7, [(2, 251), (0, z_add x1 1)], []) else if 0 ≤ m 251 39 ∧ m 251 39 < 5 then z_R 228 (z_up (z_up m 265 (m 251 39).toNat x1) 251 39 (m 251 39 + 1), 7, [(2, 251), (0, z_add x1 1)], []) else none else none :=
  have hK : kt_at 228 = kt_228 := rfl
  (z_R_run hK (n := 3) (g' := (m, 12, [(2, 251), (0, x1)], [(0, m 251 3), (0, x1)])) rfl).trans (z_R_ifd hK (c := m 251 3 ≤ x1) (p1 := 57) (p2 := 15) rfl rfl rfl (fun h1 => z_R_ret hK rfl rfl rfl) (fun h1 => (z_R_run hK (n := 2) (g' := (m, 19, [(2, 251), (0, x1)], [(2, 252)])) rfl).trans ((z_R_run hK (n := 3) (g' := (m, 23, [(2, 251), (0, x1)], [(0, z_add 18 x1), (2, 252)])) rfl).trans (z_R_ixD hK (n := 37) (g' := (m, 24, [(2, 251), (0, x1)], [(0, m 252 (z_add 18 x1).toNat)])) rfl rfl rfl  (fun h2 => (z_R_run hK (n := 1) (g' := (m, 25, [(2, 251), (0, x1)], [(0, (-1)), (0, m 252 (z_add 18 x1).toNat)])) rfl).trans (z_R_ifnd hK (c := m 252 (z_add 18 x1).toNat = (-1)) (p1 := 31) (p2 := 28) rfl rfl rfl (fun h3 => (z_R_run hK (n := 2) (g' := (m, 35, [(2, 251), (0, x1)], [(2, 265)])) rfl).trans ((z_R_run hK (n := 3) (g' := (m, 40, [(2, 251), (0, x1)], [(0, x1), (0, m 251 39), (2, 265)])) rfl).trans (z_R_ixD hK (n := 5) (g' := (z_up m 265 (m 251 39).toNat x1, 41, [(2, 251), (0, x1)], [])) rfl rfl rfl (fun h4 => (z_R_run hK (n := 3) (g' := (z_up m 265 (m 251 39).toNat x1, 46, [(2, 251), (0, x1)], [(0, (z_up m 265 (m 251 39).toNat x1) 251 39), (2, 251)])) rfl).trans ((congrArg (fun vv => z_R 228 (z_up m 265 (m 251 39).toNat x1, 46, [(2, 251), (0, x1)], [(0, vv), (2, 251)])) (zu_p (by decide))).trans ((z_R_run hK (n := 2) (g' := (z_up m 265 (m 251 39).toNat x1, 48, [(2, 251), (0, x1)], [(0, z_add (m 251 39) 1), (2, 251)])) rfl).trans ((congrArg (fun vv => z_R 228 (z_up m 265 (m 251 39).toNat x1, 48, [(2, 251), (0, x1)], [(0, vv), (2, 251)])) (z_add_eq (by omega) (by omega))).trans ((z_R_run hK (n := 3) (g' := (z_up (z_up m 265 (m 251 39).toNat x1) 251 39 (m 251 39 + 1), 7, [(2, 251), (0, z_add x1 1)], [])) rfl).trans (rfl))))))))) (fun h3 => (z_R_run hK (n := 3) (g' := (m, 7, [(2, 251), (0, z_add x1 1)], [])) rfl).trans (rfl))))))))
theorem b_tbu_0  (m : z_M) : z_R 238 (m, 0, [(2, 251), (9, 0), (9, 0), (9, 0), (9, 0), (9, 0)], []) = (z_R 228 (z_up m 251 11 0, 0, [(2, 251), (9, 0)], [])).bind fun qq => z_R 238 (qq.1, 9, [(2, 251), (9, 0), (9, 0), (9, 0), (9, 0), (9, 0)], qq.2.toList ++ []) :=
  have hK : kt_at 238 = kt_238 := rfl
  (z_R_run hK (n := 4) (g' := (z_up m 251 11 0, 6, [(2, 251), (9, 0), (9, 0), (9, 0), (9, 0), (9, 0)], [(2, 251)])) rfl).trans (z_R_call hK rfl rfl rfl rfl rfl)
theorem b_tbu_9  (m : z_M) : z_R 238 (m, 9, [(2, 251), (9, 0), (9, 0), (9, 0), (9, 0), (9, 0)], []) = if m 251 39 = 0 then some (m, some (0, (-2))) else (z_R 219 (m, 0, [(2, 251)], [])).bind fun qq => z_R 238 (qq.1, 23, [(2, 251), (9, 0), (9, 0), (9, 0), (9, 0), (9, 0)], qq.2.toList ++ []) :=
  have hK : kt_at 238 = kt_238 := rfl
  (z_R_run hK (n := 2) (g' := (m, 13, [(2, 251), (9, 0), (9, 0), (9, 0), (9, 0), (9, 0)], [(0, m 251 39)])) rfl).trans (z_R_ifnd hK (c := m 251 39 = 0) (p1 := 19) (p2 := 16) rfl rfl rfl (fun h1 => (z_R_run hK (n := 1) (g' := (m, 20, [(2, 251), (9, 0), (9, 0), (9, 0), (9, 0), (9, 0)], [(2, 251)])) rfl).trans (z_R_call hK rfl rfl rfl rfl rfl)) (fun h1 => (z_R_run hK (n := 1) (g' := (m, 18, [(2, 251), (9, 0), (9, 0), (9, 0), (9, 0), (9, 0)], [(0, (-2))])) rfl).trans (z_R_ret hK rfl rfl rfl)))
theorem b_tbu_23  (m : z_M) : z_R 238 (m, 23, [(2, 251), (9, 0), (9, 0), (9, 0), (9, 0), (9, 0)], []) = (z_R 221 (m, 0, [(2, 251), (0, 100), (9, 0), (9, 0)], [])).bind fun qq => z_R 238 (qq.1, 29, [(2, 251), (9, 0), (9, 0), (9, 0), (9, 0), (9, 0)], qq.2.toList ++ []) :=
  have hK : kt_at 238 = kt_238 := rfl
  (z_R_run hK (n := 2) (g' := (m, 26, [(2, 251), (9, 0), (9, 0), (9, 0), (9, 0), (9, 0)], [(0, 100), (2, 251)])) rfl).trans (z_R_call hK rfl rfl rfl rfl rfl)
theorem b_tbu_29  (m : z_M) (u : Int) : z_R 238 (m, 29, [(2, 251), (9, 0), (9, 0), (9, 0), (9, 0), (9, 0)], [(0, u)]) = z_R 238 (m, 37, [(2, 251), (0, u), (0, (-1)), (0, (-1)), (0, 0), (9, 0)], []) :=
  have hK : kt_at 238 = kt_238 := rfl
  (z_R_run hK (n := 7) (g' := (m, 37, [(2, 251), (0, u), (0, (-1)), (0, (-1)), (0, 0), (9, 0)], [])) rfl).trans (rfl)
theorem b_tbu_37  (m : z_M) (x1 : Int) (x2 : Int) (x3 : Int) (x4 : Int) (v5 : z_V) : z_R 238 (m, 37, [(2, 251), (0, x1), (0, x2), (0, x3), (0, x4), v5], []) = if m 251 39 ≤ x4 then (z_R 210 (z_up m 251 10 0, 0, [(2, 251), (1, z_i2l x3), (9, 0)], [])).bind fun qq => z_R 238 (qq.1, 111, [(2, 251), (0, x1), (0, x2), (0, x3), (0, x4), v5], qq.2.toList ++ []) else (z_R 219 (m, 0, [(2, 251)], [])).bind fun qq => z_R 238 (qq.1, 50, [(2, 251), (0, x1), (0, x2), (0, x3), (0, x4), v5], qq.2.toList ++ []) :=
  have hK : kt_at 238 = kt_238 := rfl
  (z_R_run hK (n := 3) (g' := (m, 43, [(2, 251), (0, x1), (0, x2), (0, x3), (0, x4), v5], [(0, m 251 39), (0, x4)])) rfl).trans (z_R_ifd hK (c := m 251 39 ≤ x4) (p1 := 100) (p2 := 46) rfl rfl rfl (fun h1 => (z_R_run hK (n := 6) (g' := (z_up m 251 10 0, 108, [(2, 251), (0, x1), (0, x2), (0, x3), (0, x4), v5], [(1, z_i2l x3), (2, 251)])) rfl).trans (z_R_call hK rfl rfl rfl rfl rfl)) (fun h1 => (z_R_run hK (n := 1) (g' := (m, 47, [(2, 251), (0, x1), (0, x2), (0, x3), (0, x4), v5], [(2, 251)])) rfl).trans (z_R_call hK rfl rfl rfl rfl rfl)))
theorem b_tbu_50  (m : z_M) (x1 : Int) (x2 : Int) (x3 : Int) (x4 : Int) (v5 : z_V) : z_R 238 (m, 50, [(2, 251), (0, x1), (0, x2), (0, x3), (0, x4), v5], []) = if 0 ≤ x4 ∧ x4 < 5 then if 0 ≤ z_add 18 (m 265 (x4).toNat) ∧ z_add 18 (m 265 (x4).toNat) < 37 then (z_R 221 (z_up m 264 (z_add 18 (m 265 (x4).toNat)).toNat (-1), 0, [(2, 251), (0, 100), (9, 0), (9, 0)], [])).bind fun qq => z_R 238 (qq.1, 72, [(2, 251), (0, x1), (0, x2), (0, x3), (0, x4), v5], qq.2.toList ++ []) else none else none :=
  have hK : kt_at 238 = kt_238 := rfl
  (z_R_run hK (n := 2) (g' := (m, 54, [(2, 251), (0, x1), (0, x2), (0, x3), (0, x4), v5], [(2, 264)])) rfl).trans ((z_R_run hK (n := 3) (g' := (m, 60, [(2, 251), (0, x1), (0, x2), (0, x3), (0, x4), v5], [(2, 265), (0, 18), (2, 264)])) rfl).trans ((z_R_run hK (n := 1) (g' := (m, 62, [(2, 251), (0, x1), (0, x2), (0, x3), (0, x4), v5], [(0, x4), (2, 265), (0, 18), (2, 264)])) rfl).trans (z_R_ixD hK (n := 5) (g' := (m, 63, [(2, 251), (0, x1), (0, x2), (0, x3), (0, x4), v5], [(0, m 265 (x4).toNat), (0, 18), (2, 264)])) rfl rfl rfl  (fun h1 => (z_R_run hK (n := 2) (g' := (m, 65, [(2, 251), (0, x1), (0, x2), (0, x3), (0, x4), v5], [(0, (-1)), (0, z_add 18 (m 265 (x4).toNat)), (2, 264)])) rfl).trans (z_R_ixD hK (n := 37) (g' := (z_up m 264 (z_add 18 (m 265 (x4).toNat)).toNat (-1), 66, [(2, 251), (0, x1), (0, x2), (0, x3), (0, x4), v5], [])) rfl rfl rfl (fun h2 => (z_R_run hK (n := 2) (g' := (z_up m 264 (z_add 18 (m 265 (x4).toNat)).toNat (-1), 69, [(2, 251), (0, x1), (0, x2), (0, x3), (0, x4), v5], [(0, 100), (2, 251)])) rfl).trans (z_R_call hK rfl rfl rfl rfl rfl)))))))
theorem b_tbu_72  (m : z_M) (x1 : Int) (x2 : Int) (x3 : Int) (x4 : Int) (v5 : z_V) (u : Int) : z_R 238 (m, 72, [(2, 251), (0, x1), (0, x2), (0, x3), (0, x4), v5], [(0, u)]) = if x3 < u then if 0 ≤ x4 ∧ x4 < 5 then z_R 238 (m, 37, [(2, 251), (0, x1), (0, m 265 (x4).toNat), (0, u), (0, x4 + 1), (0, u)], []) else none else z_R 238 (m, 37, [(2, 251), (0, x1), (0, x2), (0, x3), (0, z_add x4 1), (0, u)], []) :=
  have hK : kt_at 238 = kt_238 := rfl
  (z_R_run hK (n := 3) (g' := (m, 77, [(2, 251), (0, x1), (0, x2), (0, x3), (0, x4), (0, u)], [(0, x3), (0, u)])) rfl).trans (z_R_ifd hK (c := x3 < u) (p1 := 83) (p2 := 80) rfl rfl rfl (fun h1 => (z_R_run hK (n := 2) (g' := (m, 87, [(2, 251), (0, x1), (0, x2), (0, x3), (0, x4), (0, u)], [(2, 265)])) rfl).trans ((z_R_run hK (n := 1) (g' := (m, 89, [(2, 251), (0, x1), (0, x2), (0, x3), (0, x4), (0, u)], [(0, x4), (2, 265)])) rfl).trans (z_R_ixD hK (n := 5) (g' := (m, 90, [(2, 251), (0, x1), (0, x2), (0, x3), (0, x4), (0, u)], [(0, m 265 (x4).toNat)])) rfl rfl rfl  (fun h2 => (z_R_run hK (n := 4) (g' := (m, 97, [(2, 251), (0, x1), (0, m 265 (x4).toNat), (0, u), (0, z_add x4 1), (0, u)], [])) rfl).trans ((congrArg (fun vv => z_R 238 (m, 97, [(2, 251), (0, x1), (0, m 265 (x4).toNat), (0, u), (0, vv), (0, u)], [])) (z_add_eq (by omega) (by omega))).trans ((z_R_run hK (n := 1) (g' := (m, 37, [(2, 251), (0, x1), (0, m 265 (x4).toNat), (0, u), (0, x4 + 1), (0, u)], [])) rfl).trans (rfl))))))) (fun h1 => (z_R_run hK (n := 3) (g' := (m, 37, [(2, 251), (0, x1), (0, x2), (0, x3), (0, z_add x4 1), (0, u)], [])) rfl).trans (rfl)))
theorem b_tbu_111  (m : z_M) (x1 : Int) (x2 : Int) (x3 : Int) (x4 : Int) (v5 : z_V) : z_R 238 (m, 111, [(2, 251), (0, x1), (0, x2), (0, x3), (0, x4), v5], []) = (z_R 210 (m, 0, [(2, 251), (1, z_i2l x1), (9, 0)], [])).bind fun qq => z_R 238 (qq.1, 117, [(2, 251), (0, x1), (0, x2), (0, x3), (0, x4), v5], qq.2.toList ++ []) :=
  have hK : kt_at 238 = kt_238 := rfl
  (z_R_run hK (n := 3) (g' := (m, 114, [(2, 251), (0, x1), (0, x2), (0, x3), (0, x4), v5], [(1, z_i2l x1), (2, 251)])) rfl).trans (z_R_call hK rfl rfl rfl rfl rfl)
theorem b_tbu_117  (m : z_M) (x1 : Int) (x2 : Int) (x3 : Int) (x4 : Int) (v5 : z_V) : z_R 238 (m, 117, [(2, 251), (0, x1), (0, x2), (0, x3), (0, x4), v5], []) = some (m, some (0, x2)) :=
  have hK : kt_at 238 = kt_238 := rfl
  (z_R_run hK (n := 1) (g' := (m, 118, [(2, 251), (0, x1), (0, x2), (0, x3), (0, x4), v5], [(0, x2)])) rfl).trans (z_R_ret hK rfl rfl rfl)
end
section
/-! burden, of what both are in -/
/-- those who are somewhere, from x on -/
def o_ls (A : Nat → Int) : Nat → Nat → List Nat
  | 0, _ => []
  | f + 1, x => if A (x + 18) = -1 then o_ls A f (x + 1) else x :: o_ls A f (x + 1)
/-- the first of those with the most -/
def o_bu (S : Nat → Int) : List Nat → Int → Int → Int
  | [], b, _ => b
  | p :: l, b, v => if v < S p then o_bu S l (p : Int) (S p) else o_bu S l b v
theorem o_bu_nn {S : Nat → Int} : ∀ (l : List Nat) (b v : Int), 0 ≤ b → 0 ≤ o_bu S l b v := by
  intro l
  induction l with
  | nil => intro b v h; exact h
  | cons p l ih =>
    intro b v h
    unfold o_bu
    by_cases c : v < S p
    · rw [if_pos c]; exact ih _ _ (by omega)
    · rw [if_neg c]; exact ih _ _ h
theorem o_ls_len {A : Nat → Int} : ∀ (f x : Nat), (o_ls A f x).length ≤ f ∧ ∀ p ∈ o_ls A f x, p < x + f := by
  intro f
  induction f with
  | zero => intro x; exact ⟨Nat.le_refl _, fun p hp => absurd hp List.not_mem_nil⟩
  | succ f ih =>
    intro x
    obtain ⟨i1, i2⟩ := ih (x + 1)
    unfold o_ls
    by_cases c : A (x + 18) = -1
    · rw [if_pos c]
      exact ⟨by omega, fun p hp => by have := i2 p hp; omega⟩
    · rw [if_neg c]
      refine ⟨Nat.succ_le_succ i1, fun p hp => ?_⟩
      rcases List.mem_cons.mp hp with e | e
      · omega
      · have := i2 p e
        omega
/-- for how many hours they stand without p -/
def o_S (w h n : Nat) (heat price : Int) (cs : List Int) (D A : Nat → Int) (p : Nat) : Int := s_sta w h n heat price cs D (s_F w h A) 100 100 0 (u_up A (p + 18) (-1))
def o_bud (w h n : Nat) (heat price : Int) (cs : List Int) (D A : Nat → Int) (l : List Nat) (b v : Int) : Int := if o_bu (o_S w h n heat price cs D A) l b v = -1 then -2 else o_bu (o_S w h n heat price cs D A) l b v
section
variable {w h n : Nat} {heat price : Int} {D A : Nat → Int} {c : Nat} {U : Nat → Nat → Int} {kn : Nat → Int} {KS : Nat → Nat → Int} {cs : List Int} {m : z_M}
theorem s_F_18 {p : Nat} {v : Int} : s_F w h (u_up A (p + 18) v) = s_F w h A := s_bt_cg 9 0 0 (fun y _ h2 => by rw [u_up_ne (by omega)])
theorem o_S_nn {p : Nat} : 0 ≤ o_S w h n heat price cs D A p := by
  rcases s_sta_x (w := w) (h := h) (n := n) (heat := heat) (price := price) (cs := cs) (D := D) (F := s_F w h A) (N := 100) 100 0 (u_up A (p + 18) (-1)) rfl with z | z
  · unfold o_S
    rw [z]
    decide
  · exact z.1
theorem C_bur1 (hN : w_N w h n heat D) (hok : hr_ok n A) (ht : 0 ≤ A 35 ∧ A 35 ≤ 1073741824) : ∀ (f x : Nat) (b v : Int) (v4 : z_V) (m : z_M), x + f = n → C_is w h n heat price D A c U kn KS cs m → z_w (m 24 6) = m 24 6 → z_w (m 24 9) = m 24 9 → ∃ m1, z_R 115 (m, 6, [(2, 0), (0, v), (0, b), (0, (x : Int)), v4], []) = some (m1, some (0, o_bud w h n heat price cs D A (o_ls A f x) b v)) ∧ C_is w h n heat price D A c U kn KS cs m1 := by
  have h5 := hN.1.2.2
  -- the State without one, laid beside
  have lay : ∀ (m : z_M), C_is w h n heat price D A c U kn KS cs m → ∃ m2, z_R 61 (m, 0, [(2, 18), (2, 12)], []) = some (m2, none) ∧ C_is w h n heat price D A c U kn KS cs m2 ∧ cS m2 18 n = A ∧ m2 24 6 = m 24 6 ∧ m2 24 9 = m 24 9 := by
    intro m hi
    obtain ⟨m2, b1, b2, b3⟩ := c_become z_st_12 z_st_18 (by decide) m
    exact ⟨m2, b1, C_fr hi fun p k hk => by
      have hk' := hk
      unfold C_hit at hk'
      have hk' := of_decide_eq_true hk'
      exact b3.of (by (repeat' (first | exact trivial | refine z_of_c ?_ ?_)) <;> omega), (cS_cR b2).trans hi.2.2.1, b3.of (by (repeat' (first | exact trivial | refine z_of_c ?_ ?_)) <;> omega), b3.of (by (repeat' (first | exact trivial | refine z_of_c ?_ ?_)) <;> omega)⟩
  intro f
  induction f with
  | zero =>
    intro x b v v4 m hx hi k6 k9
    have e11 := hi.1.2.2.1
    rw [b_bur_6 m v b x v4 (by omega), e11, if_pos (by omega)]
    show ∃ m1, _ = some (m1, some (0, if b = -1 then -2 else b)) ∧ _
    by_cases z : b = -1
    · rw [if_pos z, if_pos z]
      exact ⟨m, rfl, hi⟩
    · obtain ⟨m2, b1, b2, b3, b4, b5⟩ := lay m hi
      obtain ⟨m3, c1, c2, -, -⟩ := C_stand hN hok ht b2 b3 (by rw [b4]; exact k6) (by rw [b5]; exact k9) (N := 100) (by decide)
      have c1 : z_R 96 (m2, 0, [(2, 24), (2, 18), (0, 100)], []) = some (m3, some (0, s_sta w h n heat price cs D (s_F w h A) 100 100 0 A)) := c1
      rw [if_neg z, if_neg z, b1, zb_n, b_bur_102, c1, zb_v, b_bur_118, c_tell2, zb_n, b_bur_122]
      exact ⟨_, rfl, C_tell2 c2 _ _⟩
  | succ f ih =>
    intro x b v v4 m hx hi k6 k9
    have e11 := hi.1.2.2.1
    have e15 : m 15 x = A (x + 18) := C_A3 hi (by omega) h5
    rw [b_bur_6 m v b x v4 (by omega), e11, if_neg (by omega), if_pos (show 0 ≤ (x : Int) ∧ (x : Int) < 5 by omega), Int.toNat_natCast, e15, tc1]
    unfold o_ls
    by_cases z : A (x + 18) = -1
    · rw [if_pos z, if_pos z]
      exact ih (x + 1) b v v4 m (by omega) hi k6 k9
    · obtain ⟨m2, b1, b2, b3, b4, b5⟩ := lay m hi
      have hC3 : C_is w h n heat price D A c U kn KS cs (z_up m2 21 x (-1)) := C_upn b2 (by
        have : ∀ x, x < 5 → C_hit 21 x x = false := by decide +kernel
        exact this x (by omega))
      have hA3 : cS (z_up m2 21 x (-1)) 18 n = u_up A (x + 18) (-1) := by
        have e := cS_up3 (m := m2) (s := 18) (j := x) (v := -1) (n := (n : Int)) (by omega) (by omega)
        rw [b3] at e
        exact e
      have j6 : (z_up m2 21 x (-1)) 24 6 = m 24 6 := (zu_p (by decide)).trans b4
      have j9 : (z_up m2 21 x (-1)) 24 9 = m 24 9 := (zu_p (by decide)).trans b5
      rw [if_neg z, if_neg z, b1, zb_n, b_bur_41, if_pos (show 0 ≤ (x : Int) ∧ (x : Int) < 5 by omega), Int.toNat_natCast]
      generalize z_up m2 21 x (-1) = m3 at hC3 hA3 j6 j9 ⊢
      have hok3 : hr_ok n (u_up A (x + 18) (-1)) := hr_ok_up hok (by omega) (fun z => by omega) (fun p h1 h2 => by decide)
      have h35 : u_up A (x + 18) (-1) 35 = A 35 := u_up_ne (by omega)
      obtain ⟨m4, c1, c2, c3, c4⟩ := C_stand hN hok3 (by rw [h35]; exact ht) hC3 hA3 (by rw [j6]; exact k6) (by rw [j9]; exact k9) (N := 100) (by decide)
      rw [s_F_18] at c1
      have c1 : z_R 96 (m3, 0, [(2, 24), (2, 18), (0, 100)], []) = some (m4, some (0, o_S w h n heat price cs D A x)) := c1
      rw [c1, zb_v, b_bur_64, z_add_eq (x := (x : Int)) (y := 1) (by omega) (by omega), tc1]
      have eo : ∀ b v, o_bu (o_S w h n heat price cs D A) (x :: o_ls A f (x + 1)) b v = if v < o_S w h n heat price cs D A x then o_bu (o_S w h n heat price cs D A) (o_ls A f (x + 1)) (x : Int) (o_S w h n heat price cs D A x) else o_bu (o_S w h n heat price cs D A) (o_ls A f (x + 1)) b v := fun _ _ => rfl
      have eb : o_bud w h n heat price cs D A (x :: o_ls A f (x + 1)) b v = if v < o_S w h n heat price cs D A x then o_bud w h n heat price cs D A (o_ls A f (x + 1)) (x : Int) (o_S w h n heat price cs D A x) else o_bud w h n heat price cs D A (o_ls A f (x + 1)) b v := by
        unfold o_bud
        rw [eo]
        by_cases y : v < o_S w h n heat price cs D A x
        · rw [if_pos y, if_pos y]
        · rw [if_neg y, if_neg y]
      rw [eb]
      by_cases y : o_S w h n heat price cs D A x ≤ v
      · rw [if_pos y, if_neg (show ¬ v < o_S w h n heat price cs D A x by omega)]
        exact ih (x + 1) b v _ m4 (by omega) c2 c3 c4
      · rw [if_neg y, if_pos (show v < o_S w h n heat price cs D A x by omega)]
        exact ih (x + 1) x _ _ m4 (by omega) c2 c3 c4
theorem C_burden (hi : C_is w h n heat price D A c U kn KS cs m) (hN : w_N w h n heat D) (hok : hr_ok n A) (ht : 0 ≤ A 35 ∧ A 35 ≤ 1073741824) (k6 : z_w (m 24 6) = m 24 6) (k9 : z_w (m 24 9) = m 24 9) : ∃ m1, z_R 115 (m, 0, [(2, 0), (9, 0), (9, 0), (9, 0), (9, 0)], []) = some (m1, some (0, o_bud w h n heat price cs D A (o_ls A n 0) (-1) (-1))) ∧ C_is w h n heat price D A c U kn KS cs m1 := by
  rw [b_bur_0]
  exact C_bur1 hN hok ht n 0 (-1) (-1) (9, 0) m (by omega) hi k6 k9
/-! the reference -/
def o_hl (m : z_M) : Nat → List Nat → Prop
  | _, [] => True
  | k, p :: l => m 265 k = (p : Int) ∧ o_hl m (k + 1) l
theorem o_hl_fr {m' : z_M} : ∀ (l : List Nat) (k : Nat), o_hl m k l → (∀ j, m' 265 j = m 265 j) → o_hl m' k l := by
  intro l
  induction l with
  | nil => intro k _ _; trivial
  | cons p l ih => intro k hc hf; exact ⟨(hf k).trans hc.1, ih (k + 1) hc.2 hf⟩
theorem R_fl1 (h5 : n ≤ 5) : ∀ (f x k : Nat) (m : z_M), x + f = n → k ≤ x → R_is w h n heat price D A c U kn KS cs m → m 251 39 = (k : Int) → ∃ m1, z_R 228 (m, 7, [(2, 251), (0, (x : Int))], []) = some (m1, none) ∧ m1 251 39 = ((k + (o_ls A f x).length : Nat) : Int) ∧ o_hl m1 k (o_ls A f x) ∧ (∀ p j, ¬ (p = 251 ∧ j = 39) → ¬ (p = 265 ∧ k ≤ j) → m1 p j = m p j) := by
  intro f
  induction f with
  | zero =>
    intro x k m hx hk hi h39
    have e3 := hi.1.2.2.1
    rw [b_fl_7 m x (by omega), e3, if_pos (by omega)]
    exact ⟨m, rfl, h39, trivial, fun _ _ _ _ => rfl⟩
  | succ f ih =>
    intro x k m hx hk hi h39
    have e3 := hi.1.2.2.1
    have e18 : m 252 (x + 18) = A (x + 18) := R_A hi (by omega) (a_vis_p (b := 18) (p := x) (by omega) (by omega) (by omega) (by omega))
    rw [b_fl_7 m x (by omega), e3, if_neg (by omega), z_add_eq (x := 18) (y := (x : Int)) (by omega) (by omega), if_pos (show 0 ≤ 18 + (x : Int) ∧ 18 + (x : Int) < 37 by omega), show (18 + (x : Int)).toNat = x + 18 by omega, e18, z_add_eq (x := (x : Int)) (y := 1) (by omega) (by omega), tc1]
    unfold o_ls
    by_cases z : A (x + 18) = -1
    · rw [if_pos z, if_pos z]
      exact ih (x + 1) k m (by omega) (by omega) hi h39
    · rw [if_neg z, if_neg z, h39, if_pos (show 0 ≤ (k : Int) ∧ (k : Int) < 5 by omega), Int.toNat_natCast, tc1]
      have hR1 : R_is w h n heat price D A c U kn KS cs (z_up (z_up m 265 k (x : Int)) 251 39 ((k + 1 : Nat) : Int)) := R_upn (R_upn hi (by
        have : ∀ k, k < 5 → R_hit 265 k k = false := by decide +kernel
        exact this k (by omega))) (by decide)
      have g39 : (z_up (z_up m 265 k (x : Int)) 251 39 ((k + 1 : Nat) : Int)) 251 39 = ((k + 1 : Nat) : Int) := zu_self
      have g265 : (z_up (z_up m 265 k (x : Int)) 251 39 ((k + 1 : Nat) : Int)) 265 k = (x : Int) := (zu_p (by decide)).trans zu_self
      have gf : ∀ p j, ¬ (p = 251 ∧ j = 39) → ¬ (p = 265 ∧ k ≤ j) → (z_up (z_up m 265 k (x : Int)) 251 39 ((k + 1 : Nat) : Int)) p j = m p j := fun p j n1 n2 => by rw [X_up n1, X_up (fun z => n2 ⟨z.1, by omega⟩)]
      generalize z_up (z_up m 265 k (x : Int)) 251 39 ((k + 1 : Nat) : Int) = m0 at hR1 g39 g265 gf ⊢
      obtain ⟨m1, a1, a2, a3, a4⟩ := ih (x + 1) (k + 1) m0 (by omega) (by omega) hR1 g39
      refine ⟨m1, a1, ?_, ⟨(a4 265 k (by omega) (by omega)).trans g265, a3⟩, fun p j n1 n2 => (a4 p j n1 (fun z => n2 ⟨z.1, by omega⟩)).trans (gf p j n1 n2)⟩
      rw [a2]
      show ((k + 1 + (o_ls A f (x + 1)).length : Nat) : Int) = ((k + ((o_ls A f (x + 1)).length + 1) : Nat) : Int)
      omega
theorem R_bur1 {x1 : Int} (hN : w_N w h n heat D) (hok : hr_ok n A) (ht : 0 ≤ A 35 ∧ A 35 ≤ 1073741824) : ∀ (l : List Nat) (k : Nat) (b v : Int) (v5 : z_V) (m : z_M), k + l.length ≤ 5 → (∀ p ∈ l, p < n) → R_is w h n heat price D A c U kn KS cs m → m 251 39 = ((k + l.length : Nat) : Int) → o_hl m k l → ∃ m1, z_R 238 (m, 37, [(2, 251), (0, x1), (0, b), (0, v), (0, (k : Int)), v5], []) = some (m1, some (0, o_bu (o_S w h n heat price cs D A) l b v)) ∧ R_is w h n heat price D A c U kn KS cs m1 := by
  have h5 := hN.1.2.2
  intro l
  induction l with
  | nil =>
    intro k b v v5 m hk hp hi h39 hl
    have h39 : m 251 39 = (k : Int) := h39
    rw [b_tbu_37, h39, if_pos (Int.le_refl _), t_tell0, zb_n, b_tbu_111, t_tell1, zb_n, b_tbu_117]
    exact ⟨_, rfl, R_upn (R_upn (R_upn (R_upn (R_upn hi (by decide)) (by decide)) (by decide)) (by decide)) (by decide)⟩
  | cons p l ih =>
    intro k b v v5 m hk hp hi h39 hl
    have hk : k + (l.length + 1) ≤ 5 := hk
    have h39 : m 251 39 = ((k + (l.length + 1) : Nat) : Int) := h39
    have hpn := hp p List.mem_cons_self
    obtain ⟨m2, b1, b2, b3⟩ := R_lt hi
    have f2 : ∀ q j, ¬ (q = 264) → m2 q j = m q j := fun q j hq => by
      obtain ⟨m2', d1, -, d3⟩ := t_layd (a := 252) (q := 264) (B := 0) t_lay264_0 t_lay264_2 (by decide) (b := 0) (by decide) m
      have d1 : z_R 198 (m, 0, [(2, 252), (2, 264), (0, 0), (9, 0)], []) = some (m2', none) := d1
      have e : z_R 219 (m, 0, [(2, 251)], []) = some (m2', none) := by rw [q_lt_0, d1, zb_n, q_lt_12]
      rw [b1] at e
      have e := congrArg Prod.fst (Option.some.inj e)
      have e : m2 = m2' := e
      rw [e]
      exact d3 q j (fun z => hq z.1)
    have g265 : m2 265 k = (p : Int) := (f2 265 k (by decide)).trans hl.1
    have hR3 : R_is w h n heat price D A c U kn KS cs (z_up m2 264 (p + 18) (-1)) := R_upn b2 (by
      have : ∀ p, p < 5 → R_hit 264 (p + 18) (p + 18) = false := by decide +kernel
      exact this p (by omega))
    have hA3 : rS (z_up m2 264 (p + 18) (-1)) 264 n = u_up A (p + 18) (-1) := by rw [rS_up (by omega) (a_vis_p (b := 18) (p := p) (by omega) (by omega) (by omega) (by omega)), b3]
    have f3 : ∀ q j, ¬ (q = 264) → (z_up m2 264 (p + 18) (-1)) q j = m q j := fun q j hq => (zu_p hq).trans (f2 q j hq)
    rw [b_tbu_37, h39, if_neg (by omega), b1, zb_n, b_tbu_50, if_pos (show 0 ≤ (k : Int) ∧ (k : Int) < 5 by omega), Int.toNat_natCast, g265, z_add_eq (x := 18) (y := (p : Int)) (by omega) (by omega), if_pos (show 0 ≤ 18 + (p : Int) ∧ 18 + (p : Int) < 37 by omega), show (18 + (p : Int)).toNat = p + 18 by omega]
    generalize z_up m2 264 (p + 18) (-1) = m3 at hR3 hA3 f3 ⊢
    have hok3 : hr_ok n (u_up A (p + 18) (-1)) := hr_ok_up hok (by omega) (fun z => by omega) (fun p h1 h2 => by decide)
    have h35 : u_up A (p + 18) (-1) 35 = A 35 := u_up_ne (by omega)
    obtain ⟨v0, hv0⟩ := q_iceq 9 0 0 m3 (by decide)
    have hv := R_ice (w := w) (h := h) (n := n) hR3.1.1 hR3.1.2.1 hR3.2.2.1 9 0 0 (by decide) (by decide +kernel)
    have hv : z_R 222 (m3, 4, [(2, 251), (0, 0), (0, 0)], []) = some (m3, some (0, s_F w h A)) := hv
    obtain ⟨m4, c1, c2⟩ := R_sta1 (F := s_F w h A) (N := 100) (by decide) hN 100 0 m3 (u_up A (p + 18) (-1)) (by decide) hR3 hA3 hok3 (by rw [h35]; exact ht.1) (by rw [h35]; omega)
    have c1 : z_R 221 (m3, 7, [(2, 251), (0, 100), (0, s_F w h A), (0, 0)], []) = some (m4, some (0, o_S w h n heat price cs D A p)) := c1
    have c3 : z_R 221 (m3, 0, [(2, 251), (0, 100), (9, 0), (9, 0)], []) = some (m4, some (0, o_S w h n heat price cs D A p)) := by rw [q_sta_0, q_ice_0, hv, zb_v, q_sta_4, c1]
    have hR4 := R_off264 hR3 c2
    have f4 : ∀ j, m4 265 j = m 265 j := fun j => (c2.of (by (repeat' (first | exact trivial | refine z_of_c ?_ ?_)) <;> omega)).trans (f3 265 j (by decide))
    have g39 : m4 251 39 = ((k + 1 + l.length : Nat) : Int) := by
      rw [c2.of (p := 251) (k := 39) (by (repeat' (first | exact trivial | refine z_of_c ?_ ?_)) <;> omega), f3 251 39 (by decide), h39]
      omega
    rw [c3, zb_v, b_tbu_72, if_pos (show 0 ≤ (k : Int) ∧ (k : Int) < 5 by omega), Int.toNat_natCast, f4 k, hl.1, z_add_eq (x := (k : Int)) (y := 1) (by omega) (by omega), tc1]
    unfold o_bu
    by_cases y : v < o_S w h n heat price cs D A p
    · rw [if_pos y, if_pos y]
      exact ih (k + 1) p _ _ m4 (by omega) (fun q hq => hp q (List.mem_cons_of_mem _ hq)) hR4 g39 (o_hl_fr l (k + 1) hl.2 f4)
    · rw [if_neg y, if_neg y]
      exact ih (k + 1) b v _ m4 (by omega) (fun q hq => hp q (List.mem_cons_of_mem _ hq)) hR4 g39 (o_hl_fr l (k + 1) hl.2 f4)
theorem R_burden (hi : R_is w h n heat price D A c U kn KS cs m) (hN : w_N w h n heat D) (hok : hr_ok n A) (ht : 0 ≤ A 35 ∧ A 35 ≤ 1073741824) : ∃ m1, z_R 238 (m, 0, [(2, 251), (9, 0), (9, 0), (9, 0), (9, 0), (9, 0)], []) = some (m1, some (0, o_bud w h n heat price cs D A (o_ls A n 0) (-1) (-1))) ∧ R_is w h n heat price D A c U kn KS cs m1 := by
  have hu := R_upn (p0 := 251) (k0 := 39) (v := 0) (R_upn (p0 := 251) (k0 := 11) (v := 0) hi (by decide)) (by decide)
  have g0 : (z_up (z_up m 251 11 0) 251 39 0) 251 39 = ((0 : Nat) : Int) := zu_self
  rw [b_tbu_0, b_fl_0]
  generalize z_up (z_up m 251 11 0) 251 39 0 = m0 at hu g0 ⊢
  obtain ⟨m1, a1, a2, a3, a4⟩ := R_fl1 hN.1.2.2 n 0 0 m0 (by omega) (Nat.le_refl _) hu g0
  have a1 : z_R 228 (m0, 7, [(2, 251), (0, 0)], []) = some (m1, none) := a1
  rw [Nat.zero_add] at a2
  have hR1 : R_is w h n heat price D A c U kn KS cs m1 := R_fr hu fun p k hk => by
    have hk' := hk
    unfold R_hit at hk'
    have hk' := of_decide_eq_true hk'
    exact a4 p k (by omega) (by omega)
  have hlen := o_ls_len (A := A) n 0
  have h5 := hN.1.2.2
  rw [a1, zb_n, b_tbu_9, a2]
  generalize hL : o_ls A n 0 = L at a2 a3 hlen ⊢
  cases L with
  | nil =>
    have e : o_bud w h n heat price cs D A [] (-1) (-1) = -2 := if_pos rfl
    rw [if_pos (show ((([] : List Nat).length : Nat) : Int) = 0 from rfl), e]
    exact ⟨m1, rfl, hR1⟩
  | cons p l =>
    have hS := o_S_nn (w := w) (h := h) (n := n) (heat := heat) (price := price) (cs := cs) (D := D) (A := A) (p := p)
    have e0 : o_bu (o_S w h n heat price cs D A) (p :: l) (-1) (-1) = o_bu (o_S w h n heat price cs D A) l (p : Int) (o_S w h n heat price cs D A p) := if_pos (by omega)
    have e1 := o_bu_nn (S := o_S w h n heat price cs D A) l (p : Int) (o_S w h n heat price cs D A p) (by omega)
    have e : o_bud w h n heat price cs D A (p :: l) (-1) (-1) = o_bu (o_S w h n heat price cs D A) (p :: l) (-1) (-1) := if_neg (by rw [e0]; omega)
    obtain ⟨m2, b1, b2, b3⟩ := R_lt hR1
    have f2 : ∀ q j, ¬ (q = 264) → m2 q j = m1 q j := fun q j hq => by
      obtain ⟨m2', d1, -, d3⟩ := t_layd (a := 252) (q := 264) (B := 0) t_lay264_0 t_lay264_2 (by decide) (b := 0) (by decide) m1
      have d1 : z_R 198 (m1, 0, [(2, 252), (2, 264), (0, 0), (9, 0)], []) = some (m2', none) := d1
      have e : z_R 219 (m1, 0, [(2, 251)], []) = some (m2', none) := by rw [q_lt_0, d1, zb_n, q_lt_12]
      rw [b1] at e
      have e := congrArg Prod.fst (Option.some.inj e)
      have e : m2 = m2' := e
      rw [e]
      exact d3 q j (fun z => hq z.1)
    have hv := R_ice (w := w) (h := h) (n := n) b2.1.1 b2.1.2.1 b2.2.2.1 9 0 0 (by decide) (by decide +kernel)
    have hv : z_R 222 (m2, 4, [(2, 251), (0, 0), (0, 0)], []) = some (m2, some (0, s_F w h A)) := hv
    obtain ⟨m3, c1, c2⟩ := R_sta1 (F := s_F w h A) (N := 100) (by decide) hN 100 0 m2 A (by decide) b2 b3 hok ht.1 (by omega)
    have c1 : z_R 221 (m2, 7, [(2, 251), (0, 100), (0, s_F w h A), (0, 0)], []) = some (m3, some (0, s_sta w h n heat price cs D (s_F w h A) 100 100 0 A)) := c1
    have c3 : z_R 221 (m2, 0, [(2, 251), (0, 100), (9, 0), (9, 0)], []) = some (m3, some (0, s_sta w h n heat price cs D (s_F w h A) 100 100 0 A)) := by rw [q_sta_0, q_ice_0, hv, zb_v, q_sta_4, c1]
    have hR3 := R_off264 b2 c2
    have f3 : ∀ j, m3 265 j = m1 265 j := fun j => (c2.of (by (repeat' (first | exact trivial | refine z_of_c ?_ ?_)) <;> omega)).trans (f2 265 j (by decide))
    have g39 : m3 251 39 = (((p :: l).length : Nat) : Int) := by rw [c2.of (p := 251) (k := 39) (by (repeat' (first | exact trivial | refine z_of_c ?_ ?_)) <;> omega), f2 251 39 (by decide), a2]
    obtain ⟨m4, d1, d2⟩ := R_bur1 (x1 := s_sta w h n heat price cs D (s_F w h A) 100 100 0 A) hN hok ht (p :: l) 0 (-1) (-1) (9, 0) m3 (by omega) (fun q hq => by have := hlen.2 q hq; omega) hR3 (by rw [Nat.zero_add]; exact g39) (o_hl_fr (p :: l) 0 a3 f3)
    have d1 : z_R 238 (m3, 37, [(2, 251), (0, s_sta w h n heat price cs D (s_F w h A) 100 100 0 A), (0, -1), (0, -1), (0, 0), (9, 0)], []) = some (m4, some (0, o_bu (o_S w h n heat price cs D A) (p :: l) (-1) (-1))) := d1
    have hn0 : ¬ (((p :: l).length : Nat) : Int) = 0 := by
      show ¬ ((l.length + 1 : Nat) : Int) = 0
      omega
    rw [if_neg hn0, b1, zb_n, b_tbu_23, c3, zb_v, b_tbu_29, d1, e]
    exact ⟨m4, rfl, d2⟩
end
theorem core_burden : l_rel2 Rel_C (855, 128, 115, 0, false, 860, 131, 238) := by
  intro M1 M2 M3 σ σ1 σ2 as v1 v2 C1 C2 ρ1 ρ2 ha hR hh hM1 hC1 hp1 hE1 hC2 hp2 hE2
  obtain rfl := as_nil ha
  have hE1 : z_R 115 (z_m σ, 0, [(2, 0), (9, 0), (9, 0), (9, 0), (9, 0)], []) = some (z_m σ1, some (0, v1.toInt)) := z_R_iff.mpr hE1
  have hE2 : z_R 238 (z_m σ1, 0, [(2, 251), (9, 0), (9, 0), (9, 0), (9, 0), (9, 0)], []) = some (z_m σ2, some (0, v2.toInt)) := z_R_iff.mpr hE2
  have hT := T_two (y1 := 115) (y2 := 238) (by decide +kernel) (by decide +kernel) hC1 hC2 hp1 hp2 hR.1
  obtain ⟨w, h, n, heat, price, D, A, c, U, kn, KS, cs, cC, cR, cW⟩ := hR.2
  obtain ⟨b1, b2, -, -, hok, b35, -, b7⟩ := core_b hh hM1 cR
  have hN : w_N w h n heat D := ⟨b1, b2, b7⟩
  have kk := core_24 hh
  have f1 := R_off2_ok (y := 115) (by decide +kernel) hC1 hp1
  have f2 := C_off_ok (y := 238) (by decide +kernel) hC2 hp2
  have cR1 := R_fr cR f1
  have z := core_do cR1 (fun q => C_fr q f2) (C_burden cC hN hok b35 kk.1 kk.2) (fun q => R_burden q hN hok b35) hE1 hE2
  exact ⟨⟨hT, Core_mk z.1.1 z.1.2 cW⟩, fun _ => z.2⟩
end
section
/-! STRETCHES of warm, with bounds done -/
theorem u_wof_0  (m : z_M) (r : Int) (b : Int) : z_R 119 (m, 0, [(2, 24), (2, 12), (0, r), (0, b), (9, 0), (9, 0)], []) = if m 12 6 = r then z_R 119 (m, 24, [(2, 24), (2, 12), (0, r), (0, b), (0, m 3 12), (0, 0)], []) else z_R 119 (m, 24, [(2, 24), (2, 12), (0, r), (0, b), (0, 0), (0, 0)], []) :=
  have hK : kt_at 119 = kt_119 := rfl
  (z_R_run hK (n := 3) (g' := (m, 5, [(2, 24), (2, 12), (0, r), (0, b), (9, 0), (9, 0)], [(0, r), (0, m 12 6)])) rfl).trans (z_R_ifnd hK (c := m 12 6 = r) (p1 := 18) (p2 := 8) rfl rfl rfl (fun h1 => (z_R_run hK (n := 4) (g' := (m, 24, [(2, 24), (2, 12), (0, r), (0, b), (0, 0), (0, 0)], [])) rfl).trans (rfl)) (fun h1 => (z_R_run hK (n := 2) (g' := (m, 12, [(2, 24), (2, 12), (0, r), (0, b), (9, 0), (9, 0)], [(2, 3)])) rfl).trans ((z_R_run hK (n := 5) (g' := (m, 24, [(2, 24), (2, 12), (0, r), (0, b), (0, m 3 12), (0, 0)], [])) rfl).trans (rfl))))
theorem u_wof_24  (m : z_M) (x2 : Int) (x3 : Int) (x4 : Int) (x5 : Int) (h_n : 0 ≤ m 3 11 ∧ m 3 11 ≤ 5) : z_R 119 (m, 24, [(2, 24), (2, 12), (0, x2), (0, x3), (0, x4), (0, x5)], []) = if m 3 11 ≤ x5 then some (m, some (0, x4)) else if z_and (z_shr x3 x5) 1 = 0 then z_R 119 (m, 24, [(2, 24), (2, 12), (0, x2), (0, x3), (0, x4), (0, z_add x5 1)], []) else (z_R 70 (m, 0, [(2, 24), (0, x5), (0, m 12 7), (9, 0)], [])).bind fun qq => z_R 119 (qq.1, 57, [(2, 24), (2, 12), (0, x2), (0, x3), (0, x4), (0, x5)], qq.2.toList ++ [(0, x4)]) :=
  have hK : kt_at 119 = kt_119 := rfl
  (z_R_run hK (n := 3) (g' := (m, 30, [(2, 24), (2, 12), (0, x2), (0, x3), (0, x4), (0, x5)], [(2, 3), (0, x5)])) rfl).trans ((z_R_run hK (n := 1) (g' := (m, 33, [(2, 24), (2, 12), (0, x2), (0, x3), (0, x4), (0, x5)], [(0, m 3 11), (0, x5)])) rfl).trans (z_R_ifd hK (c := m 3 11 ≤ x5) (p1 := 66) (p2 := 36) rfl rfl rfl (fun h1 => (z_R_run hK (n := 1) (g' := (m, 68, [(2, 24), (2, 12), (0, x2), (0, x3), (0, x4), (0, x5)], [(0, x4)])) rfl).trans (z_R_ret hK rfl rfl rfl)) (fun h1 => (z_R_run hK (n := 5) (g' := (m, 42, [(2, 24), (2, 12), (0, x2), (0, x3), (0, x4), (0, x5)], [(0, z_and (z_shr x3 x5) 1)])) rfl).trans (z_R_ifd hK (c := z_and (z_shr x3 x5) 1 = 0) (p1 := 60) (p2 := 45) rfl rfl rfl (fun h2 => (z_R_run hK (n := 2) (g' := (m, 24, [(2, 24), (2, 12), (0, x2), (0, x3), (0, x4), (0, z_add x5 1)], [])) rfl).trans (rfl)) (fun h2 => (z_R_run hK (n := 5) (g' := (m, 54, [(2, 24), (2, 12), (0, x2), (0, x3), (0, x4), (0, x5)], [(0, m 12 7), (0, x5), (2, 24), (0, x4)])) rfl).trans (z_R_call hK rfl rfl rfl rfl rfl))))))
theorem u_wof_57  (m : z_M) (x2 : Int) (x3 : Int) (x4 : Int) (x5 : Int) (s0 : Int) (u : Int) : z_R 119 (m, 57, [(2, 24), (2, 12), (0, x2), (0, x3), (0, x4), (0, x5)], [(0, u), (0, s0)]) = z_R 119 (m, 24, [(2, 24), (2, 12), (0, x2), (0, x3), (0, z_add s0 u), (0, z_add x5 1)], []) :=
  have hK : kt_at 119 = kt_119 := rfl
  (z_R_run hK (n := 4) (g' := (m, 24, [(2, 24), (2, 12), (0, x2), (0, x3), (0, z_add s0 u), (0, z_add x5 1)], [])) rfl).trans (rfl)
theorem u_mbs_0  (m : z_M) (r : Int) (b : Int) : z_R 118 (m, 0, [(2, 24), (2, 12), (0, r), (0, b)], []) = (z_R 119 (m, 0, [(2, 24), (2, 12), (0, r), (0, b), (9, 0), (9, 0)], [])).bind fun qq => z_R 118 (qq.1, 10, [(2, 24), (2, 12), (0, r), (0, b)], qq.2.toList ++ [(0, r), (2, 12), (2, 24)]) :=
  have hK : kt_at 118 = kt_118 := rfl
  (z_R_run hK (n := 7) (g' := (m, 7, [(2, 24), (2, 12), (0, r), (0, b)], [(0, b), (0, r), (2, 12), (2, 24), (0, r), (2, 12), (2, 24)])) rfl).trans (z_R_call hK rfl rfl rfl rfl rfl)
theorem u_mbs_10  (m : z_M) (x2 : Int) (x3 : Int) (s0 : Int) (u : Int) : z_R 118 (m, 10, [(2, 24), (2, 12), (0, x2), (0, x3)], [(0, u), (0, s0), (2, 12), (2, 24)]) = (z_R 101 (m, 0, [(0, x3)], [])).bind fun qq => z_R 118 (qq.1, 14, [(2, 24), (2, 12), (0, x2), (0, x3)], qq.2.toList ++ [(0, u), (0, s0), (2, 12), (2, 24)]) :=
  have hK : kt_at 118 = kt_118 := rfl
  (z_R_run hK (n := 1) (g' := (m, 11, [(2, 24), (2, 12), (0, x2), (0, x3)], [(0, x3), (0, u), (0, s0), (2, 12), (2, 24)])) rfl).trans (z_R_call hK rfl rfl rfl rfl rfl)
theorem u_mbs_14  (m : z_M) (x2 : Int) (x3 : Int) (s0 : Int) (s1 : Int) (u : Int) : z_R 118 (m, 14, [(2, 24), (2, 12), (0, x2), (0, x3)], [(0, u), (0, s0), (0, s1), (2, 12), (2, 24)]) = (z_R 120 (m, 0, [(2, 24), (2, 12), (0, s1), (0, s0), (0, u)], [])).bind fun qq => z_R 118 (qq.1, 17, [(2, 24), (2, 12), (0, x2), (0, x3)], qq.2.toList ++ []) :=
  have hK : kt_at 118 = kt_118 := rfl
  z_R_call hK rfl rfl rfl rfl rfl
theorem u_mbs_17  (m : z_M) (x2 : Int) (x3 : Int) (u : Int) : z_R 118 (m, 17, [(2, 24), (2, 12), (0, x2), (0, x3)], [(0, u)]) = some (m, some (0, u)) :=
  have hK : kt_at 118 = kt_118 := rfl
  z_R_ret hK rfl rfl rfl
theorem u_mby_0  (m : z_M) (r : Int) (a : Int) (b : Int) (h_r : 0 ≤ r ∧ r ≤ 8) : z_R 120 (m, 0, [(2, 24), (2, 12), (0, r), (0, a), (0, b)], []) = (z_R 71 (m, 0, [(2, 4), (0, a), (0, m 13 (r).toNat), (0, m 14 (r).toNat), (0, m 12 8), (0, r / 3), (0, b), (0, m 12 7), (9, 0), (9, 0), (9, 0)], [])).bind fun qq => z_R 120 (qq.1, 48, [(2, 24), (2, 12), (0, r), (0, a), (0, b)], qq.2.toList ++ []) :=
  have hK : kt_at 120 = kt_120 := rfl
  (z_R_run hK (n := 1) (g' := (m, 1, [(2, 24), (2, 12), (0, r), (0, a), (0, b)], [(0, r)])) rfl).trans (z_R_if0 hK (c := r < 0) (p1 := 10) (p2 := 4) rfl rfl rfl (show ¬ (r < 0) by omega) ((z_R_run hK (n := 2) (g' := (m, 7, [(2, 24), (2, 12), (0, r), (0, a), (0, b)], [(0, 9), (0, r)])) rfl).trans (z_R_if1 hK (c := r < 9) (p1 := 12) (p2 := 10) rfl rfl rfl (show r < 9 by omega) ((z_R_run hK (n := 2) (g' := (m, 16, [(2, 24), (2, 12), (0, r), (0, a), (0, b)], [(2, 3)])) rfl).trans ((z_R_run hK (n := 1) (g' := (m, 19, [(2, 24), (2, 12), (0, r), (0, a), (0, b)], [(2, 4)])) rfl).trans ((z_R_run hK (n := 3) (g' := (m, 24, [(2, 24), (2, 12), (0, r), (0, a), (0, b)], [(2, 13), (0, a), (2, 4)])) rfl).trans ((z_R_run hK (n := 1) (g' := (m, 25, [(2, 24), (2, 12), (0, r), (0, a), (0, b)], [(0, r), (2, 13), (0, a), (2, 4)])) rfl).trans (z_R_ixT hK (n := 9) (g' := (m, 26, [(2, 24), (2, 12), (0, r), (0, a), (0, b)], [(0, m 13 (r).toNat), (0, a), (2, 4)])) rfl rfl rfl  (show 0 ≤ r ∧ r < 9 by omega) ((z_R_run hK (n := 2) (g' := (m, 30, [(2, 24), (2, 12), (0, r), (0, a), (0, b)], [(2, 14), (0, m 13 (r).toNat), (0, a), (2, 4)])) rfl).trans ((z_R_run hK (n := 1) (g' := (m, 31, [(2, 24), (2, 12), (0, r), (0, a), (0, b)], [(0, r), (2, 14), (0, m 13 (r).toNat), (0, a), (2, 4)])) rfl).trans (z_R_ixT hK (n := 9) (g' := (m, 32, [(2, 24), (2, 12), (0, r), (0, a), (0, b)], [(0, m 14 (r).toNat), (0, m 13 (r).toNat), (0, a), (2, 4)])) rfl rfl rfl  (show 0 ≤ r ∧ r < 9 by omega) ((z_R_run hK (n := 5) (g' := (m, 39, [(2, 24), (2, 12), (0, r), (0, a), (0, b)], [(0, z_div r 3), (0, m 12 8), (0, m 14 (r).toNat), (0, m 13 (r).toNat), (0, a), (2, 4)])) rfl).trans ((congrArg (fun vv => z_R 120 (m, 39, [(2, 24), (2, 12), (0, r), (0, a), (0, b)], [(0, vv), (0, m 12 8), (0, m 14 (r).toNat), (0, m 13 (r).toNat), (0, a), (2, 4)])) (z_div_nn (by omega) (by omega) (by decide) (by decide))).trans ((z_R_run hK (n := 3) (g' := (m, 45, [(2, 24), (2, 12), (0, r), (0, a), (0, b)], [(0, m 12 7), (0, b), (0, r / 3), (0, m 12 8), (0, m 14 (r).toNat), (0, m 13 (r).toNat), (0, a), (2, 4)])) rfl).trans (z_R_call hK rfl rfl rfl rfl rfl)))))))))))))))
theorem u_mby_48  (m : z_M) (x2 : Int) (x3 : Int) (x4 : Int) (u : Int) : z_R 120 (m, 48, [(2, 24), (2, 12), (0, x2), (0, x3), (0, x4)], [(0, u)]) = some (m, some (0, u)) :=
  have hK : kt_at 120 = kt_120 := rfl
  z_R_ret hK rfl rfl rfl
theorem u_wrm_0  (m : z_M) (r : Int) (v : Int) : z_R 125 (m, 0, [(2, 0), (0, r), (0, v), (9, 0), (9, 0), (9, 0), (9, 0)], []) = if ¬ u_hs (m 3 8) (m 3 9) r = 0 then if v < 0 then some (m, some (0, (-1))) else if v ≤ 99 then z_R 125 (m, 34, [(2, 0), (0, r), (0, v), (0, (-1)), (0, 0), (0, 0), (0, 0)], []) else some (m, some (0, (-1))) else some (m, some (0, (-1))) :=
  have hK : kt_at 125 = kt_125 := rfl
  (z_R_run hK (n := 2) (g' := (m, 4, [(2, 0), (0, r), (0, v), (9, 0), (9, 0), (9, 0), (9, 0)], [(2, 3)])) rfl).trans ((z_R_run hK (n := 1) (g' := (m, 5, [(2, 0), (0, r), (0, v), (9, 0), (9, 0), (9, 0), (9, 0)], [(0, r), (2, 3)])) rfl).trans (z_R_cif hK rfl rfl rfl rfl rfl (c_ifhas _ _ rfl rfl) (fun h1 => have h4 := u_hs_rng h1; (z_R_run hK (n := 2) (g' := (m, 12, [(2, 0), (0, r), (0, v), (9, 0), (9, 0), (9, 0), (9, 0)], [(0, v)])) rfl).trans (z_R_ifd hK (c := v < 0) (p1 := 21) (p2 := 15) rfl rfl rfl (fun h2 => (z_R_run hK (n := 1) (g' := (m, 22, [(2, 0), (0, r), (0, v), (9, 0), (9, 0), (9, 0), (9, 0)], [(0, (-1))])) rfl).trans (z_R_ret hK rfl rfl rfl)) (fun h2 => (z_R_run hK (n := 2) (g' := (m, 18, [(2, 0), (0, r), (0, v), (9, 0), (9, 0), (9, 0), (9, 0)], [(0, 99), (0, v)])) rfl).trans (z_R_ifd hK (c := v ≤ 99) (p1 := 23) (p2 := 21) rfl rfl rfl (fun h3 => (z_R_run hK (n := 8) (g' := (m, 34, [(2, 0), (0, r), (0, v), (0, (-1)), (0, 0), (0, 0), (0, 0)], [])) rfl).trans (rfl)) (fun h3 => (z_R_run hK (n := 1) (g' := (m, 22, [(2, 0), (0, r), (0, v), (9, 0), (9, 0), (9, 0), (9, 0)], [(0, (-1))])) rfl).trans (z_R_ret hK rfl rfl rfl)))))) (fun h1 => (z_R_run hK (n := 2) (g' := (m, 22, [(2, 0), (0, r), (0, v), (9, 0), (9, 0), (9, 0), (9, 0)], [(0, (-1))])) rfl).trans (z_R_ret hK rfl rfl rfl))))
theorem u_wrm_34  (m : z_M) (x1 : Int) (x2 : Int) (x3 : Int) (x4 : Int) (x5 : Int) (x6 : Int) : z_R 125 (m, 34, [(2, 0), (0, x1), (0, x2), (0, x3), (0, x4), (0, x5), (0, x6)], []) = if z_shl 1 (m 3 11) ≤ x6 then (z_R 77 (m, 0, [(2, 0), (1, z_i2l x3), (9, 0), (1, z_i2l x4), (9, 0)], [])).bind fun qq => z_R 125 (qq.1, 113, [(2, 0), (0, x1), (0, x2), (0, x3), (0, x4), (0, x5), (0, x6)], qq.2.toList ++ []) else (z_R 118 (m, 0, [(2, 24), (2, 12), (0, x1), (0, x6)], [])).bind fun qq => z_R 125 (qq.1, 62, [(2, 0), (0, x1), (0, x2), (0, x3), (0, x4), (0, x5), (0, x6)], qq.2.toList ++ []) :=
  have hK : kt_at 125 = kt_125 := rfl
  (z_R_run hK (n := 4) (g' := (m, 41, [(2, 0), (0, x1), (0, x2), (0, x3), (0, x4), (0, x5), (0, x6)], [(2, 3), (0, 1), (0, x6)])) rfl).trans ((z_R_run hK (n := 2) (g' := (m, 45, [(2, 0), (0, x1), (0, x2), (0, x3), (0, x4), (0, x5), (0, x6)], [(0, z_shl 1 (m 3 11)), (0, x6)])) rfl).trans (z_R_ifd hK (c := z_shl 1 (m 3 11) ≤ x6) (p1 := 104) (p2 := 48) rfl rfl rfl (fun h1 => (z_R_run hK (n := 5) (g' := (m, 110, [(2, 0), (0, x1), (0, x2), (0, x3), (0, x4), (0, x5), (0, x6)], [(1, z_i2l x4), (1, z_i2l x3), (2, 0)])) rfl).trans (z_R_call hK rfl rfl rfl rfl rfl)) (fun h1 => (z_R_run hK (n := 2) (g' := (m, 52, [(2, 0), (0, x1), (0, x2), (0, x3), (0, x4), (0, x5), (0, x6)], [(2, 24)])) rfl).trans ((z_R_run hK (n := 2) (g' := (m, 56, [(2, 0), (0, x1), (0, x2), (0, x3), (0, x4), (0, x5), (0, x6)], [(2, 12), (2, 24)])) rfl).trans ((z_R_run hK (n := 2) (g' := (m, 59, [(2, 0), (0, x1), (0, x2), (0, x3), (0, x4), (0, x5), (0, x6)], [(0, x6), (0, x1), (2, 12), (2, 24)])) rfl).trans (z_R_call hK rfl rfl rfl rfl rfl))))))
theorem u_wrm_62  (m : z_M) (x1 : Int) (x2 : Int) (x3 : Int) (x4 : Int) (x5 : Int) (x6 : Int) (u : Int) : z_R 125 (m, 62, [(2, 0), (0, x1), (0, x2), (0, x3), (0, x4), (0, x5), (0, x6)], [(0, u)]) = if u = x2 then if x5 = 0 then z_R 125 (m, 34, [(2, 0), (0, x1), (0, x2), (0, x6), (0, x6), (0, x5 + 1), (0, z_add x6 1)], []) else if x5 = 0 then z_R 125 (m, 34, [(2, 0), (0, x1), (0, x2), (0, x3), (0, x6), (0, x5 + 1), (0, z_add x6 1)], []) else z_R 125 (m, 34, [(2, 0), (0, x1), (0, x2), (0, x3), (0, z_and x4 x6), (0, z_add x5 1), (0, z_add x6 1)], []) else z_R 125 (m, 34, [(2, 0), (0, x1), (0, x2), (0, x3), (0, x4), (0, x5), (0, z_add x6 1)], []) :=
  have hK : kt_at 125 = kt_125 := rfl
  (z_R_run hK (n := 1) (g' := (m, 63, [(2, 0), (0, x1), (0, x2), (0, x3), (0, x4), (0, x5), (0, x6)], [(0, x2), (0, u)])) rfl).trans (z_R_ifnd hK (c := u = x2) (p1 := 98) (p2 := 66) rfl rfl rfl (fun h1 => (z_R_run hK (n := 2) (g' := (m, 34, [(2, 0), (0, x1), (0, x2), (0, x3), (0, x4), (0, x5), (0, z_add x6 1)], [])) rfl).trans (rfl)) (fun h1 => (z_R_run hK (n := 1) (g' := (m, 68, [(2, 0), (0, x1), (0, x2), (0, x3), (0, x4), (0, x5), (0, x6)], [(0, x5)])) rfl).trans (z_R_ifnd hK (c := x5 = 0) (p1 := 76) (p2 := 71) rfl rfl rfl (fun h2 => (z_R_run hK (n := 3) (g' := (m, 80, [(2, 0), (0, x1), (0, x2), (0, x3), (0, x4), (0, x5), (0, x6)], [(0, x5)])) rfl).trans (z_R_ifnd hK (c := x5 = 0) (p1 := 88) (p2 := 83) rfl rfl rfl (fun h3 => (z_R_run hK (n := 7) (g' := (m, 34, [(2, 0), (0, x1), (0, x2), (0, x3), (0, z_and x4 x6), (0, z_add x5 1), (0, z_add x6 1)], [])) rfl).trans (rfl)) (fun h3 => (z_R_run hK (n := 4) (g' := (m, 98, [(2, 0), (0, x1), (0, x2), (0, x3), (0, x6), (0, z_add x5 1), (0, x6)], [])) rfl).trans ((congrArg (fun vv => z_R 125 (m, 98, [(2, 0), (0, x1), (0, x2), (0, x3), (0, x6), (0, vv), (0, x6)], [])) (z_add_eq (by omega) (by omega))).trans ((z_R_run hK (n := 2) (g' := (m, 34, [(2, 0), (0, x1), (0, x2), (0, x3), (0, x6), (0, x5 + 1), (0, z_add x6 1)], [])) rfl).trans (rfl)))))) (fun h2 => (z_R_run hK (n := 4) (g' := (m, 80, [(2, 0), (0, x1), (0, x2), (0, x6), (0, x4), (0, x5), (0, x6)], [(0, x5)])) rfl).trans (z_R_ifn1 hK (c := x5 = 0) (p1 := 88) (p2 := 83) rfl rfl rfl (show x5 = 0 by omega) ((z_R_run hK (n := 4) (g' := (m, 98, [(2, 0), (0, x1), (0, x2), (0, x6), (0, x6), (0, z_add x5 1), (0, x6)], [])) rfl).trans ((congrArg (fun vv => z_R 125 (m, 98, [(2, 0), (0, x1), (0, x2), (0, x6), (0, x6), (0, vv), (0, x6)], [])) (z_add_eq (by omega) (by omega))).trans ((z_R_run hK (n := 2) (g' := (m, 34, [(2, 0), (0, x1), (0, x2), (0, x6), (0, x6), (0, x5 + 1), (0, z_add x6 1)], [])) rfl).trans (rfl)))))))))
theorem u_wrm_113  (m : z_M) (x1 : Int) (x2 : Int) (x3 : Int) (x4 : Int) (x5 : Int) (x6 : Int) : z_R 125 (m, 113, [(2, 0), (0, x1), (0, x2), (0, x3), (0, x4), (0, x5), (0, x6)], []) = some (m, some (0, x5)) :=
  have hK : kt_at 125 = kt_125 := rfl
  (z_R_run hK (n := 1) (g' := (m, 115, [(2, 0), (0, x1), (0, x2), (0, x3), (0, x4), (0, x5), (0, x6)], [(0, x5)])) rfl).trans (z_R_ret hK rfl rfl rfl)
theorem u_twr_0  (m : z_M) (r : Int) (v : Int) : z_R 243 (m, 0, [(2, 251), (0, r), (0, v), (9, 0), (9, 0), (9, 0), (9, 0)], []) = if ¬ u_hs (m 251 1) (m 251 2) r = 0 then if 0 ≤ v ∧ v ≤ 99 then z_R 243 (z_up m 251 11 0, 43, [(2, 251), (0, r), (0, v), (0, 0), (0, (-1)), (0, z_sub (z_shl 1 (m 251 3)) 1), (0, 0)], []) else some (z_up m 251 11 0, some (0, (-1))) else some (z_up m 251 11 0, some (0, (-1))) :=
  have hK : kt_at 243 = kt_243 := rfl
  (z_R_run hK (n := 5) (g' := (z_up m 251 11 0, 7, [(2, 251), (0, r), (0, v), (9, 0), (9, 0), (9, 0), (9, 0)], [(0, r), (2, 251)])) rfl).trans (z_R_cif hK rfl rfl rfl rfl rfl (t_ifroom _ _ (zu_k (by decide)) (zu_k (by decide))) (fun h1 => have h3 := u_hs_rng h1; (z_R_run hK (n := 4) (g' := (z_up m 251 11 0, 17, [(2, 251), (0, r), (0, v), (9, 0), (9, 0), (9, 0), (9, 0)], [(0, 99), (0, 0), (0, v)])) rfl).trans (z_R_cif hK rfl rfl rfl rfl rfl (t_ifin _ _ _ _) (fun h2 => (z_R_run hK (n := 8) (g' := (z_up m 251 11 0, 35, [(2, 251), (0, r), (0, v), (0, 0), (0, (-1)), (9, 0), (9, 0)], [(0, (z_up m 251 11 0) 251 3), (0, 1)])) rfl).trans ((congrArg (fun vv => z_R 243 (z_up m 251 11 0, 35, [(2, 251), (0, r), (0, v), (0, 0), (0, (-1)), (9, 0), (9, 0)], [(0, vv), (0, 1)])) (zu_k (by decide))).trans ((z_R_run hK (n := 6) (g' := (z_up m 251 11 0, 43, [(2, 251), (0, r), (0, v), (0, 0), (0, (-1)), (0, z_sub (z_shl 1 (m 251 3)) 1), (0, 0)], [])) rfl).trans (rfl)))) (fun h2 => (z_R_run hK (n := 2) (g' := (z_up m 251 11 0, 24, [(2, 251), (0, r), (0, v), (9, 0), (9, 0), (9, 0), (9, 0)], [(0, (-1))])) rfl).trans (z_R_ret hK rfl rfl rfl)))) (fun h1 => (z_R_run hK (n := 2) (g' := (z_up m 251 11 0, 24, [(2, 251), (0, r), (0, v), (9, 0), (9, 0), (9, 0), (9, 0)], [(0, (-1))])) rfl).trans (z_R_ret hK rfl rfl rfl)))
theorem u_twr_43  (m : z_M) (x1 : Int) (x2 : Int) (x3 : Int) (x4 : Int) (x5 : Int) (x6 : Int) : z_R 243 (m, 43, [(2, 251), (0, x1), (0, x2), (0, x3), (0, x4), (0, x5), (0, x6)], []) = if z_shl 1 (m 251 3) ≤ x6 then (z_R 210 (z_up m 251 10 0, 0, [(2, 251), (1, z_i2l x4), (9, 0)], [])).bind fun qq => z_R 243 (qq.1, 113, [(2, 251), (0, x1), (0, x2), (0, x3), (0, x4), (0, x5), (0, x6)], qq.2.toList ++ []) else (z_R 188 (m, 0, [(2, 251), (2, 252), (0, x1), (0, x6)], [])).bind fun qq => z_R 243 (qq.1, 65, [(2, 251), (0, x1), (0, x2), (0, x3), (0, x4), (0, x5), (0, x6)], qq.2.toList ++ []) :=
  have hK : kt_at 243 = kt_243 := rfl
  (z_R_run hK (n := 5) (g' := (m, 51, [(2, 251), (0, x1), (0, x2), (0, x3), (0, x4), (0, x5), (0, x6)], [(0, z_shl 1 (m 251 3)), (0, x6)])) rfl).trans (z_R_ifd hK (c := z_shl 1 (m 251 3) ≤ x6) (p1 := 101) (p2 := 54) rfl rfl rfl (fun h1 => (z_R_run hK (n := 6) (g' := (z_up m 251 10 0, 110, [(2, 251), (0, x1), (0, x2), (0, x3), (0, x4), (0, x5), (0, x6)], [(1, z_i2l x4), (2, 251)])) rfl).trans (z_R_call hK rfl rfl rfl rfl rfl)) (fun h1 => (z_R_run hK (n := 3) (g' := (m, 59, [(2, 251), (0, x1), (0, x2), (0, x3), (0, x4), (0, x5), (0, x6)], [(2, 252), (2, 251)])) rfl).trans ((z_R_run hK (n := 2) (g' := (m, 62, [(2, 251), (0, x1), (0, x2), (0, x3), (0, x4), (0, x5), (0, x6)], [(0, x6), (0, x1), (2, 252), (2, 251)])) rfl).trans (z_R_call hK rfl rfl rfl rfl rfl))))
theorem u_twr_65  (m : z_M) (x1 : Int) (x2 : Int) (x3 : Int) (x4 : Int) (x5 : Int) (x6 : Int) (u : Int) : z_R 243 (m, 65, [(2, 251), (0, x1), (0, x2), (0, x3), (0, x4), (0, x5), (0, x6)], [(0, u)]) = if u = x2 then if x3 = 0 then z_R 243 (m, 43, [(2, 251), (0, x1), (0, x2), (0, x3 + 1), (0, x6), (0, z_and x5 x6), (0, z_add x6 1)], []) else z_R 243 (m, 43, [(2, 251), (0, x1), (0, x2), (0, z_add x3 1), (0, x4), (0, z_and x5 x6), (0, z_add x6 1)], []) else z_R 243 (m, 43, [(2, 251), (0, x1), (0, x2), (0, x3), (0, x4), (0, x5), (0, z_add x6 1)], []) :=
  have hK : kt_at 243 = kt_243 := rfl
  (z_R_run hK (n := 1) (g' := (m, 66, [(2, 251), (0, x1), (0, x2), (0, x3), (0, x4), (0, x5), (0, x6)], [(0, x2), (0, u)])) rfl).trans (z_R_ifd hK (c := u = x2) (p1 := 72) (p2 := 69) rfl rfl rfl (fun h1 => (z_R_run hK (n := 1) (g' := (m, 73, [(2, 251), (0, x1), (0, x2), (0, x3), (0, x4), (0, x5), (0, x6)], [(0, x3)])) rfl).trans (z_R_ifnd hK (c := x3 = 0) (p1 := 81) (p2 := 76) rfl rfl rfl (fun h2 => (z_R_run hK (n := 9) (g' := (m, 43, [(2, 251), (0, x1), (0, x2), (0, z_add x3 1), (0, x4), (0, z_and x5 x6), (0, z_add x6 1)], [])) rfl).trans (rfl)) (fun h2 => (z_R_run hK (n := 8) (g' := (m, 95, [(2, 251), (0, x1), (0, x2), (0, z_add x3 1), (0, x6), (0, z_and x5 x6), (0, x6)], [])) rfl).trans ((congrArg (fun vv => z_R 243 (m, 95, [(2, 251), (0, x1), (0, x2), (0, vv), (0, x6), (0, z_and x5 x6), (0, x6)], [])) (z_add_eq (by omega) (by omega))).trans ((z_R_run hK (n := 2) (g' := (m, 43, [(2, 251), (0, x1), (0, x2), (0, x3 + 1), (0, x6), (0, z_and x5 x6), (0, z_add x6 1)], [])) rfl).trans (rfl)))))) (fun h1 => (z_R_run hK (n := 3) (g' := (m, 43, [(2, 251), (0, x1), (0, x2), (0, x3), (0, x4), (0, x5), (0, z_add x6 1)], [])) rfl).trans (rfl)))
theorem u_twr_113  (m : z_M) (x1 : Int) (x2 : Int) (x3 : Int) (x4 : Int) (x5 : Int) (x6 : Int) : z_R 243 (m, 113, [(2, 251), (0, x1), (0, x2), (0, x3), (0, x4), (0, x5), (0, x6)], []) = if x3 = 0 then (z_R 210 (m, 0, [(2, 251), (1, 0), (9, 0)], [])).bind fun qq => z_R 243 (qq.1, 128, [(2, 251), (0, x1), (0, x2), (0, x3), (0, x4), (0, x5), (0, x6)], qq.2.toList ++ []) else (z_R 210 (m, 0, [(2, 251), (1, z_i2l x5), (9, 0)], [])).bind fun qq => z_R 243 (qq.1, 128, [(2, 251), (0, x1), (0, x2), (0, x3), (0, x4), (0, x5), (0, x6)], qq.2.toList ++ []) :=
  have hK : kt_at 243 = kt_243 := rfl
  (z_R_run hK (n := 2) (g' := (m, 115, [(2, 251), (0, x1), (0, x2), (0, x3), (0, x4), (0, x5), (0, x6)], [(0, x3), (2, 251)])) rfl).trans (z_R_ifnd hK (c := x3 = 0) (p1 := 122) (p2 := 118) rfl rfl rfl (fun h1 => (z_R_run hK (n := 2) (g' := (m, 125, [(2, 251), (0, x1), (0, x2), (0, x3), (0, x4), (0, x5), (0, x6)], [(1, z_i2l x5), (2, 251)])) rfl).trans (z_R_call hK rfl rfl rfl rfl rfl)) (fun h1 => (z_R_run hK (n := 2) (g' := (m, 125, [(2, 251), (0, x1), (0, x2), (0, x3), (0, x4), (0, x5), (0, x6)], [(1, 0), (2, 251)])) rfl).trans (z_R_call hK rfl rfl rfl rfl rfl)))
theorem u_twr_128  (m : z_M) (x1 : Int) (x2 : Int) (x3 : Int) (x4 : Int) (x5 : Int) (x6 : Int) : z_R 243 (m, 128, [(2, 251), (0, x1), (0, x2), (0, x3), (0, x4), (0, x5), (0, x6)], []) = some (m, some (0, x3)) :=
  have hK : kt_at 243 = kt_243 := rfl
  (z_R_run hK (n := 1) (g' := (m, 129, [(2, 251), (0, x1), (0, x2), (0, x3), (0, x4), (0, x5), (0, x6)], [(0, x3)])) rfl).trans (z_R_ret hK rfl rfl rfl)
end
section
/-! warm, of what both are in -/
theorem z_a63 (a : Int) : 0 ≤ z_and a 63 ∧ z_and a 63 ≤ 63 := by
  have : z_and a 63 = (Int32.ofInt a).toInt % 64 := i32_and63 _
  omega
theorem hr_pc_b (b : Int) : 0 ≤ hr_pc b ∧ hr_pc b ≤ 63 := z_a63 _
theorem i32_and1 (y : Int32) : (y &&& Int32.ofInt 1).toInt = y.toInt % 2 := by
  have h1 : (y &&& Int32.ofInt 1).toBitVec.toNat = y.toBitVec.toNat % 2 := by
    show (y.toBitVec &&& 1#32).toNat = _
    rw [BitVec.toNat_and]
    exact Nat.and_two_pow_sub_one_eq_mod _ 1
  have h2 := i32_ofNat (x := y &&& Int32.ofInt 1) (by rw [h1]; omega)
  have h3 : y.toInt = y.toBitVec.toInt := rfl
  rw [h2, h1, h3, BitVec.toInt_eq_toNat_cond]
  have := y.toBitVec.isLt
  split <;> omega
theorem z_a1 (a : Int) : z_and a 1 = 0 ∨ z_and a 1 = 1 := by
  have : z_and a 1 = (Int32.ofInt a).toInt % 2 := i32_and1 _
  omega
theorem z_add0 {s : Int} (h : z_w s = s) : z_add s 0 = s := by
  rw [z_add_w, Int.add_zero]
  exact h
theorem hr_s_rg {wm : Nat → Int} {b : Int} (hwm : ∀ p, p < 5 → 0 ≤ wm p ∧ wm p ≤ 9) : ∀ (f x : Nat) (s : Int), x + f ≤ 5 → 0 ≤ s → s ≤ 9 + 9 * (x : Int) → 0 ≤ hr_s wm b f x s ∧ hr_s wm b f x s ≤ 54 := by
  intro f
  induction f with
  | zero => intro x s hx h0 h1; exact ⟨h0, show s ≤ 54 by omega⟩
  | succ f ih =>
    intro x s hx h0 h1
    have hw := hwm x (by omega)
    unfold hr_s
    by_cases c : z_and (z_shr b (x : Int)) 1 = 1
    · rw [if_pos c, z_add_eq (by omega) (by omega)]
      exact ih (x + 1) _ (by omega) (by omega) (by omega)
    · rw [if_neg c, z_add_eq (by omega) (by omega)]
      exact ih (x + 1) _ (by omega) (by omega) (by omega)
/-- in how many sets it melts v -/
def o_cnt (M : Int → Int) (v : Int) : Nat → Nat → Int → Int
  | 0, _, k => k
  | f + 1, x, k => o_cnt M v f (x + 1) (if M (x : Int) = v then k + 1 else k)
def o_mel (n : Nat) (heat : Int) (cs : List Int) (D A : Nat → Int) (r : Nat) (b : Int) : Int := hr_mB heat (c_ml cs) (wmD D (A 35)) n A r b
def o_warm (w h n : Nat) (heat : Int) (cs : List Int) (D A : Nat → Int) (r v : Int) : Int := if (¬ u_hs (w : Int) (h : Int) r = 0) ∧ 0 ≤ v ∧ v ≤ 99 then o_cnt (o_mel n heat cs D A r.toNat) v (2 ^ n) 0 0 else -1
section
variable {w h n : Nat} {heat price : Int} {D A : Nat → Int} {c : Nat} {U : Nat → Nat → Int} {kn : Nat → Int} {KS : Nat → Nat → Int} {cs : List Int} {m : z_M}
theorem z_p2 (h5 : n ≤ 5) : z_shl 1 (n : Int) = ((2 ^ n : Nat) : Int) := by
  have : ∀ n, n < 6 → z_shl 1 ((n : Nat) : Int) = ((2 ^ n : Nat) : Int) := by decide +kernel
  exact this n (by omega)
theorem z_p32 (h5 : n ≤ 5) : 2 ^ n ≤ 32 := by
  have : ∀ n, n < 6 → 2 ^ n ≤ 32 := by decide +kernel
  exact this n (by omega)
theorem C_wof (hi : C_is w h n heat price D A c U kn KS cs m) (h5 : n ≤ 5) (ht : 0 ≤ A 35 ∧ A 35 ≤ 1073741824) {r b : Int} : ∀ (f x : Nat) (s : Int), x + f = n → z_w s = s → z_R 119 (m, 24, [(2, 24), (2, 12), (0, r), (0, b), (0, s), (0, (x : Int))], []) = some (m, some (0, hr_s (wmD D (A 35)) b f x s)) := by
  have e11 := hi.1.2.2.1
  have e7 : m 12 7 = A 35 := by
    rw [← hi.2.2.1]
    exact (cS_at0 (s := 12) (j := 7) (by decide)).symm
  intro f
  induction f with
  | zero =>
    intro x s hx hs
    rw [u_wof_24 m r b s x (by omega), e11, if_pos (by omega)]
    rfl
  | succ f ih =>
    intro x s hx hs
    rw [u_wof_24 m r b s x (by omega), e11, if_neg (by omega), z_add_eq (x := (x : Int)) (y := 1) (by omega) (by omega), tc1]
    unfold hr_s
    rcases z_a1 (z_shr b (x : Int)) with z | z
    · rw [if_pos z, if_neg (by omega), z_add0 hs]
      exact ih (x + 1) s (by omega) hs
    · have ec : cw m x (A 35) = wmD D (A 35) x := cw_D hi.1.2.2.2.2.2.2.1 hi.1.2.2.2.2.2.2.2 hi.2.1 ht.1 (by omega)
      rw [if_neg (by omega), if_pos z, e7, c_wo m (by omega) ht.1 (by omega), zb_v, u_wof_57, z_add_eq (x := (x : Int)) (y := 1) (by omega) (by omega), tc1, ec]
      exact ih (x + 1) _ (by omega) (by rw [z_add_w]; exact z_w_w)
theorem C_mbs (hi : C_is w h n heat price D A c U kn KS cs m) (hN : w_N w h n heat D) (ht : 0 ≤ A 35 ∧ A 35 ≤ 1073741824) {r : Nat} (hr : r < 9) (b : Int) : ∃ m1, z_R 118 (m, 0, [(2, 24), (2, 12), (0, (r : Int)), (0, b)], []) = some (m1, some (0, o_mel n heat cs D A r b)) ∧ C_is w h n heat price D A c U kn KS cs m1 := by
  have h5 := hN.1.2.2
  have e6 : m 12 6 = A 34 := by
    rw [← hi.2.2.1]
    exact (cS_at0 (s := 12) (j := 6) (by decide)).symm
  have e7 : m 12 7 = A 35 := by
    rw [← hi.2.2.1]
    exact (cS_at0 (s := 12) (j := 7) (by decide)).symm
  have e8 : m 12 8 = A 36 := by
    rw [← hi.2.2.1]
    exact (cS_at0 (s := 12) (j := 8) (by decide)).symm
  have e13 : m 13 r = A r := by
    rw [← hi.2.2.1]
    exact (cS_at1 (s := 12) hr).symm
  have e14 : m 14 r = A (r + 9) := by
    rw [← hi.2.2.1]
    exact (cS_at2 (s := 12) hr).symm
  have ew : z_R 119 (m, 0, [(2, 24), (2, 12), (0, (r : Int)), (0, b), (9, 0), (9, 0)], []) = some (m, some (0, hr_wb heat (wmD D (A 35)) n A r b)) := by
    rw [u_wof_0, e6, hi.1.2.2.2.1]
    unfold hr_wb
    have hb := hN.2.1
    by_cases z : A 34 = (r : Int)
    · rw [if_pos z, if_pos z]
      exact C_wof hi h5 ht n 0 heat (by omega) (z_w_of (by omega) (by omega))
    · rw [if_neg z, if_neg z]
      exact C_wof hi h5 ht n 0 0 (by omega) (by decide +kernel)
  obtain ⟨m1, a1, a2⟩ := (C_cfg hi).2.2.2.2.2.2.1 m rfl rfl (hr_wb heat (wmD D (A 35)) n A r b) (A r) (A (r + 9)) (A 36) ((r : Int) / 3) (hr_pc b) (A 35)
  have hC1 : C_is w h n heat price D A c U kn KS cs m1 := C_fr hi fun p k hk => by
    have hk' := hk
    unfold C_hit at hk'
    have hk' := of_decide_eq_true hk'
    exact a2.of (by (repeat' (first | exact trivial | refine z_of_c ?_ ?_)) <;> omega)
  rw [u_mbs_0, ew, zb_v, u_mbs_10, t_bc_0, zb_v, u_mbs_14, u_mby_0 m r _ _ (by omega), Int.toNat_natCast, e13, e14, e8, e7, a1, zb_v, u_mby_48, zb_v, u_mbs_17]
  exact ⟨m1, rfl, hC1⟩
theorem C_wrm1 (hN : w_N w h n heat D) (ht : 0 ≤ A 35 ∧ A 35 ≤ 1073741824) {r : Nat} (hr : r < 9) {v : Int} : ∀ (f x : Nat) (y3 y4 k : Int) (m : z_M), x + f = 2 ^ n → 0 ≤ k → k ≤ (x : Int) → C_is w h n heat price D A c U kn KS cs m → ∃ m1, z_R 125 (m, 34, [(2, 0), (0, (r : Int)), (0, v), (0, y3), (0, y4), (0, k), (0, (x : Int))], []) = some (m1, some (0, o_cnt (o_mel n heat cs D A r) v f x k)) ∧ C_is w h n heat price D A c U kn KS cs m1 := by
  have h5 := hN.1.2.2
  have h32 := z_p32 h5
  intro f
  induction f with
  | zero =>
    intro x y3 y4 k m hx h0 h1 hi
    rw [u_wrm_34, hi.1.2.2.1, z_p2 h5, if_pos (by omega), c_tell2, zb_n, u_wrm_113]
    exact ⟨_, rfl, C_tell2 hi _ _⟩
  | succ f ih =>
    intro x y3 y4 k m hx h0 h1 hi
    obtain ⟨m1, a1, a2⟩ := C_mbs hi hN ht hr (x : Int)
    rw [u_wrm_34, hi.1.2.2.1, z_p2 h5, if_neg (by omega), a1, zb_v, u_wrm_62, z_add_eq (x := (x : Int)) (y := 1) (by omega) (by omega), tc1, z_add_eq (x := k) (y := 1) (by omega) (by omega)]
    unfold o_cnt
    by_cases z : o_mel n heat cs D A r (x : Int) = v
    · rw [if_pos z, if_pos z]
      by_cases z0 : k = 0
      · rw [if_pos z0]
        exact ih (x + 1) _ _ _ m1 (by omega) (by omega) (by omega) a2
      · rw [if_neg z0, if_neg z0]
        exact ih (x + 1) _ _ _ m1 (by omega) (by omega) (by omega) a2
    · rw [if_neg z, if_neg z]
      exact ih (x + 1) _ _ _ m1 (by omega) h0 (by omega) a2
theorem C_warm (hi : C_is w h n heat price D A c U kn KS cs m) (hN : w_N w h n heat D) (ht : 0 ≤ A 35 ∧ A 35 ≤ 1073741824) (r v : Int) : ∃ m1, z_R 125 (m, 0, [(2, 0), (0, r), (0, v), (9, 0), (9, 0), (9, 0), (9, 0)], []) = some (m1, some (0, o_warm w h n heat cs D A r v)) ∧ C_is w h n heat price D A c U kn KS cs m1 := by
  rw [u_wrm_0, hi.1.1, hi.1.2.1]
  by_cases c1 : u_hs (w : Int) (h : Int) r = 0
  · have e : o_warm w h n heat cs D A r v = -1 := if_neg (fun z => z.1 c1)
    rw [if_neg (not_not_intro c1), e]
    exact ⟨m, rfl, hi⟩
  rw [if_pos c1]
  by_cases c2 : v < 0
  · have e : o_warm w h n heat cs D A r v = -1 := if_neg (fun z => by have := z.2; omega)
    rw [if_pos c2, e]
    exact ⟨m, rfl, hi⟩
  rw [if_neg c2]
  by_cases c3 : v ≤ 99
  · have hr := u_hs_rng c1
    have e : o_warm w h n heat cs D A r v = o_cnt (o_mel n heat cs D A r.toNat) v (2 ^ n) 0 0 := if_pos ⟨c1, by omega, c3⟩
    obtain ⟨q, rfl⟩ : ∃ q : Nat, r = (q : Int) := ⟨r.toNat, by omega⟩
    rw [Int.toNat_natCast] at e
    rw [if_pos c3, e]
    exact C_wrm1 hN ht (by omega) (2 ^ n) 0 (-1) 0 0 m (by omega) (by decide) (by decide) hi
  · have e : o_warm w h n heat cs D A r v = -1 := if_neg (fun z => by have := z.2; omega)
    rw [if_neg c3, e]
    exact ⟨m, rfl, hi⟩
/-! the reference -/
theorem R_mbs (hi : R_is w h n heat price D A c U kn KS cs m) (hN : w_N w h n heat D) (hok : hr_ok n A) (ht : 0 ≤ A 35 ∧ A 35 ≤ 1073741824) {r : Nat} (hr : r < 9) (b : Int) : ∃ m1, z_R 188 (m, 0, [(2, 251), (2, 252), (0, (r : Int)), (0, b)], []) = some (m1, some (0, o_mel n heat cs D A r b)) ∧ R_is w h n heat price D A c U kn KS cs m1 := by
  have h5 := hN.1.2.2
  obtain ⟨c1, c2, c3, c4, c5, c6, c7⟩ := R_cfg hi
  have ea : ∀ k, k < 18 ∨ 33 ≤ k → k < 37 → m 252 k = A k := fun k hk h37 => R_A hi h37 (by
    rcases hk with hk | hk
    · exact a_vis_lo hk
    · exact a_vis_hi hk)
  have hrg : r_rg 252 m := by
    refine ⟨fun k hk => ?_, ?_, ?_⟩
    · have p1 := hok.1 k hk
      have p2 := hok.2.1 k hk
      rw [ea k (by omega) (by omega), ea (k + 9) (by omega) (by omega)]
      omega
    · rw [ea 36 (by omega) (by omega)]
      have := hok.2.2.2
      omega
    · rw [ea 35 (by omega) (by omega)]
      omega
  have hb := hN.2.1
  have hW : r_i (hr_wb heat (wmD D (A 35)) n (rS m 252 n) r b) := by
    unfold hr_wb r_i
    by_cases z : rS m 252 n 34 = (r : Int)
    · rw [if_pos z]
      have := hr_s_rg (b := b) (hN.2.2 (A 35) ht.1) n 0 heat (by omega) (by omega) (by omega)
      omega
    · rw [if_neg z]
      have := hr_s_rg (b := b) (hN.2.2 (A 35) ht.1) n 0 0 (by omega) (by omega) (by omega)
      omega
  have hP : r_i (hr_pc b) := by
    have := hr_pc_b b
    unfold r_i
    omega
  obtain ⟨m1, a1, a2⟩ := r_mb z_A_252 (Or.inl rfl) h5 (ml := c_ml cs) (b := b) (t := A 35) (heat := heat) (wm := wmD D (A 35)) ht.1 (by omega) m c3 c4 (ea 35 (by omega) (by omega)) (fun p hp => c6 (A 35) ht.1 p hp) c7 hr hrg hW hP
  rw [hi.2.2.1] at a1
  have a1 : z_R 188 (m, 0, [(2, 251), (2, 252), (0, (r : Int)), (0, b)], []) = some (m1, some (0, o_mel n heat cs D A r b)) := a1
  refine ⟨m1, a1, R_fr hi fun p k hk => ?_⟩
  have hk' := hk
  unfold R_hit at hk'
  have hk' := of_decide_eq_true hk'
  exact a2.of (by (repeat' (first | exact trivial | refine z_of_c ?_ ?_)) <;> omega)
theorem R_wrm1 (hN : w_N w h n heat D) (hok : hr_ok n A) (ht : 0 ≤ A 35 ∧ A 35 ≤ 1073741824) {r : Nat} (hr : r < 9) {v : Int} : ∀ (f x : Nat) (k y4 y5 : Int) (m : z_M), x + f = 2 ^ n → 0 ≤ k → k ≤ (x : Int) → R_is w h n heat price D A c U kn KS cs m → ∃ m1, z_R 243 (m, 43, [(2, 251), (0, (r : Int)), (0, v), (0, k), (0, y4), (0, y5), (0, (x : Int))], []) = some (m1, some (0, o_cnt (o_mel n heat cs D A r) v f x k)) ∧ R_is w h n heat price D A c U kn KS cs m1 := by
  have h5 := hN.1.2.2
  have h32 := z_p32 h5
  intro f
  induction f with
  | zero =>
    intro x k y4 y5 m hx h0 h1 hi
    rw [u_twr_43, hi.1.2.2.1, z_p2 h5, if_pos (by omega), t_tell0, zb_n, u_twr_113]
    by_cases z : k = 0
    · rw [if_pos z, t_tell1, zb_n, u_twr_128]
      exact ⟨_, rfl, R_upn (R_upn (R_upn (R_upn (R_upn hi (by decide)) (by decide)) (by decide)) (by decide)) (by decide)⟩
    · rw [if_neg z, t_tell1, zb_n, u_twr_128]
      exact ⟨_, rfl, R_upn (R_upn (R_upn (R_upn (R_upn hi (by decide)) (by decide)) (by decide)) (by decide)) (by decide)⟩
  | succ f ih =>
    intro x k y4 y5 m hx h0 h1 hi
    obtain ⟨m1, a1, a2⟩ := R_mbs hi hN hok ht hr (x : Int)
    rw [u_twr_43, hi.1.2.2.1, z_p2 h5, if_neg (by omega), a1, zb_v, u_twr_65, z_add_eq (x := (x : Int)) (y := 1) (by omega) (by omega), tc1, z_add_eq (x := k) (y := 1) (by omega) (by omega)]
    unfold o_cnt
    by_cases z : o_mel n heat cs D A r (x : Int) = v
    · rw [if_pos z, if_pos z]
      by_cases z0 : k = 0
      · rw [if_pos z0]
        exact ih (x + 1) _ _ _ m1 (by omega) (by omega) (by omega) a2
      · rw [if_neg z0]
        exact ih (x + 1) _ _ _ m1 (by omega) (by omega) (by omega) a2
    · rw [if_neg z, if_neg z]
      exact ih (x + 1) _ _ _ m1 (by omega) h0 (by omega) a2
theorem R_warm (hi : R_is w h n heat price D A c U kn KS cs m) (hN : w_N w h n heat D) (hok : hr_ok n A) (ht : 0 ≤ A 35 ∧ A 35 ≤ 1073741824) (r v : Int) : ∃ m1, z_R 243 (m, 0, [(2, 251), (0, r), (0, v), (9, 0), (9, 0), (9, 0), (9, 0)], []) = some (m1, some (0, o_warm w h n heat cs D A r v)) ∧ R_is w h n heat price D A c U kn KS cs m1 := by
  have hu := R_upn (p0 := 251) (k0 := 11) (v := 0) hi (by decide)
  rw [u_twr_0, hi.1.1, hi.1.2.1]
  by_cases c1 : u_hs (w : Int) (h : Int) r = 0
  · have e : o_warm w h n heat cs D A r v = -1 := if_neg (fun z => z.1 c1)
    rw [if_neg (not_not_intro c1), e]
    exact ⟨_, rfl, hu⟩
  rw [if_pos c1]
  by_cases c2 : 0 ≤ v ∧ v ≤ 99
  · have hr := u_hs_rng c1
    have e : o_warm w h n heat cs D A r v = o_cnt (o_mel n heat cs D A r.toNat) v (2 ^ n) 0 0 := if_pos ⟨c1, c2⟩
    obtain ⟨q, rfl⟩ : ∃ q : Nat, r = (q : Int) := ⟨r.toNat, by omega⟩
    rw [Int.toNat_natCast] at e
    rw [if_pos c2, e]
    exact R_wrm1 hN hok ht (by omega) (2 ^ n) 0 0 _ _ _ (by omega) (by decide) (by decide) hu
  · have e : o_warm w h n heat cs D A r v = -1 := if_neg (fun z => c2 z.2)
    rw [if_neg c2, e]
    exact ⟨_, rfl, hu⟩
end
theorem core_warm : l_rel2 Rel_C (930, 140, 125, 2, false, 947, 143, 243) := by
  intro M1 M2 M3 σ σ1 σ2 as v1 v2 C1 C2 ρ1 ρ2 ha hR hh hM1 hC1 hp1 hE1 hC2 hp2 hE2
  obtain ⟨r, v, rfl⟩ := as_two ha
  have hE1 : z_R 125 (z_m σ, 0, [(2, 0), (0, r.toInt), (0, v.toInt), (9, 0), (9, 0), (9, 0), (9, 0)], []) = some (z_m σ1, some (0, v1.toInt)) := z_R_iff.mpr hE1
  have hE2 : z_R 243 (z_m σ1, 0, [(2, 251), (0, r.toInt), (0, v.toInt), (9, 0), (9, 0), (9, 0), (9, 0)], []) = some (z_m σ2, some (0, v2.toInt)) := z_R_iff.mpr hE2
  have hT := T_two (y1 := 125) (y2 := 243) (by decide +kernel) (by decide +kernel) hC1 hC2 hp1 hp2 hR.1
  obtain ⟨w, h, n, heat, price, D, A, c, U, kn, KS, cs, cC, cR, cW⟩ := hR.2
  obtain ⟨b1, b2, -, -, hok, b35, -, b7⟩ := core_b hh hM1 cR
  have hN : w_N w h n heat D := ⟨b1, b2, b7⟩
  have f1 := R_off2_ok (y := 125) (by decide +kernel) hC1 hp1
  have f2 := C_off_ok (y := 243) (by decide +kernel) hC2 hp2
  have cR1 := R_fr cR f1
  have z := core_do cR1 (fun q => C_fr q f2) (C_warm cC hN b35 r.toInt v.toInt) (fun q => R_warm q hN hok b35 r.toInt v.toInt) hE1 hE2
  exact ⟨⟨hT, Core_mk z.1.1 z.1.2 cW⟩, fun _ => z.2⟩
end
section
/-! STRETCHES of charges, with bounds done -/
theorem v_chg_0  (m : z_M) (n : Int) : z_R 123 (m, 0, [(2, 0), (0, n), (9, 0), (9, 0), (9, 0)], []) = if n < 0 then some (m, some (0, (-1))) else if n ≤ 100 then (z_R 61 (m, 0, [(2, 18), (2, 12)], [])).bind fun qq => z_R 123 (qq.1, 23, [(2, 0), (0, n), (9, 0), (9, 0), (9, 0)], qq.2.toList ++ []) else some (m, some (0, (-1))) :=
  have hK : kt_at 123 = kt_123 := rfl
  (z_R_run hK (n := 1) (g' := (m, 1, [(2, 0), (0, n), (9, 0), (9, 0), (9, 0)], [(0, n)])) rfl).trans (z_R_ifd hK (c := n < 0) (p1 := 10) (p2 := 4) rfl rfl rfl (fun h1 => (z_R_run hK (n := 1) (g' := (m, 11, [(2, 0), (0, n), (9, 0), (9, 0), (9, 0)], [(0, (-1))])) rfl).trans (z_R_ret hK rfl rfl rfl)) (fun h1 => (z_R_run hK (n := 2) (g' := (m, 7, [(2, 0), (0, n), (9, 0), (9, 0), (9, 0)], [(0, 100), (0, n)])) rfl).trans (z_R_ifd hK (c := n ≤ 100) (p1 := 12) (p2 := 10) rfl rfl rfl (fun h2 => (z_R_run hK (n := 2) (g' := (m, 16, [(2, 0), (0, n), (9, 0), (9, 0), (9, 0)], [(2, 18)])) rfl).trans ((z_R_run hK (n := 2) (g' := (m, 20, [(2, 0), (0, n), (9, 0), (9, 0), (9, 0)], [(2, 12), (2, 18)])) rfl).trans (z_R_call hK rfl rfl rfl rfl rfl))) (fun h2 => (z_R_run hK (n := 1) (g' := (m, 11, [(2, 0), (0, n), (9, 0), (9, 0), (9, 0)], [(0, (-1))])) rfl).trans (z_R_ret hK rfl rfl rfl)))))
theorem v_chg_23  (m : z_M) (x1 : Int) : z_R 123 (m, 23, [(2, 0), (0, x1), (9, 0), (9, 0), (9, 0)], []) = (z_R 78 (m, 0, [(2, 0)], [])).bind fun qq => z_R 123 (qq.1, 27, [(2, 0), (0, x1), (9, 0), (9, 0), (9, 0)], qq.2.toList ++ []) :=
  have hK : kt_at 123 = kt_123 := rfl
  (z_R_run hK (n := 1) (g' := (m, 24, [(2, 0), (0, x1), (9, 0), (9, 0), (9, 0)], [(2, 0)])) rfl).trans (z_R_call hK rfl rfl rfl rfl rfl)
theorem v_chg_27  (m : z_M) (x1 : Int) : z_R 123 (m, 27, [(2, 0), (0, x1), (9, 0), (9, 0), (9, 0)], []) = z_R 123 (m, 29, [(2, 0), (0, x1), (0, 0), (9, 0), (9, 0)], []) :=
  have hK : kt_at 123 = kt_123 := rfl
  (z_R_run hK (n := 2) (g' := (m, 29, [(2, 0), (0, x1), (0, 0), (9, 0), (9, 0)], [])) rfl).trans (rfl)
theorem v_chg_29  (m : z_M) (x1 : Int) (x2 : Int) (h_n : 0 ≤ m 3 11 ∧ m 3 11 ≤ 5) : z_R 123 (m, 29, [(2, 0), (0, x1), (0, x2), (9, 0), (9, 0)], []) = if m 3 11 ≤ x2 then z_R 123 (m, 53, [(2, 0), (0, x1), (0, 0), (9, 0), (9, 0)], []) else (z_R 79 (m, 0, [(2, 0), (1, 0), (9, 0)], [])).bind fun qq => z_R 123 (qq.1, 45, [(2, 0), (0, x1), (0, x2), (9, 0), (9, 0)], qq.2.toList ++ []) :=
  have hK : kt_at 123 = kt_123 := rfl
  (z_R_run hK (n := 3) (g' := (m, 34, [(2, 0), (0, x1), (0, x2), (9, 0), (9, 0)], [(2, 3), (0, x2)])) rfl).trans ((z_R_run hK (n := 1) (g' := (m, 37, [(2, 0), (0, x1), (0, x2), (9, 0), (9, 0)], [(0, m 3 11), (0, x2)])) rfl).trans (z_R_ifd hK (c := m 3 11 ≤ x2) (p1 := 51) (p2 := 40) rfl rfl rfl (fun h1 => (z_R_run hK (n := 2) (g' := (m, 53, [(2, 0), (0, x1), (0, 0), (9, 0), (9, 0)], [])) rfl).trans (rfl)) (fun h1 => (z_R_run hK (n := 2) (g' := (m, 42, [(2, 0), (0, x1), (0, x2), (9, 0), (9, 0)], [(1, 0), (2, 0)])) rfl).trans (z_R_call hK rfl rfl rfl rfl rfl))))
theorem v_chg_45  (m : z_M) (x1 : Int) (x2 : Int) : z_R 123 (m, 45, [(2, 0), (0, x1), (0, x2), (9, 0), (9, 0)], []) = z_R 123 (m, 29, [(2, 0), (0, x1), (0, z_add x2 1), (9, 0), (9, 0)], []) :=
  have hK : kt_at 123 = kt_123 := rfl
  (z_R_run hK (n := 2) (g' := (m, 29, [(2, 0), (0, x1), (0, z_add x2 1), (9, 0), (9, 0)], [])) rfl).trans (rfl)
theorem v_chg_53  (m : z_M) (x1 : Int) (x2 : Int) (v3 : z_V) : z_R 123 (m, 53, [(2, 0), (0, x1), (0, x2), v3, (9, 0)], []) = if x1 ≤ x2 then z_R 123 (m, 138, [(2, 0), (0, x1), (1, 0), v3, (0, 0)], []) else z_R 123 (m, 60, [(2, 0), (0, x1), (0, x2), (0, 0), (9, 0)], []) :=
  have hK : kt_at 123 = kt_123 := rfl
  (z_R_run hK (n := 2) (g' := (m, 55, [(2, 0), (0, x1), (0, x2), v3, (9, 0)], [(0, x1), (0, x2)])) rfl).trans (z_R_ifd hK (c := x1 ≤ x2) (p1 := 133) (p2 := 58) rfl rfl rfl (fun h1 => (z_R_run hK (n := 4) (g' := (m, 138, [(2, 0), (0, x1), (1, 0), v3, (0, 0)], [])) rfl).trans (rfl)) (fun h1 => (z_R_run hK (n := 2) (g' := (m, 60, [(2, 0), (0, x1), (0, x2), (0, 0), (9, 0)], [])) rfl).trans (rfl)))
theorem v_chg_60  (m : z_M) (x1 : Int) (x2 : Int) (x3 : Int) (h_n : 0 ≤ m 3 11 ∧ m 3 11 ≤ 5) : z_R 123 (m, 60, [(2, 0), (0, x1), (0, x2), (0, x3), (9, 0)], []) = if m 3 11 ≤ x3 then (z_R 67 (m, 0, [(2, 24), (2, 18), (0, 1), (9, 0)], [])).bind fun qq => z_R 123 (qq.1, 127, [(2, 0), (0, x1), (0, x2), (0, x3), (9, 0)], qq.2.toList ++ []) else if 0 ≤ x3 ∧ x3 < 5 then if m 21 (x3).toNat = (-1) then z_R 123 (m, 60, [(2, 0), (0, x1), (0, x2), (0, x3 + 1), (9, 0)], []) else (z_R 70 (m, 0, [(2, 24), (0, x3), (0, m 18 7), (9, 0)], [])).bind fun qq => z_R 123 (qq.1, 106, [(2, 0), (0, x1), (0, x2), (0, x3), (9, 0)], qq.2.toList ++ [(1, m 250 (x3).toNat), (0, x3), (2, 250)]) else none :=
  have hK : kt_at 123 = kt_123 := rfl
  (z_R_run hK (n := 3) (g' := (m, 65, [(2, 0), (0, x1), (0, x2), (0, x3), (9, 0)], [(2, 3), (0, x3)])) rfl).trans ((z_R_run hK (n := 1) (g' := (m, 68, [(2, 0), (0, x1), (0, x2), (0, x3), (9, 0)], [(0, m 3 11), (0, x3)])) rfl).trans (z_R_ifd hK (c := m 3 11 ≤ x3) (p1 := 115) (p2 := 71) rfl rfl rfl (fun h1 => (z_R_run hK (n := 2) (g' := (m, 119, [(2, 0), (0, x1), (0, x2), (0, x3), (9, 0)], [(2, 24)])) rfl).trans ((z_R_run hK (n := 2) (g' := (m, 123, [(2, 0), (0, x1), (0, x2), (0, x3), (9, 0)], [(2, 18), (2, 24)])) rfl).trans ((z_R_run hK (n := 1) (g' := (m, 124, [(2, 0), (0, x1), (0, x2), (0, x3), (9, 0)], [(0, 1), (2, 18), (2, 24)])) rfl).trans (z_R_call hK rfl rfl rfl rfl rfl)))) (fun h1 => (z_R_run hK (n := 2) (g' := (m, 75, [(2, 0), (0, x1), (0, x2), (0, x3), (9, 0)], [(2, 18)])) rfl).trans ((z_R_run hK (n := 1) (g' := (m, 78, [(2, 0), (0, x1), (0, x2), (0, x3), (9, 0)], [(2, 21)])) rfl).trans ((z_R_run hK (n := 1) (g' := (m, 79, [(2, 0), (0, x1), (0, x2), (0, x3), (9, 0)], [(0, x3), (2, 21)])) rfl).trans (z_R_ixD hK (n := 5) (g' := (m, 80, [(2, 0), (0, x1), (0, x2), (0, x3), (9, 0)], [(0, m 21 (x3).toNat)])) rfl rfl rfl  (fun h2 => (z_R_run hK (n := 1) (g' := (m, 81, [(2, 0), (0, x1), (0, x2), (0, x3), (9, 0)], [(0, (-1)), (0, m 21 (x3).toNat)])) rfl).trans (z_R_ifd hK (c := m 21 (x3).toNat = (-1)) (p1 := 109) (p2 := 84) rfl rfl rfl (fun h3 => (z_R_run hK (n := 1) (g' := (m, 112, [(2, 0), (0, x1), (0, x2), (0, z_add x3 1), (9, 0)], [])) rfl).trans ((congrArg (fun vv => z_R 123 (m, 112, [(2, 0), (0, x1), (0, x2), (0, vv), (9, 0)], [])) (z_add_eq (by omega) (by omega))).trans ((z_R_run hK (n := 1) (g' := (m, 60, [(2, 0), (0, x1), (0, x2), (0, x3 + 1), (9, 0)], [])) rfl).trans (rfl)))) (fun h3 => (z_R_run hK (n := 2) (g' := (m, 88, [(2, 0), (0, x1), (0, x2), (0, x3), (9, 0)], [(2, 250)])) rfl).trans ((z_R_run hK (n := 2) (g' := (m, 90, [(2, 0), (0, x1), (0, x2), (0, x3), (9, 0)], [(0, x3), (2, 250), (0, x3), (2, 250)])) rfl).trans (z_R_ixT hK (n := 9) (g' := (m, 91, [(2, 0), (0, x1), (0, x2), (0, x3), (9, 0)], [(1, m 250 (x3).toNat), (0, x3), (2, 250)])) rfl rfl rfl  (show 0 ≤ x3 ∧ x3 < 9 by omega) ((z_R_run hK (n := 2) (g' := (m, 95, [(2, 0), (0, x1), (0, x2), (0, x3), (9, 0)], [(2, 24), (1, m 250 (x3).toNat), (0, x3), (2, 250)])) rfl).trans ((z_R_run hK (n := 3) (g' := (m, 100, [(2, 0), (0, x1), (0, x2), (0, x3), (9, 0)], [(2, 18), (0, x3), (2, 24), (1, m 250 (x3).toNat), (0, x3), (2, 250)])) rfl).trans ((z_R_run hK (n := 1) (g' := (m, 103, [(2, 0), (0, x1), (0, x2), (0, x3), (9, 0)], [(0, m 18 7), (0, x3), (2, 24), (1, m 250 (x3).toNat), (0, x3), (2, 250)])) rfl).trans (z_R_call hK rfl rfl rfl rfl rfl)))))))))))))))
theorem v_chg_106  (m : z_M) (x1 : Int) (x2 : Int) (x3 : Int) (s0 : Int) (s1 : Int) (u : Int) : z_R 123 (m, 106, [(2, 0), (0, x1), (0, x2), (0, x3), (9, 0)], [(0, u), (1, s0), (0, s1), (2, 250)]) = if 0 ≤ s1 ∧ s1 < 9 then z_R 123 (z_up m 250 (s1).toNat (z_ladd s0 (z_i2l u)), 60, [(2, 0), (0, x1), (0, x2), (0, z_add x3 1), (9, 0)], []) else none :=
  have hK : kt_at 123 = kt_123 := rfl
  (z_R_run hK (n := 2) (g' := (m, 108, [(2, 0), (0, x1), (0, x2), (0, x3), (9, 0)], [(1, z_ladd s0 (z_i2l u)), (0, s1), (2, 250)])) rfl).trans (z_R_ixD hK (n := 9) (g' := (z_up m 250 (s1).toNat (z_ladd s0 (z_i2l u)), 109, [(2, 0), (0, x1), (0, x2), (0, x3), (9, 0)], [])) rfl rfl rfl (fun h1 => (z_R_run hK (n := 2) (g' := (z_up m 250 (s1).toNat (z_ladd s0 (z_i2l u)), 60, [(2, 0), (0, x1), (0, x2), (0, z_add x3 1), (9, 0)], [])) rfl).trans (rfl)))
theorem v_chg_127  (m : z_M) (x1 : Int) (x2 : Int) (x3 : Int) : z_R 123 (m, 127, [(2, 0), (0, x1), (0, x2), (0, x3), (9, 0)], []) = z_R 123 (m, 53, [(2, 0), (0, x1), (0, z_add x2 1), (0, x3), (9, 0)], []) :=
  have hK : kt_at 123 = kt_123 := rfl
  (z_R_run hK (n := 2) (g' := (m, 53, [(2, 0), (0, x1), (0, z_add x2 1), (0, x3), (9, 0)], [])) rfl).trans (rfl)
theorem v_chg_138  (m : z_M) (x1 : Int) (x2 : Int) (v3 : z_V) (x4 : Int) (h_n : 0 ≤ m 3 11 ∧ m 3 11 ≤ 5) : z_R 123 (m, 138, [(2, 0), (0, x1), (1, x2), v3, (0, x4)], []) = if m 3 11 ≤ x4 then some (m, some (0, z_l2i x2)) else if 0 ≤ x4 ∧ x4 < 9 then z_R 123 (m, 138, [(2, 0), (0, x1), (1, if (m 250 (x4).toNat) < x2 then x2 else (m 250 (x4).toNat)), v3, (0, x4 + 1)], []) else none :=
  have hK : kt_at 123 = kt_123 := rfl
  (z_R_run hK (n := 3) (g' := (m, 144, [(2, 0), (0, x1), (1, x2), v3, (0, x4)], [(2, 3), (0, x4)])) rfl).trans ((z_R_run hK (n := 1) (g' := (m, 147, [(2, 0), (0, x1), (1, x2), v3, (0, x4)], [(0, m 3 11), (0, x4)])) rfl).trans (z_R_ifd hK (c := m 3 11 ≤ x4) (p1 := 168) (p2 := 150) rfl rfl rfl (fun h1 => (z_R_run hK (n := 2) (g' := (m, 170, [(2, 0), (0, x1), (1, x2), v3, (0, x4)], [(0, z_l2i x2)])) rfl).trans (z_R_ret hK rfl rfl rfl)) (fun h1 => (z_R_run hK (n := 3) (g' := (m, 155, [(2, 0), (0, x1), (1, x2), v3, (0, x4)], [(2, 250), (1, x2)])) rfl).trans ((z_R_run hK (n := 1) (g' := (m, 157, [(2, 0), (0, x1), (1, x2), v3, (0, x4)], [(0, x4), (2, 250), (1, x2)])) rfl).trans (z_R_ixD hK (n := 9) (g' := (m, 158, [(2, 0), (0, x1), (1, x2), v3, (0, x4)], [(1, m 250 (x4).toNat), (1, x2)])) rfl rfl rfl  (fun h2 => (z_R_run hK (n := 3) (g' := (m, 165, [(2, 0), (0, x1), (1, if (m 250 (x4).toNat) < x2 then x2 else (m 250 (x4).toNat)), v3, (0, z_add x4 1)], [])) rfl).trans ((congrArg (fun vv => z_R 123 (m, 165, [(2, 0), (0, x1), (1, if (m 250 (x4).toNat) < x2 then x2 else (m 250 (x4).toNat)), v3, (0, vv)], [])) (z_add_eq (by omega) (by omega))).trans ((z_R_run hK (n := 1) (g' := (m, 138, [(2, 0), (0, x1), (1, if (m 250 (x4).toNat) < x2 then x2 else (m 250 (x4).toNat)), v3, (0, x4 + 1)], [])) rfl).trans (rfl)))))))))
theorem v_tch_0  (m : z_M) (n : Int) : z_R 242 (m, 0, [(2, 251), (0, n), (9, 0), (9, 0)], []) = (z_R 218 (z_up m 251 11 0, 0, [(0, n)], [])).bind fun qq => z_R 242 (qq.1, 9, [(2, 251), (0, n), (9, 0), (9, 0)], qq.2.toList ++ []) :=
  have hK : kt_at 242 = kt_242 := rfl
  (z_R_run hK (n := 4) (g' := (z_up m 251 11 0, 6, [(2, 251), (0, n), (9, 0), (9, 0)], [(0, n)])) rfl).trans (z_R_call hK rfl rfl rfl rfl rfl)
theorem v_tch_9  (m : z_M) (x1 : Int) (u : Int) : z_R 242 (m, 9, [(2, 251), (0, x1), (9, 0), (9, 0)], [(0, u)]) = if u = 0 then some (m, some (0, (-1))) else (z_R 219 (m, 0, [(2, 251)], [])).bind fun qq => z_R 242 (qq.1, 18, [(2, 251), (0, x1), (9, 0), (9, 0)], qq.2.toList ++ []) :=
  have hK : kt_at 242 = kt_242 := rfl
  z_R_ifnd hK (c := u = 0) (p1 := 14) (p2 := 12) rfl rfl rfl (fun h1 => (z_R_run hK (n := 1) (g' := (m, 15, [(2, 251), (0, x1), (9, 0), (9, 0)], [(2, 251)])) rfl).trans (z_R_call hK rfl rfl rfl rfl rfl)) (fun h1 => (z_R_run hK (n := 1) (g' := (m, 13, [(2, 251), (0, x1), (9, 0), (9, 0)], [(0, (-1))])) rfl).trans (z_R_ret hK rfl rfl rfl))
theorem v_tch_18  (m : z_M) (x1 : Int) : z_R 242 (m, 18, [(2, 251), (0, x1), (9, 0), (9, 0)], []) = z_R 242 (m, 20, [(2, 251), (0, x1), (0, 0), (9, 0)], []) :=
  have hK : kt_at 242 = kt_242 := rfl
  (z_R_run hK (n := 2) (g' := (m, 20, [(2, 251), (0, x1), (0, 0), (9, 0)], [])) rfl).trans (rfl)
theorem v_tch_20  (m : z_M) (x1 : Int) (x2 : Int) : z_R 242 (m, 20, [(2, 251), (0, x1), (0, x2), (9, 0)], []) = if 5 ≤ x2 then z_R 242 (m, 40, [(2, 251), (0, x1), (0, 0), (9, 0)], []) else if 0 ≤ x2 ∧ x2 < 5 then z_R 242 (z_up m 268 (x2).toNat 0, 20, [(2, 251), (0, x1), (0, x2 + 1), (9, 0)], []) else none :=
  have hK : kt_at 242 = kt_242 := rfl
  (z_R_run hK (n := 2) (g' := (m, 22, [(2, 251), (0, x1), (0, x2), (9, 0)], [(0, 5), (0, x2)])) rfl).trans (z_R_ifd hK (c := 5 ≤ x2) (p1 := 38) (p2 := 25) rfl rfl rfl (fun h1 => (z_R_run hK (n := 2) (g' := (m, 40, [(2, 251), (0, x1), (0, 0), (9, 0)], [])) rfl).trans (rfl)) (fun h1 => (z_R_run hK (n := 2) (g' := (m, 29, [(2, 251), (0, x1), (0, x2), (9, 0)], [(2, 268)])) rfl).trans ((z_R_run hK (n := 2) (g' := (m, 31, [(2, 251), (0, x1), (0, x2), (9, 0)], [(0, 0), (0, x2), (2, 268)])) rfl).trans (z_R_ixD hK (n := 5) (g' := (z_up m 268 (x2).toNat 0, 32, [(2, 251), (0, x1), (0, x2), (9, 0)], [])) rfl rfl rfl (fun h2 => (z_R_run hK (n := 1) (g' := (z_up m 268 (x2).toNat 0, 35, [(2, 251), (0, x1), (0, z_add x2 1), (9, 0)], [])) rfl).trans ((congrArg (fun vv => z_R 242 (z_up m 268 (x2).toNat 0, 35, [(2, 251), (0, x1), (0, vv), (9, 0)], [])) (z_add_eq (by omega) (by omega))).trans ((z_R_run hK (n := 1) (g' := (z_up m 268 (x2).toNat 0, 20, [(2, 251), (0, x1), (0, x2 + 1), (9, 0)], [])) rfl).trans (rfl))))))))
theorem v_tch_40  (m : z_M) (x1 : Int) (x2 : Int) (v3 : z_V) : z_R 242 (m, 40, [(2, 251), (0, x1), (0, x2), v3], []) = if x1 ≤ x2 then z_R 242 (z_up m 251 10 0, 119, [(2, 251), (0, x1), (0, 0), (0, 0)], []) else z_R 242 (m, 47, [(2, 251), (0, x1), (0, x2), (0, 0)], []) :=
  have hK : kt_at 242 = kt_242 := rfl
  (z_R_run hK (n := 2) (g' := (m, 42, [(2, 251), (0, x1), (0, x2), v3], [(0, x1), (0, x2)])) rfl).trans (z_R_ifd hK (c := x1 ≤ x2) (p1 := 110) (p2 := 45) rfl rfl rfl (fun h1 => (z_R_run hK (n := 7) (g' := (z_up m 251 10 0, 119, [(2, 251), (0, x1), (0, 0), (0, 0)], [])) rfl).trans (rfl)) (fun h1 => (z_R_run hK (n := 2) (g' := (m, 47, [(2, 251), (0, x1), (0, x2), (0, 0)], [])) rfl).trans (rfl)))
theorem v_tch_47  (m : z_M) (x1 : Int) (x2 : Int) (x3 : Int) (h_n : 0 ≤ m 251 3 ∧ m 251 3 ≤ 5) : z_R 242 (m, 47, [(2, 251), (0, x1), (0, x2), (0, x3)], []) = if m 251 3 ≤ x3 then (z_R 208 (m, 0, [(2, 251), (2, 264), (9, 0), (9, 0), (9, 0)], [])).bind fun qq => z_R 242 (qq.1, 104, [(2, 251), (0, x1), (0, x2), (0, x3)], qq.2.toList ++ []) else if 0 ≤ x3 ∧ x3 < 5 then if m 264 (x3 + 18).toNat = (-1) then z_R 242 (z_up m 268 (x3).toNat (z_add (m 268 (x3).toNat) 0), 47, [(2, 251), (0, x1), (0, x2), (0, x3 + 1)], []) else (z_R 186 (m, 0, [(2, 251), (2, 264), (0, x3)], [])).bind fun qq => z_R 242 (qq.1, 88, [(2, 251), (0, x1), (0, x2), (0, x3)], qq.2.toList ++ [(0, m 268 (x3).toNat), (0, x3), (2, 268)]) else none :=
  have hK : kt_at 242 = kt_242 := rfl
  (z_R_run hK (n := 3) (g' := (m, 52, [(2, 251), (0, x1), (0, x2), (0, x3)], [(0, m 251 3), (0, x3)])) rfl).trans (z_R_ifd hK (c := m 251 3 ≤ x3) (p1 := 96) (p2 := 55) rfl rfl rfl (fun h1 => (z_R_run hK (n := 3) (g' := (m, 101, [(2, 251), (0, x1), (0, x2), (0, x3)], [(2, 264), (2, 251)])) rfl).trans (z_R_call hK rfl rfl rfl rfl rfl)) (fun h1 => (z_R_run hK (n := 2) (g' := (m, 59, [(2, 251), (0, x1), (0, x2), (0, x3)], [(2, 268)])) rfl).trans ((z_R_run hK (n := 2) (g' := (m, 61, [(2, 251), (0, x1), (0, x2), (0, x3)], [(0, x3), (2, 268), (0, x3), (2, 268)])) rfl).trans (z_R_ixD hK (n := 5) (g' := (m, 62, [(2, 251), (0, x1), (0, x2), (0, x3)], [(0, m 268 (x3).toNat), (0, x3), (2, 268)])) rfl rfl rfl  (fun h2 => (z_R_run hK (n := 2) (g' := (m, 66, [(2, 251), (0, x1), (0, x2), (0, x3)], [(2, 264), (0, m 268 (x3).toNat), (0, x3), (2, 268)])) rfl).trans ((z_R_run hK (n := 3) (g' := (m, 70, [(2, 251), (0, x1), (0, x2), (0, x3)], [(0, z_add 18 x3), (2, 264), (0, m 268 (x3).toNat), (0, x3), (2, 268)])) rfl).trans ((congrArg (fun vv => z_R 242 (m, 70, [(2, 251), (0, x1), (0, x2), (0, x3)], [(0, vv), (2, 264), (0, m 268 (x3).toNat), (0, x3), (2, 268)])) ((z_add_eq (by omega) (by omega)).trans (by omega))).trans (z_R_ixT hK (n := 37) (g' := (m, 71, [(2, 251), (0, x1), (0, x2), (0, x3)], [(0, m 264 (x3 + 18).toNat), (0, m 268 (x3).toNat), (0, x3), (2, 268)])) rfl rfl rfl  (show 0 ≤ x3 + 18 ∧ x3 + 18 < 37 by omega) ((z_R_run hK (n := 1) (g' := (m, 72, [(2, 251), (0, x1), (0, x2), (0, x3)], [(0, (-1)), (0, m 264 (x3 + 18).toNat), (0, m 268 (x3).toNat), (0, x3), (2, 268)])) rfl).trans (z_R_ifnd hK (c := m 264 (x3 + 18).toNat = (-1)) (p1 := 79) (p2 := 75) rfl rfl rfl (fun h3 => (z_R_run hK (n := 3) (g' := (m, 84, [(2, 251), (0, x1), (0, x2), (0, x3)], [(2, 264), (2, 251), (0, m 268 (x3).toNat), (0, x3), (2, 268)])) rfl).trans ((z_R_run hK (n := 1) (g' := (m, 85, [(2, 251), (0, x1), (0, x2), (0, x3)], [(0, x3), (2, 264), (2, 251), (0, m 268 (x3).toNat), (0, x3), (2, 268)])) rfl).trans (z_R_call hK rfl rfl rfl rfl rfl))) (fun h3 => (z_R_run hK (n := 3) (g' := (m, 89, [(2, 251), (0, x1), (0, x2), (0, x3)], [(0, z_add (m 268 (x3).toNat) 0), (0, x3), (2, 268)])) rfl).trans (z_R_ixT hK (n := 5) (g' := (z_up m 268 (x3).toNat (z_add (m 268 (x3).toNat) 0), 90, [(2, 251), (0, x1), (0, x2), (0, x3)], [])) rfl rfl rfl (show 0 ≤ x3 ∧ x3 < 5 by omega) ((z_R_run hK (n := 1) (g' := (z_up m 268 (x3).toNat (z_add (m 268 (x3).toNat) 0), 93, [(2, 251), (0, x1), (0, x2), (0, z_add x3 1)], [])) rfl).trans ((congrArg (fun vv => z_R 242 (z_up m 268 (x3).toNat (z_add (m 268 (x3).toNat) 0), 93, [(2, 251), (0, x1), (0, x2), (0, vv)], [])) (z_add_eq (by omega) (by omega))).trans ((z_R_run hK (n := 1) (g' := (z_up m 268 (x3).toNat (z_add (m 268 (x3).toNat) 0), 47, [(2, 251), (0, x1), (0, x2), (0, x3 + 1)], [])) rfl).trans (rfl))))))))))))))))
theorem v_tch_88  (m : z_M) (x1 : Int) (x2 : Int) (x3 : Int) (s0 : Int) (s1 : Int) (u : Int) : z_R 242 (m, 88, [(2, 251), (0, x1), (0, x2), (0, x3)], [(0, u), (0, s0), (0, s1), (2, 268)]) = if 0 ≤ s1 ∧ s1 < 5 then z_R 242 (z_up m 268 (s1).toNat (z_add s0 u), 47, [(2, 251), (0, x1), (0, x2), (0, z_add x3 1)], []) else none :=
  have hK : kt_at 242 = kt_242 := rfl
  (z_R_run hK (n := 1) (g' := (m, 89, [(2, 251), (0, x1), (0, x2), (0, x3)], [(0, z_add s0 u), (0, s1), (2, 268)])) rfl).trans (z_R_ixD hK (n := 5) (g' := (z_up m 268 (s1).toNat (z_add s0 u), 90, [(2, 251), (0, x1), (0, x2), (0, x3)], [])) rfl rfl rfl (fun h1 => (z_R_run hK (n := 2) (g' := (z_up m 268 (s1).toNat (z_add s0 u), 47, [(2, 251), (0, x1), (0, x2), (0, z_add x3 1)], [])) rfl).trans (rfl)))
theorem v_tch_104  (m : z_M) (x1 : Int) (x2 : Int) (x3 : Int) : z_R 242 (m, 104, [(2, 251), (0, x1), (0, x2), (0, x3)], []) = z_R 242 (m, 40, [(2, 251), (0, x1), (0, z_add x2 1), (0, x3)], []) :=
  have hK : kt_at 242 = kt_242 := rfl
  (z_R_run hK (n := 2) (g' := (m, 40, [(2, 251), (0, x1), (0, z_add x2 1), (0, x3)], [])) rfl).trans (rfl)
theorem v_tch_119  (m : z_M) (x1 : Int) (x2 : Int) (x3 : Int) (h_n : 0 ≤ m 251 3 ∧ m 251 3 ≤ 5) : z_R 242 (m, 119, [(2, 251), (0, x1), (0, x2), (0, x3)], []) = if m 251 3 ≤ x3 then some (m, some (0, x2)) else if 0 ≤ x3 ∧ x3 < 5 then (z_R 210 (m, 0, [(2, 251), (1, z_i2l (m 268 (x3).toNat)), (9, 0)], [])).bind fun qq => z_R 242 (qq.1, 138, [(2, 251), (0, x1), (0, x2), (0, x3)], qq.2.toList ++ []) else none :=
  have hK : kt_at 242 = kt_242 := rfl
  (z_R_run hK (n := 3) (g' := (m, 124, [(2, 251), (0, x1), (0, x2), (0, x3)], [(0, m 251 3), (0, x3)])) rfl).trans (z_R_ifd hK (c := m 251 3 ≤ x3) (p1 := 155) (p2 := 127) rfl rfl rfl (fun h1 => (z_R_run hK (n := 1) (g' := (m, 156, [(2, 251), (0, x1), (0, x2), (0, x3)], [(0, x2)])) rfl).trans (z_R_ret hK rfl rfl rfl)) (fun h1 => (z_R_run hK (n := 3) (g' := (m, 132, [(2, 251), (0, x1), (0, x2), (0, x3)], [(2, 268), (2, 251)])) rfl).trans ((z_R_run hK (n := 1) (g' := (m, 133, [(2, 251), (0, x1), (0, x2), (0, x3)], [(0, x3), (2, 268), (2, 251)])) rfl).trans (z_R_ixD hK (n := 5) (g' := (m, 134, [(2, 251), (0, x1), (0, x2), (0, x3)], [(0, m 268 (x3).toNat), (2, 251)])) rfl rfl rfl  (fun h2 => (z_R_run hK (n := 1) (g' := (m, 135, [(2, 251), (0, x1), (0, x2), (0, x3)], [(1, z_i2l (m 268 (x3).toNat)), (2, 251)])) rfl).trans (z_R_call hK rfl rfl rfl rfl rfl))))))
theorem v_tch_138  (m : z_M) (x1 : Int) (x2 : Int) (x3 : Int) : z_R 242 (m, 138, [(2, 251), (0, x1), (0, x2), (0, x3)], []) = if 0 ≤ x3 ∧ x3 < 5 then z_R 242 (m, 119, [(2, 251), (0, x1), (0, if x2 < (m 268 (x3).toNat) then (m 268 (x3).toNat) else x2), (0, x3 + 1)], []) else none :=
  have hK : kt_at 242 = kt_242 := rfl
  (z_R_run hK (n := 3) (g' := (m, 143, [(2, 251), (0, x1), (0, x2), (0, x3)], [(2, 268), (0, x2)])) rfl).trans ((z_R_run hK (n := 1) (g' := (m, 144, [(2, 251), (0, x1), (0, x2), (0, x3)], [(0, x3), (2, 268), (0, x2)])) rfl).trans (z_R_ixD hK (n := 5) (g' := (m, 145, [(2, 251), (0, x1), (0, x2), (0, x3)], [(0, m 268 (x3).toNat), (0, x2)])) rfl rfl rfl  (fun h1 => (z_R_run hK (n := 3) (g' := (m, 152, [(2, 251), (0, x1), (0, if x2 < (m 268 (x3).toNat) then (m 268 (x3).toNat) else x2), (0, z_add x3 1)], [])) rfl).trans ((congrArg (fun vv => z_R 242 (m, 152, [(2, 251), (0, x1), (0, if x2 < (m 268 (x3).toNat) then (m 268 (x3).toNat) else x2), (0, vv)], [])) (z_add_eq (by omega) (by omega))).trans ((z_R_run hK (n := 1) (g' := (m, 119, [(2, 251), (0, x1), (0, if x2 < (m 268 (x3).toNat) then (m 268 (x3).toNat) else x2), (0, x3 + 1)], [])) rfl).trans (rfl))))))
end
section
/-! charges, of what both are in -/
theorem z_ladd_eq {x y : Int} (h1 : -2147483648 ≤ x + y) (h2 : x + y ≤ 2147483647) : z_ladd x y = x + y := by
  unfold z_ladd
  rw [← Int64.ofInt_add]
  exact Int64.toInt_ofInt_of_le (by omega) (by omega)
theorem z_i2l_eq {x : Int} (h1 : -2147483648 ≤ x) (h2 : x ≤ 2147483647) : z_i2l x = x := by
  unfold z_i2l
  rw [Int32.toInt_toInt64]
  exact zr_of h1 h2
theorem z_l2i_eq {x : Int} (h1 : -2147483648 ≤ x) (h2 : x ≤ 2147483647) : z_l2i x = x := by
  unfold z_l2i
  rw [Int64.toInt32_ofInt]
  exact zr_of h1 h2
/-- what one is to pay for this hour -/
def v_d (wm A : Nat → Int) (j : Nat) : Int := if A (j + 18) = -1 then 0 else wm j
def v_w (wm A : Nat → Int) : Nat → Nat → (Nat → Int) → Nat → Int
  | 0, _, S => S
  | f + 1, x, S => v_w wm A f (x + 1) (u_up S x (S x + v_d wm A x))
def v_H (w h n : Nat) (heat price : Int) (cs : List Int) (D : Nat → Int) : Nat → (Nat → Int) → (Nat → Int) → Nat → Int
  | 0, _, S => S
  | f + 1, B, S => v_H w h n heat price cs D f (hr_A w h heat price (c_ml cs) (wmD D (B 35)) n B) (v_w (wmD D (B 35)) B n 0 S)
def v_m (S : Nat → Int) : Nat → Nat → Int → Int
  | 0, _, b => b
  | f + 1, x, b => v_m S f (x + 1) (if b < S x then S x else b)
def v_A (w h n : Nat) (heat price : Int) (cs : List Int) (D A : Nat → Int) (a : Int) : Int := if 0 ≤ a ∧ a ≤ 100 then v_m (v_H w h n heat price cs D a.toNat A (fun _ => 0)) n 0 0 else -1
theorem v_w_at {wm A : Nat → Int} : ∀ (f x : Nat) (S : Nat → Int) (j : Nat), v_w wm A f x S j = if x ≤ j ∧ j < x + f then S j + v_d wm A j else S j := by
  intro f
  induction f with
  | zero =>
    intro x S j
    rw [if_neg (by omega)]
    rfl
  | succ f ih =>
    intro x S j
    show v_w wm A f (x + 1) (u_up S x (S x + v_d wm A x)) j = _
    rw [ih]
    by_cases e : j = x
    · rw [if_neg (by omega), if_pos (by omega), e, u_up_self]
    · rw [u_up_ne e]
      by_cases c : x + 1 ≤ j ∧ j < x + 1 + f
      · rw [if_pos c, if_pos (by omega)]
      · rw [if_neg c, if_neg (by omega)]
theorem v_d_b {wm A : Nat → Int} {j : Nat} (h : 0 ≤ wm j ∧ wm j ≤ 9) : 0 ≤ v_d wm A j ∧ v_d wm A j ≤ 9 := by
  unfold v_d
  by_cases c : A (j + 18) = -1
  · rw [if_pos c]; decide
  · rw [if_neg c]; exact h
theorem v_w_b {wm A S : Nat → Int} {n : Nat} {K : Int} (h5 : n ≤ 5) (hw : ∀ p, p < 5 → 0 ≤ wm p ∧ wm p ≤ 9) (hS : ∀ j, j < n → 0 ≤ S j ∧ S j ≤ K) : ∀ j, j < n → 0 ≤ v_w wm A n 0 S j ∧ v_w wm A n 0 S j ≤ K + 9 := fun j hj => by
  have h1 := hS j hj
  have h2 := v_d_b (A := A) (hw j (by omega))
  rw [v_w_at, if_pos (by omega)]
  omega
theorem v_mx {a b : Int} : (if a < b then b else a) = if b < a then a else b := by
  by_cases c : a < b
  · rw [if_pos c, if_neg (by omega)]
  · rw [if_neg c]
    by_cases d : b < a
    · rw [if_pos d]
    · rw [if_neg d]
      omega
theorem v_mb {S : Nat → Int} {n : Nat} {K : Int} (hS : ∀ j, j < n → 0 ≤ S j ∧ S j ≤ K) {x : Nat} (hx : x < n) {b : Int} (hb : 0 ≤ b ∧ b ≤ K) : 0 ≤ (if b < S x then S x else b) ∧ (if b < S x then S x else b) ≤ K := by
  by_cases c : b < S x
  · rw [if_pos c]; exact hS x hx
  · rw [if_neg c]; exact hb
section
variable {w h n : Nat} {heat price : Int} {D A B : Nat → Int} {c : Nat} {U : Nat → Nat → Int} {kn : Nat → Int} {KS : Nat → Nat → Int} {cs : List Int} {m : z_M}
theorem C_chg1 (h5 : n ≤ 5) {N : Int} : ∀ (f x : Nat) (m : z_M), x + f = n → C_is w h n heat price D A c U kn KS cs m → m 0 13 = (x : Int) → (∀ j, j < x → m 250 j = 0) → ∃ m1, z_R 123 (m, 29, [(2, 0), (0, N), (0, (x : Int)), (9, 0), (9, 0)], []) = z_R 123 (m1, 53, [(2, 0), (0, N), (0, 0), (9, 0), (9, 0)], []) ∧ C_is w h n heat price D A c U kn KS cs m1 ∧ (∀ j, j < n → m1 250 j = 0) ∧ z_same [(0, 13, 13), (250, 0, 8)] m m1 := by
  intro f
  induction f with
  | zero =>
    intro x m hx hi h13 hz
    have e11 := hi.1.2.2.1
    rw [v_chg_29 m N x (by omega), e11, if_pos (by omega)]
    exact ⟨m, rfl, hi, fun j hj => hz j (by omega), z_same.rf⟩
  | succ f ih =>
    intro x m hx hi h13 hz
    have e11 := hi.1.2.2.1
    have hi1 : C_is w h n heat price D A c U kn KS cs (z_up (z_up m 250 x 0) 0 13 ((x + 1 : Nat) : Int)) := C_upn (C_upn hi (by
      have : ∀ x, x < 5 → C_hit 250 x x = false := by decide +kernel
      exact this x (by omega))) (by decide)
    have g13 : (z_up (z_up m 250 x 0) 0 13 ((x + 1 : Nat) : Int)) 0 13 = ((x + 1 : Nat) : Int) := zu_self
    have gz : ∀ j, j < x + 1 → (z_up (z_up m 250 x 0) 0 13 ((x + 1 : Nat) : Int)) 250 j = 0 := fun j hj => by
      rw [zu_p (by decide)]
      by_cases e : j = x
      · rw [e, zu_self]
      · rw [zu_k e]; exact hz j (by omega)
    have gs : z_same [(0, 13, 13), (250, 0, 8)] m (z_up (z_up m 250 x 0) 0 13 ((x + 1 : Nat) : Int)) := (z_same.rf.upo (by (try unfold r_LHs); first | exact z_on_h rfl (by omega) (by omega) | exact z_on_t (z_on_h rfl (by omega) (by omega)) | exact z_on_t (z_on_t (z_on_h rfl (by omega) (by omega))) | exact z_on_t (z_on_t (z_on_t (z_on_h rfl (by omega) (by omega)))) | exact z_on_t (z_on_t (z_on_t (z_on_t (z_on_h rfl (by omega) (by omega))))) | exact z_on_t (z_on_t (z_on_t (z_on_t (z_on_t (z_on_h rfl (by omega) (by omega)))))) | exact z_on_t (z_on_t (z_on_t (z_on_t (z_on_t (z_on_t (z_on_h rfl (by omega) (by omega))))))) | exact z_on_t (z_on_t (z_on_t (z_on_t (z_on_t (z_on_t (z_on_t (z_on_h rfl (by omega) (by omega)))))))) | exact z_on_t (z_on_t (z_on_t (z_on_t (z_on_t (z_on_t (z_on_t (z_on_t (z_on_h rfl (by omega) (by omega))))))))) | exact z_on_t (z_on_t (z_on_t (z_on_t (z_on_t (z_on_t (z_on_t (z_on_t (z_on_t (z_on_h rfl (by omega) (by omega)))))))))) | exact z_on_t (z_on_t (z_on_t (z_on_t (z_on_t (z_on_t (z_on_t (z_on_t (z_on_t (z_on_t (z_on_h rfl (by omega) (by omega))))))))))) | exact z_on_t (z_on_t (z_on_t (z_on_t (z_on_t (z_on_t (z_on_t (z_on_t (z_on_t (z_on_t (z_on_t (z_on_h rfl (by omega) (by omega)))))))))))) | exact z_on_t (z_on_t (z_on_t (z_on_t (z_on_t (z_on_t (z_on_t (z_on_t (z_on_t (z_on_t (z_on_t (z_on_t (z_on_h rfl (by omega) (by omega))))))))))))))).upo (by (try unfold r_LHs); first | exact z_on_h rfl (by omega) (by omega) | exact z_on_t (z_on_h rfl (by omega) (by omega)) | exact z_on_t (z_on_t (z_on_h rfl (by omega) (by omega))) | exact z_on_t (z_on_t (z_on_t (z_on_h rfl (by omega) (by omega)))) | exact z_on_t (z_on_t (z_on_t (z_on_t (z_on_h rfl (by omega) (by omega))))) | exact z_on_t (z_on_t (z_on_t (z_on_t (z_on_t (z_on_h rfl (by omega) (by omega)))))) | exact z_on_t (z_on_t (z_on_t (z_on_t (z_on_t (z_on_t (z_on_h rfl (by omega) (by omega))))))) | exact z_on_t (z_on_t (z_on_t (z_on_t (z_on_t (z_on_t (z_on_t (z_on_h rfl (by omega) (by omega)))))))) | exact z_on_t (z_on_t (z_on_t (z_on_t (z_on_t (z_on_t (z_on_t (z_on_t (z_on_h rfl (by omega) (by omega))))))))) | exact z_on_t (z_on_t (z_on_t (z_on_t (z_on_t (z_on_t (z_on_t (z_on_t (z_on_t (z_on_h rfl (by omega) (by omega)))))))))) | exact z_on_t (z_on_t (z_on_t (z_on_t (z_on_t (z_on_t (z_on_t (z_on_t (z_on_t (z_on_t (z_on_h rfl (by omega) (by omega))))))))))) | exact z_on_t (z_on_t (z_on_t (z_on_t (z_on_t (z_on_t (z_on_t (z_on_t (z_on_t (z_on_t (z_on_t (z_on_h rfl (by omega) (by omega)))))))))))) | exact z_on_t (z_on_t (z_on_t (z_on_t (z_on_t (z_on_t (z_on_t (z_on_t (z_on_t (z_on_t (z_on_t (z_on_t (z_on_h rfl (by omega) (by omega))))))))))))))
    rw [v_chg_29 m N x (by omega), e11, if_neg (by omega), c_add (j := x) m 0 (by omega) h13, zb_n, v_chg_45, z_add_eq (x := (x : Int)) (y := 1) (by omega) (by omega), tc1]
    generalize z_up (z_up m 250 x 0) 0 13 ((x + 1 : Nat) : Int) = m0 at hi1 g13 gz gs ⊢
    obtain ⟨m1, a1, a2, a3, a4⟩ := ih (x + 1) m0 (by omega) hi1 g13 gz
    exact ⟨m1, a1, a2, a3, gs.tr a4⟩
theorem C_chg2 (h5 : n ≤ 5) {N k : Int} (hwm : ∀ p, p < 5 → 0 ≤ wmD D (B 35) p ∧ wmD D (B 35) p ≤ 9) (ht : 0 ≤ B 35 ∧ B 35 ≤ 2147483647) : ∀ (f x : Nat) (S : Nat → Int) (m : z_M), x + f = n → C_is w h n heat price D A c U kn KS cs m → cS m 18 n = B → (∀ j, j < n → m 250 j = S j) → (∀ j, x ≤ j → j < n → 0 ≤ S j ∧ S j ≤ 10000) → ∃ m1, z_R 123 (m, 60, [(2, 0), (0, N), (0, k), (0, (x : Int)), (9, 0)], []) = z_R 123 (m1, 60, [(2, 0), (0, N), (0, k), (0, (n : Int)), (9, 0)], []) ∧ C_is w h n heat price D A c U kn KS cs m1 ∧ cS m1 18 n = B ∧ (∀ j, j < n → m1 250 j = v_w (wmD D (B 35)) B f x S j) ∧ z_same [(250, 0, 8)] m m1 := by
  intro f
  induction f with
  | zero =>
    intro x S m hx hi hB hS hb
    obtain rfl : x = n := by omega
    exact ⟨m, rfl, hi, hB, hS, z_same.rf⟩
  | succ f ih =>
    intro x S m hx hi hB hS hb
    have e11 := hi.1.2.2.1
    have e21 : m 21 x = B (x + 18) := by
      rw [← hB]
      exact (cS_at3 (s := 18) (j := x) (by omega) (by omega)).symm
    have e7 : m 18 7 = B 35 := by
      rw [← hB]
      exact (cS_at0 (s := 18) (j := 7) (by decide)).symm
    have hw := hwm x (by omega)
    have hS0 := hS x (by omega)
    have hb0 := hb x (Nat.le_refl _) (by omega)
    rw [v_chg_60 m N k x (by omega), e11, if_neg (by omega), if_pos (show 0 ≤ (x : Int) ∧ (x : Int) < 5 by omega), Int.toNat_natCast, e21, tc1]
    show ∃ m1 : z_M, _ ∧ _ ∧ _ ∧ (∀ j, j < n → m1 250 j = v_w (wmD D (B 35)) B f (x + 1) (u_up S x (S x + v_d (wmD D (B 35)) B x)) j) ∧ _
    by_cases z : B (x + 18) = -1
    · have ed : v_d (wmD D (B 35)) B x = 0 := if_pos z
      rw [if_pos z, ed, Int.add_zero]
      refine ih (x + 1) _ m (by omega) hi hB (fun j hj => ?_) (fun j h1 hj => ?_)
      · by_cases e : j = x
        · rw [e, u_up_self]; exact hS0
        · rw [u_up_ne e]; exact hS j hj
      · rw [u_up_ne (by omega)]; exact hb j (by omega) hj
    · have ed : v_d (wmD D (B 35)) B x = wmD D (B 35) x := if_neg z
      have ec : cw m x (B 35) = wmD D (B 35) x := cw_D hi.1.2.2.2.2.2.2.1 hi.1.2.2.2.2.2.2.2 hi.2.1 ht.1 (by omega)
      rw [if_neg z, e7, c_wo m (by omega) ht.1 ht.2, zb_v, v_chg_106, if_pos (show 0 ≤ (x : Int) ∧ (x : Int) < 9 by omega), Int.toNat_natCast, ec, hS0, z_i2l_eq (by omega) (by omega), z_ladd_eq (by omega) (by omega), z_add_eq (x := (x : Int)) (y := 1) (by omega) (by omega), tc1, ed]
      have hi1 : C_is w h n heat price D A c U kn KS cs (z_up m 250 x (S x + wmD D (B 35) x)) := C_upn hi (by
        have : ∀ x, x < 5 → C_hit 250 x x = false := by decide +kernel
        exact this x (by omega))
      have hB1 : cS (z_up m 250 x (S x + wmD D (B 35) x)) 18 n = B := by
        rw [cS_off (by omega)]
        exact hB
      have gS : ∀ j, j < n → (z_up m 250 x (S x + wmD D (B 35) x)) 250 j = u_up S x (S x + wmD D (B 35) x) j := fun j hj => by
        by_cases e : j = x
        · rw [e, zu_self, u_up_self]
        · rw [zu_k e, u_up_ne e]; exact hS j hj
      have gs : z_same [(250, 0, 8)] m (z_up m 250 x (S x + wmD D (B 35) x)) := z_same.rf.upo (by (try unfold r_LHs); first | exact z_on_h rfl (by omega) (by omega) | exact z_on_t (z_on_h rfl (by omega) (by omega)) | exact z_on_t (z_on_t (z_on_h rfl (by omega) (by omega))) | exact z_on_t (z_on_t (z_on_t (z_on_h rfl (by omega) (by omega)))) | exact z_on_t (z_on_t (z_on_t (z_on_t (z_on_h rfl (by omega) (by omega))))) | exact z_on_t (z_on_t (z_on_t (z_on_t (z_on_t (z_on_h rfl (by omega) (by omega)))))) | exact z_on_t (z_on_t (z_on_t (z_on_t (z_on_t (z_on_t (z_on_h rfl (by omega) (by omega))))))) | exact z_on_t (z_on_t (z_on_t (z_on_t (z_on_t (z_on_t (z_on_t (z_on_h rfl (by omega) (by omega)))))))) | exact z_on_t (z_on_t (z_on_t (z_on_t (z_on_t (z_on_t (z_on_t (z_on_t (z_on_h rfl (by omega) (by omega))))))))) | exact z_on_t (z_on_t (z_on_t (z_on_t (z_on_t (z_on_t (z_on_t (z_on_t (z_on_t (z_on_h rfl (by omega) (by omega)))))))))) | exact z_on_t (z_on_t (z_on_t (z_on_t (z_on_t (z_on_t (z_on_t (z_on_t (z_on_t (z_on_t (z_on_h rfl (by omega) (by omega))))))))))) | exact z_on_t (z_on_t (z_on_t (z_on_t (z_on_t (z_on_t (z_on_t (z_on_t (z_on_t (z_on_t (z_on_t (z_on_h rfl (by omega) (by omega)))))))))))) | exact z_on_t (z_on_t (z_on_t (z_on_t (z_on_t (z_on_t (z_on_t (z_on_t (z_on_t (z_on_t (z_on_t (z_on_t (z_on_h rfl (by omega) (by omega))))))))))))))
      generalize z_up m 250 x (S x + wmD D (B 35) x) = m0 at hi1 hB1 gS gs ⊢
      obtain ⟨m1, a1, a2, a3, a4, a5⟩ := ih (x + 1) (u_up S x (S x + wmD D (B 35) x)) m0 (by omega) hi1 hB1 gS (fun j h1 hj => by
        rw [u_up_ne (by omega)]; exact hb j (by omega) hj)
      exact ⟨m1, a1, a2, a3, a4, gs.tr a5⟩
theorem C_chg4 {S : Nat → Int} {K : Int} (hK : K ≤ 10000) {N : Int} {v3 : z_V} (e11 : m 3 11 = (n : Int)) (h5 : n ≤ 5) (hm : ∀ j, j < n → m 250 j = S j) (hS : ∀ j, j < n → 0 ≤ S j ∧ S j ≤ K) : ∀ (f x : Nat) (b : Int), x + f = n → 0 ≤ b ∧ b ≤ K → z_R 123 (m, 138, [(2, 0), (0, N), (1, b), v3, (0, (x : Int))], []) = some (m, some (0, v_m S f x b)) := by
  intro f
  induction f with
  | zero =>
    intro x b hx hb
    rw [v_chg_138 m N b v3 x (by omega), e11, if_pos (by omega), z_l2i_eq (by omega) (by omega)]
    rfl
  | succ f ih =>
    intro x b hx hb
    rw [v_chg_138 m N b v3 x (by omega), e11, if_neg (by omega), if_pos (show 0 ≤ (x : Int) ∧ (x : Int) < 9 by omega), Int.toNat_natCast, hm x (by omega), v_mx, tc1]
    exact ih (x + 1) _ (by omega) (v_mb hS (by omega) hb)
theorem C_chg3 (hN : w_N w h n heat D) {N : Nat} (hN6 : N ≤ 100) : ∀ (f k : Nat) (v3 : z_V) (B S : Nat → Int) (m : z_M), k + f = N → C_is w h n heat price D A c U kn KS cs m → cS m 18 n = B → hr_ok n B → 0 ≤ B 35 → B 35 + (f : Int) ≤ 2147483647 → z_w (m 24 6) = m 24 6 → z_w (m 24 9) = m 24 9 → (∀ j, j < n → m 250 j = S j) → (∀ j, j < n → 0 ≤ S j ∧ S j ≤ 9 * (k : Int)) → ∃ m1, z_R 123 (m, 53, [(2, 0), (0, (N : Int)), (0, (k : Int)), v3, (9, 0)], []) = some (m1, some (0, v_m (v_H w h n heat price cs D f B S) n 0 0)) ∧ C_is w h n heat price D A c U kn KS cs m1 := by
  have h5 := hN.1.2.2
  intro f
  induction f with
  | zero =>
    intro k v3 B S m hk hi hB hok ht ht2 k6 k9 hS hb
    have a1 := C_chg4 (m := m) (S := S) (K := 9 * (k : Int)) (by omega) (N := (N : Int)) (v3 := v3) hi.1.2.2.1 h5 hS hb n 0 0 (by omega) ⟨Int.le_refl _, by omega⟩
    have a1 : z_R 123 (m, 138, [(2, 0), (0, (N : Int)), (1, 0), v3, (0, 0)], []) = some (m, some (0, v_m S n 0 0)) := a1
    rw [v_chg_53, if_pos (by omega), a1]
    exact ⟨m, rfl, hi⟩
  | succ f ih =>
    intro k v3 B S m hk hi hB hok ht ht2 k6 k9 hS hb
    have ht2' : B 35 + ((f : Int) + 1) ≤ 2147483647 := by omega
    obtain ⟨m1, a1, a2, a3, a4, a5⟩ := C_chg2 h5 (N := (N : Int)) (k := (k : Int)) (hN.2.2 (B 35) ht) ⟨ht, by omega⟩ n 0 S m (by omega) hi hB hS (fun j _ hj => by have := hb j hj; omega)
    have a1 : z_R 123 (m, 60, [(2, 0), (0, (N : Int)), (0, (k : Int)), (0, 0), (9, 0)], []) = z_R 123 (m1, 60, [(2, 0), (0, (N : Int)), (0, (k : Int)), (0, (n : Int)), (9, 0)], []) := a1
    have e11 := a2.1.2.2.1
    have j6 : m1 24 6 = m 24 6 := a5.of (by (try unfold r_LHs); (repeat' (first | exact trivial | refine z_of_c ?_ ?_)) <;> omega)
    have j9 : m1 24 9 = m 24 9 := a5.of (by (try unfold r_LHs); (repeat' (first | exact trivial | refine z_of_c ?_ ?_)) <;> omega)
    have l6 : z_w (m1 24 6) = m1 24 6 := by rw [j6]; exact k6
    have l9 : z_w (m1 24 9) = m1 24 9 := by rw [j9]; exact k9
    obtain ⟨m2, b1, b2, b3⟩ := c_goOn z_st_18 hN.1.1 hN.1.2.1 (price := price) ⟨hN.1.2.2, hN.2.1, c_ml_ok cs, hN.2.2⟩ (N := 1) (by decide) m1 (C_cfg a2) a3 hok ht (by omega) l6 l9
    have b1 : z_R 67 (m1, 0, [(2, 24), (2, 18), (0, 1), (9, 0)], []) = some (m2, none) := b1
    have ow := hr_H_w (w := w) (h := h) (n := n) (heat := heat) (price := price) (ml := c_ml cs) (wmt := wmD D) 1 B (m1 24 6) (m1 24 7) (m1 24 8) (m1 24 9) l6 l9
    rw [← b2] at ow
    have ow6 : z_w (m2 24 6) = m2 24 6 := ow.1
    have ow9 : z_w (m2 24 9) = m2 24 9 := ow.2
    have eA : cS m2 18 n = hr_A w h heat price (c_ml cs) (wmD D (B 35)) n B := congrArg Prod.fst b2
    have hC2 : C_is w h n heat price D A c U kn KS cs m2 := C_fr a2 fun p k hk => by
      have hk' := hk
      unfold C_hit at hk'
      have hk' := of_decide_eq_true hk'
      exact b3.of (by (try unfold r_LHs); (repeat' (first | exact trivial | refine z_of_c ?_ ?_)) <;> omega)
    have hok' := hr_A_ok (price := price) hN.1.1 hN.1.2.1 hN.1.2.2 hN.2.1 (c_ml_ok cs) (hN.2.2 (B 35) ht) hok
    have e35 : hr_A w h heat price (c_ml cs) (wmD D (B 35)) n B 35 = B 35 + 1 := by rw [hr_A_35 hN.1.1 hN.1.2.1 hN.1.2.2, z_add_eq (by omega) (by omega)]
    have hS2 : ∀ j, j < n → m2 250 j = v_w (wmD D (B 35)) B n 0 S j := fun j hj => (b3.of (p := 250) (k := j) (by (try unfold r_LHs); (repeat' (first | exact trivial | refine z_of_c ?_ ?_)) <;> omega)).trans (a4 j hj)
    obtain ⟨m3, c1, c2⟩ := ih (k + 1) (0, (n : Int)) _ (v_w (wmD D (B 35)) B n 0 S) m2 (by omega) hC2 eA hok' (by omega) (by omega) ow6 ow9 hS2 (fun j hj => by
      have := v_w_b (K := 9 * (k : Int)) (A := B) h5 (hN.2.2 (B 35) ht) hb j hj
      omega)
    rw [v_chg_53, if_neg (by omega), a1, v_chg_60 m1 N k n (by omega), e11, if_pos (Int.le_refl _), b1, zb_n, v_chg_127, z_add_eq (x := (k : Int)) (y := 1) (by omega) (by omega), tc1, c1]
    exact ⟨m3, rfl, c2⟩
theorem C_charges (hi : C_is w h n heat price D A c U kn KS cs m) (hN : w_N w h n heat D) (hok : hr_ok n A) (ht : 0 ≤ A 35 ∧ A 35 ≤ 1073741824) (k6 : z_w (m 24 6) = m 24 6) (k9 : z_w (m 24 9) = m 24 9) (a : Int) : ∃ m1, z_R 123 (m, 0, [(2, 0), (0, a), (9, 0), (9, 0), (9, 0)], []) = some (m1, some (0, v_A w h n heat price cs D A a)) ∧ C_is w h n heat price D A c U kn KS cs m1 := by
  rw [v_chg_0]
  by_cases c1 : a < 0
  · have e : v_A w h n heat price cs D A a = -1 := if_neg (by omega)
    rw [if_pos c1, e]
    exact ⟨m, rfl, hi⟩
  rw [if_neg c1]
  by_cases c2 : a ≤ 100
  · obtain ⟨N, rfl⟩ : ∃ N : Nat, a = (N : Int) := ⟨a.toNat, by omega⟩
    have e : v_A w h n heat price cs D A (N : Int) = v_m (v_H w h n heat price cs D (N : Int).toNat A (fun _ => 0)) n 0 0 := if_pos (by omega)
    rw [Int.toNat_natCast] at e
    obtain ⟨m2, b1, b2, b3⟩ := c_become z_st_12 z_st_18 (by decide) m
    have b1 : z_R 61 (m, 0, [(2, 18), (2, 12)], []) = some (m2, none) := b1
    have hC2 : C_is w h n heat price D A c U kn KS cs m2 := C_fr hi fun p k hk => by
      have hk' := hk
      unfold C_hit at hk'
      have hk' := of_decide_eq_true hk'
      exact b3.of (by (try unfold r_LHs); (repeat' (first | exact trivial | refine z_of_c ?_ ?_)) <;> omega)
    have hA2 : cS m2 18 n = A := (cS_cR b2).trans hi.2.2.1
    have j6 : m2 24 6 = m 24 6 := b3.of (by (try unfold r_LHs); (repeat' (first | exact trivial | refine z_of_c ?_ ?_)) <;> omega)
    have j9 : m2 24 9 = m 24 9 := b3.of (by (try unfold r_LHs); (repeat' (first | exact trivial | refine z_of_c ?_ ?_)) <;> omega)
    have hC3 : C_is w h n heat price D A c U kn KS cs (z_up m2 0 13 0) := C_upn hC2 (by decide)
    have f3 : ∀ p k, ¬ p = 0 → (z_up m2 0 13 0) p k = m2 p k := fun p k hp => zu_p hp
    have g13 : (z_up m2 0 13 0) 0 13 = ((0 : Nat) : Int) := zu_self
    rw [if_pos c2, b1, zb_n, v_chg_23, s_tell0_0, zb_n, v_chg_27]
    generalize z_up m2 0 13 0 = m3 at hC3 f3 g13 ⊢
    have hA3 : cS m3 18 n = A := by
      rw [cS_fr (fun j k hj _ => f3 (18 + j) k (by omega))]
      exact hA2
    obtain ⟨m4, d1, d2, d3, d4⟩ := C_chg1 hN.1.2.2 (N := (N : Int)) n 0 m3 (by omega) hC3 g13 (fun j hj => absurd hj (by omega))
    have d1 : z_R 123 (m3, 29, [(2, 0), (0, (N : Int)), (0, 0), (9, 0), (9, 0)], []) = z_R 123 (m4, 53, [(2, 0), (0, (N : Int)), (0, 0), (9, 0), (9, 0)], []) := d1
    have hA4 : cS m4 18 n = A := by
      rw [cS_fr (fun j k hj _ => d4.of (p := 18 + j) (k := k) (by (try unfold r_LHs); (repeat' (first | exact trivial | refine z_of_c ?_ ?_)) <;> omega))]
      exact hA3
    have l6 : m4 24 6 = m 24 6 := (d4.of (by (try unfold r_LHs); (repeat' (first | exact trivial | refine z_of_c ?_ ?_)) <;> omega)).trans ((f3 24 6 (by decide)).trans j6)
    have l9 : m4 24 9 = m 24 9 := (d4.of (by (try unfold r_LHs); (repeat' (first | exact trivial | refine z_of_c ?_ ?_)) <;> omega)).trans ((f3 24 9 (by decide)).trans j9)
    obtain ⟨m5, g1, g2⟩ := C_chg3 hN (N := N) (by omega) N 0 (9, 0) A (fun _ => 0) m4 (by omega) d2 hA4 hok ht.1 (by omega) (by rw [l6]; exact k6) (by rw [l9]; exact k9) d3 (fun j hj => ⟨Int.le_refl _, by omega⟩)
    have g1 : z_R 123 (m4, 53, [(2, 0), (0, (N : Int)), (0, 0), (9, 0), (9, 0)], []) = some (m5, some (0, v_m (v_H w h n heat price cs D N A (fun _ => 0)) n 0 0)) := g1
    rw [d1, g1, e]
    exact ⟨m5, rfl, g2⟩
  · have e : v_A w h n heat price cs D A a = -1 := if_neg (by omega)
    rw [if_neg c2, e]
    exact ⟨m, rfl, hi⟩
/-! the reference -/
theorem R_chg1 {N : Int} : ∀ (f x : Nat) (m : z_M), x + f = 5 → R_is w h n heat price D A c U kn KS cs m → (∀ j, j < x → m 268 j = 0) → ∃ m1, z_R 242 (m, 20, [(2, 251), (0, N), (0, (x : Int)), (9, 0)], []) = z_R 242 (m1, 40, [(2, 251), (0, N), (0, 0), (9, 0)], []) ∧ R_is w h n heat price D A c U kn KS cs m1 ∧ (∀ j, j < 5 → m1 268 j = 0) ∧ z_same [(268, 0, 4)] m m1 := by
  intro f
  induction f with
  | zero =>
    intro x m hx hi hz
    rw [v_tch_20, if_pos (by omega)]
    exact ⟨m, rfl, hi, fun j hj => hz j (by omega), z_same.rf⟩
  | succ f ih =>
    intro x m hx hi hz
    have hi1 : R_is w h n heat price D A c U kn KS cs (z_up m 268 x 0) := R_upn hi (by
      have : ∀ x, x < 5 → R_hit 268 x x = false := by decide +kernel
      exact this x (by omega))
    have gz : ∀ j, j < x + 1 → (z_up m 268 x 0) 268 j = 0 := fun j hj => by
      by_cases e : j = x
      · rw [e, zu_self]
      · rw [zu_k e]; exact hz j (by omega)
    have gs : z_same [(268, 0, 4)] m (z_up m 268 x 0) := z_same.rf.upo (by (try unfold r_LHs); first | exact z_on_h rfl (by omega) (by omega) | exact z_on_t (z_on_h rfl (by omega) (by omega)) | exact z_on_t (z_on_t (z_on_h rfl (by omega) (by omega))) | exact z_on_t (z_on_t (z_on_t (z_on_h rfl (by omega) (by omega)))) | exact z_on_t (z_on_t (z_on_t (z_on_t (z_on_h rfl (by omega) (by omega))))) | exact z_on_t (z_on_t (z_on_t (z_on_t (z_on_t (z_on_h rfl (by omega) (by omega)))))) | exact z_on_t (z_on_t (z_on_t (z_on_t (z_on_t (z_on_t (z_on_h rfl (by omega) (by omega))))))) | exact z_on_t (z_on_t (z_on_t (z_on_t (z_on_t (z_on_t (z_on_t (z_on_h rfl (by omega) (by omega)))))))) | exact z_on_t (z_on_t (z_on_t (z_on_t (z_on_t (z_on_t (z_on_t (z_on_t (z_on_h rfl (by omega) (by omega))))))))) | exact z_on_t (z_on_t (z_on_t (z_on_t (z_on_t (z_on_t (z_on_t (z_on_t (z_on_t (z_on_h rfl (by omega) (by omega)))))))))) | exact z_on_t (z_on_t (z_on_t (z_on_t (z_on_t (z_on_t (z_on_t (z_on_t (z_on_t (z_on_t (z_on_h rfl (by omega) (by omega))))))))))) | exact z_on_t (z_on_t (z_on_t (z_on_t (z_on_t (z_on_t (z_on_t (z_on_t (z_on_t (z_on_t (z_on_t (z_on_h rfl (by omega) (by omega)))))))))))) | exact z_on_t (z_on_t (z_on_t (z_on_t (z_on_t (z_on_t (z_on_t (z_on_t (z_on_t (z_on_t (z_on_t (z_on_t (z_on_h rfl (by omega) (by omega))))))))))))))
    rw [v_tch_20, if_neg (by omega), if_pos (show 0 ≤ (x : Int) ∧ (x : Int) < 5 by omega), Int.toNat_natCast, tc1]
    generalize z_up m 268 x 0 = m0 at hi1 gz gs ⊢
    obtain ⟨m1, a1, a2, a3, a4⟩ := ih (x + 1) m0 (by omega) hi1 gz
    exact ⟨m1, a1, a2, a3, gs.tr a4⟩
theorem R_chg2 (h5 : n ≤ 5) {N k : Int} (hwm : ∀ p, p < 5 → 0 ≤ wmD D (B 35) p ∧ wmD D (B 35) p ≤ 9) (ht : 0 ≤ B 35 ∧ B 35 ≤ 2147483647) : ∀ (f x : Nat) (S : Nat → Int) (m : z_M), x + f = n → R_is w h n heat price D A c U kn KS cs m → rS m 264 n = B → (∀ j, j < n → m 268 j = S j) → (∀ j, x ≤ j → j < n → 0 ≤ S j ∧ S j ≤ 10000) → ∃ m1, z_R 242 (m, 47, [(2, 251), (0, N), (0, k), (0, (x : Int))], []) = z_R 242 (m1, 47, [(2, 251), (0, N), (0, k), (0, (n : Int))], []) ∧ R_is w h n heat price D A c U kn KS cs m1 ∧ rS m1 264 n = B ∧ (∀ j, j < n → m1 268 j = v_w (wmD D (B 35)) B f x S j) := by
  intro f
  induction f with
  | zero =>
    intro x S m hx hi hB hS hb
    obtain rfl : x = n := by omega
    exact ⟨m, rfl, hi, hB, hS⟩
  | succ f ih =>
    intro x S m hx hi hB hS hb
    have e3 := hi.1.2.2.1
    have e18 : m 264 (x + 18) = B (x + 18) := by
      rw [← hB]
      exact (rS_at (by omega) (a_vis_p (b := 18) (p := x) (by omega) (by omega) (by omega) (by omega))).symm
    have e35 : m 264 35 = B 35 := by
      rw [← hB]
      exact (rS_at (by decide) (a_vis_hi (by decide))).symm
    have hw := hwm x (by omega)
    have hS0 := hS x (by omega)
    have hb0 := hb x (Nat.le_refl _) (by omega)
    -- what is laid into the sum of x
    have lay : ∀ y : Int, y = v_d (wmD D (B 35)) B x → R_is w h n heat price D A c U kn KS cs (z_up m 268 x (S x + y)) ∧ rS (z_up m 268 x (S x + y)) 264 n = B ∧ (∀ j, j < n → (z_up m 268 x (S x + y)) 268 j = u_up S x (S x + v_d (wmD D (B 35)) B x) j) := by
      intro y hy
      refine ⟨R_upn hi (by
        have : ∀ x, x < 5 → R_hit 268 x x = false := by decide +kernel
        exact this x (by omega)), ?_, fun j hj => ?_⟩
      · rw [← hB]
        exact rS_cp fun k _ => zu_p (by decide)
      · by_cases e : j = x
        · rw [e, zu_self, u_up_self, hy]
        · rw [zu_k e, u_up_ne e]; exact hS j hj
    rw [v_tch_47 m N k x (by omega), e3, if_neg (by omega), if_pos (show 0 ≤ (x : Int) ∧ (x : Int) < 5 by omega), Int.toNat_natCast, show ((x : Int) + 18).toNat = x + 18 by omega, e18, hS0, tc1]
    show ∃ m1 : z_M, _ ∧ _ ∧ _ ∧ (∀ j, j < n → m1 268 j = v_w (wmD D (B 35)) B f (x + 1) (u_up S x (S x + v_d (wmD D (B 35)) B x)) j)
    by_cases z : B (x + 18) = -1
    · obtain ⟨g1, g2, g3⟩ := lay 0 (show (0 : Int) = v_d (wmD D (B 35)) B x from (if_pos z).symm)
      rw [if_pos z, z_add_eq (x := S x) (y := 0) (by omega) (by omega)]
      exact ih (x + 1) _ _ (by omega) g1 g2 g3 (fun j h1 hj => by
        rw [u_up_ne (by omega)]; exact hb j (by omega) hj)
    · obtain ⟨g1, g2, g3⟩ := lay (wmD D (B 35) x) (show wmD D (B 35) x = v_d (wmD D (B 35)) B x from (if_neg z).symm)
      have ew : z_R 186 (m, 0, [(2, 251), (2, 264), (0, (x : Int))], []) = some (m, some (0, rwm m x (B 35))) := r_wo z_A_264 (Or.inr rfl) m (by omega) e35 ht.1 ht.2
      have ec : rwm m x (B 35) = wmD D (B 35) x := rwm_D hi.1.2.2.2.2.2 hi.2.1 ht.1 (by omega)
      rw [if_neg z, ew, zb_v, v_tch_88, if_pos (show 0 ≤ (x : Int) ∧ (x : Int) < 5 by omega), Int.toNat_natCast, ec, z_add_eq (x := S x) (by omega) (by omega), z_add_eq (x := (x : Int)) (y := 1) (by omega) (by omega), tc1]
      exact ih (x + 1) _ _ (by omega) g1 g2 g3 (fun j h1 hj => by
        rw [u_up_ne (by omega)]; exact hb j (by omega) hj)
theorem R_chg4 {S : Nat → Int} {K : Int} (hK : K ≤ 10000) {N : Int} (h5 : n ≤ 5) (hS : ∀ j, j < n → 0 ≤ S j ∧ S j ≤ K) : ∀ (f x : Nat) (b : Int) (m : z_M), x + f = n → R_is w h n heat price D A c U kn KS cs m → m 251 10 = (x : Int) → (∀ j, j < n → m 268 j = S j) → 0 ≤ b ∧ b ≤ K → ∃ m1, z_R 242 (m, 119, [(2, 251), (0, N), (0, b), (0, (x : Int))], []) = some (m1, some (0, v_m S f x b)) ∧ R_is w h n heat price D A c U kn KS cs m1 := by
  intro f
  induction f with
  | zero =>
    intro x b m hx hi h10 hm hb
    have e3 := hi.1.2.2.1
    rw [v_tch_119 m N b x (by omega), e3, if_pos (by omega)]
    exact ⟨m, rfl, hi⟩
  | succ f ih =>
    intro x b m hx hi h10 hm hb
    have e3 := hi.1.2.2.1
    have hS0 := hS x (by omega)
    have hi1 : R_is w h n heat price D A c U kn KS cs (z_up (z_up m 255 x (S x)) 251 10 ((x + 1 : Nat) : Int)) := R_upn (R_upn hi (by
      have : ∀ x, x < 5 → R_hit 255 x x = false := by decide +kernel
      exact this x (by omega))) (by decide)
    have g10 : (z_up (z_up m 255 x (S x)) 251 10 ((x + 1 : Nat) : Int)) 251 10 = ((x + 1 : Nat) : Int) := zu_self
    have gm : ∀ j, j < n → (z_up (z_up m 255 x (S x)) 251 10 ((x + 1 : Nat) : Int)) 268 j = S j := fun j hj => by
      rw [zu_p (by decide), zu_p (by decide)]
      exact hm j hj
    rw [v_tch_119 m N b x (by omega), e3, if_neg (by omega), if_pos (show 0 ≤ (x : Int) ∧ (x : Int) < 5 by omega), Int.toNat_natCast, hm x (by omega), z_i2l_eq (by omega) (by omega), t_tell (j := x) m _ (by omega) h10, zb_n, v_tch_138, if_pos (show 0 ≤ (x : Int) ∧ (x : Int) < 5 by omega), Int.toNat_natCast, gm x (by omega), tc1]
    generalize z_up (z_up m 255 x (S x)) 251 10 ((x + 1 : Nat) : Int) = m0 at hi1 g10 gm ⊢
    exact ih (x + 1) _ m0 (by omega) hi1 g10 gm (v_mb hS (by omega) hb)
theorem R_chg3 (hN : w_N w h n heat D) {N : Nat} (hN6 : N ≤ 100) : ∀ (f k : Nat) (v3 : z_V) (B S : Nat → Int) (m : z_M), k + f = N → R_is w h n heat price D A c U kn KS cs m → rS m 264 n = B → hr_ok n B → 0 ≤ B 35 → B 35 + (f : Int) ≤ 2147483647 → (∀ j, j < n → m 268 j = S j) → (∀ j, j < n → 0 ≤ S j ∧ S j ≤ 9 * (k : Int)) → ∃ m1, z_R 242 (m, 40, [(2, 251), (0, (N : Int)), (0, (k : Int)), v3], []) = some (m1, some (0, v_m (v_H w h n heat price cs D f B S) n 0 0)) ∧ R_is w h n heat price D A c U kn KS cs m1 := by
  have h5 := hN.1.2.2
  intro f
  induction f with
  | zero =>
    intro k v3 B S m hk hi hB hok ht ht2 hS hb
    have hi1 : R_is w h n heat price D A c U kn KS cs (z_up m 251 10 0) := R_upn hi (by decide)
    have g10 : (z_up m 251 10 0) 251 10 = ((0 : Nat) : Int) := zu_self
    have gm : ∀ j, j < n → (z_up m 251 10 0) 268 j = S j := fun j hj => by
      rw [zu_p (by decide)]
      exact hS j hj
    rw [v_tch_40, if_pos (by omega)]
    generalize z_up m 251 10 0 = m0 at hi1 g10 gm ⊢
    exact R_chg4 (S := S) (K := 9 * (k : Int)) (by omega) (N := (N : Int)) h5 hb n 0 0 m0 (by omega) hi1 g10 gm ⟨Int.le_refl _, by omega⟩
  | succ f ih =>
    intro k v3 B S m hk hi hB hok ht ht2 hS hb
    have ht2' : B 35 + ((f : Int) + 1) ≤ 2147483647 := by omega
    obtain ⟨m1, a1, a2, a3, a4⟩ := R_chg2 h5 (N := (N : Int)) (k := (k : Int)) (hN.2.2 (B 35) ht) ⟨ht, by omega⟩ n 0 S m (by omega) hi hB hS (fun j _ hj => by have := hb j hj; omega)
    have a1 : z_R 242 (m, 47, [(2, 251), (0, (N : Int)), (0, (k : Int)), (0, 0)], []) = z_R 242 (m1, 47, [(2, 251), (0, (N : Int)), (0, (k : Int)), (0, (n : Int))], []) := a1
    have e3 := a2.1.2.2.1
    obtain ⟨m2, b1, b2, b3, b4, b5, b6, b7⟩ := r_hour (a := 264) z_A_264 (Or.inr rfl) hN.1.1 hN.1.2.1 (price := price) ⟨hN.1.2.2, hN.2.1, c_ml_ok cs, hN.2.2⟩ m1 (R_cfg a2) a3 hok ht (by omega)
    have b1 : z_R 208 (m1, 0, [(2, 251), (2, 264), (9, 0), (9, 0), (9, 0)], []) = some (m2, none) := b1
    have s1 : z_same (r_LHs 264) m1 m2 := b7.subo (by (try unfold r_LHs); (repeat' (first | exact trivial | refine z_sbo_c ?_ ?_)) <;> (intro k h1 h2; first | exact z_on_h rfl (by omega) (by omega) | exact z_on_t (z_on_h rfl (by omega) (by omega)) | exact z_on_t (z_on_t (z_on_h rfl (by omega) (by omega))) | exact z_on_t (z_on_t (z_on_t (z_on_h rfl (by omega) (by omega)))) | exact z_on_t (z_on_t (z_on_t (z_on_t (z_on_h rfl (by omega) (by omega))))) | exact z_on_t (z_on_t (z_on_t (z_on_t (z_on_t (z_on_h rfl (by omega) (by omega)))))) | exact z_on_t (z_on_t (z_on_t (z_on_t (z_on_t (z_on_t (z_on_h rfl (by omega) (by omega))))))) | exact z_on_t (z_on_t (z_on_t (z_on_t (z_on_t (z_on_t (z_on_t (z_on_h rfl (by omega) (by omega)))))))) | exact z_on_t (z_on_t (z_on_t (z_on_t (z_on_t (z_on_t (z_on_t (z_on_t (z_on_h rfl (by omega) (by omega))))))))) | exact z_on_t (z_on_t (z_on_t (z_on_t (z_on_t (z_on_t (z_on_t (z_on_t (z_on_t (z_on_h rfl (by omega) (by omega)))))))))) | exact z_on_t (z_on_t (z_on_t (z_on_t (z_on_t (z_on_t (z_on_t (z_on_t (z_on_t (z_on_t (z_on_h rfl (by omega) (by omega))))))))))) | exact z_on_t (z_on_t (z_on_t (z_on_t (z_on_t (z_on_t (z_on_t (z_on_t (z_on_t (z_on_t (z_on_t (z_on_h rfl (by omega) (by omega)))))))))))) | exact z_on_t (z_on_t (z_on_t (z_on_t (z_on_t (z_on_t (z_on_t (z_on_t (z_on_t (z_on_t (z_on_t (z_on_t (z_on_h rfl (by omega) (by omega)))))))))))))))
    have hok' := hr_A_ok (price := price) hN.1.1 hN.1.2.1 hN.1.2.2 hN.2.1 (c_ml_ok cs) (hN.2.2 (B 35) ht) hok
    have e35 : hr_A w h heat price (c_ml cs) (wmD D (B 35)) n B 35 = B 35 + 1 := by rw [hr_A_35 hN.1.1 hN.1.2.1 hN.1.2.2, z_add_eq (by omega) (by omega)]
    have hS2 : ∀ j, j < n → m2 268 j = v_w (wmD D (B 35)) B n 0 S j := fun j hj => (s1.of (p := 268) (k := j) (by (try unfold r_LHs); (repeat' (first | exact trivial | refine z_of_c ?_ ?_)) <;> omega)).trans (a4 j hj)
    obtain ⟨m3, c1, c2⟩ := ih (k + 1) (0, (n : Int)) _ (v_w (wmD D (B 35)) B n 0 S) m2 (by omega) (R_off264 a2 s1) b2 hok' (by omega) (by omega) hS2 (fun j hj => by
      have := v_w_b (K := 9 * (k : Int)) (A := B) h5 (hN.2.2 (B 35) ht) hb j hj
      omega)
    rw [v_tch_40, if_neg (by omega), a1, v_tch_47 m1 N k n (by omega), e3, if_pos (Int.le_refl _), b1, zb_n, v_tch_104, z_add_eq (x := (k : Int)) (y := 1) (by omega) (by omega), tc1, c1]
    exact ⟨m3, rfl, c2⟩
theorem R_charges (hi : R_is w h n heat price D A c U kn KS cs m) (hN : w_N w h n heat D) (hok : hr_ok n A) (ht : 0 ≤ A 35 ∧ A 35 ≤ 1073741824) (a : Int) : ∃ m1, z_R 242 (m, 0, [(2, 251), (0, a), (9, 0), (9, 0)], []) = some (m1, some (0, v_A w h n heat price cs D A a)) ∧ R_is w h n heat price D A c U kn KS cs m1 := by
  have hu := R_upn (p0 := 251) (k0 := 11) (v := 0) hi (by decide)
  rw [v_tch_0, R_isl]
  generalize z_up m 251 11 0 = m0 at hu ⊢
  by_cases c1 : 0 ≤ a ∧ a ≤ 100
  · obtain ⟨N, rfl⟩ : ∃ N : Nat, a = (N : Int) := ⟨a.toNat, by omega⟩
    have e : v_A w h n heat price cs D A (N : Int) = v_m (v_H w h n heat price cs D (N : Int).toNat A (fun _ => 0)) n 0 0 := if_pos c1
    rw [Int.toNat_natCast] at e
    obtain ⟨m1, b1, b2, b3⟩ := R_lt hu
    obtain ⟨m2, d1, d2, d3, d4⟩ := R_chg1 (N := (N : Int)) 5 0 m1 (by decide) b2 (fun j hj => absurd hj (by omega))
    have d1 : z_R 242 (m1, 20, [(2, 251), (0, (N : Int)), (0, 0), (9, 0)], []) = z_R 242 (m2, 40, [(2, 251), (0, (N : Int)), (0, 0), (9, 0)], []) := d1
    have hA2 : rS m2 264 n = A := by
      rw [← b3]
      exact rS_cp fun k _ => d4.of (by (try unfold r_LHs); (repeat' (first | exact trivial | refine z_of_c ?_ ?_)) <;> omega)
    obtain ⟨m3, g1, g2⟩ := R_chg3 hN (N := N) (by omega) N 0 (9, 0) A (fun _ => 0) m2 (by omega) d2 hA2 hok ht.1 (by omega) (fun j hj => d3 j (by have := hN.1.2.2; omega)) (fun j hj => ⟨Int.le_refl _, by omega⟩)
    have g1 : z_R 242 (m2, 40, [(2, 251), (0, (N : Int)), (0, 0), (9, 0)], []) = some (m3, some (0, v_m (v_H w h n heat price cs D N A (fun _ => 0)) n 0 0)) := g1
    rw [if_pos c1, zb_v, v_tch_9, if_neg (show ¬ (1 : Int) = 0 by decide), b1, zb_n, v_tch_18, d1, g1, e]
    exact ⟨m3, rfl, g2⟩
  · have e : v_A w h n heat price cs D A a = -1 := if_neg c1
    rw [if_neg c1, zb_v, v_tch_9, if_pos rfl, e]
    exact ⟨m0, rfl, hu⟩
end
theorem core_charges : l_rel2 Rel_C (899, 136, 123, 1, false, 910, 139, 242) := by
  intro M1 M2 M3 σ σ1 σ2 as v1 v2 C1 C2 ρ1 ρ2 ha hR hh hM1 hC1 hp1 hE1 hC2 hp2 hE2
  obtain ⟨a, rfl⟩ := as_one ha
  have hE1 : z_R 123 (z_m σ, 0, [(2, 0), (0, a.toInt), (9, 0), (9, 0), (9, 0)], []) = some (z_m σ1, some (0, v1.toInt)) := z_R_iff.mpr hE1
  have hE2 : z_R 242 (z_m σ1, 0, [(2, 251), (0, a.toInt), (9, 0), (9, 0)], []) = some (z_m σ2, some (0, v2.toInt)) := z_R_iff.mpr hE2
  have hT := T_two (y1 := 123) (y2 := 242) (by decide +kernel) (by decide +kernel) hC1 hC2 hp1 hp2 hR.1
  obtain ⟨w, h, n, heat, price, D, A, c, U, kn, KS, cs, cC, cR, cW⟩ := hR.2
  obtain ⟨b1, b2, -, -, hok, b35, -, b7⟩ := core_b hh hM1 cR
  have hN : w_N w h n heat D := ⟨b1, b2, b7⟩
  have kk := core_24 hh
  have f1 := R_off2_ok (y := 123) (by decide +kernel) hC1 hp1
  have f2 := C_off_ok (y := 242) (by decide +kernel) hC2 hp2
  have cR1 := R_fr cR f1
  have z := core_do cR1 (fun q => C_fr q f2) (C_charges cC hN hok b35 kk.1 kk.2 a.toInt) (fun q => R_charges q hN hok b35 a.toInt) hE1 hE2
  exact ⟨⟨hT, Core_mk z.1.1 z.1.2 cW⟩, fun _ => z.2⟩
end
section
/-! STRETCHES of share, water, with bounds done -/
theorem x_sha_0  (m : z_M) (p : Int) : z_R 116 (m, 0, [(2, 0), (0, p), (9, 0), (9, 0)], []) = if 0 ≤ p ∧ p < m 3 11 then if 0 ≤ p ∧ p < 5 then if ¬ u_hs (m 3 8) (m 3 9) (m 15 (p).toNat) = 0 then (z_R 117 (m, 0, [(2, 24), (2, 12), (0, m 15 (p).toNat)], [])).bind fun qq => z_R 116 (qq.1, 49, [(2, 0), (0, p), (0, m 15 (p).toNat), (9, 0)], qq.2.toList ++ []) else some (m, some (0, (-2))) else none else some (m, some (0, (-1))) :=
  have hK : kt_at 116 = kt_116 := rfl
  (z_R_run hK (n := 2) (g' := (m, 4, [(2, 0), (0, p), (9, 0), (9, 0)], [(2, 3)])) rfl).trans ((z_R_run hK (n := 1) (g' := (m, 5, [(2, 0), (0, p), (9, 0), (9, 0)], [(0, p), (2, 3)])) rfl).trans (z_R_cif hK rfl rfl rfl rfl rfl (c_ifknows _ _ rfl) (fun h1 => (z_R_run hK (n := 3) (g' := (m, 17, [(2, 0), (0, p), (9, 0), (9, 0)], [(2, 12)])) rfl).trans ((z_R_run hK (n := 1) (g' := (m, 20, [(2, 0), (0, p), (9, 0), (9, 0)], [(2, 15)])) rfl).trans ((z_R_run hK (n := 1) (g' := (m, 21, [(2, 0), (0, p), (9, 0), (9, 0)], [(0, p), (2, 15)])) rfl).trans (z_R_ixD hK (n := 5) (g' := (m, 22, [(2, 0), (0, p), (9, 0), (9, 0)], [(0, m 15 (p).toNat)])) rfl rfl rfl  (fun h2 => (z_R_run hK (n := 3) (g' := (m, 27, [(2, 0), (0, p), (0, m 15 (p).toNat), (9, 0)], [(2, 3)])) rfl).trans ((z_R_run hK (n := 1) (g' := (m, 28, [(2, 0), (0, p), (0, m 15 (p).toNat), (9, 0)], [(0, m 15 (p).toNat), (2, 3)])) rfl).trans (z_R_cif hK rfl rfl rfl rfl rfl (c_ifhas _ _ rfl rfl) (fun h3 => have h4 := u_hs_rng h3; (z_R_run hK (n := 3) (g' := (m, 41, [(2, 0), (0, p), (0, m 15 (p).toNat), (9, 0)], [(2, 24)])) rfl).trans ((z_R_run hK (n := 2) (g' := (m, 45, [(2, 0), (0, p), (0, m 15 (p).toNat), (9, 0)], [(2, 12), (2, 24)])) rfl).trans ((z_R_run hK (n := 1) (g' := (m, 46, [(2, 0), (0, p), (0, m 15 (p).toNat), (9, 0)], [(0, m 15 (p).toNat), (2, 12), (2, 24)])) rfl).trans (z_R_call hK rfl rfl rfl rfl rfl)))) (fun h3 => (z_R_run hK (n := 2) (g' := (m, 36, [(2, 0), (0, p), (0, m 15 (p).toNat), (9, 0)], [(0, (-2))])) rfl).trans (z_R_ret hK rfl rfl rfl))))))))) (fun h1 => (z_R_run hK (n := 2) (g' := (m, 12, [(2, 0), (0, p), (9, 0), (9, 0)], [(0, (-1))])) rfl).trans (z_R_ret hK rfl rfl rfl))))
theorem x_sha_49  (m : z_M) (x1 : Int) (x2 : Int) (u : Int) : z_R 116 (m, 49, [(2, 0), (0, x1), (0, x2), (9, 0)], [(0, u)]) = (z_R 70 (m, 0, [(2, 24), (0, x1), (0, m 12 7), (9, 0)], [])).bind fun qq => z_R 116 (qq.1, 64, [(2, 0), (0, x1), (0, x2), (9, 0)], qq.2.toList ++ [(0, u)]) :=
  have hK : kt_at 116 = kt_116 := rfl
  (z_R_run hK (n := 2) (g' := (m, 53, [(2, 0), (0, x1), (0, x2), (9, 0)], [(2, 24), (0, u)])) rfl).trans ((z_R_run hK (n := 3) (g' := (m, 58, [(2, 0), (0, x1), (0, x2), (9, 0)], [(2, 12), (0, x1), (2, 24), (0, u)])) rfl).trans ((z_R_run hK (n := 1) (g' := (m, 61, [(2, 0), (0, x1), (0, x2), (9, 0)], [(0, m 12 7), (0, x1), (2, 24), (0, u)])) rfl).trans (z_R_call hK rfl rfl rfl rfl rfl)))
theorem x_sha_64  (m : z_M) (x1 : Int) (x2 : Int) (s0 : Int) (u : Int) : z_R 116 (m, 64, [(2, 0), (0, x1), (0, x2), (9, 0)], [(0, u), (0, s0)]) = (z_R 121 (m, 0, [(2, 24), (2, 12), (0, x2)], [])).bind fun qq => z_R 116 (qq.1, 81, [(2, 0), (0, x1), (0, x2), (0, z_mul s0 u)], qq.2.toList ++ [(1, z_i2l (z_mul s0 u)), (2, 0)]) :=
  have hK : kt_at 116 = kt_116 := rfl
  (z_R_run hK (n := 7) (g' := (m, 73, [(2, 0), (0, x1), (0, x2), (0, z_mul s0 u)], [(2, 24), (1, z_i2l (z_mul s0 u)), (2, 0)])) rfl).trans ((z_R_run hK (n := 2) (g' := (m, 77, [(2, 0), (0, x1), (0, x2), (0, z_mul s0 u)], [(2, 12), (2, 24), (1, z_i2l (z_mul s0 u)), (2, 0)])) rfl).trans ((z_R_run hK (n := 1) (g' := (m, 78, [(2, 0), (0, x1), (0, x2), (0, z_mul s0 u)], [(0, x2), (2, 12), (2, 24), (1, z_i2l (z_mul s0 u)), (2, 0)])) rfl).trans (z_R_call hK rfl rfl rfl rfl rfl)))
theorem x_sha_81  (m : z_M) (x1 : Int) (x2 : Int) (x3 : Int) (s0 : Int) (u : Int) : z_R 116 (m, 81, [(2, 0), (0, x1), (0, x2), (0, x3)], [(0, u), (1, s0), (2, 0)]) = (z_R 122 (m, 0, [(2, 0), (1, s0), (9, 0), (1, z_i2l u), (9, 0), (9, 0), (9, 0), (9, 0), (9, 0), (9, 0), (9, 0), (9, 0)], [])).bind fun qq => z_R 116 (qq.1, 85, [(2, 0), (0, x1), (0, x2), (0, x3)], qq.2.toList ++ []) :=
  have hK : kt_at 116 = kt_116 := rfl
  (z_R_run hK (n := 1) (g' := (m, 82, [(2, 0), (0, x1), (0, x2), (0, x3)], [(1, z_i2l u), (1, s0), (2, 0)])) rfl).trans (z_R_call hK rfl rfl rfl rfl rfl)
theorem x_sha_85  (m : z_M) (x1 : Int) (x2 : Int) (x3 : Int) : z_R 116 (m, 85, [(2, 0), (0, x1), (0, x2), (0, x3)], []) = some (m, some (0, 0)) :=
  have hK : kt_at 116 = kt_116 := rfl
  (z_R_run hK (n := 1) (g' := (m, 86, [(2, 0), (0, x1), (0, x2), (0, x3)], [(0, 0)])) rfl).trans (z_R_ret hK rfl rfl rfl)
theorem x_tsh_0  (m : z_M) (p : Int) (h_n : 0 ≤ m 251 3 ∧ m 251 3 ≤ 5) : z_R 239 (m, 0, [(2, 251), (0, p), (9, 0), (9, 0)], []) = if 0 ≤ p ∧ p < m 251 3 then if m 252 (p + 18).toNat = (-1) then some (z_up m 251 11 0, some (0, (-2))) else (z_R 183 (z_up m 251 11 0, 0, [(2, 251), (2, 252), (0, m 252 (p + 18).toNat), (9, 0), (9, 0)], [])).bind fun qq => z_R 239 (qq.1, 48, [(2, 251), (0, p), (0, m 252 (p + 18).toNat), (9, 0)], qq.2.toList ++ [(0, m 252 (p + 18).toNat), (2, 252), (2, 251)]) else some (z_up m 251 11 0, some (0, (-1))) :=
  have hK : kt_at 239 = kt_239 := rfl
  (z_R_run hK (n := 5) (g' := (z_up m 251 11 0, 7, [(2, 251), (0, p), (9, 0), (9, 0)], [(0, p), (2, 251)])) rfl).trans (z_R_cif hK rfl rfl rfl rfl rfl (t_ifperson _ _ (zu_k (by decide)) h_n) (fun h1 => (z_R_run hK (n := 3) (g' := (z_up m 251 11 0, 19, [(2, 251), (0, p), (9, 0), (9, 0)], [(2, 252)])) rfl).trans ((z_R_run hK (n := 3) (g' := (z_up m 251 11 0, 23, [(2, 251), (0, p), (9, 0), (9, 0)], [(0, z_add 18 p), (2, 252)])) rfl).trans ((congrArg (fun vv => z_R 239 (z_up m 251 11 0, 23, [(2, 251), (0, p), (9, 0), (9, 0)], [(0, vv), (2, 252)])) ((z_add_eq (by omega) (by omega)).trans (by omega))).trans (z_R_ixT hK (n := 37) (g' := (z_up m 251 11 0, 24, [(2, 251), (0, p), (9, 0), (9, 0)], [(0, (z_up m 251 11 0) 252 (p + 18).toNat)])) rfl rfl rfl  (show 0 ≤ p + 18 ∧ p + 18 < 37 by omega) ((congrArg (fun vv => z_R 239 (z_up m 251 11 0, 24, [(2, 251), (0, p), (9, 0), (9, 0)], [(0, vv)])) (zu_p (by decide))).trans ((z_R_run hK (n := 3) (g' := (z_up m 251 11 0, 27, [(2, 251), (0, p), (0, m 252 (p + 18).toNat), (9, 0)], [(0, (-1)), (0, m 252 (p + 18).toNat)])) rfl).trans (z_R_ifnd hK (c := m 252 (p + 18).toNat = (-1)) (p1 := 33) (p2 := 30) rfl rfl rfl (fun h2 => (z_R_run hK (n := 3) (g' := (z_up m 251 11 0, 38, [(2, 251), (0, p), (0, m 252 (p + 18).toNat), (9, 0)], [(2, 252), (2, 251)])) rfl).trans ((z_R_run hK (n := 4) (g' := (z_up m 251 11 0, 44, [(2, 251), (0, p), (0, m 252 (p + 18).toNat), (9, 0)], [(2, 252), (2, 251), (0, m 252 (p + 18).toNat), (2, 252), (2, 251)])) rfl).trans ((z_R_run hK (n := 1) (g' := (z_up m 251 11 0, 45, [(2, 251), (0, p), (0, m 252 (p + 18).toNat), (9, 0)], [(0, m 252 (p + 18).toNat), (2, 252), (2, 251), (0, m 252 (p + 18).toNat), (2, 252), (2, 251)])) rfl).trans (z_R_call hK rfl rfl rfl rfl rfl)))) (fun h2 => (z_R_run hK (n := 1) (g' := (z_up m 251 11 0, 32, [(2, 251), (0, p), (0, m 252 (p + 18).toNat), (9, 0)], [(0, (-2))])) rfl).trans (z_R_ret hK rfl rfl rfl))))))))) (fun h1 => (z_R_run hK (n := 2) (g' := (z_up m 251 11 0, 14, [(2, 251), (0, p), (9, 0), (9, 0)], [(0, (-1))])) rfl).trans (z_R_ret hK rfl rfl rfl)))
theorem x_tsh_48  (m : z_M) (x1 : Int) (x2 : Int) (s0 : Int) (u : Int) : z_R 239 (m, 48, [(2, 251), (0, x1), (0, x2), (9, 0)], [(0, u), (0, s0), (2, 252), (2, 251)]) = (z_R 184 (m, 0, [(2, 251), (2, 252), (0, s0), (0, u), (9, 0), (9, 0)], [])).bind fun qq => z_R 239 (qq.1, 51, [(2, 251), (0, x1), (0, x2), (9, 0)], qq.2.toList ++ []) :=
  have hK : kt_at 239 = kt_239 := rfl
  z_R_call hK rfl rfl rfl rfl rfl
theorem x_tsh_51  (m : z_M) (x1 : Int) (x2 : Int) (u : Int) : z_R 239 (m, 51, [(2, 251), (0, x1), (0, x2), (9, 0)], [(0, u)]) = if u = 0 then (z_R 240 (z_up m 251 10 0, 0, [(2, 251), (1, 0), (9, 0), (1, 1), (9, 0), (9, 0), (9, 0)], [])).bind fun qq => z_R 239 (qq.1, 67, [(2, 251), (0, x1), (0, x2), (0, u)], qq.2.toList ++ []) else (z_R 187 (z_up m 251 10 0, 0, [(2, 251), (2, 252), (0, x2)], [])).bind fun qq => z_R 239 (qq.1, 80, [(2, 251), (0, x1), (0, x2), (0, u)], qq.2.toList ++ [(2, 251)]) :=
  have hK : kt_at 239 = kt_239 := rfl
  (z_R_run hK (n := 5) (g' := (z_up m 251 10 0, 58, [(2, 251), (0, x1), (0, x2), (0, u)], [(0, u)])) rfl).trans (z_R_ifnd hK (c := u = 0) (p1 := 70) (p2 := 61) rfl rfl rfl (fun h1 => (z_R_run hK (n := 4) (g' := (z_up m 251 10 0, 76, [(2, 251), (0, x1), (0, x2), (0, u)], [(2, 252), (2, 251), (2, 251)])) rfl).trans ((z_R_run hK (n := 1) (g' := (z_up m 251 10 0, 77, [(2, 251), (0, x1), (0, x2), (0, u)], [(0, x2), (2, 252), (2, 251), (2, 251)])) rfl).trans (z_R_call hK rfl rfl rfl rfl rfl))) (fun h1 => (z_R_run hK (n := 3) (g' := (z_up m 251 10 0, 64, [(2, 251), (0, x1), (0, x2), (0, u)], [(1, 1), (1, 0), (2, 251)])) rfl).trans (z_R_call hK rfl rfl rfl rfl rfl)))
theorem x_tsh_67  (m : z_M) (x1 : Int) (x2 : Int) (x3 : Int) : z_R 239 (m, 67, [(2, 251), (0, x1), (0, x2), (0, x3)], []) = some (m, some (0, 0)) :=
  have hK : kt_at 239 = kt_239 := rfl
  (z_R_run hK (n := 2) (g' := (m, 98, [(2, 251), (0, x1), (0, x2), (0, x3)], [(0, 0)])) rfl).trans (z_R_ret hK rfl rfl rfl)
theorem x_tsh_80  (m : z_M) (x1 : Int) (x2 : Int) (x3 : Int) (u : Int) : z_R 239 (m, 80, [(2, 251), (0, x1), (0, x2), (0, x3)], [(0, u), (2, 251)]) = (z_R 186 (m, 0, [(2, 251), (2, 252), (0, x1)], [])).bind fun qq => z_R 239 (qq.1, 90, [(2, 251), (0, x1), (0, x2), (0, x3)], qq.2.toList ++ [(1, z_i2l u), (2, 251)]) :=
  have hK : kt_at 239 = kt_239 := rfl
  (z_R_run hK (n := 4) (g' := (m, 86, [(2, 251), (0, x1), (0, x2), (0, x3)], [(2, 252), (2, 251), (1, z_i2l u), (2, 251)])) rfl).trans ((z_R_run hK (n := 1) (g' := (m, 87, [(2, 251), (0, x1), (0, x2), (0, x3)], [(0, x1), (2, 252), (2, 251), (1, z_i2l u), (2, 251)])) rfl).trans (z_R_call hK rfl rfl rfl rfl rfl))
theorem x_tsh_90  (m : z_M) (x1 : Int) (x2 : Int) (x3 : Int) (s0 : Int) (u : Int) : z_R 239 (m, 90, [(2, 251), (0, x1), (0, x2), (0, x3)], [(0, u), (1, s0), (2, 251)]) = (z_R 240 (m, 0, [(2, 251), (1, z_lmul s0 (z_i2l u)), (9, 0), (1, z_i2l x3), (9, 0), (9, 0), (9, 0)], [])).bind fun qq => z_R 239 (qq.1, 97, [(2, 251), (0, x1), (0, x2), (0, x3)], qq.2.toList ++ []) :=
  have hK : kt_at 239 = kt_239 := rfl
  (z_R_run hK (n := 4) (g' := (m, 94, [(2, 251), (0, x1), (0, x2), (0, x3)], [(1, z_i2l x3), (1, z_lmul s0 (z_i2l u)), (2, 251)])) rfl).trans (z_R_call hK rfl rfl rfl rfl rfl)
theorem x_tsh_97  (m : z_M) (x1 : Int) (x2 : Int) (x3 : Int) : z_R 239 (m, 97, [(2, 251), (0, x1), (0, x2), (0, x3)], []) = some (m, some (0, 0)) :=
  have hK : kt_at 239 = kt_239 := rfl
  (z_R_run hK (n := 1) (g' := (m, 98, [(2, 251), (0, x1), (0, x2), (0, x3)], [(0, 0)])) rfl).trans (z_R_ret hK rfl rfl rfl)
theorem x_wat_0  (m : z_M) : z_R 137 (m, 0, [(2, 0), (9, 0), (9, 0), (9, 0)], []) = z_R 137 (m, 6, [(2, 0), (0, 0), (0, 0), (0, 0)], []) :=
  have hK : kt_at 137 = kt_137 := rfl
  (z_R_run hK (n := 6) (g' := (m, 6, [(2, 0), (0, 0), (0, 0), (0, 0)], [])) rfl).trans (rfl)
theorem x_wat_6  (m : z_M) (x1 : Int) (x2 : Int) (x3 : Int) : z_R 137 (m, 6, [(2, 0), (0, x1), (0, x2), (0, x3)], []) = if 9 ≤ x3 then (z_R 76 (m, 0, [(2, 0), (1, z_i2l x1), (9, 0), (1, z_i2l x2), (9, 0), (1, z_i2l (m 12 5)), (9, 0)], [])).bind fun qq => z_R 137 (qq.1, 69, [(2, 0), (0, x1), (0, x2), (0, x3)], qq.2.toList ++ []) else if ¬ u_hs (m 3 8) (m 3 9) x3 = 0 then z_R 137 (m, 6, [(2, 0), (0, z_add x1 (m 13 (x3).toNat)), (0, z_add x2 (m 14 (x3).toNat)), (0, x3 + 1)], []) else z_R 137 (m, 6, [(2, 0), (0, x1), (0, x2), (0, z_add x3 1)], []) :=
  have hK : kt_at 137 = kt_137 := rfl
  (z_R_run hK (n := 2) (g' := (m, 9, [(2, 0), (0, x1), (0, x2), (0, x3)], [(0, 9), (0, x3)])) rfl).trans (z_R_ifd hK (c := 9 ≤ x3) (p1 := 53) (p2 := 12) rfl rfl rfl (fun h1 => (z_R_run hK (n := 7) (g' := (m, 62, [(2, 0), (0, x1), (0, x2), (0, x3)], [(2, 12), (1, z_i2l x2), (1, z_i2l x1), (2, 0)])) rfl).trans ((z_R_run hK (n := 2) (g' := (m, 66, [(2, 0), (0, x1), (0, x2), (0, x3)], [(1, z_i2l (m 12 5)), (1, z_i2l x2), (1, z_i2l x1), (2, 0)])) rfl).trans (z_R_call hK rfl rfl rfl rfl rfl))) (fun h1 => (z_R_run hK (n := 2) (g' := (m, 16, [(2, 0), (0, x1), (0, x2), (0, x3)], [(2, 3)])) rfl).trans ((z_R_run hK (n := 1) (g' := (m, 17, [(2, 0), (0, x1), (0, x2), (0, x3)], [(0, x3), (2, 3)])) rfl).trans (z_R_cif hK rfl rfl rfl rfl rfl (c_ifhas _ _ rfl rfl) (fun h2 => have h3 := u_hs_rng h2; (z_R_run hK (n := 4) (g' := (m, 28, [(2, 0), (0, x1), (0, x2), (0, x3)], [(2, 12), (0, x1)])) rfl).trans ((z_R_run hK (n := 1) (g' := (m, 31, [(2, 0), (0, x1), (0, x2), (0, x3)], [(2, 13), (0, x1)])) rfl).trans ((z_R_run hK (n := 1) (g' := (m, 32, [(2, 0), (0, x1), (0, x2), (0, x3)], [(0, x3), (2, 13), (0, x1)])) rfl).trans (z_R_ixT hK (n := 9) (g' := (m, 33, [(2, 0), (0, x1), (0, x2), (0, x3)], [(0, m 13 (x3).toNat), (0, x1)])) rfl rfl rfl  (show 0 ≤ x3 ∧ x3 < 9 by omega) ((z_R_run hK (n := 5) (g' := (m, 40, [(2, 0), (0, z_add x1 (m 13 (x3).toNat)), (0, x2), (0, x3)], [(2, 12), (0, x2)])) rfl).trans ((z_R_run hK (n := 1) (g' := (m, 43, [(2, 0), (0, z_add x1 (m 13 (x3).toNat)), (0, x2), (0, x3)], [(2, 14), (0, x2)])) rfl).trans ((z_R_run hK (n := 1) (g' := (m, 44, [(2, 0), (0, z_add x1 (m 13 (x3).toNat)), (0, x2), (0, x3)], [(0, x3), (2, 14), (0, x2)])) rfl).trans (z_R_ixT hK (n := 9) (g' := (m, 45, [(2, 0), (0, z_add x1 (m 13 (x3).toNat)), (0, x2), (0, x3)], [(0, m 14 (x3).toNat), (0, x2)])) rfl rfl rfl  (show 0 ≤ x3 ∧ x3 < 9 by omega) ((z_R_run hK (n := 3) (g' := (m, 50, [(2, 0), (0, z_add x1 (m 13 (x3).toNat)), (0, z_add x2 (m 14 (x3).toNat)), (0, z_add x3 1)], [])) rfl).trans ((congrArg (fun vv => z_R 137 (m, 50, [(2, 0), (0, z_add x1 (m 13 (x3).toNat)), (0, z_add x2 (m 14 (x3).toNat)), (0, vv)], [])) (z_add_eq (by omega) (by omega))).trans ((z_R_run hK (n := 1) (g' := (m, 6, [(2, 0), (0, z_add x1 (m 13 (x3).toNat)), (0, z_add x2 (m 14 (x3).toNat)), (0, x3 + 1)], [])) rfl).trans (rfl)))))))))))) (fun h2 => (z_R_run hK (n := 3) (g' := (m, 6, [(2, 0), (0, x1), (0, x2), (0, z_add x3 1)], [])) rfl).trans (rfl))))))
theorem x_wat_69  (m : z_M) (x1 : Int) (x2 : Int) (x3 : Int) : z_R 137 (m, 69, [(2, 0), (0, x1), (0, x2), (0, x3)], []) = some (m, some (0, z_add (z_add x1 x2) (m 12 5))) :=
  have hK : kt_at 137 = kt_137 := rfl
  (z_R_run hK (n := 5) (g' := (m, 76, [(2, 0), (0, x1), (0, x2), (0, x3)], [(2, 12), (0, z_add x1 x2)])) rfl).trans ((z_R_run hK (n := 2) (g' := (m, 80, [(2, 0), (0, x1), (0, x2), (0, x3)], [(0, z_add (z_add x1 x2) (m 12 5))])) rfl).trans (z_R_ret hK rfl rfl rfl))
theorem x_twa_0  (m : z_M) : z_R 252 (m, 0, [(2, 251), (9, 0), (9, 0), (9, 0)], []) = z_R 252 (z_up m 251 11 0, 11, [(2, 251), (0, 0), (0, 0), (0, 0)], []) :=
  have hK : kt_at 252 = kt_252 := rfl
  (z_R_run hK (n := 9) (g' := (z_up m 251 11 0, 11, [(2, 251), (0, 0), (0, 0), (0, 0)], [])) rfl).trans (rfl)
theorem x_twa_11  (m : z_M) (x1 : Int) (x2 : Int) (x3 : Int) : z_R 252 (m, 11, [(2, 251), (0, x1), (0, x2), (0, x3)], []) = if 9 ≤ x3 then (z_R 210 (z_up m 251 10 0, 0, [(2, 251), (1, z_i2l x1), (9, 0)], [])).bind fun qq => z_R 252 (qq.1, 55, [(2, 251), (0, x1), (0, x2), (0, x3)], qq.2.toList ++ []) else if 0 ≤ x3 ∧ x3 < 37 then z_R 252 (m, 11, [(2, 251), (0, z_add x1 (m 252 (x3).toNat)), (0, z_add x2 (m 252 (x3 + 9).toNat)), (0, x3 + 1)], []) else none :=
  have hK : kt_at 252 = kt_252 := rfl
  (z_R_run hK (n := 2) (g' := (m, 14, [(2, 251), (0, x1), (0, x2), (0, x3)], [(0, 9), (0, x3)])) rfl).trans (z_R_ifd hK (c := 9 ≤ x3) (p1 := 44) (p2 := 17) rfl rfl rfl (fun h1 => (z_R_run hK (n := 6) (g' := (z_up m 251 10 0, 52, [(2, 251), (0, x1), (0, x2), (0, x3)], [(1, z_i2l x1), (2, 251)])) rfl).trans (z_R_call hK rfl rfl rfl rfl rfl)) (fun h1 => (z_R_run hK (n := 3) (g' := (m, 22, [(2, 251), (0, x1), (0, x2), (0, x3)], [(2, 252), (0, x1)])) rfl).trans ((z_R_run hK (n := 1) (g' := (m, 23, [(2, 251), (0, x1), (0, x2), (0, x3)], [(0, x3), (2, 252), (0, x1)])) rfl).trans (z_R_ixD hK (n := 37) (g' := (m, 24, [(2, 251), (0, x1), (0, x2), (0, x3)], [(0, m 252 (x3).toNat), (0, x1)])) rfl rfl rfl  (fun h2 => (z_R_run hK (n := 5) (g' := (m, 31, [(2, 251), (0, z_add x1 (m 252 (x3).toNat)), (0, x2), (0, x3)], [(2, 252), (0, x2)])) rfl).trans ((z_R_run hK (n := 3) (g' := (m, 35, [(2, 251), (0, z_add x1 (m 252 (x3).toNat)), (0, x2), (0, x3)], [(0, z_add 9 x3), (2, 252), (0, x2)])) rfl).trans ((congrArg (fun vv => z_R 252 (m, 35, [(2, 251), (0, z_add x1 (m 252 (x3).toNat)), (0, x2), (0, x3)], [(0, vv), (2, 252), (0, x2)])) ((z_add_eq (by omega) (by omega)).trans (by omega))).trans (z_R_ixT hK (n := 37) (g' := (m, 36, [(2, 251), (0, z_add x1 (m 252 (x3).toNat)), (0, x2), (0, x3)], [(0, m 252 (x3 + 9).toNat), (0, x2)])) rfl rfl rfl  (show 0 ≤ x3 + 9 ∧ x3 + 9 < 37 by omega) ((z_R_run hK (n := 3) (g' := (m, 41, [(2, 251), (0, z_add x1 (m 252 (x3).toNat)), (0, z_add x2 (m 252 (x3 + 9).toNat)), (0, z_add x3 1)], [])) rfl).trans ((congrArg (fun vv => z_R 252 (m, 41, [(2, 251), (0, z_add x1 (m 252 (x3).toNat)), (0, z_add x2 (m 252 (x3 + 9).toNat)), (0, vv)], [])) (z_add_eq (by omega) (by omega))).trans ((z_R_run hK (n := 1) (g' := (m, 11, [(2, 251), (0, z_add x1 (m 252 (x3).toNat)), (0, z_add x2 (m 252 (x3 + 9).toNat)), (0, x3 + 1)], [])) rfl).trans (rfl))))))))))))
theorem x_twa_55  (m : z_M) (x1 : Int) (x2 : Int) (x3 : Int) : z_R 252 (m, 55, [(2, 251), (0, x1), (0, x2), (0, x3)], []) = (z_R 210 (m, 0, [(2, 251), (1, z_i2l x2), (9, 0)], [])).bind fun qq => z_R 252 (qq.1, 61, [(2, 251), (0, x1), (0, x2), (0, x3)], qq.2.toList ++ []) :=
  have hK : kt_at 252 = kt_252 := rfl
  (z_R_run hK (n := 3) (g' := (m, 58, [(2, 251), (0, x1), (0, x2), (0, x3)], [(1, z_i2l x2), (2, 251)])) rfl).trans (z_R_call hK rfl rfl rfl rfl rfl)
theorem x_twa_61  (m : z_M) (x1 : Int) (x2 : Int) (x3 : Int) : z_R 252 (m, 61, [(2, 251), (0, x1), (0, x2), (0, x3)], []) = (z_R 210 (m, 0, [(2, 251), (1, z_i2l (m 252 33)), (9, 0)], [])).bind fun qq => z_R 252 (qq.1, 73, [(2, 251), (0, x1), (0, x2), (0, x3)], qq.2.toList ++ []) :=
  have hK : kt_at 252 = kt_252 := rfl
  (z_R_run hK (n := 3) (g' := (m, 66, [(2, 251), (0, x1), (0, x2), (0, x3)], [(2, 252), (2, 251)])) rfl).trans ((z_R_run hK (n := 3) (g' := (m, 70, [(2, 251), (0, x1), (0, x2), (0, x3)], [(1, z_i2l (m 252 33)), (2, 251)])) rfl).trans (z_R_call hK rfl rfl rfl rfl rfl))
theorem x_twa_73  (m : z_M) (x1 : Int) (x2 : Int) (x3 : Int) : z_R 252 (m, 73, [(2, 251), (0, x1), (0, x2), (0, x3)], []) = some (m, some (0, z_add (z_add x1 x2) (m 252 33))) :=
  have hK : kt_at 252 = kt_252 := rfl
  (z_R_run hK (n := 5) (g' := (m, 80, [(2, 251), (0, x1), (0, x2), (0, x3)], [(2, 252), (0, z_add x1 x2)])) rfl).trans ((z_R_run hK (n := 3) (g' := (m, 84, [(2, 251), (0, x1), (0, x2), (0, x3)], [(0, z_add (z_add x1 x2) (m 252 33))])) rfl).trans (z_R_ret hK rfl rfl rfl))
end
section
/-! share, water, of what both are in -/
def s_onlyV1 (q : a_K) : Bool := match q.2.1 with
  | .ireturn => false
  | .lreturn => false
  | .new _ => false
  | _ => true
noncomputable def s_onlyV (y : Nat) : Bool := (kt_at y).all fun r => r.all s_onlyV1
theorem s_ex_tagV {y : Nat} (hk : s_onlyV y = true) : ∀ (f : Nat) (g : z_G) (r : z_Q), z_ex f y g = some r → r.2 = none := by
  intro f
  induction f with
  | zero => intro g r h; cases h
  | succ f ih =>
    intro g r h
    unfold z_ex at h
    split at h
    · cases h
    · rename_i q hq
      obtain ⟨⟨row, h1, h2⟩, -⟩ := k_get_in hq
      have hb := List.all_eq_true.mp (List.all_eq_true.mp hk row h1) q h2
      split at h
      · split at h
        · exact ih _ _ h
        · cases h
      · obtain ⟨m, pc, ls, st⟩ := g
        unfold z_ret at h
        unfold s_onlyV1 at hb
        simp only at h
        split at h
        · rw [← Option.some.inj h]
        · rename_i e; rw [e] at hb; cases hb
        · rename_i e; rw [e] at hb; cases hb
        · rename_i e; rw [e] at hb; cases hb
        · cases h
      · split at h
        · split at h
          · exact ih _ _ h
          · cases h
        · cases h
theorem s_tagV {y : Nat} (hk : s_onlyV y = true) {g : z_G} {r : z_Q} (h : z_R y g = some r) : r.2 = none := by
  obtain ⟨f, h⟩ := z_R_iff.mp h
  exact s_ex_tagV hk f g r h
def s_onlyI1 (q : a_K) : Bool := match q.2.1 with
  | .return_ => false
  | .lreturn => false
  | .new _ => false
  | _ => true
noncomputable def s_onlyI (y : Nat) : Bool := (kt_at y).all fun r => r.all s_onlyI1
theorem s_ex_tagI {y : Nat} (hk : s_onlyI y = true) : ∀ (f : Nat) (g : z_G) (r : z_Q), z_ex f y g = some r → ∃ u, r.2 = some (0, u) := by
  intro f
  induction f with
  | zero => intro g r h; cases h
  | succ f ih =>
    intro g r h
    unfold z_ex at h
    split at h
    · cases h
    · rename_i q hq
      obtain ⟨⟨row, h1, h2⟩, -⟩ := k_get_in hq
      have hb := List.all_eq_true.mp (List.all_eq_true.mp hk row h1) q h2
      split at h
      · split at h
        · exact ih _ _ h
        · cases h
      · obtain ⟨m, pc, ls, st⟩ := g
        unfold z_ret at h
        unfold s_onlyI1 at hb
        simp only at h
        split at h
        · rename_i e; rw [e] at hb; cases hb
        · rename_i e; rw [e] at hb; cases hb
        · split at h
          · exact ⟨_, by rw [← Option.some.inj h]⟩
          · cases h
        · rename_i e; rw [e] at hb; cases hb
        · cases h
      · split at h
        · split at h
          · exact ih _ _ h
          · cases h
        · cases h
theorem s_tagI {y : Nat} (hk : s_onlyI y = true) {g : z_G} {r : z_Q} (h : z_R y g = some r) : ∃ u, r.2 = some (0, u) := by
  obtain ⟨f, h⟩ := z_R_iff.mp h
  exact s_ex_tagI hk f g r h
theorem s_val {m m' : z_M} {x v : Int} (h : some (m, some (0, x)) = (some (m', some (0, v)) : Option z_Q)) : v = x := (congrArg (fun z : z_Q => (z.2.getD (0, 0)).2) (Option.some.inj h)).symm
/-- behind a call that gives an int; that gives nothing -/
theorem s_bI {y y2 pc : Nat} (hk : s_onlyI y2 = true) {G : z_G} {ls : z_L} {rest : List z_V} {r : z_Q} (h : (z_R y2 G).bind (fun qq => z_R y (qq.1, pc, ls, qq.2.toList ++ rest)) = some r) : ∃ m u, z_R y (m, pc, ls, (0, u) :: rest) = some r := by
  obtain ⟨⟨m1, x1⟩, h1, h2⟩ := Option.bind_eq_some_iff.mp h
  obtain ⟨u, e⟩ := s_tagI hk h1
  simp only at e
  subst e
  exact ⟨m1, u, h2⟩
theorem s_bV {y y2 pc : Nat} (hk : s_onlyV y2 = true) {G : z_G} {ls : z_L} {rest : List z_V} {r : z_Q} (h : (z_R y2 G).bind (fun qq => z_R y (qq.1, pc, ls, qq.2.toList ++ rest)) = some r) : ∃ m, z_R y (m, pc, ls, rest) = some r := by
  obtain ⟨⟨m1, x1⟩, h1, h2⟩ := Option.bind_eq_some_iff.mp h
  have e := s_tagV hk h1
  simp only at e
  subst e
  exact ⟨m1, h2⟩
/-- share's answer -/
def x_A (n : Nat) (A : Nat → Int) (p : Int) : Int := if 0 ≤ p ∧ p < (n : Int) then (if A (p.toNat + 18) = -1 then -2 else 0) else -1
def x_s (A : Nat → Int) : Nat → Nat → Int → Int
  | 0, _, s => s
  | f + 1, x, s => x_s A f (x + 1) (z_add s (A x))
def x_w (A : Nat → Int) : Int := z_add (z_add (x_s A 9 0 0) (x_s (fun k => A (k + 9)) 9 0 0)) (A 33)
section
variable {w h n : Nat} {heat price : Int} {D A : Nat → Int} {c : Nat} {U : Nat → Nat → Int} {kn : Nat → Int} {KS : Nat → Nat → Int} {cs : List Int} {m : z_M}
theorem C_share (hi : C_is w h n heat price D A c U kn KS cs m) (h5 : n ≤ 5) (hw : wi w h n A) {p v : Int} {m' : z_M} (hE : z_R 116 (m, 0, [(2, 0), (0, p), (9, 0), (9, 0)], []) = some (m', some (0, v))) : v = x_A n A p := by
  rw [x_sha_0, hi.1.1, hi.1.2.1, hi.1.2.2.1] at hE
  unfold x_A
  by_cases c1 : 0 ≤ p ∧ p < (n : Int)
  · obtain ⟨q, rfl⟩ : ∃ q : Nat, p = (q : Int) := ⟨p.toNat, by omega⟩
    have e15 : m 15 q = A (q + 18) := C_A3 hi (by omega) h5
    rw [if_pos c1, if_pos (show 0 ≤ (q : Int) ∧ (q : Int) < 5 by omega), Int.toNat_natCast, e15] at hE
    rw [if_pos c1, Int.toNat_natCast]
    by_cases c2 : u_hs (w : Int) (h : Int) (A (q + 18)) = 0
    · rw [if_neg (not_not_intro c2)] at hE
      have z := (hw.1 q (by omega)).resolve_right (not_not_intro c2)
      rw [if_pos z]
      exact s_val hE
    · have z : ¬ A (q + 18) = -1 := fun z => by
        have := u_hs_rng c2
        omega
      rw [if_pos c2] at hE
      rw [if_neg z]
      obtain ⟨m1, u1, h1⟩ := s_bI (by decide +kernel) hE
      rw [x_sha_49] at h1
      obtain ⟨m2, u2, h2⟩ := s_bI (by decide +kernel) h1
      rw [x_sha_64] at h2
      obtain ⟨m3, u3, h3⟩ := s_bI (by decide +kernel) h2
      rw [x_sha_81] at h3
      obtain ⟨m4, h4⟩ := s_bV (by decide +kernel) h3
      rw [x_sha_85] at h4
      exact s_val h4
  · rw [if_neg c1] at hE ⊢
    exact s_val hE
theorem R_share (hi : R_is w h n heat price D A c U kn KS cs m) (h5 : n ≤ 5) {p v : Int} {m' : z_M} (hE : z_R 239 (m, 0, [(2, 251), (0, p), (9, 0), (9, 0)], []) = some (m', some (0, v))) : v = x_A n A p := by
  rw [x_tsh_0 m p (by rw [hi.1.2.2.1]; omega), hi.1.2.2.1] at hE
  unfold x_A
  by_cases c1 : 0 ≤ p ∧ p < (n : Int)
  · obtain ⟨q, rfl⟩ : ∃ q : Nat, p = (q : Int) := ⟨p.toNat, by omega⟩
    have e18 : m 252 (q + 18) = A (q + 18) := R_A hi (by omega) (a_vis_p (b := 18) (p := q) (by omega) (by omega) (by omega) (by omega))
    rw [if_pos c1, show ((q : Int) + 18).toNat = q + 18 by omega, e18] at hE
    rw [if_pos c1, Int.toNat_natCast]
    by_cases z : A (q + 18) = -1
    · rw [if_pos z] at hE ⊢
      exact s_val hE
    · rw [if_neg z] at hE ⊢
      obtain ⟨m1, u1, h1⟩ := s_bI (by decide +kernel) hE
      rw [x_tsh_48] at h1
      obtain ⟨m2, u2, h2⟩ := s_bI (by decide +kernel) h1
      rw [x_tsh_51] at h2
      by_cases c2 : u2 = 0
      · rw [if_pos c2] at h2
        obtain ⟨m3, h3⟩ := s_bV (by decide +kernel) h2
        rw [x_tsh_67] at h3
        exact s_val h3
      · rw [if_neg c2] at h2
        obtain ⟨m3, u3, h3⟩ := s_bI (by decide +kernel) h2
        rw [x_tsh_80] at h3
        obtain ⟨m4, u4, h4⟩ := s_bI (by decide +kernel) h3
        rw [x_tsh_90] at h4
        obtain ⟨m5, h6⟩ := s_bV (by decide +kernel) h4
        rw [x_tsh_97] at h6
        exact s_val h6
  · rw [if_neg c1] at hE ⊢
    exact s_val hE
theorem C_wat (hi : C_is w h n heat price D A c U kn KS cs m) (hw : wi w h n A) : ∀ (f x : Nat) (s t : Int), x + f = 9 → z_w s = s → z_w t = t → ∃ m', z_R 137 (m, 6, [(2, 0), (0, s), (0, t), (0, (x : Int))], []) = some (m', some (0, z_add (z_add (x_s A f x s) (x_s (fun k => A (k + 9)) f x t)) (A 33))) ∧ C_is w h n heat price D A c U kn KS cs m' := by
  have e33 : m 12 5 = A 33 := by
    rw [← hi.2.2.1]
    exact (cS_at0 (s := 12) (j := 5) (by decide)).symm
  intro f
  induction f with
  | zero =>
    intro x s t hx hs ht
    rw [x_wat_6, if_pos (by omega), c_tell3, zb_n, x_wat_69, c_told3 (by decide) (by decide), e33]
    exact ⟨_, rfl, C_tell3 hi _ _ _⟩
  | succ f ih =>
    intro x s t hx hs ht
    rw [x_wat_6, if_neg (by omega), hi.1.1, hi.1.2.1]
    show ∃ m', _ = some (m', some (0, z_add (z_add (x_s A f (x + 1) (z_add s (A x))) (x_s (fun k => A (k + 9)) f (x + 1) (z_add t (A (x + 9))))) (A 33))) ∧ _
    by_cases z : u_hs (w : Int) (h : Int) (x : Int) = 0
    · obtain ⟨z1, z2⟩ := hw.2.1 x (by omega) z
      rw [if_neg (not_not_intro z), z1, z2, z_add0 hs, z_add0 ht, z_add_eq (x := (x : Int)) (y := 1) (by omega) (by omega), tc1]
      exact ih (x + 1) s t (by omega) hs ht
    · have e13 : m 13 x = A x := by
        rw [← hi.2.2.1]
        exact (cS_at1 (s := 12) (by omega)).symm
      have e14 : m 14 x = A (x + 9) := by
        rw [← hi.2.2.1]
        exact (cS_at2 (s := 12) (by omega)).symm
      rw [if_pos z, Int.toNat_natCast, e13, e14, tc1]
      exact ih (x + 1) _ _ (by omega) (by rw [z_add_w]; exact z_w_w) (by rw [z_add_w]; exact z_w_w)
theorem C_water (hi : C_is w h n heat price D A c U kn KS cs m) (hw : wi w h n A) : ∃ m', z_R 137 (m, 0, [(2, 0), (9, 0), (9, 0), (9, 0)], []) = some (m', some (0, x_w A)) ∧ C_is w h n heat price D A c U kn KS cs m' := by
  rw [x_wat_0]
  exact C_wat hi hw 9 0 0 0 (by decide) (by decide +kernel) (by decide +kernel)
theorem R_wat (hi : R_is w h n heat price D A c U kn KS cs m) : ∀ (f x : Nat) (s t : Int), x + f = 9 → ∃ m', z_R 252 (m, 11, [(2, 251), (0, s), (0, t), (0, (x : Int))], []) = some (m', some (0, z_add (z_add (x_s A f x s) (x_s (fun k => A (k + 9)) f x t)) (A 33))) ∧ R_is w h n heat price D A c U kn KS cs m' := by
  have e33 : m 252 33 = A 33 := R_A hi (by decide) (a_vis_hi (by decide))
  intro f
  induction f with
  | zero =>
    intro x s t hx
    rw [x_twa_11, if_pos (by omega), t_tell0, zb_n, x_twa_55, t_tell1, zb_n, x_twa_61, t_tell2, zb_n, x_twa_73, t_told3 (by omega) (by omega), e33]
    exact ⟨_, rfl, R_upn (R_upn (R_upn (R_upn (R_upn (R_upn (R_upn hi (by decide)) (by decide)) (by decide)) (by decide)) (by decide)) (by decide)) (by decide)⟩
  | succ f ih =>
    intro x s t hx
    have e0 : m 252 x = A x := R_A hi (by omega) (a_vis_lo (by omega))
    have e9 : m 252 (x + 9) = A (x + 9) := R_A hi (by omega) (a_vis_lo (by omega))
    rw [x_twa_11, if_neg (by omega), if_pos (show 0 ≤ (x : Int) ∧ (x : Int) < 37 by omega), Int.toNat_natCast, show ((x : Int) + 9).toNat = x + 9 by omega, e0, e9, tc1]
    exact ih (x + 1) _ _ (by omega)
theorem R_water (hi : R_is w h n heat price D A c U kn KS cs m) : ∃ m', z_R 252 (m, 0, [(2, 251), (9, 0), (9, 0), (9, 0)], []) = some (m', some (0, x_w A)) ∧ R_is w h n heat price D A c U kn KS cs m' := by
  have hu := R_upn (p0 := 251) (k0 := 11) (v := 0) hi (by decide)
  rw [x_twa_0]
  exact R_wat hu 9 0 0 0 (by decide)
end
theorem core_share : l_rel2 Rel_C (874, 132, 116, 1, false, 885, 135, 239) := by
  intro M1 M2 M3 σ σ1 σ2 as v1 v2 C1 C2 ρ1 ρ2 ha hR hh hM1 hC1 hp1 hE1 hC2 hp2 hE2
  obtain ⟨p, rfl⟩ := as_one ha
  have hE1 : z_R 116 (z_m σ, 0, [(2, 0), (0, p.toInt), (9, 0), (9, 0)], []) = some (z_m σ1, some (0, v1.toInt)) := z_R_iff.mpr hE1
  have hE2 : z_R 239 (z_m σ1, 0, [(2, 251), (0, p.toInt), (9, 0), (9, 0)], []) = some (z_m σ2, some (0, v2.toInt)) := z_R_iff.mpr hE2
  have hT := T_two (y1 := 116) (y2 := 239) (by decide +kernel) (by decide +kernel) hC1 hC2 hp1 hp2 hR.1
  have hK := core_off_ok (y := 239) (by decide +kernel) hC2 hp2 (core_off_ok (y := 116) (by decide +kernel) hC1 hp1 hR.2)
  obtain ⟨w, h, n, heat, price, D, A, c, U, kn, KS, cs, cC, cR, cW⟩ := hR.2
  obtain ⟨⟨-, -, n5⟩, -⟩ := core_b hh hM1 cR
  have f1 := R_off2_ok (y := 116) (by decide +kernel) hC1 hp1
  have x1 := C_share cC n5 cW.2.1 hE1
  have x2 := R_share (R_fr cR f1) n5 hE2
  exact ⟨⟨hT, hK⟩, fun _ => Int32.toInt_inj.mp (x1.trans x2.symm)⟩
theorem core_water : l_rel2 Rel_C (1067, 160, 137, 0, false, 1072, 163, 252) := by
  intro M1 M2 M3 σ σ1 σ2 as v1 v2 C1 C2 ρ1 ρ2 ha hR hh hM1 hC1 hp1 hE1 hC2 hp2 hE2
  obtain rfl := as_nil ha
  have hE1 : z_R 137 (z_m σ, 0, [(2, 0), (9, 0), (9, 0), (9, 0)], []) = some (z_m σ1, some (0, v1.toInt)) := z_R_iff.mpr hE1
  have hE2 : z_R 252 (z_m σ1, 0, [(2, 251), (9, 0), (9, 0), (9, 0)], []) = some (z_m σ2, some (0, v2.toInt)) := z_R_iff.mpr hE2
  have hT := T_two (y1 := 137) (y2 := 252) (by decide +kernel) (by decide +kernel) hC1 hC2 hp1 hp2 hR.1
  obtain ⟨w, h, n, heat, price, D, A, c, U, kn, KS, cs, cC, cR, cW⟩ := hR.2
  have f1 := R_off2_ok (y := 137) (by decide +kernel) hC1 hp1
  have f2 := C_off_ok (y := 252) (by decide +kernel) hC2 hp2
  have cR1 := R_fr cR f1
  have z := core_do cR1 (fun q => C_fr q f2) (C_water cC cW.2.1) (fun q => R_water q) hE1 hE2
  exact ⟨⟨hT, Core_mk z.1.1 z.1.2 cW⟩, fun _ => z.2⟩
end
section
/-! STRETCHES of hearth, rests, with bounds done -/
theorem y_hea_0  (m : z_M) (n : Int) : z_R 133 (m, 0, [(2, 0), (0, n), (9, 0), (9, 0), (9, 0), (9, 0)], []) = if n < 1 then some (m, some (0, (-1))) else if n ≤ 60 then z_R 133 (m, 20, [(2, 0), (0, n), (0, (-1)), (0, 0), (0, 0), (9, 0)], []) else some (m, some (0, (-1))) :=
  have hK : kt_at 133 = kt_133 := rfl
  (z_R_run hK (n := 2) (g' := (m, 2, [(2, 0), (0, n), (9, 0), (9, 0), (9, 0), (9, 0)], [(0, 1), (0, n)])) rfl).trans (z_R_ifd hK (c := n < 1) (p1 := 11) (p2 := 5) rfl rfl rfl (fun h1 => (z_R_run hK (n := 1) (g' := (m, 12, [(2, 0), (0, n), (9, 0), (9, 0), (9, 0), (9, 0)], [(0, (-1))])) rfl).trans (z_R_ret hK rfl rfl rfl)) (fun h1 => (z_R_run hK (n := 2) (g' := (m, 8, [(2, 0), (0, n), (9, 0), (9, 0), (9, 0), (9, 0)], [(0, 60), (0, n)])) rfl).trans (z_R_ifd hK (c := n ≤ 60) (p1 := 13) (p2 := 11) rfl rfl rfl (fun h2 => (z_R_run hK (n := 6) (g' := (m, 20, [(2, 0), (0, n), (0, (-1)), (0, 0), (0, 0), (9, 0)], [])) rfl).trans (rfl)) (fun h2 => (z_R_run hK (n := 1) (g' := (m, 12, [(2, 0), (0, n), (9, 0), (9, 0), (9, 0), (9, 0)], [(0, (-1))])) rfl).trans (z_R_ret hK rfl rfl rfl)))))
theorem y_hea_20  (m : z_M) (x1 : Int) (x2 : Int) (x3 : Int) (x4 : Int) (v5 : z_V) : z_R 133 (m, 20, [(2, 0), (0, x1), (0, x2), (0, x3), (0, x4), v5], []) = if 9 ≤ x4 then if x2 = (-1) then some (m, some (0, (-2))) else (z_R 134 (m, 0, [(2, 0), (0, (-1)), (0, x1)], [])).bind fun qq => z_R 133 (qq.1, 88, [(2, 0), (0, x1), (0, x2), (0, x3), (0, x4), v5], qq.2.toList ++ [(1, z_i2l x3), (2, 0)]) else if ¬ u_hs (m 3 8) (m 3 9) x4 = 0 then (z_R 134 (m, 0, [(2, 0), (0, x4), (0, x1)], [])).bind fun qq => z_R 133 (qq.1, 46, [(2, 0), (0, x1), (0, x2), (0, x3), (0, x4), v5], qq.2.toList ++ []) else z_R 133 (m, 20, [(2, 0), (0, x1), (0, x2), (0, x3), (0, z_add x4 1), v5], []) :=
  have hK : kt_at 133 = kt_133 := rfl
  (z_R_run hK (n := 2) (g' := (m, 24, [(2, 0), (0, x1), (0, x2), (0, x3), (0, x4), v5], [(0, 9), (0, x4)])) rfl).trans (z_R_ifd hK (c := 9 ≤ x4) (p1 := 71) (p2 := 27) rfl rfl rfl (fun h1 => (z_R_run hK (n := 2) (g' := (m, 73, [(2, 0), (0, x1), (0, x2), (0, x3), (0, x4), v5], [(0, (-1)), (0, x2)])) rfl).trans (z_R_ifnd hK (c := x2 = (-1)) (p1 := 79) (p2 := 76) rfl rfl rfl (fun h2 => (z_R_run hK (n := 6) (g' := (m, 85, [(2, 0), (0, x1), (0, x2), (0, x3), (0, x4), v5], [(0, x1), (0, (-1)), (2, 0), (1, z_i2l x3), (2, 0)])) rfl).trans (z_R_call hK rfl rfl rfl rfl rfl)) (fun h2 => (z_R_run hK (n := 1) (g' := (m, 78, [(2, 0), (0, x1), (0, x2), (0, x3), (0, x4), v5], [(0, (-2))])) rfl).trans (z_R_ret hK rfl rfl rfl)))) (fun h1 => (z_R_run hK (n := 2) (g' := (m, 31, [(2, 0), (0, x1), (0, x2), (0, x3), (0, x4), v5], [(2, 3)])) rfl).trans ((z_R_run hK (n := 1) (g' := (m, 33, [(2, 0), (0, x1), (0, x2), (0, x3), (0, x4), v5], [(0, x4), (2, 3)])) rfl).trans (z_R_cif hK rfl rfl rfl rfl rfl (c_ifhas _ _ rfl rfl) (fun h3 => have h4 := u_hs_rng h3; (z_R_run hK (n := 4) (g' := (m, 43, [(2, 0), (0, x1), (0, x2), (0, x3), (0, x4), v5], [(0, x1), (0, x4), (2, 0)])) rfl).trans (z_R_call hK rfl rfl rfl rfl rfl)) (fun h3 => (z_R_run hK (n := 3) (g' := (m, 20, [(2, 0), (0, x1), (0, x2), (0, x3), (0, z_add x4 1), v5], [])) rfl).trans (rfl))))))
theorem y_hea_46  (m : z_M) (x1 : Int) (x2 : Int) (x3 : Int) (x4 : Int) (v5 : z_V) (u : Int) : z_R 133 (m, 46, [(2, 0), (0, x1), (0, x2), (0, x3), (0, x4), v5], [(0, u)]) = if x2 = (-1) then z_R 133 (m, 20, [(2, 0), (0, x1), (0, x4), (0, u), (0, z_add x4 1), (0, u)], []) else if x3 ≤ u then z_R 133 (m, 20, [(2, 0), (0, x1), (0, x2), (0, x3), (0, z_add x4 1), (0, u)], []) else z_R 133 (m, 20, [(2, 0), (0, x1), (0, x4), (0, u), (0, z_add x4 1), (0, u)], []) :=
  have hK : kt_at 133 = kt_133 := rfl
  (z_R_run hK (n := 3) (g' := (m, 50, [(2, 0), (0, x1), (0, x2), (0, x3), (0, x4), (0, u)], [(0, (-1)), (0, x2)])) rfl).trans (z_R_ifd hK (c := x2 = (-1)) (p1 := 59) (p2 := 53) rfl rfl rfl (fun h1 => (z_R_run hK (n := 6) (g' := (m, 20, [(2, 0), (0, x1), (0, x4), (0, u), (0, z_add x4 1), (0, u)], [])) rfl).trans (rfl)) (fun h1 => (z_R_run hK (n := 2) (g' := (m, 56, [(2, 0), (0, x1), (0, x2), (0, x3), (0, x4), (0, u)], [(0, x3), (0, u)])) rfl).trans (z_R_ifd hK (c := x3 ≤ u) (p1 := 65) (p2 := 59) rfl rfl rfl (fun h2 => (z_R_run hK (n := 2) (g' := (m, 20, [(2, 0), (0, x1), (0, x2), (0, x3), (0, z_add x4 1), (0, u)], [])) rfl).trans (rfl)) (fun h2 => (z_R_run hK (n := 6) (g' := (m, 20, [(2, 0), (0, x1), (0, x4), (0, u), (0, z_add x4 1), (0, u)], [])) rfl).trans (rfl)))))
theorem y_hea_88  (m : z_M) (x1 : Int) (x2 : Int) (x3 : Int) (x4 : Int) (v5 : z_V) (s0 : Int) (u : Int) : z_R 133 (m, 88, [(2, 0), (0, x1), (0, x2), (0, x3), (0, x4), v5], [(0, u), (1, s0), (2, 0)]) = (z_R 77 (m, 0, [(2, 0), (1, s0), (9, 0), (1, z_i2l u), (9, 0)], [])).bind fun qq => z_R 133 (qq.1, 92, [(2, 0), (0, x1), (0, x2), (0, x3), (0, x4), v5], qq.2.toList ++ []) :=
  have hK : kt_at 133 = kt_133 := rfl
  (z_R_run hK (n := 1) (g' := (m, 89, [(2, 0), (0, x1), (0, x2), (0, x3), (0, x4), v5], [(1, z_i2l u), (1, s0), (2, 0)])) rfl).trans (z_R_call hK rfl rfl rfl rfl rfl)
theorem y_hea_92  (m : z_M) (x1 : Int) (x2 : Int) (x3 : Int) (x4 : Int) (v5 : z_V) : z_R 133 (m, 92, [(2, 0), (0, x1), (0, x2), (0, x3), (0, x4), v5], []) = some (m, some (0, x2)) :=
  have hK : kt_at 133 = kt_133 := rfl
  (z_R_run hK (n := 1) (g' := (m, 93, [(2, 0), (0, x1), (0, x2), (0, x3), (0, x4), v5], [(0, x2)])) rfl).trans (z_R_ret hK rfl rfl rfl)
theorem y_mws_0  (m : z_M) (r : Int) (n : Int) : z_R 134 (m, 0, [(2, 0), (0, r), (0, n)], []) = (z_R 61 (m, 0, [(2, 18), (2, 12)], [])).bind fun qq => z_R 134 (qq.1, 11, [(2, 0), (0, r), (0, n)], qq.2.toList ++ []) :=
  have hK : kt_at 134 = kt_134 := rfl
  (z_R_run hK (n := 2) (g' := (m, 4, [(2, 0), (0, r), (0, n)], [(2, 18)])) rfl).trans ((z_R_run hK (n := 2) (g' := (m, 8, [(2, 0), (0, r), (0, n)], [(2, 12), (2, 18)])) rfl).trans (z_R_call hK rfl rfl rfl rfl rfl))
theorem y_mws_11  (m : z_M) (x1 : Int) (x2 : Int) : z_R 134 (m, 11, [(2, 0), (0, x1), (0, x2)], []) = (z_R 67 (z_up (z_up (z_up (z_up (z_up m 18 6 x1) 24 6 0) 24 7 0) 24 8 0) 24 9 0, 0, [(2, 24), (2, 18), (0, x2), (9, 0)], [])).bind fun qq => z_R 134 (qq.1, 38, [(2, 0), (0, x1), (0, x2)], qq.2.toList ++ []) :=
  have hK : kt_at 134 = kt_134 := rfl
  (z_R_run hK (n := 2) (g' := (m, 15, [(2, 0), (0, x1), (0, x2)], [(2, 18)])) rfl).trans ((z_R_run hK (n := 4) (g' := (z_up m 18 6 x1, 23, [(2, 0), (0, x1), (0, x2)], [(2, 24)])) rfl).trans (z_R_cs hK rfl rfl rfl rfl rfl (s_cb_0 _) ((z_R_run hK (n := 2) (g' := (z_up (z_up (z_up (z_up (z_up m 18 6 x1) 24 6 0) 24 7 0) 24 8 0) 24 9 0, 30, [(2, 0), (0, x1), (0, x2)], [(2, 24)])) rfl).trans ((z_R_run hK (n := 2) (g' := (z_up (z_up (z_up (z_up (z_up m 18 6 x1) 24 6 0) 24 7 0) 24 8 0) 24 9 0, 34, [(2, 0), (0, x1), (0, x2)], [(2, 18), (2, 24)])) rfl).trans ((z_R_run hK (n := 1) (g' := (z_up (z_up (z_up (z_up (z_up m 18 6 x1) 24 6 0) 24 7 0) 24 8 0) 24 9 0, 35, [(2, 0), (0, x1), (0, x2)], [(0, x2), (2, 18), (2, 24)])) rfl).trans (z_R_call hK rfl rfl rfl rfl rfl))))))
theorem y_mws_38  (m : z_M) (x1 : Int) (x2 : Int) : z_R 134 (m, 38, [(2, 0), (0, x1), (0, x2)], []) = some (m, some (0, m 24 6)) :=
  have hK : kt_at 134 = kt_134 := rfl
  (z_R_run hK (n := 2) (g' := (m, 42, [(2, 0), (0, x1), (0, x2)], [(2, 24)])) rfl).trans ((z_R_run hK (n := 1) (g' := (m, 45, [(2, 0), (0, x1), (0, x2)], [(0, m 24 6)])) rfl).trans (z_R_ret hK rfl rfl rfl))
theorem y_the_0  (m : z_M) (n : Int) : z_R 249 (m, 0, [(2, 251), (0, n), (9, 0), (9, 0), (9, 0), (9, 0)], []) = if 1 ≤ n ∧ n ≤ 60 then if m 251 1 = 0 then some (z_up m 251 11 0, some (0, (-2))) else z_R 249 (z_up m 251 11 0, 36, [(2, 251), (0, n), (0, (-1)), (0, 1000000), (0, 0), (9, 0)], []) else some (z_up m 251 11 0, some (0, (-1))) :=
  have hK : kt_at 249 = kt_249 := rfl
  (z_R_run hK (n := 6) (g' := (z_up m 251 11 0, 9, [(2, 251), (0, n), (9, 0), (9, 0), (9, 0), (9, 0)], [(0, 60), (0, 1), (0, n)])) rfl).trans (z_R_cif hK rfl rfl rfl rfl rfl (t_ifin _ _ _ _) (fun h1 => (z_R_run hK (n := 3) (g' := (z_up m 251 11 0, 21, [(2, 251), (0, n), (9, 0), (9, 0), (9, 0), (9, 0)], [(0, (z_up m 251 11 0) 251 1)])) rfl).trans ((congrArg (fun vv => z_R 249 (z_up m 251 11 0, 21, [(2, 251), (0, n), (9, 0), (9, 0), (9, 0), (9, 0)], [(0, vv)])) (zu_k (by decide))).trans (z_R_ifnd hK (c := m 251 1 = 0) (p1 := 27) (p2 := 24) rfl rfl rfl (fun h2 => (z_R_run hK (n := 6) (g' := (z_up m 251 11 0, 36, [(2, 251), (0, n), (0, (-1)), (0, 1000000), (0, 0), (9, 0)], [])) rfl).trans (rfl)) (fun h2 => (z_R_run hK (n := 1) (g' := (z_up m 251 11 0, 26, [(2, 251), (0, n), (9, 0), (9, 0), (9, 0), (9, 0)], [(0, (-2))])) rfl).trans (z_R_ret hK rfl rfl rfl))))) (fun h1 => (z_R_run hK (n := 2) (g' := (z_up m 251 11 0, 16, [(2, 251), (0, n), (9, 0), (9, 0), (9, 0), (9, 0)], [(0, (-1))])) rfl).trans (z_R_ret hK rfl rfl rfl)))
theorem y_the_36  (m : z_M) (x1 : Int) (x2 : Int) (x3 : Int) (x4 : Int) (v5 : z_V) : z_R 249 (m, 36, [(2, 251), (0, x1), (0, x2), (0, x3), (0, x4), v5], []) = if 9 ≤ x4 then (z_R 210 (z_up m 251 10 0, 0, [(2, 251), (1, z_i2l x3), (9, 0)], [])).bind fun qq => z_R 249 (qq.1, 96, [(2, 251), (0, x1), (0, x2), (0, x3), (0, x4), v5], qq.2.toList ++ []) else if ¬ u_hs (m 251 1) (m 251 2) x4 = 0 then (z_R 250 (m, 0, [(2, 251), (0, x4), (0, x1)], [])).bind fun qq => z_R 249 (qq.1, 62, [(2, 251), (0, x1), (0, x2), (0, x3), (0, x4), v5], qq.2.toList ++ []) else z_R 249 (m, 36, [(2, 251), (0, x1), (0, x2), (0, x3), (0, z_add x4 1), v5], []) :=
  have hK : kt_at 249 = kt_249 := rfl
  (z_R_run hK (n := 2) (g' := (m, 40, [(2, 251), (0, x1), (0, x2), (0, x3), (0, x4), v5], [(0, 9), (0, x4)])) rfl).trans (z_R_ifd hK (c := 9 ≤ x4) (p1 := 85) (p2 := 43) rfl rfl rfl (fun h1 => (z_R_run hK (n := 6) (g' := (z_up m 251 10 0, 93, [(2, 251), (0, x1), (0, x2), (0, x3), (0, x4), v5], [(1, z_i2l x3), (2, 251)])) rfl).trans (z_R_call hK rfl rfl rfl rfl rfl)) (fun h1 => (z_R_run hK (n := 2) (g' := (m, 46, [(2, 251), (0, x1), (0, x2), (0, x3), (0, x4), v5], [(0, x4), (2, 251)])) rfl).trans (z_R_cif hK rfl rfl rfl rfl rfl (t_ifroom _ _ rfl rfl) (fun h2 => have h3 := u_hs_rng h2; (z_R_run hK (n := 4) (g' := (m, 59, [(2, 251), (0, x1), (0, x2), (0, x3), (0, x4), v5], [(0, x1), (0, x4), (2, 251)])) rfl).trans (z_R_call hK rfl rfl rfl rfl rfl)) (fun h2 => (z_R_run hK (n := 4) (g' := (m, 36, [(2, 251), (0, x1), (0, x2), (0, x3), (0, z_add x4 1), v5], [])) rfl).trans (rfl)))))
theorem y_the_62  (m : z_M) (x1 : Int) (x2 : Int) (x3 : Int) (x4 : Int) (v5 : z_V) (u : Int) : z_R 249 (m, 62, [(2, 251), (0, x1), (0, x2), (0, x3), (0, x4), v5], [(0, u)]) = if u < x3 then z_R 249 (m, 36, [(2, 251), (0, x1), (0, x4), (0, u), (0, z_add x4 1), (0, u)], []) else z_R 249 (m, 36, [(2, 251), (0, x1), (0, x2), (0, x3), (0, z_add x4 1), (0, u)], []) :=
  have hK : kt_at 249 = kt_249 := rfl
  (z_R_run hK (n := 3) (g' := (m, 67, [(2, 251), (0, x1), (0, x2), (0, x3), (0, x4), (0, u)], [(0, x3), (0, u)])) rfl).trans (z_R_ifd hK (c := u < x3) (p1 := 73) (p2 := 70) rfl rfl rfl (fun h1 => (z_R_run hK (n := 6) (g' := (m, 36, [(2, 251), (0, x1), (0, x4), (0, u), (0, z_add x4 1), (0, u)], [])) rfl).trans (rfl)) (fun h1 => (z_R_run hK (n := 3) (g' := (m, 36, [(2, 251), (0, x1), (0, x2), (0, x3), (0, z_add x4 1), (0, u)], [])) rfl).trans (rfl)))
theorem y_the_96  (m : z_M) (x1 : Int) (x2 : Int) (x3 : Int) (x4 : Int) (v5 : z_V) : z_R 249 (m, 96, [(2, 251), (0, x1), (0, x2), (0, x3), (0, x4), v5], []) = (z_R 250 (m, 0, [(2, 251), (0, (-1)), (0, x1)], [])).bind fun qq => z_R 249 (qq.1, 103, [(2, 251), (0, x1), (0, x2), (0, x3), (0, x4), v5], qq.2.toList ++ [(2, 251)]) :=
  have hK : kt_at 249 = kt_249 := rfl
  (z_R_run hK (n := 4) (g' := (m, 100, [(2, 251), (0, x1), (0, x2), (0, x3), (0, x4), v5], [(0, x1), (0, (-1)), (2, 251), (2, 251)])) rfl).trans (z_R_call hK rfl rfl rfl rfl rfl)
theorem y_the_103  (m : z_M) (x1 : Int) (x2 : Int) (x3 : Int) (x4 : Int) (v5 : z_V) (u : Int) : z_R 249 (m, 103, [(2, 251), (0, x1), (0, x2), (0, x3), (0, x4), v5], [(0, u), (2, 251)]) = (z_R 210 (m, 0, [(2, 251), (1, z_i2l u), (9, 0)], [])).bind fun qq => z_R 249 (qq.1, 107, [(2, 251), (0, x1), (0, x2), (0, x3), (0, x4), v5], qq.2.toList ++ []) :=
  have hK : kt_at 249 = kt_249 := rfl
  (z_R_run hK (n := 1) (g' := (m, 104, [(2, 251), (0, x1), (0, x2), (0, x3), (0, x4), v5], [(1, z_i2l u), (2, 251)])) rfl).trans (z_R_call hK rfl rfl rfl rfl rfl)
theorem y_the_107  (m : z_M) (x1 : Int) (x2 : Int) (x3 : Int) (x4 : Int) (v5 : z_V) : z_R 249 (m, 107, [(2, 251), (0, x1), (0, x2), (0, x3), (0, x4), v5], []) = some (m, some (0, x2)) :=
  have hK : kt_at 249 = kt_249 := rfl
  (z_R_run hK (n := 1) (g' := (m, 108, [(2, 251), (0, x1), (0, x2), (0, x3), (0, x4), v5], [(0, x2)])) rfl).trans (z_R_ret hK rfl rfl rfl)
theorem y_mwi_0  (m : z_M) (r : Int) (n : Int) : z_R 250 (m, 0, [(2, 251), (0, r), (0, n)], []) = (z_R 219 (m, 0, [(2, 251)], [])).bind fun qq => z_R 250 (qq.1, 4, [(2, 251), (0, r), (0, n)], qq.2.toList ++ []) :=
  have hK : kt_at 250 = kt_250 := rfl
  (z_R_run hK (n := 1) (g' := (m, 1, [(2, 251), (0, r), (0, n)], [(2, 251)])) rfl).trans (z_R_call hK rfl rfl rfl rfl rfl)
theorem y_mwi_4  (m : z_M) (x1 : Int) (x2 : Int) : z_R 250 (m, 4, [(2, 251), (0, x1), (0, x2)], []) = (z_R 207 (z_up (z_up (z_up (z_up (z_up m 264 34 x1) 251 32 0) 251 33 0) 251 34 0) 251 35 0, 0, [(2, 251), (2, 264), (0, x2), (9, 0)], [])).bind fun qq => z_R 250 (qq.1, 25, [(2, 251), (0, x1), (0, x2)], qq.2.toList ++ []) :=
  have hK : kt_at 250 = kt_250 := rfl
  (z_R_run hK (n := 2) (g' := (m, 8, [(2, 251), (0, x1), (0, x2)], [(2, 264)])) rfl).trans ((z_R_run hK (n := 4) (g' := (z_up m 264 34 x1, 13, [(2, 251), (0, x1), (0, x2)], [(2, 251)])) rfl).trans (z_R_cs hK rfl rfl rfl rfl rfl (t_bh_0 _) ((z_R_run hK (n := 3) (g' := (z_up (z_up (z_up (z_up (z_up m 264 34 x1) 251 32 0) 251 33 0) 251 34 0) 251 35 0, 21, [(2, 251), (0, x1), (0, x2)], [(2, 264), (2, 251)])) rfl).trans ((z_R_run hK (n := 1) (g' := (z_up (z_up (z_up (z_up (z_up m 264 34 x1) 251 32 0) 251 33 0) 251 34 0) 251 35 0, 22, [(2, 251), (0, x1), (0, x2)], [(0, x2), (2, 264), (2, 251)])) rfl).trans (z_R_call hK rfl rfl rfl rfl rfl)))))
theorem y_mwi_25  (m : z_M) (x1 : Int) (x2 : Int) : z_R 250 (m, 25, [(2, 251), (0, x1), (0, x2)], []) = some (m, some (0, m 251 32)) :=
  have hK : kt_at 250 = kt_250 := rfl
  (z_R_run hK (n := 2) (g' := (m, 29, [(2, 251), (0, x1), (0, x2)], [(0, m 251 32)])) rfl).trans (z_R_ret hK rfl rfl rfl)
end
