/-! THE LAW: its pieces read -/
def kt_law : List (List a_K) := [kl_0, kl_1, kl_2, kl_3, kl_4, kl_5, kl_6, kl_7, kl_8, kl_9, kl_10, kl_11, kl_12, kl_13, kl_14, kl_15, kl_16, kl_17, kl_18, kl_19, kl_20, kl_21, kl_22, kl_23, kl_24, kl_25, kl_26, kl_27, kl_28, kl_29, kl_30, kl_31, kl_32, kl_33, kl_34, kl_35, kl_36, kl_37, kl_38, kl_39, kl_40]
theorem kt_law_ok : kt_law.all (fun r => r.all (k_one 14 code)) = true := by
  unfold kt_law
  simp only [List.all_cons, List.all_nil, Bool.and_true, kl_0_ok, kl_1_ok, kl_2_ok, kl_3_ok, kl_4_ok, kl_5_ok, kl_6_ok, kl_7_ok, kl_8_ok, kl_9_ok, kl_10_ok, kl_11_ok, kl_12_ok, kl_13_ok, kl_14_ok, kl_15_ok, kl_16_ok, kl_17_ok, kl_18_ok, kl_19_ok, kl_20_ok, kl_21_ok, kl_22_ok, kl_23_ok, kl_24_ok, kl_25_ok, kl_26_ok, kl_27_ok, kl_28_ok, kl_29_ok, kl_30_ok, kl_31_ok, kl_32_ok, kl_33_ok, kl_34_ok, kl_35_ok, kl_36_ok, kl_37_ok, kl_38_ok, kl_39_ok, kl_40_ok]
def lE : A_E := [(0, 2555, false), iR, iR, iR, iR, iR]
def l_ls : List (Nat × A_V) := [(0, (2, m_X0 + 3, 0)), (1, (2, 0, 0)), (2, (2, 251, 0)), (3, (2, 278, 0)), (4, (1, 0, 0))]
def l_md : A_D := (List.range 279).map fun p => (p, 0, 10000)
def l_dp : A_L := (200, [])
def lS0 : A_S := (32, lE, [], l_ls, [], [], (2000000, []), (1, []))
def lH (E : A_E) : A_S := (1293, E, [], l_ls, [], [], (0, []), (0, []))
def lC5 : A_S := (315, lE, [], l_ls, [(2, 278, 0), (1, 3, 0), (1, 2, 0), (2, 0, 0)], [], (1900000, []), (0, []))
def lC6 : A_S := (355, lE, [], l_ls, [(2, 278, 0), (1, 3, 0), (1, 2, 0), (2, 0, 0)], [], (1900000, []), (0, []))
def lC39 : A_S := (1273, lE, [], l_ls, [(2, 278, 0), (1, 2, 0), (2, 0, 0)], [], (1900000, []), (0, []))
def lEr : A_E := lE ++ [(0, 1, false)]
def lR5 : A_S := (318, lEr, [], l_ls, [(1, 6, 0)], [], (1900000, []), (1, []))
def lR6 : A_S := (358, lEr, [], l_ls, [(1, 6, 0)], [], (1900000, []), (1, []))
def lR39 : A_S := (1276, lEr, [], l_ls, [(1, 6, 0)], [], (1900000, []), (1, []))
set_option maxRecDepth 100000 in
theorem l_k0 : b_go cs_at l_md l_dp 8 6 [] [lH lE, lC5, lC6, lC39] (some .boolean) kt_law 4000 1 lS0 = true := by decide +kernel
set_option maxRecDepth 100000 in
theorem l_k5 : b_go cs_at l_md l_dp 8 7 [] [lH lEr] (some .boolean) kt_law 4000 1 lR5 = true := by decide +kernel
set_option maxRecDepth 100000 in
theorem l_k6 : b_go cs_at l_md l_dp 8 7 [] [lH lEr] (some .boolean) kt_law 4000 1 lR6 = true := by decide +kernel
set_option maxRecDepth 100000 in
theorem l_k39 : b_go cs_at l_md l_dp 8 7 [] [lH lEr] (some .boolean) kt_law 4000 1 lR39 = true := by decide +kernel
