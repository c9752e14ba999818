/-! THE LAW: its pieces read -/
def kt_law : List (List a_K) := [kl_0, kl_1, kl_2, kl_3, kl_4, kl_5, kl_6, kl_7, kl_8, kl_9, kl_10, kl_11, kl_12, kl_13, kl_14, kl_15, kl_16, kl_17, kl_18, kl_19, kl_20, kl_21, kl_22, kl_23, kl_24, kl_25, kl_26, kl_27, kl_28, kl_29, kl_30, kl_31, kl_32, kl_33, kl_34, kl_35, kl_36, kl_37, kl_38, kl_39, kl_40, kl_41]
theorem kt_law_ok : kt_law.all (fun r => r.all (k_one 14 code)) = true := by
  unfold kt_law
  simp only [List.all_cons, List.all_nil, Bool.and_true, kl_0_ok, kl_1_ok, kl_2_ok, kl_3_ok, kl_4_ok, kl_5_ok, kl_6_ok, kl_7_ok, kl_8_ok, kl_9_ok, kl_10_ok, kl_11_ok, kl_12_ok, kl_13_ok, kl_14_ok, kl_15_ok, kl_16_ok, kl_17_ok, kl_18_ok, kl_19_ok, kl_20_ok, kl_21_ok, kl_22_ok, kl_23_ok, kl_24_ok, kl_25_ok, kl_26_ok, kl_27_ok, kl_28_ok, kl_29_ok, kl_30_ok, kl_31_ok, kl_32_ok, kl_33_ok, kl_34_ok, kl_35_ok, kl_36_ok, kl_37_ok, kl_38_ok, kl_39_ok, kl_40_ok, kl_41_ok]
theorem law_k : ∀ r ∈ kt_law, ∀ q ∈ r, k_ok "LetByTheDegreeLaw" code q := k_all_ok (c := 14) rfl kt_law_ok
/-- a case of the law: where the class is called, the entry, the method, how many numbers, are the answers compared; where the reference is called, the entry, the method -/
abbrev l_C : Type := Nat × Nat × Nat × Nat × Bool × Nat × Nat × Nat
def law_cs : List l_C := [(219, 26, 14, 1, false, 230, 30, 160), (244, 31, 16, 1, false, 255, 35, 161), (263, 36, 18, 0, false, 268, 40, 163), (276, 41, 35, 0, false, 281, 44, 172), (289, 45, 39, 0, false, 294, 48, 175), (422, 61, 53, 2, false, 439, 64, 192), (465, 65, 54, 3, false, 488, 69, 193), (520, 70, 56, 4, false, 549, 74, 194), (569, 75, 58, 2, false, 586, 78, 195), (600, 79, 62, 1, false, 611, 82, 201), (619, 83, 64, 0, false, 624, 86, 204), (638, 87, 80, 1, false, 649, 90, 205), (669, 91, 81, 2, false, 686, 94, 211), (694, 95, 82, 0, false, 699, 98, 212), (707, 99, 87, 0, false, 712, 102, 216), (732, 103, 89, 2, false, 749, 106, 217), (757, 107, 91, 0, false, 762, 110, 220), (776, 111, 94, 1, false, 787, 114, 225), (801, 115, 95, 1, false, 812, 118, 226), (826, 119, 98, 1, false, 837, 122, 227), (845, 123, 109, 0, false, 850, 126, 232), (864, 127, 110, 1, false, 875, 130, 233), (883, 131, 115, 0, false, 888, 134, 238), (902, 135, 116, 1, false, 913, 138, 239), (927, 139, 123, 1, false, 938, 142, 242), (958, 143, 125, 2, false, 975, 146, 243), (983, 147, 126, 0, false, 988, 150, 244), (1002, 151, 129, 1, false, 1013, 154, 245), (1027, 155, 133, 1, false, 1038, 158, 249), (1064, 159, 135, 3, false, 1087, 162, 251), (1095, 163, 137, 0, false, 1100, 166, 252), (1120, 167, 138, 2, false, 1137, 170, 253), (1157, 171, 143, 2, false, 1174, 174, 256), (1194, 175, 144, 2, false, 1211, 178, 257), (1225, 179, 150, 1, false, 1236, 182, 258), (1250, 183, 152, 1, false, 1261, 186, 259), (1275, 187, 154, 1, false, 1286, 190, 260)]
def iRx : Int × Int × Bool := (-2147483648, 2147483647, false)
def lE : A_E := [(0, 2555, false), iRx, iRx, iRx, iRx, iRx]
def lE1 : A_E := lE ++ [iRx]
def l_ls : List (Nat × A_V) := [(0, (2, m_X0 + 3, 0)), (1, (2, 0, 0)), (2, (2, 251, 0)), (3, (2, 278, 0)), (4, (1, 0, 0))]
def l_md : A_D := (List.range 279).map fun p => (p, 0, 10000)
def l_dp : A_L := (200, [])
def l_args (r : Nat) : Nat → List A_V
  | 0 => [(2, r, 0)]
  | 1 => [(1, 2, 0), (2, r, 0)]
  | 2 => [(1, 3, 0), (1, 2, 0), (2, r, 0)]
  | 3 => [(1, 4, 0), (1, 3, 0), (1, 2, 0), (2, r, 0)]
  | _ => [(1, 5, 0), (1, 4, 0), (1, 3, 0), (1, 2, 0), (2, r, 0)]
def l_cm (b : Bool) : List A_V := bif b then [(1, 6, 0)] else []
def lS0 : A_S := (32, lE, [], l_ls, [], [], (400000, []), (1, []))
def lH (E : A_E) : A_S := (1321, E, [], l_ls, [], [], (0, []), (0, []))
def lU1 (c : l_C) : A_S := (c.1, lE, [], l_ls, l_args 0 c.2.2.2.1, [], (300000, []), (0, []))
def lS1 (c : l_C) : A_S := (c.1 + 3, lE1, [], l_ls, [(1, 6, 0)], [], (1500000, []), (1, []))
def lU2 (c : l_C) : A_S := (c.2.2.2.2.2.1, lE1, [], l_ls, l_args 251 c.2.2.2.1 ++ l_cm c.2.2.2.2.1, [], (1400000, []), (0, []))
def lS2 (c : l_C) : A_S := (c.2.2.2.2.2.1 + 3, lE1, [], l_ls, (1, 6, 0) :: l_cm c.2.2.2.2.1, [], (0, []), (1, []))
def lC5 : A_S := (315, lE, [], l_ls, [(2, 278, 0), (1, 3, 0), (1, 2, 0), (2, 0, 0)], [], (300000, []), (0, []))
def lC6 : A_S := (355, lE, [], l_ls, [(2, 278, 0), (1, 3, 0), (1, 2, 0), (2, 0, 0)], [], (300000, []), (0, []))
def lC39 : A_S := (1301, lE, [], l_ls, [(2, 278, 0), (1, 2, 0), (2, 0, 0)], [], (300000, []), (0, []))
def l_dk (pc x y : Nat) : Bool := match k_get kt_law pc with
  | some (_, i, n, _, [_, y', _, ne]) => decide (i = .invokevirtual x) && (Nat.beq n 3 && (Nat.beq y' y && Nat.beq ne 0))
  | _ => false
noncomputable def l_iv (pc x y : Nat) (E : A_E) (st : List A_V) (bu : Int) : Bool := l_dk pc x y && (st_inv cs_at l_md l_dp (.invokevirtual x) y 0 pc E [] l_ls st [] (bu, []) (0, [])).isSome
noncomputable def l_ck (c : l_C) : Bool := l_iv c.1 c.2.1 c.2.2.1 lE (l_args 0 c.2.2.2.1) 300000 && (b_go cs_at [] l_dp 8 7 [] [lU2 c] (some .boolean) kt_law 4000 1 (lS1 c) && (l_iv c.2.2.2.2.2.1 c.2.2.2.2.2.2.1 c.2.2.2.2.2.2.2 lE1 (l_args 251 c.2.2.2.1 ++ l_cm c.2.2.2.2.1) 1400000 && b_go cs_at [] l_dp 8 7 [] [lH lE1] (some .boolean) kt_law 4000 1 (lS2 c)))
set_option maxRecDepth 100000 in
theorem l_cks : law_cs.all l_ck = true := by decide +kernel
set_option maxRecDepth 100000 in
theorem l_k0 : b_go cs_at [] l_dp 8 6 [] (lH lE :: lC5 :: lC6 :: lC39 :: law_cs.map lU1) (some .boolean) kt_law 4000 1 lS0 = true := by decide +kernel
