/-! LEAVES -/
def kt_17 : List (List a_K) := [[(0, .iload_n 1, 1, 0, []), (1, .ifCond .lt (11), 3, 0, []), (4, .iload_n 1, 1, 0, []), (5, .aload_n 0, 1, 0, []), (6, .getfield 15, 3, 0, [1, 6, 1, 0]), (9, .if_icmp .le (5), 3, 0, []), (12, .iconst (0), 1, 0, []), (13, .ireturn, 1, 0, []), (14, .aload_n 0, 1, 0, []), (15, .iload_n 1, 1, 0, []), (16, .putfield 15, 3, 0, [1, 6, 1, 0]), (19, .iconst (1), 1, 0, []), (20, .ireturn, 1, 0, [])]]
theorem kt_17_ok : kt_17.all (fun r => r.all (k_one 6 prog_8_method_3_code)) = true := by decide +kernel
def ct_0 : A_C := (17, [(-2147483648, 2147483647, false), (0, 80, false)], [(2, 1, 0), (1, 0, 0)], [((1, 1), (1, 1, 0))], [(1, 1, 1)], (0, []), (0, []), [([(-2147483648, 2147483647, false), (0, 80, false)], [], some (0, 0, 0), []),
    ([(0, 80, false), (0, 80, false)], [(0, true, 1, 0)], some (0, 0, 1), [((1, 1), (1, 0, 0))])], [], (0, []))
theorem ct_0_ok : c_chk (fun _ => []) 2 (some FieldType.boolean) kt_17 500 ct_0 = true := by decide +kernel
def kt_20 : List (List a_K) := [[(0, .aload_n 0, 1, 0, []), (1, .iconst (0), 1, 0, []), (2, .putfield 19, 3, 0, [2, 6, 2, 0]), (5, .aload_n 0, 1, 0, []), (6, .iload_n 1, 1, 0, []), (7, .putfield 22, 3, 0, [3, 6, 3, 0]), (10, .return_, 1, 0, [])]]
theorem kt_20_ok : kt_20.all (fun r => r.all (k_one 6 prog_8_method_5_code)) = true := by decide +kernel
def ct_1 : A_C := (20, [(-2147483648, 2147483647, false)], [(2, 1, 0), (1, 0, 0)], [], [(1, 2, 3)], (0, []), (0, []), [([(-2147483648, 2147483647, false)], [], none, [((1, 2), (0, 0, 0)), ((1, 3), (1, 0, 0))])], [], (0, []))
theorem ct_1_ok : c_chk (fun _ => []) 2 none kt_20 500 ct_1 = true := by decide +kernel
def kt_24 : List (List a_K) := [[(0, .aload_n 0, 1, 0, []), (1, .getfield 19, 3, 0, [2, 6, 2, 0]), (4, .ifCond .lt (37), 3, 0, []), (7, .aload_n 0, 1, 0, []), (8, .getfield 19, 3, 0, [2, 6, 2, 0]), (11, .aload_n 0, 1, 0, []), (12, .getfield 15, 3, 0, [1, 6, 1, 0]), (15, .if_icmp .ge (26), 3, 0, []), (18, .aload_n 0, 1, 0, []), (19, .getfield 19, 3, 0, [2, 6, 2, 0]), (22, .aload_n 0, 1, 0, []), (23, .getfield 22, 3, 0, [3, 6, 3, 0]), (26, .if_icmp .ge (15), 3, 0, []), (29, .aload_n 0, 1, 0, []), (30, .getfield 11, 3, 0, [0, 6, 0, 0])],
  [(33, .aload_n 0, 1, 0, []), (34, .getfield 19, 3, 0, [2, 6, 2, 0]), (37, .caload, 1, 0, []), (38, .goto (4), 3, 0, []), (41, .iconst (-1), 1, 0, []), (42, .ireturn, 1, 0, [])]]
theorem kt_24_ok : kt_24.all (fun r => r.all (k_one 6 prog_8_method_6_code)) = true := by decide +kernel
def ct_2 : A_C := (24, [(0, 80, false), (-2147483648, 2147483647, false), (-2147483648, 2147483647, false)], [(2, 1, 0)], [((1, 1), (1, 0, 0)), ((1, 2), (1, 1, 0)), ((1, 3), (1, 2, 0))], [], (0, []), (0, []), [([(1, 80, false), (0, 79, false), (1, 2147483647, false), (0, 65535, false)], [(1, true, 0, -1), (1, true, 2, -1)], some (1, 3, 0), []),
    ([(0, 80, false), (-2147483648, 2147483647, false), (-2147483648, 2147483647, false)], [], some (0, 0, -1), [])], [], (0, []))
theorem ct_2_ok : c_chk (fun _ => []) 1 (some FieldType.int) kt_24 500 ct_2 = true := by decide +kernel
def kt_25 : List (List a_K) := [[(0, .iload_n 0, 1, 0, []), (1, .bipush (48), 2, 0, []), (3, .if_icmp .lt (16), 3, 0, []), (6, .iload_n 0, 1, 0, []), (7, .bipush (57), 2, 0, []), (9, .if_icmp .gt (10), 3, 0, []), (12, .iload_n 0, 1, 0, []), (13, .bipush (48), 2, 0, []), (15, .isub, 1, 0, []), (16, .goto (4), 3, 0, []), (19, .iconst (-1), 1, 0, []), (20, .ireturn, 1, 0, [])]]
theorem kt_25_ok : kt_25.all (fun r => r.all (k_one 12 prog_1_method_59_code)) = true := by decide +kernel
def ct_3 : A_C := (25, [(-2147483648, 2147483647, false)], [(1, 0, 0)], [], [], (0, []), (0, []), [([(48, 57, false)], [], some (1, 0, -48), []),
    ([(-2147483648, 2147483647, false)], [], some (0, 0, -1), [])], [], (0, []))
theorem ct_3_ok : c_chk (fun _ => []) 1 (some FieldType.int) kt_25 500 ct_3 = true := by decide +kernel
def kt_26 : List (List a_K) := [[(0, .iload_n 1, 1, 0, []), (1, .ifCond .eq (13), 3, 0, []), (4, .aload_n 0, 1, 0, []), (5, .dup, 1, 0, []), (6, .getfield 19, 3, 0, [2, 6, 2, 0]), (9, .iconst (1), 1, 0, []), (10, .iadd, 1, 0, []), (11, .putfield 19, 3, 0, [2, 6, 2, 0]), (14, .iload_n 1, 1, 0, []), (15, .ireturn, 1, 0, [])]]
theorem kt_26_ok : kt_26.all (fun r => r.all (k_one 6 prog_8_method_8_code)) = true := by decide +kernel
def ct_4 : A_C := (26, [(0, 1, false), (-2147483648, 2147483647, false)], [(2, 1, 0), (1, 0, 0)], [((1, 2), (1, 1, 0))], [(1, 2, 2)], (0, []), (0, []), [([(0, 1, false), (-2147483648, 2147483647, false)], [], some (1, 0, 0), [])], [], (0, []))
theorem ct_4_ok : c_chk (fun _ => []) 2 (some FieldType.boolean) kt_26 500 ct_4 = true := by decide +kernel
def kt_28 : List (List a_K) := [[(0, .aload_n 0, 1, 0, []), (1, .getfield 19, 3, 0, [2, 6, 2, 0]), (4, .aload_n 0, 1, 0, []), (5, .getfield 15, 3, 0, [1, 6, 1, 0]), (8, .if_icmp .lt (7), 3, 0, []), (11, .iconst (1), 1, 0, []), (12, .goto (4), 3, 0, []), (15, .iconst (0), 1, 0, []), (16, .ireturn, 1, 0, [])]]
theorem kt_28_ok : kt_28.all (fun r => r.all (k_one 6 prog_8_method_10_code)) = true := by decide +kernel
def ct_5 : A_C := (28, [(0, 80, false), (-2147483648, 2147483647, false)], [(2, 1, 0)], [((1, 1), (1, 0, 0)), ((1, 2), (1, 1, 0))], [], (0, []), (0, []), [([(0, 80, false), (0, 2147483647, false)], [(0, true, 1, 0)], some (0, 0, 1), []),
    ([(0, 80, false), (-2147483648, 79, false)], [(1, true, 0, -1)], some (0, 0, 0), [])], [], (0, []))
theorem ct_5_ok : c_chk (fun _ => []) 1 (some FieldType.boolean) kt_28 500 ct_5 = true := by decide +kernel
def kt_29 : List (List a_K) := [[(0, .aload_n 0, 1, 0, []), (1, .iconst (0), 1, 0, []), (2, .putfield 15, 3, 0, [1, 6, 1, 0]), (5, .return_, 1, 0, [])]]
theorem kt_29_ok : kt_29.all (fun r => r.all (k_one 6 prog_8_method_4_code)) = true := by decide +kernel
def ct_6 : A_C := (29, [], [(2, 1, 0)], [], [(1, 1, 1)], (0, []), (0, []), [([], [], none, [((1, 1), (0, 0, 0))])], [], (0, []))
theorem ct_6_ok : c_chk (fun _ => []) 1 none kt_29 500 ct_6 = true := by decide +kernel
def kt_32 : List (List a_K) := [[(0, .iload_n 1, 1, 0, []), (1, .ifCond .lt (33), 3, 0, []), (4, .iload_n 1, 1, 0, []), (5, .bipush (9), 2, 0, []), (7, .if_icmp .ge (27), 3, 0, []), (10, .iload_n 1, 1, 0, []), (11, .iconst (3), 1, 0, []), (12, .irem, 1, 0, []), (13, .aload_n 0, 1, 0, []), (14, .getfield 38, 3, 0, [16, 1, 8, 0]), (17, .if_icmp .ge (17), 3, 0, []), (20, .iload_n 1, 1, 0, []), (21, .iconst (3), 1, 0, []), (22, .idiv, 1, 0, []), (23, .aload_n 0, 1, 0, []), (24, .getfield 41, 3, 0, [17, 1, 9, 0]), (27, .if_icmp .ge (7), 3, 0, []), (30, .iconst (1), 1, 0, []), (31, .goto (4), 3, 0, [])],
  [(34, .iconst (0), 1, 0, []), (35, .ireturn, 1, 0, [])]]
theorem kt_32_ok : kt_32.all (fun r => r.all (k_one 1 prog_3_method_2_code)) = true := by decide +kernel
def ct_7 : A_C := (32, [(-2147483648, 2147483647, false)], [(2, 3, 0), (1, 0, 0)], [], [], (0, []), (0, []), [([(0, 8, false)], [], some (0, 0, 1), []),
    ([(-2147483648, 2147483647, false)], [], some (0, 0, 0), [])], [], (0, []))
theorem ct_7_ok : c_chk (fun _ => []) 2 (some FieldType.boolean) kt_32 500 ct_7 = true := by decide +kernel
def kt_33 : List (List a_K) := [[(0, .aload_n 0, 1, 0, []), (1, .iconst (0), 1, 0, []), (2, .putfield 33, 3, 0, [49, 3, 4, 0]), (5, .return_, 1, 0, [])]]
theorem kt_33_ok : kt_33.all (fun r => r.all (k_one 3 prog_5_method_4_code)) = true := by decide +kernel
def ct_8 : A_C := (33, [], [(2, 28, 0)], [], [(28, 4, 4)], (0, []), (0, []), [([], [], none, [((28, 4), (0, 0, 0))])], [], (0, []))
theorem ct_8_ok : c_chk (fun _ => []) 1 none kt_33 500 ct_8 = true := by decide +kernel
def kt_4 : List (List a_K) := [[(0, .aload_n 0, 1, 0, []), (1, .getfield 9, 3, 0, [4, 4, 0, 0]), (4, .iconst (0), 1, 0, []), (5, .sipush (1000), 3, 0, []), (8, .iastore, 1, 0, []), (9, .aload_n 0, 1, 0, []), (10, .getfield 9, 3, 0, [4, 4, 0, 0]), (13, .iconst (1), 1, 0, []), (14, .iconst (2), 1, 0, []), (15, .iastore, 1, 0, []), (16, .aload_n 0, 1, 0, []), (17, .getfield 9, 3, 0, [4, 4, 0, 0]), (20, .iconst (2), 1, 0, []), (21, .sipush (2047), 3, 0, []), (24, .iastore, 1, 0, []), (25, .aload_n 0, 1, 0, []), (26, .iconst (3), 1, 0, []), (27, .putfield 22, 3, 0, [7, 4, 3, 0]), (30, .return_, 1, 0, [])]]
theorem kt_4_ok : kt_4.all (fun r => r.all (k_one 4 prog_6_method_2_code)) = true := by decide +kernel
def ct_9 : A_C := (4, [], [(2, 4, 0)], [], [(4, 3, 3), (5, 0, 2)], (0, []), (0, []), [([], [], none, [((4, 3), (0, 0, 3))])], [], (0, []))
theorem ct_9_ok : c_chk (fun _ => []) 1 none kt_4 500 ct_9 = true := by decide +kernel
def kt_48 : List (List a_K) := [[(0, .aload_n 0, 1, 0, []), (1, .getfield 27, 3, 0, [52, 5, 2, 0]), (4, .aload_n 0, 1, 0, []), (5, .getfield 11, 3, 0, [51, 5, 1, 0]), (8, .arraylength, 1, 0, []), (9, .if_icmp .ge (23), 3, 0, []), (12, .aload_n 0, 1, 0, []), (13, .getfield 11, 3, 0, [51, 5, 1, 0]), (16, .aload_n 0, 1, 0, []), (17, .getfield 27, 3, 0, [52, 5, 2, 0]), (20, .iload_n 1, 1, 0, []), (21, .iastore, 1, 0, []), (22, .aload_n 0, 1, 0, []), (23, .dup, 1, 0, []), (24, .getfield 27, 3, 0, [52, 5, 2, 0]), (27, .iconst (1), 1, 0, []), (28, .iadd, 1, 0, []), (29, .putfield 27, 3, 0, [52, 5, 2, 0])],
  [(32, .return_, 1, 0, [])]]
theorem kt_48_ok : kt_48.all (fun r => r.all (k_one 5 prog_7_method_3_code)) = true := by decide +kernel
def ct_10 : A_C := (48, [(-2147483648, 2147483647, false), (0, 40, false)], [(2, 116, 0), (1, 0, 0)], [((116, 2), (1, 1, 0))], [(116, 2, 2), (117, 0, 39)], (0, []), (0, []), [([(-2147483648, 2147483647, false), (0, 39, false)], [], none, [((116, 2), (1, 1, 1))]),
    ([(-2147483648, 2147483647, false), (40, 40, false)], [], none, [])], [], (0, []))
theorem ct_10_ok : c_chk (fun _ => []) 2 none kt_48 500 ct_10 = true := by decide +kernel
def kt_51 : List (List a_K) := [[(0, .iload_n 1, 1, 0, []), (1, .ifCond .eq (23), 3, 0, []), (4, .iload_n 0, 1, 0, []), (5, .bipush (42), 2, 0, []), (7, .if_icmp .eq (9), 3, 0, []), (10, .iload_n 0, 1, 0, []), (11, .bipush (47), 2, 0, []), (13, .if_icmp .ne (7), 3, 0, []), (16, .iconst (1), 1, 0, []), (17, .goto (24), 3, 0, []), (20, .iconst (0), 1, 0, []), (21, .goto (20), 3, 0, []), (24, .iload_n 0, 1, 0, []), (25, .bipush (43), 2, 0, []), (27, .if_icmp .eq (9), 3, 0, []), (30, .iload_n 0, 1, 0, []), (31, .bipush (45), 2, 0, [])],
  [(33, .if_icmp .ne (7), 3, 0, []), (36, .iconst (1), 1, 0, []), (37, .goto (4), 3, 0, []), (40, .iconst (0), 1, 0, []), (41, .ireturn, 1, 0, [])]]
theorem kt_51_ok : kt_51.all (fun r => r.all (k_one 5 prog_7_method_7_code)) = true := by decide +kernel
def ct_11 : A_C := (51, [(-2147483648, 2147483647, false), (0, 1, false)], [(1, 0, 0), (1, 1, 0)], [], [], (0, []), (0, []), [([(42, 47, false), (0, 1, false)], [], some (0, 0, 1), []),
    ([(-2147483648, 2147483647, false), (0, 1, false)], [], some (0, 0, 0), [])], [], (0, []))
theorem ct_11_ok : c_chk (fun _ => []) 2 (some FieldType.boolean) kt_51 500 ct_11 = true := by decide +kernel
def kt_50 : List (List a_K) := [[(0, .iload_n 0, 1, 0, []), (1, .iload_n 1, 1, 0, []), (2, .if_icmp .gt (7), 3, 0, []), (5, .iload_n 0, 1, 0, []), (6, .goto (4), 3, 0, []), (9, .iload_n 1, 1, 0, []), (10, .ireturn, 1, 0, [])]]
theorem kt_50_ok : kt_50.all (fun r => r.all (k_one 15 prog_23_method_69_code)) = true := by decide +kernel
def ct_12 : A_C := (50, [(-2147483648, 2147483647, false), (-2147483648, 2147483647, false)], [(1, 0, 0), (1, 1, 0)], [], [], (0, []), (0, []), [([(-2147483648, 2147483647, false), (-2147483648, 2147483647, false)], [(0, true, 1, 0)], some (1, 0, 0), []),
    ([(-2147483647, 2147483647, false), (-2147483648, 2147483646, false)], [(1, true, 0, -1)], some (1, 1, 0), [])], [], (0, []))
theorem ct_12_ok : c_chk (fun _ => []) 2 (some FieldType.int) kt_50 500 ct_12 = true := by decide +kernel
def kt_49 : List (List a_K) := [[(0, .iload_n 0, 1, 0, []), (1, .iload_n 1, 1, 0, []), (2, .if_icmp .lt (7), 3, 0, []), (5, .iload_n 0, 1, 0, []), (6, .goto (4), 3, 0, []), (9, .iload_n 1, 1, 0, []), (10, .ireturn, 1, 0, [])]]
theorem kt_49_ok : kt_49.all (fun r => r.all (k_one 15 prog_23_method_65_code)) = true := by decide +kernel
def ct_13 : A_C := (49, [(-2147483648, 2147483647, false), (-2147483648, 2147483647, false)], [(1, 0, 0), (1, 1, 0)], [], [], (0, []), (0, []), [([(-2147483648, 2147483647, false), (-2147483648, 2147483647, false)], [(1, true, 0, 0)], some (1, 0, 0), []),
    ([(-2147483648, 2147483646, false), (-2147483647, 2147483647, false)], [(0, true, 1, -1)], some (1, 1, 0), [])], [], (0, []))
theorem ct_13_ok : c_chk (fun _ => []) 2 (some FieldType.int) kt_49 500 ct_13 = true := by decide +kernel
def kt_70 : List (List a_K) := [[(0, .iload_n 1, 1, 0, []), (1, .bipush (6), 2, 0, []), (3, .imul, 1, 0, []), (4, .iload_n 2, 1, 0, []), (5, .bipush (6), 2, 0, []), (7, .irem, 1, 0, []), (8, .iadd, 1, 0, []), (9, .istore_n 3, 1, 0, []), (10, .iload_n 3, 1, 0, []), (11, .ifCond .lt (20), 3, 0, []), (14, .iload_n 3, 1, 0, []), (15, .bipush (30), 2, 0, []), (17, .if_icmp .ge (14), 3, 0, []), (20, .aload_n 0, 1, 0, []), (21, .getfield 41, 3, 0, [36, 0, 5, 0]), (24, .iload_n 3, 1, 0, []), (25, .ishr, 1, 0, []), (26, .iconst (1), 1, 0, []), (27, .iand, 1, 0, []), (28, .ifCond .eq (5), 3, 0, []), (31, .iconst (0), 1, 0, [])],
  [(32, .ireturn, 1, 0, []), (33, .iload_n 1, 1, 0, []), (34, .aload_n 0, 1, 0, []), (35, .getfield 21, 3, 0, [35, 0, 4, 0]), (38, .if_icmp .ne (8), 3, 0, []), (41, .bipush (9), 2, 0, []), (43, .goto (12), 3, 0, []), (46, .aload_n 0, 1, 0, []), (47, .getfield 25, 3, 0, [31, 0, 0, 0]), (50, .getfield 44, 3, 0, [167, 1, 1, 1]), (53, .iload_n 3, 1, 0, []), (54, .iaload, 1, 0, []), (55, .ireturn, 1, 0, [])]]
theorem kt_70_ok : kt_70.all (fun r => r.all (k_one 0 prog_2_method_3_code)) = true := by decide +kernel
def ct_14 : A_C := (70, [(-2147483648, 2147483647, false), (-2147483648, 2147483647, false)], [(2, 24, 0), (1, 0, 0), (1, 1, 0)], [], [], (0, []), (0, []), [([(-2147483648, 2147483647, false), (-2147483648, 2147483647, false)], [], some (0, 0, 0), []),
    ([(-2147483648, 2147483647, false), (-2147483648, 2147483647, false)], [], some (0, 0, 9), []),
    ([(-2147483648, 2147483647, false), (-2147483648, 2147483647, false), (-2147483648, 2147483647, false)], [], some (1, 2, 0), [])], [], (0, []))
theorem ct_14_ok : c_chk (fun _ => []) 4 (some FieldType.int) kt_70 500 ct_14 = true := by decide +kernel
def kt_101 : List (List a_K) := [[(0, .iload_n 0, 1, 0, []), (1, .iload_n 0, 1, 0, []), (2, .iconst (1), 1, 0, []), (3, .iushr, 1, 0, []), (4, .ldc_w 265, 3, 0, [3579139413]), (7, .iand, 1, 0, []), (8, .isub, 1, 0, []), (9, .istore_n 0, 1, 0, []), (10, .iload_n 0, 1, 0, []), (11, .ldc_w 266, 3, 0, [3006477107]), (14, .iand, 1, 0, []), (15, .iload_n 0, 1, 0, []), (16, .iconst (2), 1, 0, []), (17, .iushr, 1, 0, []), (18, .ldc_w 266, 3, 0, [3006477107]), (21, .iand, 1, 0, []), (22, .iadd, 1, 0, []), (23, .istore_n 0, 1, 0, []), (24, .iload_n 0, 1, 0, []), (25, .iload_n 0, 1, 0, []), (26, .iconst (4), 1, 0, []), (27, .iushr, 1, 0, []), (28, .iadd, 1, 0, []), (29, .ldc_w 267, 3, 0, [2400128783])],
  [(32, .iand, 1, 0, []), (33, .istore_n 0, 1, 0, []), (34, .iload_n 0, 1, 0, []), (35, .iload_n 0, 1, 0, []), (36, .bipush (8), 2, 0, []), (38, .iushr, 1, 0, []), (39, .iadd, 1, 0, []), (40, .istore_n 0, 1, 0, []), (41, .iload_n 0, 1, 0, []), (42, .iload_n 0, 1, 0, []), (43, .bipush (16), 2, 0, []), (45, .iushr, 1, 0, []), (46, .iadd, 1, 0, []), (47, .istore_n 0, 1, 0, []), (48, .iload_n 0, 1, 0, []), (49, .bipush (63), 2, 0, []), (51, .iand, 1, 0, []), (52, .ireturn, 1, 0, [])]]
theorem kt_101_ok : kt_101.all (fun r => r.all (k_one 16 prog_21_method_49_code)) = true := by decide +kernel
def ct_15 : A_C := (101, [(-2147483648, 2147483647, false)], [(1, 0, 0)], [], [], (0, []), (0, []), [([(-2147483648, 2147483647, false), (0, 63, false)], [], some (1, 1, 0), [])], [], (0, []))
theorem ct_15_ok : c_chk (fun _ => []) 1 (some FieldType.int) kt_101 500 ct_15 = true := by decide +kernel
def kt_72 : List (List a_K) := [[(0, .iload_n 0, 1, 0, []), (1, .lookupswitch (105) #[(42, 67), (43, 59), (45, 63), (47, 71), (60, 83), (62, 94)], 59, 0, [])],
  [(60, .iload_n 1, 1, 0, []), (61, .iload_n 2, 1, 0, []), (62, .iadd, 1, 0, []), (63, .ireturn, 1, 0, [])],
  [(64, .iload_n 1, 1, 0, []), (65, .iload_n 2, 1, 0, []), (66, .isub, 1, 0, []), (67, .ireturn, 1, 0, []), (68, .iload_n 1, 1, 0, []), (69, .iload_n 2, 1, 0, []), (70, .imul, 1, 0, []), (71, .ireturn, 1, 0, []), (72, .iload_n 2, 1, 0, []), (73, .ifCond .ne (7), 3, 2, []), (76, .iconst (0), 1, 0, []), (77, .goto (6), 3, 0, []), (80, .iload_n 1, 1, 0, []), (81, .iload_n 2, 1, 0, []), (82, .idiv, 1, 0, []), (83, .ireturn, 1, 0, []), (84, .iload_n 1, 1, 0, []), (85, .iload_n 2, 1, 0, []), (86, .if_icmp .ge (7), 3, 2, []), (89, .iconst (1), 1, 0, []), (90, .goto (4), 3, 0, []), (93, .iconst (0), 1, 0, []), (94, .ireturn, 1, 0, []), (95, .iload_n 1, 1, 0, [])],
  [(96, .iload_n 2, 1, 0, []), (97, .if_icmp .le (7), 3, 2, []), (100, .iconst (1), 1, 0, []), (101, .goto (4), 3, 0, []), (104, .iconst (0), 1, 0, []), (105, .ireturn, 1, 0, []), (106, .iload_n 1, 1, 0, []), (107, .iload_n 2, 1, 0, []), (108, .if_icmp .ne (7), 3, 2, []), (111, .iconst (1), 1, 0, []), (112, .goto (4), 3, 0, []), (115, .iconst (0), 1, 0, []), (116, .ireturn, 1, 0, [])]]
theorem kt_72_ok : kt_72.all (fun r => r.all (k_one 4 prog_6_method_5_code)) = true := by decide +kernel
def ct_16 : A_C := (72, [(-2147483648, 2147483647, false), (-2147483648, 2147483647, false), (-2147483648, 2147483647, false)], [(1, 0, 0), (1, 1, 0), (1, 2, 0)], [], [], (0, []), (0, []), [([(-2147483648, 2147483647, false), (-2147483648, 2147483647, false), (-2147483648, 2147483647, false)], [], some (0, 0, 1), []),
    ([(-2147483648, 2147483647, false), (-2147483648, 2147483647, false), (-2147483648, 2147483647, false)], [], some (0, 0, 0), []),
    ([(42, 47, false), (-2147483648, 2147483647, false), (-2147483648, 2147483647, false), (-2147483648, 2147483647, false)], [], some (1, 3, 0), [])], [], (0, []))
theorem ct_16_ok : c_chk (fun _ => []) 3 (some FieldType.int) kt_72 500 ct_16 = true := by decide +kernel
def kt_55 : List (List a_K) := [[(0, .iload_n 1, 1, 0, []), (1, .ifCond .lt (15), 3, 0, []), (4, .iload_n 1, 1, 0, []), (5, .aload_n 0, 1, 0, []), (6, .getfield 44, 3, 0, [19, 1, 11, 0]), (9, .if_icmp .ge (7), 3, 0, []), (12, .iconst (1), 1, 0, []), (13, .goto (4), 3, 0, []), (16, .iconst (0), 1, 0, []), (17, .ireturn, 1, 0, [])]]
theorem kt_55_ok : kt_55.all (fun r => r.all (k_one 1 prog_3_method_3_code)) = true := by decide +kernel
def ct_17 : A_C := (55, [(-2147483648, 2147483647, false)], [(2, 3, 0), (1, 0, 0)], [], [], (0, []), (0, []), [([(0, 4, false)], [], some (0, 0, 1), []),
    ([(-2147483648, 2147483647, false)], [], some (0, 0, 0), [])], [], (0, []))
theorem ct_17_ok : c_chk (fun _ => []) 2 (some FieldType.boolean) kt_55 500 ct_17 = true := by decide +kernel
def kt_53 : List (List a_K) := [[(0, .iload_n 1, 1, 0, []), (1, .ifCond .lt (18), 3, 0, []), (4, .iload_n 1, 1, 0, []), (5, .iconst (2), 1, 0, []), (6, .if_icmp .gt (13), 3, 0, []), (9, .iload_n 2, 1, 0, []), (10, .ifCond .lt (9), 3, 0, []), (13, .iload_n 2, 1, 0, []), (14, .bipush (9), 2, 0, []), (16, .if_icmp .le (5), 3, 0, []), (19, .iconst (-1), 1, 0, []), (20, .ireturn, 1, 0, []), (21, .iload_n 1, 1, 0, []), (22, .ifCond .ne (22), 3, 0, []), (25, .aload_n 0, 1, 0, []), (26, .getfield 19, 3, 0, [94, 12, 1, 0]), (29, .getfield 222, 3, 0, [182, 1, 12, 1])],
  [(32, .istore_n 3, 1, 0, []), (33, .aload_n 0, 1, 0, []), (34, .getfield 19, 3, 0, [94, 12, 1, 0]), (37, .iload_n 2, 1, 0, []), (38, .putfield 222, 3, 0, [182, 1, 12, 1]), (41, .goto (43), 3, 0, []), (44, .iload_n 1, 1, 0, []), (45, .iconst (1), 1, 0, []), (46, .if_icmp .ne (22), 3, 0, []), (49, .aload_n 0, 1, 0, []), (50, .getfield 26, 3, 0, [95, 12, 2, 0]), (53, .getfield 225, 3, 0, [211, 8, 8, 1]), (56, .istore_n 3, 1, 0, []), (57, .aload_n 0, 1, 0, []), (58, .getfield 26, 3, 0, [95, 12, 2, 0]), (61, .iload_n 2, 1, 0, []), (62, .putfield 225, 3, 0, [211, 8, 8, 1])],
  [(65, .goto (19), 3, 0, []), (68, .aload_n 0, 1, 0, []), (69, .getfield 19, 3, 0, [94, 12, 1, 0]), (72, .getfield 228, 3, 0, [183, 1, 13, 1]), (75, .istore_n 3, 1, 0, []), (76, .aload_n 0, 1, 0, []), (77, .getfield 19, 3, 0, [94, 12, 1, 0]), (80, .iload_n 2, 1, 0, []), (81, .putfield 228, 3, 0, [183, 1, 13, 1]), (84, .iload_n 3, 1, 0, []), (85, .ireturn, 1, 0, [])]]
theorem kt_53_ok : kt_53.all (fun r => r.all (k_one 12 prog_1_method_9_code)) = true := by decide +kernel
def ct_18 : A_C := (53, [(-2147483648, 2147483647, false), (-2147483648, 2147483647, false)], [(2, 0, 0), (1, 0, 0), (1, 1, 0)], [], [(3, 12, 13), (12, 8, 8)], (0, []), (0, []), [([(-2147483648, 2147483647, false), (-2147483648, 2147483647, false)], [], some (0, 0, -1), []),
    ([(0, 2, false), (0, 9, false), (-2147483648, 2147483647, false)], [], some (1, 2, 0), [])], [], (0, []))
theorem ct_18_ok : c_chk (fun _ => []) 4 (some FieldType.int) kt_53 500 ct_18 = true := by decide +kernel
def kt_66 : List (List a_K) := [[(0, .aload_n 0, 1, 0, []), (1, .iconst (0), 1, 0, []), (2, .putfield 29, 3, 0, [37, 0, 6, 0]), (5, .aload_n 0, 1, 0, []), (6, .iconst (0), 1, 0, []), (7, .putfield 32, 3, 0, [38, 0, 7, 0]), (10, .aload_n 0, 1, 0, []), (11, .iconst (0), 1, 0, []), (12, .putfield 35, 3, 0, [39, 0, 8, 0]), (15, .aload_n 0, 1, 0, []), (16, .iconst (0), 1, 0, []), (17, .putfield 38, 3, 0, [40, 0, 9, 0]), (20, .return_, 1, 0, [])]]
theorem kt_66_ok : kt_66.all (fun r => r.all (k_one 0 prog_2_method_2_code)) = true := by decide +kernel
def ct_19 : A_C := (66, [], [(2, 24, 0)], [], [(24, 6, 9)], (0, []), (0, []), [([], [], none, [((24, 6), (0, 0, 0)), ((24, 7), (0, 0, 0)), ((24, 8), (0, 0, 0)), ((24, 9), (0, 0, 0))])], [], (0, []))
theorem ct_19_ok : c_chk (fun _ => []) 1 none kt_66 500 ct_19 = true := by decide +kernel
def kt_78 : List (List a_K) := [[(0, .aload_n 0, 1, 0, []), (1, .iconst (0), 1, 0, []), (2, .putfield 453, 3, 0, [106, 12, 13, 0]), (5, .return_, 1, 0, [])]]
theorem kt_78_ok : kt_78.all (fun r => r.all (k_one 12 prog_1_method_55_code)) = true := by decide +kernel
def ct_20 : A_C := (78, [], [(2, 0, 0)], [], [(0, 13, 13)], (0, []), (0, []), [([], [], none, [((0, 13), (0, 0, 0))])], [], (0, []))
theorem ct_20_ok : c_chk (fun _ => []) 1 none kt_78 500 ct_20 = true := by decide +kernel
def kt_79 : List (List a_K) := [[(0, .aload_n 0, 1, 0, []), (1, .getfield 453, 3, 0, [106, 12, 13, 0]), (4, .aload_n 0, 1, 0, []), (5, .getfield 95, 3, 0, [105, 12, 12, 0]), (8, .arraylength, 1, 0, []), (9, .if_icmp .ge (23), 3, 0, []), (12, .aload_n 0, 1, 0, []), (13, .getfield 95, 3, 0, [105, 12, 12, 0]), (16, .aload_n 0, 1, 0, []), (17, .getfield 453, 3, 0, [106, 12, 13, 0]), (20, .lload_n 1, 1, 0, []), (21, .lastore, 1, 0, []), (22, .aload_n 0, 1, 0, []), (23, .dup, 1, 0, []), (24, .getfield 453, 3, 0, [106, 12, 13, 0]), (27, .iconst (1), 1, 0, []), (28, .iadd, 1, 0, []), (29, .putfield 453, 3, 0, [106, 12, 13, 0])],
  [(32, .return_, 1, 0, [])]]
theorem kt_79_ok : kt_79.all (fun r => r.all (k_one 12 prog_1_method_58_code)) = true := by decide +kernel
def ct_21 : A_C := (79, [(-9223372036854775808, 9223372036854775807, false), (0, 9, false)], [(2, 0, 0), (4, 0, 0)], [((0, 13), (1, 1, 0))], [(0, 13, 13), (250, 0, 8)], (0, []), (0, []), [([(-9223372036854775808, 9223372036854775807, false), (0, 8, false)], [], none, [((0, 13), (1, 1, 1))]),
    ([(-9223372036854775808, 9223372036854775807, false), (9, 9, false)], [], none, [])], [], (0, []))
theorem ct_21_ok : c_chk (fun _ => []) 3 none kt_79 500 ct_21 = true := by decide +kernel
def kt_105 : List (List a_K) := [[(0, .aload_n 0, 1, 0, []), (1, .getfield 62, 3, 0, [18, 1, 10, 0]), (4, .bipush (73), 2, 0, []), (6, .iload_n 1, 1, 0, []), (7, .ishl, 1, 0, []), (8, .iand, 1, 0, []), (9, .ireturn, 1, 0, [])]]
theorem kt_105_ok : kt_105.all (fun r => r.all (k_one 1 prog_3_method_7_code)) = true := by decide +kernel
def ct_22 : A_C := (105, [(-2147483648, 2147483647, false)], [(2, 3, 0), (1, 0, 0)], [], [], (0, []), (0, []), [([(-2147483648, 2147483647, false), (-2147483648, 2147483647, false)], [], some (1, 1, 0), [])], [], (0, []))
theorem ct_22_ok : c_chk (fun _ => []) 2 (some FieldType.int) kt_105 500 ct_22 = true := by decide +kernel
def kt_114 : List (List a_K) := [[(0, .iload_n 0, 1, 0, []), (1, .iload_n 1, 1, 0, []), (2, .irem, 1, 0, []), (3, .istore_n 2, 1, 0, []), (4, .iload_n 0, 1, 0, []), (5, .iload_n 1, 1, 0, []), (6, .ixor, 1, 0, []), (7, .ifCond .ge (11), 3, 2, []), (10, .iload_n 2, 1, 0, []), (11, .ifCond .eq (7), 3, 2, []), (14, .iload_n 2, 1, 0, []), (15, .iload_n 1, 1, 0, []), (16, .iadd, 1, 0, []), (17, .ireturn, 1, 0, []), (18, .iload_n 2, 1, 0, []), (19, .ireturn, 1, 0, [])]]
theorem kt_114_ok : kt_114.all (fun r => r.all (k_one 15 prog_23_method_50_code)) = true := by decide +kernel
def ct_23 : A_C := (114, [(-2147483648, 2147483647, false), (6, 6, false)], [(1, 0, 0), (1, 1, 0)], [], [], (0, []), (0, []), [([(-2147483648, 2147483647, false), (6, 6, false), (-2147483648, 2147483647, false)], [], some (1, 2, 0), [])], [], (0, []))
theorem ct_23_ok : c_chk (fun _ => []) 3 (some FieldType.int) kt_114 500 ct_23 = true := by decide +kernel
def kt_124 : List (List a_K) := [[(0, .lload_n 0, 1, 0, []), (1, .lload_n 2, 1, 0, []), (2, .lcmp, 1, 0, []), (3, .ifCond .lt (7), 3, 0, []), (6, .lload_n 0, 1, 0, []), (7, .goto (4), 3, 0, []), (10, .lload_n 2, 1, 0, []), (11, .lreturn, 1, 0, [])]]
theorem kt_124_ok : kt_124.all (fun r => r.all (k_one 15 prog_23_method_66_code)) = true := by decide +kernel
def ct_24 : A_C := (124, [(-9223372036854775808, 9223372036854775807, false), (-9223372036854775808, 9223372036854775807, false)], [(4, 0, 0), (4, 1, 0)], [], [], (0, []), (0, []), [([(-9223372036854775808, 9223372036854775807, false), (-9223372036854775808, 9223372036854775807, false), (-9223372036854775808, 9223372036854775807, false)], [], some (4, 2, 0), [])], [], (0, []))
theorem ct_24_ok : c_chk (fun _ => []) 4 (some FieldType.long) kt_124 500 ct_24 = true := by decide +kernel
def kt_128 : List (List a_K) := [[(0, .lload_n 0, 1, 0, []), (1, .lload_n 0, 1, 0, []), (2, .iconst (1), 1, 0, []), (3, .lushr, 1, 0, []), (4, .ldc2_w 314, 3, 0, [15372286728091293013]), (7, .land, 1, 0, []), (8, .lsub, 1, 0, []), (9, .lstore_n 0, 1, 0, []), (10, .lload_n 0, 1, 0, []), (11, .ldc2_w 316, 3, 0, [12912720851596686131]), (14, .land, 1, 0, []), (15, .lload_n 0, 1, 0, []), (16, .iconst (2), 1, 0, []), (17, .lushr, 1, 0, []), (18, .ldc2_w 316, 3, 0, [12912720851596686131]), (21, .land, 1, 0, []), (22, .ladd, 1, 0, []), (23, .lstore_n 0, 1, 0, []), (24, .lload_n 0, 1, 0, []), (25, .lload_n 0, 1, 0, []), (26, .iconst (4), 1, 0, []), (27, .lushr, 1, 0, []), (28, .ladd, 1, 0, []), (29, .ldc2_w 318, 3, 0, [10308474629425925903])],
  [(32, .land, 1, 0, []), (33, .lstore_n 0, 1, 0, []), (34, .lload_n 0, 1, 0, []), (35, .lload_n 0, 1, 0, []), (36, .bipush (8), 2, 0, []), (38, .lushr, 1, 0, []), (39, .ladd, 1, 0, []), (40, .lstore_n 0, 1, 0, []), (41, .lload_n 0, 1, 0, []), (42, .lload_n 0, 1, 0, []), (43, .bipush (16), 2, 0, []), (45, .lushr, 1, 0, []), (46, .ladd, 1, 0, []), (47, .lstore_n 0, 1, 0, []), (48, .lload_n 0, 1, 0, []), (49, .lload_n 0, 1, 0, []), (50, .bipush (32), 2, 0, []), (52, .lushr, 1, 0, []), (53, .ladd, 1, 0, []), (54, .lstore_n 0, 1, 0, []), (55, .lload_n 0, 1, 0, []), (56, .l2i, 1, 0, []), (57, .bipush (127), 2, 0, []), (59, .iand, 1, 0, []), (60, .ireturn, 1, 0, [])]]
theorem kt_128_ok : kt_128.all (fun r => r.all (k_one 17 prog_22_method_50_code)) = true := by decide +kernel
def ct_25 : A_C := (128, [(-9223372036854775808, 9223372036854775807, false)], [(4, 0, 0)], [], [], (0, []), (0, []), [([(-9223372036854775808, 9223372036854775807, false), (0, 127, false)], [], some (1, 1, 0), [])], [], (0, []))
theorem ct_25_ok : c_chk (fun _ => []) 2 (some FieldType.int) kt_128 500 ct_25 = true := by decide +kernel
def kt_146 : List (List a_K) := [[(0, .iload_n 0, 1, 0, []), (1, .ldc_w 442, 3, 0, [3250998893]), (4, .imul, 1, 0, []), (5, .sipush (12345), 3, 0, []), (8, .iadd, 1, 0, []), (9, .ireturn, 1, 0, [])]]
theorem kt_146_ok : kt_146.all (fun r => r.all (k_one 12 prog_1_method_49_code)) = true := by decide +kernel
def ct_26 : A_C := (146, [(-2147483648, 2147483647, false)], [(1, 0, 0)], [], [], (0, []), (0, []), [([(-2147483648, 2147483647, false), (-2147483648, 2147483647, false)], [], some (1, 1, 0), [])], [], (0, []))
theorem ct_26_ok : c_chk (fun _ => []) 1 (some FieldType.int) kt_146 500 ct_26 = true := by decide +kernel
def kt_147 : List (List a_K) := [[(0, .iload_n 1, 1, 0, []), (1, .iconst (1), 1, 0, []), (2, .if_icmp .ge (7), 3, 0, []), (5, .iconst (0), 1, 0, []), (6, .goto (9), 3, 0, []), (9, .iload_n 0, 1, 0, []), (10, .bipush (16), 2, 0, []), (12, .iushr, 1, 0, []), (13, .iload_n 1, 1, 0, []), (14, .irem, 1, 0, []), (15, .ireturn, 1, 0, [])]]
theorem kt_147_ok : kt_147.all (fun r => r.all (k_one 12 prog_1_method_50_code)) = true := by decide +kernel
def ct_27 : A_C := (147, [(-2147483648, 2147483647, false), (-2147483648, 2147483647, false)], [(1, 0, 0), (1, 1, 0)], [], [], (0, []), (0, []), [([(-2147483648, 2147483647, false), (-2147483648, 0, false)], [], some (0, 0, 0), []),
    ([(-2147483648, 2147483647, false), (1, 2147483647, false), (-2147483648, 2147483647, false)], [], some (1, 2, 0), [])], [], (0, []))
theorem ct_27_ok : c_chk (fun _ => []) 2 (some FieldType.int) kt_147 500 ct_27 = true := by decide +kernel
def kt_162 : List (List a_K) := [[(0, .iload_n 0, 1, 0, []), (1, .iload_n 1, 1, 0, []), (2, .if_icmp .lt (12), 3, 0, []), (5, .iload_n 0, 1, 0, []), (6, .iload_n 2, 1, 0, []), (7, .if_icmp .gt (7), 3, 0, []), (10, .iconst (1), 1, 0, []), (11, .goto (4), 3, 0, []), (14, .iconst (0), 1, 0, []), (15, .ireturn, 1, 0, [])]]
theorem kt_162_ok : kt_162.all (fun r => r.all (k_one 13 prog_15_method_3_code)) = true := by decide +kernel
def ct_28 : A_C := (162, [(-2147483648, 2147483647, false), (-2147483648, 2147483647, false), (-2147483648, 2147483647, false)], [(1, 0, 0), (1, 1, 0), (1, 2, 0)], [], [], (0, []), (0, []), [([(-2147483648, 2147483647, false), (-2147483648, 2147483647, false), (-2147483648, 2147483647, false)], [(1, true, 0, 0), (0, true, 2, 0)], some (0, 0, 1), []),
    ([(-2147483648, 2147483647, false), (-2147483648, 2147483647, false), (-2147483648, 2147483647, false)], [], some (0, 0, 0), [])], [], (0, []))
theorem ct_28_ok : c_chk (fun _ => []) 3 (some FieldType.boolean) kt_162 500 ct_28 = true := by decide +kernel
def kt_164 : List (List a_K) := [[(0, .aload_n 0, 1, 0, []), (1, .aload_n 1, 1, 0, []), (2, .putfield 123, 3, 0, [119, 13, 12, 0]), (5, .aload_n 0, 1, 0, []), (6, .iload_n 2, 1, 0, []), (7, .putfield 126, 3, 0, [120, 13, 13, 0]), (10, .aload_n 0, 1, 0, []), (11, .iload_n 3, 1, 0, []), (12, .putfield 129, 3, 0, [121, 13, 14, 0]), (15, .aload_n 0, 1, 0, []), (16, .iconst (0), 1, 0, []), (17, .putfield 132, 3, 0, [122, 13, 15, 0]), (20, .aload_n 0, 1, 0, []), (21, .iconst (-1), 1, 0, []), (22, .putfield 135, 3, 0, [123, 13, 16, 0]), (25, .return_, 1, 0, [])]]
theorem kt_164_ok : kt_164.all (fun r => r.all (k_one 13 prog_15_method_11_code)) = true := by decide +kernel
def ct_29 : A_C := (164, [(0, 80, false), (-2147483648, 2147483647, false)], [(2, 251, 0), (2, 254, 0), (1, 0, 0), (1, 1, 0)], [], [(251, 12, 16)], (0, []), (0, []), [([(0, 80, false), (-2147483648, 2147483647, false)], [], none, [((251, 12), (2, 254, 0)), ((251, 13), (1, 0, 0)), ((251, 14), (1, 1, 0)), ((251, 15), (0, 0, 0)), ((251, 16), (0, 0, -1))])], [], (0, []))
theorem ct_29_ok : c_chk (fun _ => []) 4 none kt_164 500 ct_29 = true := by decide +kernel
def kt_165 : List (List a_K) := [[(0, .aload_n 0, 1, 0, []), (1, .getfield 135, 3, 0, [123, 13, 16, 0]), (4, .iconst (-1), 1, 0, []), (5, .if_icmp .ne (7), 3, 2, []), (8, .iconst (1), 1, 0, []), (9, .goto (4), 3, 0, []), (12, .iconst (0), 1, 0, []), (13, .ireturn, 1, 0, [])]]
theorem kt_165_ok : kt_165.all (fun r => r.all (k_one 13 prog_15_method_13_code)) = true := by decide +kernel
def ct_30 : A_C := (165, [(-1, 200, false)], [(2, 251, 0)], [((251, 16), (1, 0, 0))], [], (0, []), (0, []), [([(-1, -1, false)], [], some (0, 0, 1), []),
    ([(0, 200, false)], [], some (0, 0, 0), [])], [], (0, []))
theorem ct_30_ok : c_chk (fun _ => []) 1 (some FieldType.boolean) kt_165 500 ct_30 = true := by decide +kernel
def kt_168 : List (List a_K) := [[(0, .aload_n 0, 1, 0, []), (1, .getfield 132, 3, 0, [122, 13, 15, 0]), (4, .aload_n 0, 1, 0, []), (5, .getfield 126, 3, 0, [120, 13, 13, 0]), (8, .if_icmp .ge (30), 3, 0, []), (11, .aload_n 0, 1, 0, []), (12, .getfield 132, 3, 0, [122, 13, 15, 0]), (15, .aload_n 0, 1, 0, []), (16, .getfield 129, 3, 0, [121, 13, 14, 0]), (19, .if_icmp .ge (19), 3, 0, []), (22, .aload_n 0, 1, 0, []), (23, .getfield 123, 3, 0, [119, 13, 12, 0]), (26, .aload_n 0, 1, 0, []), (27, .getfield 132, 3, 0, [122, 13, 15, 0]), (30, .baload, 1, 0, []), (31, .sipush (255), 3, 0, [])],
  [(34, .iand, 1, 0, []), (35, .goto (4), 3, 0, []), (38, .iconst (-1), 1, 0, []), (39, .ireturn, 1, 0, [])]]
theorem kt_168_ok : kt_168.all (fun r => r.all (k_one 13 prog_15_method_12_code)) = true := by decide +kernel
def ct_31 : A_C := (168, [(0, 80, false), (-2147483648, 2147483647, false), (0, 200, false)], [(2, 251, 0)], [((251, 12), (2, 254, 0)), ((251, 13), (1, 0, 0)), ((251, 14), (1, 1, 0)), ((251, 15), (1, 2, 0))], [], (0, []), (0, []), [([(1, 80, false), (1, 2147483647, false), (0, 79, false), (0, 255, false)], [(2, true, 0, -1), (2, true, 1, -1)], some (1, 3, 0), []),
    ([(0, 80, false), (-2147483648, 2147483647, false), (0, 200, false)], [], some (0, 0, -1), [])], [], (0, []))
theorem ct_31_ok : c_chk (fun _ => []) 1 (some FieldType.int) kt_168 500 ct_31 = true := by decide +kernel
def kt_182 : List (List a_K) := [[(0, .aload_n 0, 1, 0, []), (1, .iconst (1), 1, 0, []), (2, .putfield 101, 3, 0, [118, 13, 11, 0]), (5, .iconst (0), 1, 0, []), (6, .ireturn, 1, 0, [])]]
theorem kt_182_ok : kt_182.all (fun r => r.all (k_one 13 prog_15_method_5_code)) = true := by decide +kernel
def ct_32 : A_C := (182, [], [(2, 251, 0)], [], [(251, 11, 11)], (0, []), (0, []), [([], [], some (0, 0, 0), [((251, 11), (0, 0, 1))])], [], (0, []))
theorem ct_32_ok : c_chk (fun _ => []) 1 (some FieldType.int) kt_182 500 ct_32 = true := by decide +kernel
def kt_185 : List (List a_K) := [[(0, .iload_n 0, 1, 0, []), (1, .iload_n 1, 1, 0, []), (2, .ishr, 1, 0, []), (3, .iconst (1), 1, 0, []), (4, .iand, 1, 0, []), (5, .iconst (1), 1, 0, []), (6, .if_icmp .ne (7), 3, 0, []), (9, .iconst (1), 1, 0, []), (10, .goto (4), 3, 0, []), (13, .iconst (0), 1, 0, []), (14, .ireturn, 1, 0, [])]]
theorem kt_185_ok : kt_185.all (fun r => r.all (k_one 13 prog_15_method_4_code)) = true := by decide +kernel
def ct_33 : A_C := (185, [(-2147483648, 2147483647, false), (-2147483648, 2147483647, false)], [(1, 0, 0), (1, 1, 0)], [], [], (0, []), (0, []), [([(-2147483648, 2147483647, false), (-2147483648, 2147483647, false)], [], some (0, 0, 1), []),
    ([(-2147483648, 2147483647, false), (-2147483648, 2147483647, false)], [], some (0, 0, 0), [])], [], (0, []))
theorem ct_33_ok : c_chk (fun _ => []) 2 (some FieldType.boolean) kt_185 500 ct_33 = true := by decide +kernel
def kt_186 : List (List a_K) := [[(0, .iload_n 2, 1, 0, []), (1, .aload_n 0, 1, 0, []), (2, .getfield 43, 3, 0, [130, 13, 23, 0]), (5, .if_icmp .ne (8), 3, 0, []), (8, .bipush (9), 2, 0, []), (10, .goto (20), 3, 0, []), (13, .aload_n 0, 1, 0, []), (14, .getfield 13, 3, 0, [111, 13, 4, 0]), (17, .bipush (6), 2, 0, []), (19, .iload_n 2, 1, 0, []), (20, .imul, 1, 0, []), (21, .aload_n 1, 1, 0, []), (22, .bipush (35), 2, 0, []), (24, .iaload, 1, 0, []), (25, .bipush (6), 2, 0, []), (27, .irem, 1, 0, []), (28, .iadd, 1, 0, []), (29, .iaload, 1, 0, []), (30, .ireturn, 1, 0, [])]]
theorem kt_186_ok : kt_186.all (fun r => r.all (k_one 13 prog_15_method_29_code)) = true := by decide +kernel
def ct_34 : A_C := (186, [(0, 4, false)], [(2, 251, 0), (2, 252, 0), (1, 0, 0)], [], [], (0, []), (0, []), [([(0, 4, false)], [], some (0, 0, 9), []),
    ([(0, 4, false), (0, 9, false)], [], some (1, 1, 0), [])], [], (0, []))
theorem ct_34_ok : c_chk (fun _ => []) 3 (some FieldType.int) kt_186 500 ct_34 = true := by decide +kernel
def ct_35 : A_C := (164, [(0, 80, false), (-2147483648, 2147483647, false)], [(2, 251, 0), (2, 258, 0), (1, 0, 0), (1, 1, 0)], [], [(251, 12, 16)], (0, []), (0, []), [([(0, 80, false), (-2147483648, 2147483647, false)], [], none, [((251, 12), (2, 258, 0)), ((251, 13), (1, 0, 0)), ((251, 14), (1, 1, 0)), ((251, 15), (0, 0, 0)), ((251, 16), (0, 0, -1))])], [], (0, []))
theorem ct_35_ok : c_chk (fun _ => []) 4 none kt_164 500 ct_35 = true := by decide +kernel
def kt_200 : List (List a_K) := [[(0, .iload_n 0, 1, 0, []), (1, .iconst (-1), 1, 0, []), (2, .if_icmp .ne (8), 3, 0, []), (5, .bipush (9), 2, 0, []), (7, .goto (4), 3, 0, []), (10, .iload_n 0, 1, 0, []), (11, .ireturn, 1, 0, [])]]
theorem kt_200_ok : kt_200.all (fun r => r.all (k_one 13 prog_15_method_41_code)) = true := by decide +kernel
def ct_36 : A_C := (200, [(-2147483648, 2147483647, false)], [(1, 0, 0)], [], [], (0, []), (0, []), [([(-1, -1, false)], [], some (0, 0, 9), []),
    ([(-2147483648, 2147483647, false)], [], some (1, 0, 0), [])], [], (0, []))
theorem ct_36_ok : c_chk (fun _ => []) 1 (some FieldType.int) kt_200 500 ct_36 = true := by decide +kernel
def kt_206 : List (List a_K) := [[(0, .aload_n 0, 1, 0, []), (1, .iconst (0), 1, 0, []), (2, .putfield 289, 3, 0, [139, 13, 32, 0]), (5, .aload_n 0, 1, 0, []), (6, .iconst (0), 1, 0, []), (7, .putfield 292, 3, 0, [140, 13, 33, 0]), (10, .aload_n 0, 1, 0, []), (11, .iconst (0), 1, 0, []), (12, .putfield 295, 3, 0, [141, 13, 34, 0]), (15, .aload_n 0, 1, 0, []), (16, .iconst (0), 1, 0, []), (17, .putfield 298, 3, 0, [142, 13, 35, 0]), (20, .return_, 1, 0, [])]]
theorem kt_206_ok : kt_206.all (fun r => r.all (k_one 13 prog_15_method_50_code)) = true := by decide +kernel
def ct_37 : A_C := (206, [], [(2, 251, 0)], [], [(251, 32, 35)], (0, []), (0, []), [([], [], none, [((251, 32), (0, 0, 0)), ((251, 33), (0, 0, 0)), ((251, 34), (0, 0, 0)), ((251, 35), (0, 0, 0))])], [], (0, []))
theorem ct_37_ok : c_chk (fun _ => []) 1 none kt_206 500 ct_37 = true := by decide +kernel
def kt_210 : List (List a_K) := [[(0, .aload_n 0, 1, 0, []), (1, .getfield 27, 3, 0, [116, 13, 9, 0]), (4, .aload_n 0, 1, 0, []), (5, .getfield 104, 3, 0, [117, 13, 10, 0]), (8, .lload_n 1, 1, 0, []), (9, .lastore, 1, 0, []), (10, .aload_n 0, 1, 0, []), (11, .dup, 1, 0, []), (12, .getfield 104, 3, 0, [117, 13, 10, 0]), (15, .iconst (1), 1, 0, []), (16, .iadd, 1, 0, []), (17, .putfield 104, 3, 0, [117, 13, 10, 0]), (20, .return_, 1, 0, [])]]
theorem kt_210_ok : kt_210.all (fun r => r.all (k_one 13 prog_15_method_6_code)) = true := by decide +kernel
def ct_38 : A_C := (210, [(-9223372036854775808, 9223372036854775807, false), (0, 15, false)], [(2, 251, 0), (4, 0, 0)], [((251, 10), (1, 1, 0))], [(251, 10, 10), (255, 0, 15)], (0, []), (0, []), [([(-9223372036854775808, 9223372036854775807, false), (0, 15, false)], [], none, [((251, 10), (1, 1, 1))])], [], (0, []))
theorem ct_38_ok : c_chk (fun _ => []) 3 none kt_210 500 ct_38 = true := by decide +kernel
def ct_39 : A_C := (186, [(0, 4, false)], [(2, 251, 0), (2, 264, 0), (1, 0, 0)], [], [], (0, []), (0, []), [([(0, 4, false)], [], some (0, 0, 9), []),
    ([(0, 4, false), (0, 9, false)], [], some (1, 1, 0), [])], [], (0, []))
theorem ct_39_ok : c_chk (fun _ => []) 3 (some FieldType.int) kt_186 500 ct_39 = true := by decide +kernel
def kt_224 : List (List a_K) := [[(0, .iload_n 0, 1, 0, []), (1, .iconst (-1), 1, 0, []), (2, .ixor, 1, 0, []), (3, .iload_n 0, 1, 0, []), (4, .iconst (1), 1, 0, []), (5, .isub, 1, 0, []), (6, .iand, 1, 0, []), (7, .istore_n 0, 1, 0, []), (8, .iload_n 0, 1, 0, []), (9, .ifCond .gt (8), 3, 0, []), (12, .iload_n 0, 1, 0, []), (13, .bipush (32), 2, 0, []), (15, .iand, 1, 0, []), (16, .ireturn, 1, 0, []), (17, .iconst (1), 1, 0, []), (18, .istore_n 1, 1, 0, []), (19, .iload_n 0, 1, 0, []), (20, .ldc_w 264, 3, 0, [2147549184]), (23, .if_icmp .le (11), 3, 0, []), (26, .iinc 1 (16), 3, 0, []), (29, .iload_n 0, 1, 0, []), (30, .bipush (16), 2, 0, [])],
  [(32, .iushr, 1, 0, []), (33, .istore_n 0, 1, 0, []), (34, .iload_n 0, 1, 0, []), (35, .sipush (256), 3, 0, []), (38, .if_icmp .le (11), 3, 0, []), (41, .iinc 1 (8), 3, 0, []), (44, .iload_n 0, 1, 0, []), (45, .bipush (8), 2, 0, []), (47, .iushr, 1, 0, []), (48, .istore_n 0, 1, 0, []), (49, .iload_n 0, 1, 0, []), (50, .bipush (16), 2, 0, []), (52, .if_icmp .le (10), 3, 0, []), (55, .iinc 1 (4), 3, 0, []), (58, .iload_n 0, 1, 0, []), (59, .iconst (4), 1, 0, []), (60, .iushr, 1, 0, []), (61, .istore_n 0, 1, 0, []), (62, .iload_n 0, 1, 0, []), (63, .iconst (4), 1, 0, [])],
  [(64, .if_icmp .le (10), 3, 0, []), (67, .iinc 1 (2), 3, 0, []), (70, .iload_n 0, 1, 0, []), (71, .iconst (2), 1, 0, []), (72, .iushr, 1, 0, []), (73, .istore_n 0, 1, 0, []), (74, .iload_n 1, 1, 0, []), (75, .iload_n 0, 1, 0, []), (76, .iconst (1), 1, 0, []), (77, .iushr, 1, 0, []), (78, .iadd, 1, 0, []), (79, .ireturn, 1, 0, [])]]
theorem kt_224_ok : kt_224.all (fun r => r.all (k_one 16 prog_21_method_48_code)) = true := by decide +kernel
def ct_40 : A_C := (224, [(-2147483648, 2147483647, false)], [(1, 0, 0)], [], [], (0, []), (0, []), [([(-2147483648, 2147483647, false), (-2147483648, 2147483647, false)], [], some (1, 1, 0), [])], [], (0, []))
theorem ct_40_ok : c_chk (fun _ => []) 2 (some FieldType.int) kt_224 500 ct_40 = true := by decide +kernel
def kt_235 : List (List a_K) := [[(0, .iload_n 1, 1, 0, []), (1, .iconst (-1), 1, 0, []), (2, .if_icmp .ne (5), 3, 0, []), (5, .iconst (0), 1, 0, []), (6, .ireturn, 1, 0, []), (7, .aload_n 0, 1, 0, []), (8, .getfield 13, 3, 0, [111, 13, 4, 0]), (11, .iload_n 1, 1, 0, []), (12, .iaload, 1, 0, []), (13, .istore_n 2, 1, 0, []), (14, .aload_n 0, 1, 0, []), (15, .getfield 13, 3, 0, [111, 13, 4, 0]), (18, .iload_n 1, 1, 0, []), (19, .iconst (0), 1, 0, []), (20, .iastore, 1, 0, []), (21, .iload_n 2, 1, 0, []), (22, .ireturn, 1, 0, [])]]
theorem kt_235_ok : kt_235.all (fun r => r.all (k_one 13 prog_15_method_76_code)) = true := by decide +kernel
def ct_41 : A_C := (235, [(-1, 29, false)], [(2, 251, 0), (1, 0, 0)], [], [(253, 0, 29)], (0, []), (0, []), [([(-1, -1, false)], [], some (0, 0, 0), []),
    ([(0, 29, false), (0, 9, false)], [], some (1, 1, 0), [])], [], (0, []))
theorem ct_41_ok : c_chk (fun _ => []) 3 (some FieldType.int) kt_235 500 ct_41 = true := by decide +kernel
def kt_236 : List (List a_K) := [[(0, .iload_n 1, 1, 0, []), (1, .iconst (-1), 1, 0, []), (2, .if_icmp .eq (10), 3, 0, []), (5, .aload_n 0, 1, 0, []), (6, .getfield 13, 3, 0, [111, 13, 4, 0]), (9, .iload_n 1, 1, 0, []), (10, .iload_n 2, 1, 0, []), (11, .iastore, 1, 0, []), (12, .return_, 1, 0, [])]]
theorem kt_236_ok : kt_236.all (fun r => r.all (k_one 13 prog_15_method_77_code)) = true := by decide +kernel
def ct_42 : A_C := (236, [(-1, 29, false), (0, 9, false)], [(2, 251, 0), (1, 0, 0), (1, 1, 0)], [], [(253, 0, 29)], (0, []), (0, []), [([(0, 29, false), (0, 9, false)], [], none, []),
    ([(-1, -1, false), (0, 9, false)], [], none, [])], [], (0, []))
theorem ct_42_ok : c_chk (fun _ => []) 3 none kt_236 500 ct_42 = true := by decide +kernel
def kt_248 : List (List a_K) := [[(0, .iload_n 0, 1, 0, []), (1, .ifCond .ge (8), 3, 0, []), (4, .iload_n 0, 1, 0, []), (5, .ineg, 1, 0, []), (6, .goto (4), 3, 0, []), (9, .iload_n 0, 1, 0, []), (10, .ireturn, 1, 0, [])]]
theorem kt_248_ok : kt_248.all (fun r => r.all (k_one 15 prog_23_method_59_code)) = true := by decide +kernel
def ct_43 : A_C := (248, [(-2147483648, 2147483647, false)], [(1, 0, 0)], [], [], (0, []), (0, []), [([(-2147483648, -1, false), (-2147483648, 2147483647, false)], [], some (1, 1, 0), []),
    ([(0, 2147483647, false)], [], some (1, 0, 0), [])], [], (0, []))
theorem ct_43_ok : c_chk (fun _ => []) 1 (some FieldType.int) kt_248 500 ct_43 = true := by decide +kernel
def ct_44 : A_C := (224, [], [(0, 0, 1)], [], [], (0, []), (0, []), [([], [], some (0, 0, 0), [])], [], (0, []))
theorem ct_44_ok : c_chk (fun _ => []) 2 (some FieldType.int) kt_224 500 ct_44 = true := by decide +kernel
def ct_45 : A_C := (224, [], [(0, 0, 2)], [], [], (0, []), (0, []), [([], [], some (0, 0, 1), [])], [], (0, []))
theorem ct_45_ok : c_chk (fun _ => []) 2 (some FieldType.int) kt_224 500 ct_45 = true := by decide +kernel
def ct_46 : A_C := (224, [], [(0, 0, 3)], [], [], (0, []), (0, []), [([], [], some (0, 0, 0), [])], [], (0, []))
theorem ct_46_ok : c_chk (fun _ => []) 2 (some FieldType.int) kt_224 500 ct_46 = true := by decide +kernel
def ct_47 : A_C := (224, [], [(0, 0, 4)], [], [], (0, []), (0, []), [([], [], some (0, 0, 2), [])], [], (0, []))
theorem ct_47_ok : c_chk (fun _ => []) 2 (some FieldType.int) kt_224 500 ct_47 = true := by decide +kernel
def ct_48 : A_C := (224, [], [(0, 0, 5)], [], [], (0, []), (0, []), [([], [], some (0, 0, 0), [])], [], (0, []))
theorem ct_48_ok : c_chk (fun _ => []) 2 (some FieldType.int) kt_224 500 ct_48 = true := by decide +kernel
def ct_49 : A_C := (224, [], [(0, 0, 6)], [], [], (0, []), (0, []), [([], [], some (0, 0, 1), [])], [], (0, []))
theorem ct_49_ok : c_chk (fun _ => []) 2 (some FieldType.int) kt_224 500 ct_49 = true := by decide +kernel
def ct_50 : A_C := (224, [], [(0, 0, 7)], [], [], (0, []), (0, []), [([], [], some (0, 0, 0), [])], [], (0, []))
theorem ct_50_ok : c_chk (fun _ => []) 2 (some FieldType.int) kt_224 500 ct_50 = true := by decide +kernel
def ct_51 : A_C := (224, [], [(0, 0, 8)], [], [], (0, []), (0, []), [([], [], some (0, 0, 3), [])], [], (0, []))
theorem ct_51_ok : c_chk (fun _ => []) 2 (some FieldType.int) kt_224 500 ct_51 = true := by decide +kernel
def ct_52 : A_C := (224, [], [(0, 0, 9)], [], [], (0, []), (0, []), [([], [], some (0, 0, 0), [])], [], (0, []))
theorem ct_52_ok : c_chk (fun _ => []) 2 (some FieldType.int) kt_224 500 ct_52 = true := by decide +kernel
def ct_53 : A_C := (224, [], [(0, 0, 10)], [], [], (0, []), (0, []), [([], [], some (0, 0, 1), [])], [], (0, []))
theorem ct_53_ok : c_chk (fun _ => []) 2 (some FieldType.int) kt_224 500 ct_53 = true := by decide +kernel
def ct_54 : A_C := (224, [], [(0, 0, 11)], [], [], (0, []), (0, []), [([], [], some (0, 0, 0), [])], [], (0, []))
theorem ct_54_ok : c_chk (fun _ => []) 2 (some FieldType.int) kt_224 500 ct_54 = true := by decide +kernel
def ct_55 : A_C := (224, [], [(0, 0, 12)], [], [], (0, []), (0, []), [([], [], some (0, 0, 2), [])], [], (0, []))
theorem ct_55_ok : c_chk (fun _ => []) 2 (some FieldType.int) kt_224 500 ct_55 = true := by decide +kernel
def ct_56 : A_C := (224, [], [(0, 0, 13)], [], [], (0, []), (0, []), [([], [], some (0, 0, 0), [])], [], (0, []))
theorem ct_56_ok : c_chk (fun _ => []) 2 (some FieldType.int) kt_224 500 ct_56 = true := by decide +kernel
def ct_57 : A_C := (224, [], [(0, 0, 14)], [], [], (0, []), (0, []), [([], [], some (0, 0, 1), [])], [], (0, []))
theorem ct_57_ok : c_chk (fun _ => []) 2 (some FieldType.int) kt_224 500 ct_57 = true := by decide +kernel
def ct_58 : A_C := (224, [], [(0, 0, 15)], [], [], (0, []), (0, []), [([], [], some (0, 0, 0), [])], [], (0, []))
theorem ct_58_ok : c_chk (fun _ => []) 2 (some FieldType.int) kt_224 500 ct_58 = true := by decide +kernel
