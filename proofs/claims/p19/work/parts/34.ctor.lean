/-! THE CONSTRUCTORS RUN -/
def xt_5 : List (List a_K) := [[(0, .aload_n 0, 1, 0, []), (1, .invokespecial 3, 3, 0, [1, 156]), (4, .aload_n 0, 1, 0, []), (5, .bipush (9), 2, 0, []), (7, .newarray .int, 2, 0, [0, 1, 87]), (9, .putfield 9, 3, 0, [22, 8, 0, 0]), (12, .aload_n 0, 1, 0, []), (13, .bipush (9), 2, 0, []), (15, .newarray .int, 2, 0, [0, 1, 87]), (17, .putfield 15, 3, 0, [23, 8, 1, 0]), (20, .aload_n 0, 1, 0, []), (21, .iconst (5), 1, 0, []), (22, .newarray .int, 2, 0, [0, 1, 87]), (24, .putfield 18, 3, 0, [24, 8, 2, 0]), (27, .aload_n 0, 1, 0, []), (28, .iconst (5), 1, 0, []), (29, .newarray .int, 2, 0, [0, 1, 87]), (31, .putfield 21, 3, 0, [25, 8, 3, 0])],
  [(34, .aload_n 0, 1, 0, []), (35, .iconst (5), 1, 0, []), (36, .newarray .int, 2, 0, [0, 1, 87]), (38, .putfield 24, 3, 0, [26, 8, 4, 0]), (41, .aload_n 0, 1, 0, []), (42, .iconst (-1), 1, 0, []), (43, .putfield 27, 3, 0, [28, 8, 6, 0]), (46, .aload_n 0, 1, 0, []), (47, .iconst (2), 1, 0, []), (48, .putfield 31, 3, 0, [30, 8, 8, 0]), (51, .return_, 1, 0, [])]]
def xt_7 : List (List a_K) := [[(0, .aload_n 0, 1, 0, []), (1, .invokespecial 3, 3, 0, [2, 39]), (4, .aload_n 0, 1, 0, []), (5, .bipush (12), 2, 0, []), (7, .anewarray 11, 3, 0, [2, 40]), (10, .putfield 13, 3, 0, [45, 3, 0, 0]), (13, .aload_n 0, 1, 0, []), (14, .iconst (2), 1, 0, []), (15, .anewarray 11, 3, 0, [2, 40]), (18, .putfield 17, 3, 0, [46, 3, 1, 0]), (21, .aload_n 0, 1, 0, []), (22, .iconst (2), 1, 0, []), (23, .newarray .int, 2, 0, [0, 1, 87]), (25, .putfield 20, 3, 0, [47, 3, 2, 0]), (28, .iconst (0), 1, 0, []), (29, .istore_n 1, 1, 0, []), (30, .iload_n 1, 1, 0, []), (31, .bipush (12), 2, 0, [])],
  [(33, .if_icmp .ge (22), 3, 0, []), (36, .aload_n 0, 1, 0, []), (37, .getfield 13, 3, 0, [45, 3, 0, 0]), (40, .iload_n 1, 1, 0, []), (41, .new 11, 3, 0, [8, 2, 40, 1, 152, 1, 5]), (44, .dup, 1, 0, []), (45, .invokespecial 24, 3, 0, [315, 5, 1, 1]), (48, .aastore, 1, 0, []), (49, .iinc 1 (1), 3, 0, []), (52, .goto (-22), 3, 0, []), (55, .iconst (0), 1, 0, []), (56, .istore_n 1, 1, 0, []), (57, .iload_n 1, 1, 0, []), (58, .iconst (2), 1, 0, []), (59, .if_icmp .ge (29), 3, 0, []), (62, .aload_n 0, 1, 0, []), (63, .getfield 17, 3, 0, [46, 3, 1, 0])],
  [(66, .iload_n 1, 1, 0, []), (67, .new 11, 3, 0, [8, 2, 40, 1, 152, 1, 5]), (70, .dup, 1, 0, []), (71, .invokespecial 24, 3, 0, [315, 5, 1, 1]), (74, .aastore, 1, 0, []), (75, .aload_n 0, 1, 0, []), (76, .getfield 20, 3, 0, [47, 3, 2, 0]), (79, .iload_n 1, 1, 0, []), (80, .iconst (-1), 1, 0, []), (81, .iastore, 1, 0, []), (82, .iinc 1 (1), 3, 0, []), (85, .goto (-28), 3, 0, []), (88, .return_, 1, 0, [])]]
def xt_13 : List (List a_K) := [[(0, .aload_n 0, 1, 0, []), (1, .invokespecial 1, 3, 0, [2, 224]), (4, .aload_n 0, 1, 0, []), (5, .bipush (9), 2, 0, []), (7, .anewarray 9, 3, 0, [2, 225]), (10, .putfield 11, 3, 0, [87, 10, 2, 0]), (13, .aload_n 0, 1, 0, []), (14, .bipush (9), 2, 0, []), (16, .newarray .long, 2, 0, [4, 3, 13]), (18, .putfield 15, 3, 0, [88, 10, 3, 0]), (21, .aload_n 0, 1, 0, []), (22, .aload_n 1, 1, 0, []), (23, .putfield 19, 3, 0, [85, 10, 0, 0]), (26, .aload_n 0, 1, 0, []), (27, .aload_n 2, 1, 0, []), (28, .putfield 23, 3, 0, [86, 10, 1, 0]), (31, .iconst (0), 1, 0, [])],
  [(32, .istore_n 3, 1, 0, []), (33, .iload_n 3, 1, 0, []), (34, .bipush (8), 2, 0, []), (36, .if_icmp .gt (22), 3, 0, []), (39, .aload_n 0, 1, 0, []), (40, .getfield 11, 3, 0, [87, 10, 2, 0]), (43, .iload_n 3, 1, 0, []), (44, .new 9, 3, 0, [8, 2, 225, 1, 152, 1, 5]), (47, .dup, 1, 0, []), (48, .invokespecial 27, 3, 0, [319, 5, 1, 1]), (51, .aastore, 1, 0, []), (52, .iinc 3 (1), 3, 0, []), (55, .goto (-22), 3, 0, []), (58, .return_, 1, 0, [])]]
def xt_159 : List (List a_K) := [[(0, .aload_n 0, 1, 0, []), (1, .invokespecial 3, 3, 0, [6, 141]), (4, .aload_n 0, 1, 0, []), (5, .bipush (37), 2, 0, []), (7, .newarray .int, 2, 0, [0, 1, 87]), (9, .putfield 9, 3, 0, [107, 13, 0, 0]), (12, .aload_n 0, 1, 0, []), (13, .bipush (30), 2, 0, []), (15, .newarray .int, 2, 0, [0, 1, 87]), (17, .putfield 13, 3, 0, [111, 13, 4, 0]), (20, .aload_n 0, 1, 0, []), (21, .iconst (5), 1, 0, []), (22, .putfield 16, 3, 0, [112, 13, 5, 0]), (25, .aload_n 0, 1, 0, []), (26, .iconst (1), 1, 0, []), (27, .putfield 20, 3, 0, [113, 13, 6, 0]), (30, .aload_n 0, 1, 0, []), (31, .bipush (80), 2, 0, [])],
  [(33, .newarray .byte, 2, 0, [1, 4, 65]), (35, .putfield 23, 3, 0, [114, 13, 7, 0]), (38, .aload_n 0, 1, 0, []), (39, .bipush (16), 2, 0, []), (41, .newarray .long, 2, 0, [4, 3, 13]), (43, .putfield 27, 3, 0, [116, 13, 9, 0]), (46, .aload_n 0, 1, 0, []), (47, .bipush (9), 2, 0, []), (49, .newarray .int, 2, 0, [0, 1, 87]), (51, .putfield 31, 3, 0, [124, 13, 17, 0]), (54, .aload_n 0, 1, 0, []), (55, .bipush (35), 2, 0, []), (57, .newarray .int, 2, 0, [0, 1, 87]), (59, .putfield 34, 3, 0, [125, 13, 18, 0]), (62, .aload_n 0, 1, 0, []), (63, .bipush (40), 2, 0, [])],
  [(65, .newarray .byte, 2, 0, [1, 4, 65]), (67, .putfield 37, 3, 0, [126, 13, 19, 0]), (70, .aload_n 0, 1, 0, []), (71, .bipush (7), 2, 0, []), (73, .newarray .int, 2, 0, [0, 1, 87]), (75, .putfield 40, 3, 0, [129, 13, 22, 0]), (78, .aload_n 0, 1, 0, []), (79, .iconst (-1), 1, 0, []), (80, .putfield 43, 3, 0, [130, 13, 23, 0]), (83, .aload_n 0, 1, 0, []), (84, .sipush (444), 3, 0, []), (87, .newarray .int, 2, 0, [0, 1, 87]), (89, .putfield 46, 3, 0, [131, 13, 24, 0]), (92, .aload_n 0, 1, 0, []), (93, .bipush (37), 2, 0, []), (95, .newarray .int, 2, 0, [0, 1, 87])],
  [(97, .putfield 49, 3, 0, [133, 13, 26, 0]), (100, .aload_n 0, 1, 0, []), (101, .bipush (9), 2, 0, []), (103, .newarray .int, 2, 0, [0, 1, 87]), (105, .putfield 52, 3, 0, [134, 13, 27, 0]), (108, .aload_n 0, 1, 0, []), (109, .sipush (240), 3, 0, []), (112, .newarray .int, 2, 0, [0, 1, 87]), (114, .putfield 55, 3, 0, [143, 13, 36, 0]), (117, .aload_n 0, 1, 0, []), (118, .bipush (37), 2, 0, []), (120, .newarray .int, 2, 0, [0, 1, 87]), (122, .putfield 58, 3, 0, [144, 13, 37, 0]), (125, .aload_n 0, 1, 0, []), (126, .iconst (5), 1, 0, []), (127, .newarray .int, 2, 0, [0, 1, 87])],
  [(129, .putfield 61, 3, 0, [145, 13, 38, 0]), (132, .aload_n 0, 1, 0, []), (133, .iconst (5), 1, 0, []), (134, .newarray .int, 2, 0, [0, 1, 87]), (136, .putfield 64, 3, 0, [147, 13, 40, 0]), (139, .aload_n 0, 1, 0, []), (140, .iconst (5), 1, 0, []), (141, .newarray .int, 2, 0, [0, 1, 87]), (143, .putfield 67, 3, 0, [148, 13, 41, 0]), (146, .aload_n 0, 1, 0, []), (147, .iconst (5), 1, 0, []), (148, .newarray .int, 2, 0, [0, 1, 87]), (150, .putfield 70, 3, 0, [151, 13, 44, 0]), (153, .aload_n 0, 1, 0, []), (154, .bipush (100), 2, 0, []), (156, .newarray .boolean, 2, 0, [3, 7, 71]), (158, .putfield 73, 3, 0, [152, 13, 45, 0])],
  [(161, .aload_n 0, 1, 0, []), (162, .sipush (185), 3, 0, []), (165, .newarray .int, 2, 0, [0, 1, 87]), (167, .putfield 77, 3, 0, [153, 13, 46, 0]), (170, .aload_n 0, 1, 0, []), (171, .iconst (5), 1, 0, []), (172, .newarray .int, 2, 0, [0, 1, 87]), (174, .putfield 80, 3, 0, [154, 13, 47, 0]), (177, .aload_n 0, 1, 0, []), (178, .iconst (5), 1, 0, []), (179, .newarray .int, 2, 0, [0, 1, 87]), (181, .putfield 83, 3, 0, [155, 13, 48, 0]), (184, .aload_n 0, 1, 0, []), (185, .bipush (8), 2, 0, []), (187, .newarray .int, 2, 0, [0, 1, 87]), (189, .putfield 86, 3, 0, [157, 13, 50, 0])],
  [(192, .aload_n 0, 1, 0, []), (193, .bipush (9), 2, 0, []), (195, .newarray .int, 2, 0, [0, 1, 87]), (197, .putfield 89, 3, 0, [158, 13, 51, 0]), (200, .aload_n 0, 1, 0, []), (201, .bipush (74), 2, 0, []), (203, .newarray .int, 2, 0, [0, 1, 87]), (205, .putfield 92, 3, 0, [160, 13, 53, 0]), (208, .aload_n 0, 1, 0, []), (209, .iconst (2), 1, 0, []), (210, .newarray .boolean, 2, 0, [3, 7, 71]), (212, .putfield 95, 3, 0, [161, 13, 54, 0]), (215, .aload_n 0, 1, 0, []), (216, .iconst (2), 1, 0, []), (217, .newarray .int, 2, 0, [0, 1, 87]), (219, .putfield 98, 3, 0, [162, 13, 55, 0]), (222, .aload_n 0, 1, 0, []), (223, .getfield 9, 3, 0, [107, 13, 0, 0])],
  [(226, .bipush (34), 2, 0, []), (228, .iconst (-1), 1, 0, []), (229, .iastore, 1, 0, []), (230, .aload_n 0, 1, 0, []), (231, .getfield 9, 3, 0, [107, 13, 0, 0]), (234, .bipush (36), 2, 0, []), (236, .iconst (2), 1, 0, []), (237, .iastore, 1, 0, []), (238, .return_, 1, 0, [])]]
def xt_12 : List (List a_K) := [[(0, .aload_n 0, 1, 0, []), (1, .invokespecial 3, 3, 0, [2, 192]), (4, .aload_n 0, 1, 0, []), (5, .bipush (6), 2, 0, []), (7, .anewarray 11, 3, 0, [2, 193]), (10, .putfield 13, 3, 0, [80, 9, 2, 0]), (13, .aload_n 0, 1, 0, []), (14, .iconst (5), 1, 0, []), (15, .newarray .int, 2, 0, [0, 1, 87]), (17, .putfield 17, 3, 0, [81, 9, 3, 0]), (20, .aload_n 0, 1, 0, []), (21, .iconst (5), 1, 0, []), (22, .newarray .int, 2, 0, [0, 1, 87]), (24, .putfield 21, 3, 0, [82, 9, 4, 0]), (27, .aload_n 0, 1, 0, []), (28, .aload_n 1, 1, 0, []), (29, .putfield 24, 3, 0, [78, 9, 0, 0])],
  [(32, .aload_n 0, 1, 0, []), (33, .aload_n 2, 1, 0, []), (34, .putfield 28, 3, 0, [79, 9, 1, 0]), (37, .iconst (0), 1, 0, []), (38, .istore_n 3, 1, 0, []), (39, .iload_n 3, 1, 0, []), (40, .iconst (5), 1, 0, []), (41, .if_icmp .gt (22), 3, 0, []), (44, .aload_n 0, 1, 0, []), (45, .getfield 13, 3, 0, [80, 9, 2, 0]), (48, .iload_n 3, 1, 0, []), (49, .new 11, 3, 0, [8, 2, 193, 1, 152, 1, 5]), (52, .dup, 1, 0, []), (53, .invokespecial 32, 3, 0, [318, 5, 1, 1]), (56, .aastore, 1, 0, []), (57, .iinc 3 (1), 3, 0, []), (60, .goto (-21), 3, 0, []), (63, .return_, 1, 0, [])]]
def xt_0 : List (List a_K) := [[(0, .aload_n 0, 1, 0, []), (1, .invokespecial 3, 3, 0, [1, 33]), (4, .aload_n 0, 1, 0, []), (5, .new 9, 3, 0, [6, 1, 36, 1, 37, 1, 2]), (8, .dup, 1, 0, []), (9, .invokespecial 11, 3, 0, [312, 1, 1, 1]), (12, .putfield 12, 3, 0, [93, 12, 0, 0]), (15, .aload_n 0, 1, 0, []), (16, .new 16, 3, 0, [1, 1, 58, 1, 59, 1, 3]), (19, .dup, 1, 0, []), (20, .invokespecial 18, 3, 0, [313, 2, 1, 1]), (23, .putfield 19, 3, 0, [94, 12, 1, 0]), (26, .aload_n 0, 1, 0, []), (27, .new 23, 3, 0, [8, 1, 151, 1, 152, 1, 5]), (30, .dup, 1, 0, []), (31, .invokespecial 25, 3, 0, [314, 5, 1, 1])],
  [(34, .putfield 26, 3, 0, [95, 12, 2, 0]), (37, .aload_n 0, 1, 0, []), (38, .new 23, 3, 0, [8, 1, 151, 1, 152, 1, 5]), (41, .dup, 1, 0, []), (42, .invokespecial 25, 3, 0, [314, 5, 1, 1]), (45, .putfield 30, 3, 0, [96, 12, 3, 0]), (48, .aload_n 0, 1, 0, []), (49, .new 33, 3, 0, [0, 1, 212, 1, 213, 1, 6]), (52, .dup, 1, 0, []), (53, .aload_n 0, 1, 0, []), (54, .getfield 19, 3, 0, [94, 12, 1, 0]), (57, .invokespecial 35, 3, 0, [3, 6, 1, 0]), (60, .putfield 38, 3, 0, [97, 12, 4, 0]), (63, .aload_n 0, 1, 0, [])],
  [(64, .new 42, 3, 0, [3, 2, 34, 2, 35, 1, 7]), (67, .dup, 1, 0, []), (68, .invokespecial 44, 3, 0, [4, 7, 1, 0]), (71, .putfield 45, 3, 0, [98, 12, 5, 0]), (74, .aload_n 0, 1, 0, []), (75, .new 49, 3, 0, [5, 2, 60, 2, 61, 1, 8]), (78, .dup, 1, 0, []), (79, .aload_n 0, 1, 0, []), (80, .getfield 12, 3, 0, [93, 12, 0, 0]), (83, .invokespecial 51, 3, 0, [5, 8, 1, 0]), (86, .putfield 54, 3, 0, [99, 12, 6, 0]), (89, .aload_n 0, 1, 0, []), (90, .new 58, 3, 0, [11, 2, 78, 2, 79, 1, 9]), (93, .dup, 1, 0, []), (94, .aload_n 0, 1, 0, []), (95, .getfield 12, 3, 0, [93, 12, 0, 0])],
  [(98, .invokespecial 60, 3, 0, [6, 9, 1, 0]), (101, .putfield 61, 3, 0, [100, 12, 7, 0]), (104, .aload_n 0, 1, 0, []), (105, .new 65, 3, 0, [2, 2, 104, 2, 105, 1, 10]), (108, .dup, 1, 0, []), (109, .aload_n 0, 1, 0, []), (110, .getfield 19, 3, 0, [94, 12, 1, 0]), (113, .aload_n 0, 1, 0, []), (114, .getfield 38, 3, 0, [97, 12, 4, 0]), (117, .invokespecial 67, 3, 0, [7, 10, 1, 0]), (120, .putfield 70, 3, 0, [101, 12, 8, 0]), (123, .aload_n 0, 1, 0, []), (124, .new 74, 3, 0, [7, 2, 159, 2, 160, 1, 11]), (127, .dup, 1, 0, [])],
  [(128, .aload_n 0, 1, 0, []), (129, .getfield 19, 3, 0, [94, 12, 1, 0]), (132, .aload_n 0, 1, 0, []), (133, .getfield 38, 3, 0, [97, 12, 4, 0]), (136, .invokespecial 76, 3, 0, [8, 11, 1, 0]), (139, .putfield 77, 3, 0, [102, 12, 9, 0]), (142, .aload_n 0, 1, 0, []), (143, .new 81, 3, 0, [9, 2, 187, 2, 188, 1, 12]), (146, .dup, 1, 0, []), (147, .aload_n 0, 1, 0, []), (148, .getfield 19, 3, 0, [94, 12, 1, 0]), (151, .aload_n 0, 1, 0, []), (152, .getfield 38, 3, 0, [97, 12, 4, 0]), (155, .invokespecial 83, 3, 0, [9, 12, 1, 0]), (158, .putfield 84, 3, 0, [103, 12, 10, 0])],
  [(161, .aload_n 0, 1, 0, []), (162, .new 88, 3, 0, [10, 2, 219, 2, 220, 1, 13]), (165, .dup, 1, 0, []), (166, .aload_n 0, 1, 0, []), (167, .getfield 19, 3, 0, [94, 12, 1, 0]), (170, .aload_n 0, 1, 0, []), (171, .getfield 38, 3, 0, [97, 12, 4, 0]), (174, .invokespecial 90, 3, 0, [10, 13, 1, 0]), (177, .putfield 91, 3, 0, [104, 12, 11, 0]), (180, .aload_n 0, 1, 0, []), (181, .bipush (9), 2, 0, []), (183, .newarray .long, 2, 0, [4, 3, 13]), (185, .putfield 95, 3, 0, [105, 12, 12, 0]), (188, .return_, 1, 0, [])]]
def xt_10 : List (List a_K) := [[(0, .aload_n 0, 1, 0, []), (1, .invokespecial 5, 3, 0, [2, 109]), (4, .aload_n 0, 1, 0, []), (5, .new 11, 3, 0, [8, 2, 110, 1, 152, 1, 5]), (8, .dup, 1, 0, []), (9, .invokespecial 13, 3, 0, [316, 5, 1, 1]), (12, .putfield 14, 3, 0, [60, 2, 2, 0]), (15, .aload_n 0, 1, 0, []), (16, .new 11, 3, 0, [8, 2, 110, 1, 152, 1, 5]), (19, .dup, 1, 0, []), (20, .invokespecial 13, 3, 0, [316, 5, 1, 1]), (23, .putfield 18, 3, 0, [61, 2, 3, 0]), (26, .aload_n 0, 1, 0, []), (27, .iconst (4), 1, 0, []), (28, .newarray .int, 2, 0, [0, 1, 87]), (30, .putfield 21, 3, 0, [62, 2, 4, 0])],
  [(33, .aload_n 0, 1, 0, []), (34, .iconst (4), 1, 0, []), (35, .newarray .int, 2, 0, [0, 1, 87]), (37, .putfield 25, 3, 0, [63, 2, 5, 0]), (40, .aload_n 0, 1, 0, []), (41, .iconst (4), 1, 0, []), (42, .newarray .int, 2, 0, [0, 1, 87]), (44, .putfield 28, 3, 0, [64, 2, 6, 0]), (47, .aload_n 0, 1, 0, []), (48, .iconst (3), 1, 0, []), (49, .newarray .int, 2, 0, [0, 1, 87]), (51, .putfield 31, 3, 0, [65, 2, 7, 0]), (54, .aload_n 0, 1, 0, []), (55, .sipush (375), 3, 0, []), (58, .newarray .int, 2, 0, [0, 1, 87]), (60, .putfield 34, 3, 0, [66, 2, 8, 0]), (63, .aload_n 0, 1, 0, [])],
  [(64, .aload_n 1, 1, 0, []), (65, .putfield 37, 3, 0, [58, 2, 0, 0]), (68, .aload_n 0, 1, 0, []), (69, .aload_n 2, 1, 0, []), (70, .putfield 41, 3, 0, [59, 2, 1, 0]), (73, .return_, 1, 0, [])]]
def xt_2 : List (List a_K) := [[(0, .aload_n 0, 1, 0, []), (1, .invokespecial 3, 3, 0, [1, 63]), (4, .aload_n 0, 1, 0, []), (5, .new 9, 3, 0, [4, 1, 64, 1, 65, 1, 4]), (8, .dup, 1, 0, []), (9, .invokespecial 11, 3, 0, [1, 3, 1, 0]), (12, .putfield 12, 3, 0, [8, 1, 0, 0]), (15, .aload_n 0, 1, 0, []), (16, .bipush (30), 2, 0, []), (18, .newarray .int, 2, 0, [0, 1, 87]), (20, .putfield 18, 3, 0, [9, 1, 1, 0]), (23, .aload_n 0, 1, 0, []), (24, .bipush (9), 2, 0, []), (26, .newarray .int, 2, 0, [0, 1, 87]), (28, .putfield 22, 3, 0, [10, 1, 2, 0]), (31, .aload_n 0, 1, 0, [])],
  [(32, .iconst (5), 1, 0, []), (33, .newarray .int, 2, 0, [0, 1, 87]), (35, .putfield 25, 3, 0, [11, 1, 3, 0]), (38, .aload_n 0, 1, 0, []), (39, .bipush (30), 2, 0, []), (41, .newarray .int, 2, 0, [0, 1, 87]), (43, .putfield 28, 3, 0, [12, 1, 4, 0]), (46, .aload_n 0, 1, 0, []), (47, .iconst (5), 1, 0, []), (48, .putfield 31, 3, 0, [20, 1, 12, 0]), (51, .aload_n 0, 1, 0, []), (52, .iconst (1), 1, 0, []), (53, .putfield 35, 3, 0, [21, 1, 13, 0]), (56, .return_, 1, 0, [])]]
def xt_6 : List (List a_K) := [[(0, .aload_n 0, 1, 0, []), (1, .invokespecial 3, 3, 0, [1, 217]), (4, .aload_n 0, 1, 0, []), (5, .bipush (9), 2, 0, []), (7, .newarray .int, 2, 0, [0, 1, 87]), (9, .putfield 9, 3, 0, [32, 0, 1, 0]), (12, .aload_n 0, 1, 0, []), (13, .bipush (9), 2, 0, []), (15, .newarray .int, 2, 0, [0, 1, 87]), (17, .putfield 15, 3, 0, [33, 0, 2, 0]), (20, .aload_n 0, 1, 0, []), (21, .bipush (9), 2, 0, []), (23, .newarray .int, 2, 0, [0, 1, 87]), (25, .putfield 18, 3, 0, [34, 0, 3, 0]), (28, .aload_n 0, 1, 0, []), (29, .iconst (-1), 1, 0, []), (30, .putfield 21, 3, 0, [35, 0, 4, 0])],
  [(33, .aload_n 0, 1, 0, []), (34, .aload_n 1, 1, 0, []), (35, .putfield 25, 3, 0, [31, 0, 0, 0]), (38, .return_, 1, 0, [])]]
def xt_4 : List (List a_K) := [[(0, .aload_n 0, 1, 0, []), (1, .getfield 9, 3, 0, [4, 4, 0, 0]), (4, .iconst (0), 1, 0, []), (5, .sipush (1000), 3, 0, []), (8, .iastore, 1, 0, []), (9, .aload_n 0, 1, 0, []), (10, .getfield 9, 3, 0, [4, 4, 0, 0]), (13, .iconst (1), 1, 0, []), (14, .iconst (2), 1, 0, []), (15, .iastore, 1, 0, []), (16, .aload_n 0, 1, 0, []), (17, .getfield 9, 3, 0, [4, 4, 0, 0]), (20, .iconst (2), 1, 0, []), (21, .sipush (2047), 3, 0, []), (24, .iastore, 1, 0, []), (25, .aload_n 0, 1, 0, []), (26, .iconst (3), 1, 0, []), (27, .putfield 22, 3, 0, [7, 4, 3, 0]), (30, .return_, 1, 0, [])]]
def xt_11 : List (List a_K) := [[(0, .aload_n 0, 1, 0, []), (1, .invokespecial 3, 3, 0, [2, 164]), (4, .aload_n 0, 1, 0, []), (5, .new 9, 3, 0, [8, 2, 165, 1, 152, 1, 5]), (8, .dup, 1, 0, []), (9, .invokespecial 11, 3, 0, [317, 5, 1, 1]), (12, .putfield 12, 3, 0, [74, 7, 2, 0]), (15, .aload_n 0, 1, 0, []), (16, .new 9, 3, 0, [8, 2, 165, 1, 152, 1, 5]), (19, .dup, 1, 0, []), (20, .invokespecial 11, 3, 0, [317, 5, 1, 1]), (23, .putfield 18, 3, 0, [75, 7, 3, 0]), (26, .aload_n 0, 1, 0, []), (27, .aload_n 1, 1, 0, []), (28, .putfield 21, 3, 0, [72, 7, 0, 0]), (31, .aload_n 0, 1, 0, [])],
  [(32, .aload_n 2, 1, 0, []), (33, .putfield 25, 3, 0, [73, 7, 1, 0]), (36, .return_, 1, 0, [])]]
def xt_9 : List (List a_K) := [[(0, .aload_n 0, 1, 0, []), (1, .invokespecial 5, 3, 0, [2, 83]), (4, .aload_n 0, 1, 0, []), (5, .bipush (30), 2, 0, []), (7, .newarray .int, 2, 0, [0, 1, 87]), (9, .putfield 11, 3, 0, [54, 11, 1, 0]), (12, .aload_n 0, 1, 0, []), (13, .bipush (30), 2, 0, []), (15, .newarray .int, 2, 0, [0, 1, 87]), (17, .putfield 15, 3, 0, [55, 11, 2, 0]), (20, .aload_n 0, 1, 0, []), (21, .bipush (30), 2, 0, []), (23, .newarray .int, 2, 0, [0, 1, 87]), (25, .putfield 18, 3, 0, [56, 11, 3, 0]), (28, .aload_n 0, 1, 0, []), (29, .aload_n 1, 1, 0, []), (30, .putfield 21, 3, 0, [53, 11, 0, 0])],
  [(33, .return_, 1, 0, [])]]
def xt_3 : List (List a_K) := [[(0, .aload_n 0, 1, 0, []), (1, .invokespecial 3, 3, 0, [1, 69]), (4, .aload_n 0, 1, 0, []), (5, .bipush (40), 2, 0, []), (7, .newarray .int, 2, 0, [0, 1, 87]), (9, .putfield 9, 3, 0, [4, 4, 0, 0]), (12, .aload_n 0, 1, 0, []), (13, .bipush (40), 2, 0, []), (15, .newarray .int, 2, 0, [0, 1, 87]), (17, .putfield 13, 3, 0, [5, 4, 1, 0]), (20, .aload_n 0, 1, 0, []), (21, .bipush (7), 2, 0, []), (23, .newarray .int, 2, 0, [0, 1, 87]), (25, .putfield 16, 3, 0, [6, 4, 2, 0]), (28, .aload_n 0, 1, 0, []), (29, .invokevirtual 19, 3, 0, [2, 4, 0, 0])],
  [(32, .return_, 1, 0, [])]]
def xt_8 : List (List a_K) := [[(0, .aload_n 0, 1, 0, []), (1, .invokespecial 3, 3, 0, [2, 65]), (4, .aload_n 0, 1, 0, []), (5, .bipush (40), 2, 0, []), (7, .newarray .int, 2, 0, [0, 1, 87]), (9, .putfield 11, 3, 0, [51, 5, 1, 0]), (12, .aload_n 0, 1, 0, []), (13, .aload_n 1, 1, 0, []), (14, .putfield 17, 3, 0, [50, 5, 0, 0]), (17, .return_, 1, 0, [])]]
def xt_1 : List (List a_K) := [[(0, .aload_n 0, 1, 0, []), (1, .invokespecial 3, 3, 0, [1, 41]), (4, .aload_n 0, 1, 0, []), (5, .bipush (80), 2, 0, []), (7, .newarray .char, 2, 0, [2, 1, 57]), (9, .putfield 11, 3, 0, [0, 6, 0, 0]), (12, .return_, 1, 0, [])]]
def x_one (c : Nat) (ini : Bool) (cc : ByteArray) (q : a_K) : Bool := k_dec cc q && x_wchk c ini q.2.1 q.2.2.2.2
theorem x_all_ok {c : Nat} {ini : Bool} {own : String} {cc : ByteArray} {code : List (List a_K)} (ho : own = a_R c) (h : code.all (fun r => r.all (x_one c ini cc)) = true) : ∀ r ∈ code, ∀ e ∈ r, decode cc e.1 = .ok (e.2.1, e.2.2.1) ∧ x_wd own (ini = true) e.2.1 e.2.2.2.2 := fun r hr e he => by
  obtain ⟨h1, h2⟩ := Bool.and_eq_true _ _ |>.mp (List.all_eq_true.mp (List.all_eq_true.mp h r hr) e he)
  rw [ho]
  exact ⟨k_dec_ok h1, x_wchk_ok h2⟩
def xcode : Nat → List (List a_K) := fun y => match y with
  | 0 => xt_0
  | 1 => xt_1
  | 2 => xt_2
  | 3 => xt_3
  | 4 => xt_4
  | 5 => xt_5
  | 6 => xt_6
  | 7 => xt_7
  | 8 => xt_8
  | 9 => xt_9
  | 10 => xt_10
  | 11 => xt_11
  | 12 => xt_12
  | 13 => xt_13
  | 159 => xt_159
  | _ => []
theorem xt_5_ok : xt_5.all (fun r => r.all (x_one 8 true prog_10_method_1_code)) = true := by decide +kernel
theorem xt_7_ok : xt_7.all (fun r => r.all (x_one 3 true prog_5_method_1_code)) = true := by decide +kernel
theorem xt_13_ok : xt_13.all (fun r => r.all (x_one 10 true prog_12_method_1_code)) = true := by decide +kernel
theorem xt_159_ok : xt_159.all (fun r => r.all (x_one 13 true prog_15_method_1_code)) = true := by decide +kernel
theorem xt_12_ok : xt_12.all (fun r => r.all (x_one 9 true prog_11_method_1_code)) = true := by decide +kernel
theorem xt_0_ok : xt_0.all (fun r => r.all (x_one 12 true prog_1_method_1_code)) = true := by decide +kernel
theorem xt_10_ok : xt_10.all (fun r => r.all (x_one 2 true prog_4_method_1_code)) = true := by decide +kernel
theorem xt_2_ok : xt_2.all (fun r => r.all (x_one 1 true prog_3_method_1_code)) = true := by decide +kernel
theorem xt_6_ok : xt_6.all (fun r => r.all (x_one 0 true prog_2_method_1_code)) = true := by decide +kernel
theorem xt_4_ok : xt_4.all (fun r => r.all (x_one 4 false prog_6_method_2_code)) = true := by decide +kernel
theorem xt_11_ok : xt_11.all (fun r => r.all (x_one 7 true prog_9_method_1_code)) = true := by decide +kernel
theorem xt_9_ok : xt_9.all (fun r => r.all (x_one 11 true prog_13_method_1_code)) = true := by decide +kernel
theorem xt_3_ok : xt_3.all (fun r => r.all (x_one 4 true prog_6_method_1_code)) = true := by decide +kernel
theorem xt_8_ok : xt_8.all (fun r => r.all (x_one 5 true prog_7_method_1_code)) = true := by decide +kernel
theorem xt_1_ok : xt_1.all (fun r => r.all (x_one 6 true prog_8_method_1_code)) = true := by decide +kernel
theorem xcode_ok : x_codeOk xcode := by
  intro y q hq r hr e he
  unfold xcode at hr
  split at hr
  · cases hq
    have h := x_all_ok (own := RX12) (c := 12) rfl xt_0_ok r hr e he
    exact ⟨h.1, by simpa using h.2⟩
  · cases hq
    have h := x_all_ok (own := RX6) (c := 6) rfl xt_1_ok r hr e he
    exact ⟨h.1, by simpa using h.2⟩
  · cases hq
    have h := x_all_ok (own := RX1) (c := 1) rfl xt_2_ok r hr e he
    exact ⟨h.1, by simpa using h.2⟩
  · cases hq
    have h := x_all_ok (own := RX4) (c := 4) rfl xt_3_ok r hr e he
    exact ⟨h.1, by simpa using h.2⟩
  · cases hq
    have h := x_all_ok (own := RX4) (c := 4) rfl xt_4_ok r hr e he
    exact ⟨h.1, by simpa using h.2⟩
  · cases hq
    have h := x_all_ok (own := RX8) (c := 8) rfl xt_5_ok r hr e he
    exact ⟨h.1, by simpa using h.2⟩
  · cases hq
    have h := x_all_ok (own := RX0) (c := 0) rfl xt_6_ok r hr e he
    exact ⟨h.1, by simpa using h.2⟩
  · cases hq
    have h := x_all_ok (own := RX3) (c := 3) rfl xt_7_ok r hr e he
    exact ⟨h.1, by simpa using h.2⟩
  · cases hq
    have h := x_all_ok (own := RX5) (c := 5) rfl xt_8_ok r hr e he
    exact ⟨h.1, by simpa using h.2⟩
  · cases hq
    have h := x_all_ok (own := RX11) (c := 11) rfl xt_9_ok r hr e he
    exact ⟨h.1, by simpa using h.2⟩
  · cases hq
    have h := x_all_ok (own := RX2) (c := 2) rfl xt_10_ok r hr e he
    exact ⟨h.1, by simpa using h.2⟩
  · cases hq
    have h := x_all_ok (own := RX7) (c := 7) rfl xt_11_ok r hr e he
    exact ⟨h.1, by simpa using h.2⟩
  · cases hq
    have h := x_all_ok (own := RX9) (c := 9) rfl xt_12_ok r hr e he
    exact ⟨h.1, by simpa using h.2⟩
  · cases hq
    have h := x_all_ok (own := RX10) (c := 10) rfl xt_13_ok r hr e he
    exact ⟨h.1, by simpa using h.2⟩
  · cases hq
    have h := x_all_ok (own := RX13) (c := 13) rfl xt_159_ok r hr e he
    exact ⟨h.1, by simpa using h.2⟩
  · cases hr
/-- the cells behind both constructors, and the law's own row -/
def xs_0 : m_H := [(.inr 12, x_dfs 12)]
def xs_1 : Option (m_H × Nat × Nat) := x_exec xcode 3000 8 0 (xs_0, 0, 0, 0, lv_args 0 [.ref 0], [])
def xs_2 : Option (m_H × Nat × Nat) := match xs_1 with
  | some (σ, _, _) => x_exec xcode 3000 8 159 (σ ++ [(.inr 13, x_dfs 13)], 0, 0, 0, lv_args 0 [.ref σ.length], [])
  | none => none
def t_okb (t : Nat × Int × Int) (v : Value) : Bool := match t.1, v with
  | 0, .int x => i_le t.2.1 x.toInt && i_le x.toInt t.2.2
  | 1, .ref k => Nat.beq k t.2.1.toNat
  | 2, .long _ => true
  | 3, .int x => i_eq x.toInt 0
  | 4, .null => true
  | 4, .ref _ => true
  | _, _ => false
def m_vOkb : Value → Bool
  | .ref k => Nat.blt k h_N
  | _ => true
def r_okb (p : Nat) : Nat → List Value → Bool
  | _, [] => true
  | k, v :: vs => t_okb (h_ty p k) v && (m_vOkb v && r_okb p (k + 1) vs)
def h_okb : Nat → m_H → Bool
  | _, [] => true
  | p, c :: σ => decide (c.1 = h_kd p) && (Nat.beq c.2.length (h_ln p) && (r_okb p 0 c.2 && h_okb (p + 1) σ))
def xs_3b : Bool := match xs_1, xs_2 with
  | some (a, c1, s1), some (b, c2, s2) => Nat.beq a.length 251 && (Nat.beq b.length 278 && (Nat.ble c1 300 && (Nat.ble c2 300 && (Nat.ble s1 4000 && (Nat.ble s2 4000 && h_okb 0 (b ++ [(.inl 4, [.long 0])]))))))
  | _, _ => false
set_option maxRecDepth 1000000 in
theorem xs_ok : xs_3b = true := by decide +kernel
