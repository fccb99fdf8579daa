/-! THE INSTRUCTIONS of every method, read off its bytes, checked in the kernel -/
abbrev sf_D : Type := List (Nat × Instr × Nat)
def sf_dok (j : Nat) (l : sf_D) : Prop := ∀ e ∈ l, decode (sm_cc j) e.1 = .ok e.2
theorem sf_dap {j : Nat} {a b : sf_D} (ha : sf_dok j a) (hb : sf_dok j b) : sf_dok j (a ++ b) := fun e he => (List.mem_append.mp he).elim (ha e) (hb e)
def md_1000_0 : sf_D := [(0, .new 7, 3), (3, .dup, 1), (4, .invokespecial 9, 3), (7, .astore_n 1, 1), (8, .new 10, 3), (11, .dup, 1), (12, .invokespecial 12, 3), (15, .astore_n 2, 1), (16, .iconst 0, 1), (17, .istore_n 3, 1), (18, .iload_n 3, 1), (19, .aload_n 0, 1), (20, .arraylength, 1), (21, .bipush (6), 2), (23, .isub, 1), (24, .if_icmp .gt (297), 3), (27, .aload_n 0, 1), (28, .iload_n 3, 1), (29, .iaload, 1), (30, .bipush (7), 2), (32, .iand, 1), (33, .tableswitch (282) 0 7 #[47, 110, 133, 156, 169, 192, 215, 268], 47), (80, .aload_n 1, 1), (81, .aload_n 0, 1), (82, .iload_n 3, 1), (83, .iconst 1, 1), (84, .iadd, 1), (85, .iaload, 1), (86, .aload_n 0, 1), (87, .iload_n 3, 1), (88, .iconst 2, 1), (89, .iadd, 1), (90, .iaload, 1), (91, .aload_n 0, 1), (92, .iload_n 3, 1), (93, .iconst 3, 1), (94, .iadd, 1), (95, .iaload, 1), (96, .aload_n 0, 1), (97, .iload_n 3, 1), (98, .iconst 4, 1), (99, .iadd, 1), (100, .iaload, 1), (101, .aload_n 0, 1), (102, .iload_n 3, 1), (103, .iconst 5, 1), (104, .iadd, 1), (105, .iaload, 1), (106, .invokevirtual 13, 3), (109, .aload_n 2, 1), (110, .aload_n 0, 1), (111, .iload_n 3, 1), (112, .iconst 1, 1), (113, .iadd, 1), (114, .iaload, 1), (115, .aload_n 0, 1), (116, .iload_n 3, 1), (117, .iconst 2, 1), (118, .iadd, 1), (119, .iaload, 1), (120, .aload_n 0, 1), (121, .iload_n 3, 1), (122, .iconst 3, 1), (123, .iadd, 1), (124, .iaload, 1), (125, .aload_n 0, 1), (126, .iload_n 3, 1), (127, .iconst 4, 1), (128, .iadd, 1), (129, .iaload, 1), (130, .aload_n 0, 1), (131, .iload_n 3, 1), (132, .iconst 5, 1), (133, .iadd, 1), (134, .iaload, 1), (135, .invokevirtual 17, 3), (138, .if_icmp .eq (177), 3), (141, .iconst 0, 1), (142, .ireturn, 1), (143, .aload_n 1, 1), (144, .aload_n 0, 1), (145, .iload_n 3, 1), (146, .iconst 1, 1), (147, .iadd, 1), (148, .iaload, 1), (149, .invokevirtual 18, 3), (152, .aload_n 2, 1), (153, .aload_n 0, 1), (154, .iload_n 3, 1), (155, .iconst 1, 1), (156, .iadd, 1), (157, .iaload, 1), (158, .invokevirtual 22, 3), (161, .if_icmp .eq (154), 3), (164, .iconst 0, 1), (165, .ireturn, 1), (166, .aload_n 1, 1), (167, .aload_n 0, 1), (168, .iload_n 3, 1), (169, .iconst 1, 1)]
theorem dq_1000_0 : sf_dok 1000 md_1000_0 := by
  unfold sf_dok
  decide +kernel
def md_1000_1 : sf_D := [(170, .iadd, 1), (171, .iaload, 1), (172, .invokevirtual 23, 3), (175, .aload_n 2, 1), (176, .aload_n 0, 1), (177, .iload_n 3, 1), (178, .iconst 1, 1), (179, .iadd, 1), (180, .iaload, 1), (181, .invokevirtual 26, 3), (184, .if_icmp .eq (131), 3), (187, .iconst 0, 1), (188, .ireturn, 1), (189, .aload_n 1, 1), (190, .invokevirtual 27, 3), (193, .aload_n 2, 1), (194, .invokevirtual 31, 3), (197, .if_icmp .eq (118), 3), (200, .iconst 0, 1), (201, .ireturn, 1), (202, .aload_n 1, 1), (203, .aload_n 0, 1), (204, .iload_n 3, 1), (205, .iconst 1, 1), (206, .iadd, 1), (207, .iaload, 1), (208, .invokevirtual 32, 3), (211, .aload_n 2, 1), (212, .aload_n 0, 1), (213, .iload_n 3, 1), (214, .iconst 1, 1), (215, .iadd, 1), (216, .iaload, 1), (217, .invokevirtual 35, 3), (220, .if_icmp .eq (95), 3), (223, .iconst 0, 1), (224, .ireturn, 1), (225, .aload_n 1, 1), (226, .aload_n 0, 1), (227, .iload_n 3, 1), (228, .iconst 1, 1), (229, .iadd, 1), (230, .iaload, 1), (231, .invokevirtual 36, 3), (234, .aload_n 2, 1), (235, .aload_n 0, 1), (236, .iload_n 3, 1), (237, .iconst 1, 1), (238, .iadd, 1), (239, .iaload, 1), (240, .invokevirtual 39, 3), (243, .if_icmp .eq (72), 3), (246, .iconst 0, 1), (247, .ireturn, 1), (248, .aload_n 1, 1), (249, .aload_n 0, 1), (250, .iload_n 3, 1), (251, .iconst 1, 1), (252, .iadd, 1), (253, .iaload, 1), (254, .i2l, 1), (255, .bipush (32), 2), (257, .lshl, 1), (258, .aload_n 0, 1), (259, .iload_n 3, 1), (260, .iconst 2, 1), (261, .iadd, 1), (262, .iaload, 1), (263, .i2l, 1), (264, .ldc2_w 40, 3), (267, .land, 1), (268, .lor, 1), (269, .invokevirtual 42, 3), (272, .aload_n 2, 1), (273, .aload_n 0, 1), (274, .iload_n 3, 1), (275, .iconst 1, 1), (276, .iadd, 1), (277, .iaload, 1), (278, .i2l, 1), (279, .bipush (32), 2), (281, .lshl, 1), (282, .aload_n 0, 1), (283, .iload_n 3, 1), (284, .iconst 2, 1), (285, .iadd, 1), (286, .iaload, 1), (287, .i2l, 1), (288, .ldc2_w 40, 3), (291, .land, 1), (292, .lor, 1), (293, .invokevirtual 46, 3), (296, .if_icmp .eq (19), 3), (299, .iconst 0, 1), (300, .ireturn, 1), (301, .aload_n 1, 1), (302, .invokevirtual 47, 3), (305, .aload_n 2, 1), (306, .invokevirtual 51, 3), (309, .lcmp, 1)]
theorem dq_1000_1 : sf_dok 1000 md_1000_1 := by
  unfold sf_dok
  decide +kernel
def md_1000_2 : sf_D := [(310, .ifCond .eq (5), 3), (313, .iconst 0, 1), (314, .ireturn, 1), (315, .iinc 3 (6), 3), (318, .goto (-300), 3), (321, .iconst 1, 1), (322, .ireturn, 1)]
theorem dq_1000_2 : sf_dok 1000 md_1000_2 := by
  unfold sf_dok
  decide +kernel
def md_1000 : sf_D := md_1000_0 ++ md_1000_1 ++ md_1000_2
theorem dq_1000 : sf_dok 1000 md_1000 := (sf_dap (sf_dap dq_1000_0 dq_1000_1) dq_1000_2)
def md_0_0 : sf_D := [(0, .aload_n 0, 1), (1, .invokespecial 3, 3), (4, .aload_n 0, 1), (5, .sipush (3000), 3), (8, .newarray .byte, 2), (10, .putfield 9, 3), (13, .aload_n 0, 1), (14, .new 13, 3), (17, .dup, 1), (18, .invokespecial 15, 3), (21, .putfield 16, 3), (24, .aload_n 0, 1), (25, .new 20, 3), (28, .dup, 1), (29, .aload_n 0, 1), (30, .getfield 16, 3), (33, .invokespecial 22, 3), (36, .putfield 25, 3), (39, .new 29, 3), (42, .dup, 1), (43, .invokespecial 31, 3), (46, .astore_n 1, 1), (47, .aload_n 0, 1), (48, .new 32, 3), (51, .dup, 1), (52, .aload_n 0, 1), (53, .getfield 9, 3), (56, .aload_n 0, 1), (57, .getfield 25, 3), (60, .invokespecial 34, 3), (63, .putfield 37, 3), (66, .new 41, 3), (69, .dup, 1), (70, .aload_n 1, 1), (71, .invokespecial 43, 3), (74, .astore_n 2, 1), (75, .aload_n 0, 1), (76, .new 46, 3), (79, .dup, 1), (80, .aload_n 0, 1), (81, .getfield 37, 3), (84, .aload_n 1, 1), (85, .aload_n 2, 1), (86, .new 48, 3), (89, .dup, 1), (90, .aload_n 0, 1), (91, .getfield 37, 3), (94, .aload_n 1, 1), (95, .aload_n 2, 1), (96, .invokespecial 50, 3), (99, .invokespecial 53, 3), (102, .putfield 56, 3), (105, .new 60, 3), (108, .dup, 1), (109, .aload_n 0, 1), (110, .getfield 16, 3), (113, .invokespecial 62, 3), (116, .astore_n 3, 1), (117, .aload_n 0, 1), (118, .new 63, 3), (121, .dup, 1), (122, .aload_n 0, 1), (123, .getfield 16, 3), (126, .aload_n 3, 1), (127, .aload_n 0, 1), (128, .getfield 25, 3), (131, .aload_n 1, 1), (132, .invokespecial 65, 3), (135, .putfield 68, 3), (138, .aload_n 0, 1), (139, .new 72, 3), (142, .dup, 1), (143, .aload_n 1, 1), (144, .aload_n 0, 1), (145, .getfield 16, 3), (148, .aload_n 0, 1), (149, .getfield 25, 3), (152, .aload_n 3, 1), (153, .aload_n 0, 1), (154, .getfield 68, 3), (157, .invokespecial 74, 3), (160, .putfield 77, 3), (163, .return_, 1)]
theorem dq_0_0 : sf_dok 0 md_0_0 := by
  unfold sf_dok
  decide +kernel
def md_0 : sf_D := md_0_0
theorem dq_0 : sf_dok 0 md_0 := dq_0_0
def md_1_0 : sf_D := [(0, .aload_n 0, 1), (1, .invokespecial 5, 3), (4, .aload_n 0, 1), (5, .sipush (1501), 3), (8, .newarray .int, 2), (10, .putfield 11, 3), (13, .aload_n 0, 1), (14, .sipush (1501), 3), (17, .newarray .int, 2), (19, .putfield 15, 3), (22, .aload_n 0, 1), (23, .sipush (1501), 3), (26, .newarray .int, 2), (28, .putfield 18, 3), (31, .aload_n 0, 1), (32, .sipush (1501), 3), (35, .newarray .int, 2), (37, .putfield 21, 3), (40, .aload_n 0, 1), (41, .sipush (1501), 3), (44, .newarray .int, 2), (46, .putfield 24, 3), (49, .aload_n 0, 1), (50, .sipush (1501), 3), (53, .newarray .int, 2), (55, .putfield 27, 3), (58, .aload_n 0, 1), (59, .sipush (1501), 3), (62, .newarray .int, 2), (64, .putfield 30, 3), (67, .aload_n 0, 1), (68, .sipush (1501), 3), (71, .newarray .int, 2), (73, .putfield 33, 3), (76, .aload_n 0, 1), (77, .sipush (1501), 3), (80, .anewarray 36, 3), (83, .putfield 38, 3), (86, .aload_n 0, 1), (87, .bipush (8), 2), (89, .newarray .int, 2), (91, .putfield 42, 3), (94, .aload_n 0, 1), (95, .sipush (1501), 3), (98, .newarray .int, 2), (100, .putfield 45, 3), (103, .aload_n 0, 1), (104, .sipush (1501), 3), (107, .newarray .int, 2), (109, .putfield 48, 3), (112, .aload_n 0, 1), (113, .sipush (1501), 3), (116, .newarray .boolean, 2), (118, .putfield 51, 3), (121, .return_, 1)]
theorem dq_1_0 : sf_dok 1 md_1_0 := by
  unfold sf_dok
  decide +kernel
def md_1 : sf_D := md_1_0
theorem dq_1 : sf_dok 1 md_1 := dq_1_0
def md_2_0 : sf_D := [(0, .aload_n 0, 1), (1, .invokespecial 5, 3), (4, .aload_n 0, 1), (5, .aload_n 1, 1), (6, .putfield 11, 3), (9, .aload_n 0, 1), (10, .sipush (4096), 3), (13, .newarray .long, 2), (15, .putfield 15, 3), (18, .aload_n 0, 1), (19, .sipush (4096), 3), (22, .newarray .long, 2), (24, .putfield 19, 3), (27, .aload_n 0, 1), (28, .sipush (1024), 3), (31, .newarray .int, 2), (33, .putfield 22, 3), (36, .aload_n 0, 1), (37, .sipush (4096), 3), (40, .newarray .int, 2), (42, .putfield 26, 3), (45, .aload_n 0, 1), (46, .sipush (4096), 3), (49, .newarray .long, 2), (51, .putfield 29, 3), (54, .aload_n 0, 1), (55, .sipush (4096), 3), (58, .newarray .long, 2), (60, .putfield 32, 3), (63, .aload_n 0, 1), (64, .ldc 35, 2), (66, .invokevirtual 37, 3), (69, .aload_n 0, 1), (70, .ldc 41, 2), (72, .invokevirtual 37, 3), (75, .aload_n 0, 1), (76, .ldc 43, 2), (78, .invokevirtual 37, 3), (81, .aload_n 0, 1), (82, .ldc 45, 2), (84, .invokevirtual 37, 3), (87, .return_, 1)]
theorem dq_2_0 : sf_dok 2 md_2_0 := by
  unfold sf_dok
  decide +kernel
def md_2 : sf_D := md_2_0
theorem dq_2 : sf_dok 2 md_2 := dq_2_0
def md_3_0 : sf_D := [(0, .ldc2_w 47, 3), (3, .lstore_n 2, 1), (4, .lconst 0, 1), (5, .lstore 4, 2), (7, .iconst 0, 1), (8, .istore 6, 2), (10, .iload 6, 2), (12, .aload_n 1, 1), (13, .invokevirtual 49, 3), (16, .if_icmp .ge (59), 3), (19, .aload_n 1, 1), (20, .iload 6, 2), (22, .invokevirtual 55, 3), (25, .istore 7, 2), (27, .iload 7, 2), (29, .bipush (32), 2), (31, .if_icmp .ne (21), 3), (34, .aload_n 0, 1), (35, .lload_n 2, 1), (36, .lload 4, 2), (38, .invokevirtual 59, 3), (41, .pop, 1), (42, .ldc2_w 47, 3), (45, .lstore_n 2, 1), (46, .lconst 0, 1), (47, .lstore 4, 2), (49, .goto (20), 3), (52, .lload_n 2, 1), (53, .lload 4, 2), (55, .iload 7, 2), (57, .invokestatic 63, 3), (60, .lstore 4, 2), (62, .lload_n 2, 1), (63, .iload 7, 2), (65, .invokestatic 67, 3), (68, .lstore_n 2, 1), (69, .iinc 6 (1), 3), (72, .goto (-62), 3), (75, .return_, 1)]
theorem dq_3_0 : sf_dok 3 md_3_0 := by
  unfold sf_dok
  decide +kernel
def md_3 : sf_D := md_3_0
theorem dq_3 : sf_dok 3 md_3 := dq_3_0
def md_4_0 : sf_D := [(0, .aload_n 0, 1), (1, .getfield 9, 3), (4, .arraylength, 1), (5, .aload_n 0, 1), (6, .invokevirtual 335, 3), (9, .ishr, 1), (10, .ireturn, 1)]
theorem dq_4_0 : sf_dok 4 md_4_0 := by
  unfold sf_dok
  decide +kernel
def md_4 : sf_D := md_4_0
theorem dq_4 : sf_dok 4 md_4 := dq_4_0
def md_5_0 : sf_D := [(0, .getstatic 38, 3), (3, .ifCond .eq (10), 3), (6, .aload_n 0, 1), (7, .getfield 15, 3), (10, .goto (4), 3), (13, .iconst 1, 1), (14, .ireturn, 1)]
theorem dq_5_0 : sf_dok 5 md_5_0 := by
  unfold sf_dok
  decide +kernel
def md_5 : sf_D := md_5_0
theorem dq_5 : sf_dok 5 md_5 := dq_5_0
def md_6_0 : sf_D := [(0, .aload_n 0, 1), (1, .invokevirtual 492, 3), (4, .ifCond .eq (12), 3), (7, .aload_n 0, 1), (8, .getfield 9, 3), (11, .iload_n 1, 1), (12, .invokestatic 495, 3), (15, .ireturn, 1), (16, .aload_n 0, 1), (17, .getfield 9, 3), (20, .iload_n 1, 1), (21, .invokestatic 498, 3), (24, .ireturn, 1)]
theorem dq_6_0 : sf_dok 6 md_6_0 := by
  unfold sf_dok
  decide +kernel
def md_6 : sf_D := md_6_0
theorem dq_6 : sf_dok 6 md_6 := dq_6_0
def md_7_0 : sf_D := [(0, .getstatic 38, 3), (3, .ifCond .eq (14), 3), (6, .aload_n 0, 1), (7, .getfield 15, 3), (10, .ifCond .ne (7), 3), (13, .iconst 1, 1), (14, .goto (4), 3), (17, .iconst 0, 1), (18, .ireturn, 1)]
theorem dq_7_0 : sf_dok 7 md_7_0 := by
  unfold sf_dok
  decide +kernel
def md_7 : sf_D := md_7_0
theorem dq_7 : sf_dok 7 md_7 := dq_7_0
def md_8_0 : sf_D := [(0, .iload_n 1, 1), (1, .aload_n 0, 1), (2, .arraylength, 1), (3, .invokestatic 9, 3), (6, .aload_n 0, 1), (7, .iload_n 1, 1), (8, .baload, 1), (9, .sipush (255), 3), (12, .iand, 1), (13, .i2c, 1), (14, .ireturn, 1)]
theorem dq_8_0 : sf_dok 8 md_8_0 := by
  unfold sf_dok
  decide +kernel
def md_8 : sf_D := md_8_0
theorem dq_8 : sf_dok 8 md_8 := dq_8_0
def md_9_0 : sf_D := [(0, .iload_n 0, 1), (1, .iload_n 1, 1), (2, .getstatic 1053, 3), (5, .invokestatic 1059, 3), (8, .pop, 1), (9, .return_, 1)]
theorem dq_9_0 : sf_dok 9 md_9_0 := by
  unfold sf_dok
  decide +kernel
def md_9 : sf_D := md_9_0
theorem dq_9 : sf_dok 9 md_9 := dq_9_0
def md_10_0 : sf_D := [(0, .iload_n 0, 1), (1, .ifCond .lt (8), 3), (4, .iload_n 0, 1), (5, .iload_n 1, 1), (6, .if_icmp .lt (10), 3), (9, .aload_n 2, 1), (10, .iload_n 0, 1), (11, .iload_n 1, 1), (12, .invokestatic 95, 3), (15, .athrow, 1), (16, .iload_n 0, 1), (17, .ireturn, 1)]
theorem dq_10_0 : sf_dok 10 md_10_0 := by
  unfold sf_dok
  decide +kernel
def md_10 : sf_D := md_10_0
theorem dq_10 : sf_dok 10 md_10 := dq_10_0
def md_11_0 : sf_D := [(0, .iload_n 1, 1), (1, .aload_n 0, 1), (2, .invokestatic 67, 3), (5, .aload_n 0, 1), (6, .iload_n 1, 1), (7, .invokestatic 71, 3), (10, .ireturn, 1)]
theorem dq_11_0 : sf_dok 11 md_11_0 := by
  unfold sf_dok
  decide +kernel
def md_11 : sf_D := md_11_0
theorem dq_11 : sf_dok 11 md_11 := dq_11_0
def md_12_0 : sf_D := [(0, .iload_n 0, 1), (1, .aload_n 1, 1), (2, .invokestatic 48, 3), (5, .invokestatic 414, 3), (8, .return_, 1)]
theorem dq_12_0 : sf_dok 12 md_12_0 := by
  unfold sf_dok
  decide +kernel
def md_12 : sf_D := md_12_0
theorem dq_12 : sf_dok 12 md_12 := dq_12_0
def md_13_0 : sf_D := [(0, .aload_n 0, 1), (1, .arraylength, 1), (2, .iconst 1, 1), (3, .ishr, 1), (4, .ireturn, 1)]
theorem dq_13_0 : sf_dok 13 md_13_0 := by
  unfold sf_dok
  decide +kernel
def md_13 : sf_D := md_13_0
theorem dq_13 : sf_dok 13 md_13 := dq_13_0
def md_14_0 : sf_D := [(0, .getstatic 44, 3), (3, .ifCond .ne (25), 3), (6, .iload_n 1, 1), (7, .ifCond .lt (11), 3), (10, .iload_n 1, 1), (11, .aload_n 0, 1), (12, .invokestatic 48, 3), (15, .if_icmp .lt (13), 3), (18, .new 52, 3), (21, .dup, 1), (22, .ldc 54, 2), (24, .invokespecial 56, 3), (27, .athrow, 1), (28, .iload_n 1, 1), (29, .iconst 1, 1), (30, .ishl, 1), (31, .istore_n 1, 1), (32, .aload_n 0, 1), (33, .iload_n 1, 1), (34, .iinc 1 (1), 3), (37, .baload, 1), (38, .sipush (255), 3), (41, .iand, 1), (42, .getstatic 59, 3), (45, .ishl, 1), (46, .aload_n 0, 1), (47, .iload_n 1, 1), (48, .baload, 1), (49, .sipush (255), 3), (52, .iand, 1), (53, .getstatic 63, 3), (56, .ishl, 1), (57, .ior, 1), (58, .i2c, 1), (59, .ireturn, 1)]
theorem dq_14_0 : sf_dok 14 md_14_0 := by
  unfold sf_dok
  decide +kernel
def md_14 : sf_D := md_14_0
theorem dq_14 : sf_dok 14 md_14 := dq_14_0
def md_15_0 : sf_D := [(0, .lload_n 1, 1), (1, .ldc2_w 71, 3), (4, .lmul, 1), (5, .lload_n 3, 1), (6, .ldc2_w 73, 3), (9, .lmul, 1), (10, .ladd, 1), (11, .lstore 5, 2), (13, .lload 5, 2), (15, .lload 5, 2), (17, .bipush (32), 2), (19, .lushr, 1), (20, .lxor, 1), (21, .lstore 5, 2), (23, .lload 5, 2), (25, .lload 5, 2), (27, .bipush (15), 2), (29, .lushr, 1), (30, .lxor, 1), (31, .lstore 5, 2), (33, .lload 5, 2), (35, .ldc2_w 75, 3), (38, .land, 1), (39, .l2i, 1), (40, .istore 7, 2), (42, .aload_n 0, 1), (43, .getfield 22, 3), (46, .iload 7, 2), (48, .iaload, 1), (49, .iconst 1, 1), (50, .isub, 1), (51, .istore 8, 2), (53, .iconst 0, 1), (54, .istore 9, 2), (56, .iload 9, 2), (58, .sipush (4096), 3), (61, .if_icmp .ge (60), 3), (64, .iload 8, 2), (66, .ifCond .lt (55), 3), (69, .iload 8, 2), (71, .sipush (4096), 3), (74, .if_icmp .ge (47), 3), (77, .aload_n 0, 1), (78, .getfield 15, 3), (81, .iload 8, 2), (83, .laload, 1), (84, .lload_n 1, 1), (85, .lcmp, 1), (86, .ifCond .ne (18), 3), (89, .aload_n 0, 1), (90, .getfield 19, 3), (93, .iload 8, 2), (95, .laload, 1), (96, .lload_n 3, 1), (97, .lcmp, 1), (98, .ifCond .ne (6), 3), (101, .iload 8, 2), (103, .ireturn, 1), (104, .aload_n 0, 1), (105, .getfield 26, 3), (108, .iload 8, 2), (110, .iaload, 1), (111, .iconst 1, 1), (112, .isub, 1), (113, .istore 8, 2), (115, .iinc 9 (1), 3), (118, .goto (-62), 3), (121, .aload_n 0, 1), (122, .getfield 77, 3), (125, .sipush (4096), 3), (128, .if_icmp .lt (5), 3), (131, .iconst (-1), 1), (132, .ireturn, 1), (133, .aload_n 0, 1), (134, .getfield 15, 3), (137, .aload_n 0, 1), (138, .getfield 77, 3), (141, .lload_n 1, 1), (142, .lastore, 1), (143, .aload_n 0, 1), (144, .getfield 19, 3), (147, .aload_n 0, 1), (148, .getfield 77, 3), (151, .lload_n 3, 1), (152, .lastore, 1), (153, .aload_n 0, 1), (154, .getfield 26, 3), (157, .aload_n 0, 1), (158, .getfield 77, 3), (161, .aload_n 0, 1), (162, .getfield 22, 3), (165, .iload 7, 2), (167, .iaload, 1), (168, .iastore, 1), (169, .aload_n 0, 1), (170, .dup, 1), (171, .getfield 77, 3), (174, .iconst 1, 1), (175, .iadd, 1), (176, .putfield 77, 3)]
theorem dq_15_0 : sf_dok 15 md_15_0 := by
  unfold sf_dok
  decide +kernel
def md_15_1 : sf_D := [(179, .aload_n 0, 1), (180, .getfield 22, 3), (183, .iload 7, 2), (185, .aload_n 0, 1), (186, .getfield 77, 3), (189, .iastore, 1), (190, .aload_n 0, 1), (191, .getfield 77, 3), (194, .iconst 1, 1), (195, .isub, 1), (196, .ireturn, 1)]
theorem dq_15_1 : sf_dok 15 md_15_1 := by
  unfold sf_dok
  decide +kernel
def md_15 : sf_D := md_15_0 ++ md_15_1
theorem dq_15 : sf_dok 15 md_15 := (sf_dap dq_15_0 dq_15_1)
def md_16_0 : sf_D := [(0, .lload_n 0, 1), (1, .bipush (56), 2), (3, .lushr, 1), (4, .l2i, 1), (5, .bipush (15), 2), (7, .iand, 1), (8, .istore 5, 2), (10, .iload 5, 2), (12, .bipush (7), 2), (14, .if_icmp .ge (7), 3), (17, .lload_n 2, 1), (18, .goto (20), 3), (21, .lload_n 2, 1), (22, .iload 4, 2), (24, .i2l, 1), (25, .bipush (56), 2), (27, .bipush (8), 2), (29, .iload 5, 2), (31, .bipush (7), 2), (33, .isub, 1), (34, .imul, 1), (35, .isub, 1), (36, .lshl, 1), (37, .lor, 1), (38, .lreturn, 1)]
theorem dq_16_0 : sf_dok 16 md_16_0 := by
  unfold sf_dok
  decide +kernel
def md_16 : sf_D := md_16_0
theorem dq_16 : sf_dok 16 md_16 := dq_16_0
def md_17_0 : sf_D := [(0, .lload_n 0, 1), (1, .bipush (56), 2), (3, .lushr, 1), (4, .l2i, 1), (5, .bipush (15), 2), (7, .iand, 1), (8, .istore_n 3, 1), (9, .lload_n 0, 1), (10, .ldc2_w 166, 3), (13, .ladd, 1), (14, .lstore 4, 2), (16, .iload_n 3, 1), (17, .bipush (7), 2), (19, .if_icmp .ge (19), 3), (22, .lload 4, 2), (24, .iload_n 2, 1), (25, .i2l, 1), (26, .bipush (48), 2), (28, .bipush (8), 2), (30, .iload_n 3, 1), (31, .imul, 1), (32, .isub, 1), (33, .lshl, 1), (34, .lor, 1), (35, .goto (5), 3), (38, .lload 4, 2), (40, .lreturn, 1)]
theorem dq_17_0 : sf_dok 17 md_17_0 := by
  unfold sf_dok
  decide +kernel
def md_17 : sf_D := md_17_0
theorem dq_17 : sf_dok 17 md_17 := dq_17_0
def md_18_0 : sf_D := [(0, .aload_n 0, 1), (1, .invokespecial 3, 3), (4, .aload_n 0, 1), (5, .ldc 11, 2), (7, .newarray .int, 2), (9, .putfield 12, 3), (12, .aload_n 0, 1), (13, .sipush (5200), 3), (16, .newarray .long, 2), (18, .putfield 16, 3), (21, .aload_n 0, 1), (22, .sipush (5200), 3), (25, .newarray .long, 2), (27, .putfield 20, 3), (30, .aload_n 0, 1), (31, .sipush (900), 3), (34, .newarray .int, 2), (36, .putfield 23, 3), (39, .aload_n 0, 1), (40, .sipush (900), 3), (43, .newarray .int, 2), (45, .putfield 26, 3), (48, .aload_n 0, 1), (49, .sipush (900), 3), (52, .newarray .int, 2), (54, .putfield 29, 3), (57, .aload_n 0, 1), (58, .sipush (900), 3), (61, .newarray .int, 2), (63, .putfield 32, 3), (66, .return_, 1)]
theorem dq_18_0 : sf_dok 18 md_18_0 := by
  unfold sf_dok
  decide +kernel
def md_18 : sf_D := md_18_0
theorem dq_18 : sf_dok 18 md_18 := dq_18_0
def md_19_0 : sf_D := [(0, .aload_n 0, 1), (1, .invokespecial 3, 3), (4, .aload_n 0, 1), (5, .aload_n 1, 1), (6, .putfield 9, 3), (9, .aload_n 0, 1), (10, .aload_n 2, 1), (11, .putfield 15, 3), (14, .return_, 1)]
theorem dq_19_0 : sf_dok 19 md_19_0 := by
  unfold sf_dok
  decide +kernel
def md_19 : sf_D := md_19_0
theorem dq_19 : sf_dok 19 md_19 := dq_19_0
def md_20_0 : sf_D := [(0, .aload_n 0, 1), (1, .invokespecial 1, 3), (4, .aload_n 0, 1), (5, .aload_n 1, 1), (6, .putfield 7, 3), (9, .aload_n 0, 1), (10, .sipush (300), 3), (13, .newarray .int, 2), (15, .putfield 13, 3), (18, .aload_n 0, 1), (19, .sipush (300), 3), (22, .newarray .int, 2), (24, .putfield 17, 3), (27, .aload_n 0, 1), (28, .sipush (300), 3), (31, .newarray .int, 2), (33, .putfield 20, 3), (36, .aload_n 0, 1), (37, .sipush (1600), 3), (40, .newarray .int, 2), (42, .putfield 23, 3), (45, .aload_n 0, 1), (46, .sipush (1600), 3), (49, .newarray .int, 2), (51, .putfield 26, 3), (54, .aload_n 0, 1), (55, .sipush (1600), 3), (58, .newarray .int, 2), (60, .putfield 29, 3), (63, .aload_n 0, 1), (64, .sipush (1600), 3), (67, .newarray .int, 2), (69, .putfield 32, 3), (72, .aload_n 0, 1), (73, .sipush (1600), 3), (76, .newarray .int, 2), (78, .putfield 35, 3), (81, .aload_n 0, 1), (82, .sipush (1600), 3), (85, .newarray .int, 2), (87, .putfield 38, 3), (90, .aload_n 0, 1), (91, .sipush (1600), 3), (94, .newarray .int, 2), (96, .putfield 41, 3), (99, .return_, 1)]
theorem dq_20_0 : sf_dok 20 md_20_0 := by
  unfold sf_dok
  decide +kernel
def md_20 : sf_D := md_20_0
theorem dq_20 : sf_dok 20 md_20 := dq_20_0
def md_21_0 : sf_D := [(0, .aload_n 0, 1), (1, .invokespecial 3, 3), (4, .aload_n 0, 1), (5, .aload_n 1, 1), (6, .putfield 9, 3), (9, .aload_n 0, 1), (10, .aload_n 2, 1), (11, .putfield 15, 3), (14, .aload_n 0, 1), (15, .aload_n 3, 1), (16, .putfield 19, 3), (19, .return_, 1)]
theorem dq_21_0 : sf_dok 21 md_21_0 := by
  unfold sf_dok
  decide +kernel
def md_21 : sf_D := md_21_0
theorem dq_21 : sf_dok 21 md_21 := dq_21_0
def md_22_0 : sf_D := [(0, .aload_n 0, 1), (1, .invokespecial 3, 3), (4, .aload_n 0, 1), (5, .aload_n 1, 1), (6, .putfield 9, 3), (9, .aload_n 0, 1), (10, .aload_n 2, 1), (11, .putfield 15, 3), (14, .aload_n 0, 1), (15, .aload_n 3, 1), (16, .putfield 19, 3), (19, .aload_n 0, 1), (20, .aload 4, 2), (22, .putfield 23, 3), (25, .aload_n 0, 1), (26, .sipush (440), 3), (29, .newarray .int, 2), (31, .putfield 27, 3), (34, .return_, 1)]
theorem dq_22_0 : sf_dok 22 md_22_0 := by
  unfold sf_dok
  decide +kernel
def md_22 : sf_D := md_22_0
theorem dq_22 : sf_dok 22 md_22 := dq_22_0
def md_23_0 : sf_D := [(0, .aload_n 0, 1), (1, .invokespecial 3, 3), (4, .aload_n 0, 1), (5, .aload_n 1, 1), (6, .putfield 9, 3), (9, .aload_n 0, 1), (10, .sipush (20480), 3), (13, .newarray .long, 2), (15, .putfield 15, 3), (18, .aload_n 0, 1), (19, .sipush (20480), 3), (22, .newarray .long, 2), (24, .putfield 19, 3), (27, .return_, 1)]
theorem dq_23_0 : sf_dok 23 md_23_0 := by
  unfold sf_dok
  decide +kernel
def md_23 : sf_D := md_23_0
theorem dq_23 : sf_dok 23 md_23 := dq_23_0
def md_24_0 : sf_D := [(0, .aload_n 0, 1), (1, .invokespecial 3, 3), (4, .aload_n 0, 1), (5, .aload_n 1, 1), (6, .putfield 9, 3), (9, .aload_n 0, 1), (10, .aload_n 2, 1), (11, .putfield 15, 3), (14, .aload_n 0, 1), (15, .aload_n 3, 1), (16, .putfield 19, 3), (19, .aload_n 0, 1), (20, .aload 4, 2), (22, .putfield 23, 3), (25, .aload_n 0, 1), (26, .sipush (4000), 3), (29, .newarray .byte, 2), (31, .putfield 27, 3), (34, .aload_n 0, 1), (35, .bipush (20), 2), (37, .newarray .byte, 2), (39, .putfield 31, 3), (42, .return_, 1)]
theorem dq_24_0 : sf_dok 24 md_24_0 := by
  unfold sf_dok
  decide +kernel
def md_24 : sf_D := md_24_0
theorem dq_24 : sf_dok 24 md_24 := dq_24_0
def md_25_0 : sf_D := [(0, .aload_n 0, 1), (1, .invokespecial 5, 3), (4, .aload_n 0, 1), (5, .aload_n 1, 1), (6, .putfield 11, 3), (9, .aload_n 0, 1), (10, .aload_n 2, 1), (11, .putfield 15, 3), (14, .aload_n 0, 1), (15, .aload_n 3, 1), (16, .putfield 19, 3), (19, .aload_n 0, 1), (20, .aload 4, 2), (22, .putfield 23, 3), (25, .aload_n 0, 1), (26, .aload 5, 2), (28, .putfield 27, 3), (31, .aload_n 0, 1), (32, .new 31, 3), (35, .dup, 1), (36, .aload_n 2, 1), (37, .aload 4, 2), (39, .aload_n 3, 1), (40, .invokespecial 33, 3), (43, .putfield 36, 3), (46, .aload_n 0, 1), (47, .bipush (30), 2), (49, .newarray .int, 2), (51, .putfield 40, 3), (54, .aload_n 0, 1), (55, .bipush (30), 2), (57, .newarray .int, 2), (59, .putfield 44, 3), (62, .aload_n 0, 1), (63, .bipush (30), 2), (65, .newarray .int, 2), (67, .putfield 47, 3), (70, .aload_n 0, 1), (71, .bipush (30), 2), (73, .newarray .int, 2), (75, .putfield 50, 3), (78, .aload_n 0, 1), (79, .bipush (30), 2), (81, .newarray .int, 2), (83, .putfield 53, 3), (86, .aload_n 0, 1), (87, .bipush (30), 2), (89, .newarray .int, 2), (91, .putfield 56, 3), (94, .aload_n 0, 1), (95, .sipush (1023), 3), (98, .newarray .int, 2), (100, .putfield 59, 3), (103, .return_, 1)]
theorem dq_25_0 : sf_dok 25 md_25_0 := by
  unfold sf_dok
  decide +kernel
def md_25 : sf_D := md_25_0
theorem dq_25 : sf_dok 25 md_25 := dq_25_0
def md_26_0 : sf_D := [(0, .aload_n 0, 1), (1, .invokespecial 3, 3), (4, .aload_n 0, 1), (5, .aload_n 1, 1), (6, .putfield 9, 3), (9, .aload_n 0, 1), (10, .aload_n 2, 1), (11, .putfield 15, 3), (14, .aload_n 0, 1), (15, .aload_n 3, 1), (16, .putfield 19, 3), (19, .return_, 1)]
theorem dq_26_0 : sf_dok 26 md_26_0 := by
  unfold sf_dok
  decide +kernel
def md_26 : sf_D := md_26_0
theorem dq_26 : sf_dok 26 md_26 := dq_26_0
def md_27_0 : sf_D := [(0, .aload_n 0, 1), (1, .getfield 81, 3), (4, .bipush (20), 2), (6, .iadd, 1), (7, .sipush (3000), 3), (10, .if_icmp .le (5), 3), (13, .iconst (-1), 1), (14, .ireturn, 1), (15, .aload_n 0, 1), (16, .iload_n 1, 1), (17, .invokevirtual 85, 3), (20, .aload_n 0, 1), (21, .iload_n 2, 1), (22, .invokevirtual 85, 3), (25, .aload_n 0, 1), (26, .iload_n 3, 1), (27, .invokevirtual 85, 3), (30, .aload_n 0, 1), (31, .iload 4, 2), (33, .invokevirtual 85, 3), (36, .aload_n 0, 1), (37, .iload 5, 2), (39, .invokevirtual 85, 3), (42, .aload_n 0, 1), (43, .getfield 81, 3), (46, .ireturn, 1)]
theorem dq_27_0 : sf_dok 27 md_27_0 := by
  unfold sf_dok
  decide +kernel
def md_27 : sf_D := md_27_0
theorem dq_27 : sf_dok 27 md_27 := dq_27_0
def md_28_0 : sf_D := [(0, .bipush (24), 2), (2, .istore_n 2, 1), (3, .iload_n 2, 1), (4, .ifCond .lt (42), 3), (7, .aload_n 0, 1), (8, .getfield 81, 3), (11, .sipush (3000), 3), (14, .if_icmp .ge (32), 3), (17, .aload_n 0, 1), (18, .getfield 9, 3), (21, .aload_n 0, 1), (22, .getfield 81, 3), (25, .iload_n 1, 1), (26, .iload_n 2, 1), (27, .iushr, 1), (28, .i2b, 1), (29, .bastore, 1), (30, .aload_n 0, 1), (31, .dup, 1), (32, .getfield 81, 3), (35, .iconst 1, 1), (36, .iadd, 1), (37, .putfield 81, 3), (40, .iinc 2 (-8), 3), (43, .goto (-40), 3), (46, .return_, 1)]
theorem dq_28_0 : sf_dok 28 md_28_0 := by
  unfold sf_dok
  decide +kernel
def md_28 : sf_D := md_28_0
theorem dq_28 : sf_dok 28 md_28 := dq_28_0
def md_29_0 : sf_D := [(0, .iload_n 1, 1), (1, .ifCond .lt (11), 3), (4, .iload_n 1, 1), (5, .aload_n 0, 1), (6, .getfield 81, 3), (9, .if_icmp .le (5), 3), (12, .iconst (-1), 1), (13, .ireturn, 1), (14, .aload_n 0, 1), (15, .iload_n 1, 1), (16, .putfield 81, 3), (19, .iload_n 1, 1), (20, .ireturn, 1)]
theorem dq_29_0 : sf_dok 29 md_29_0 := by
  unfold sf_dok
  decide +kernel
def md_29 : sf_D := md_29_0
theorem dq_29 : sf_dok 29 md_29 := dq_29_0
def md_30_0 : sf_D := [(0, .iload_n 1, 1), (1, .iconst 1, 1), (2, .if_icmp .lt (10), 3), (5, .iload_n 1, 1), (6, .sipush (20000), 3), (9, .if_icmp .le (6), 3), (12, .bipush (-2), 2), (14, .ireturn, 1), (15, .aload_n 0, 1), (16, .getfield 68, 3), (19, .invokevirtual 89, 3), (22, .aload_n 0, 1), (23, .getfield 77, 3), (26, .invokevirtual 92, 3), (29, .aload_n 0, 1), (30, .getfield 56, 3), (33, .aload_n 0, 1), (34, .getfield 81, 3), (37, .invokevirtual 95, 3), (40, .istore_n 2, 1), (41, .aload_n 0, 1), (42, .iconst 0, 1), (43, .putfield 81, 3), (46, .aload_n 0, 1), (47, .getfield 56, 3), (50, .iconst 0, 1), (51, .iconst 0, 1), (52, .invokevirtual 99, 3), (55, .aload_n 0, 1), (56, .getfield 56, 3), (59, .iload_n 2, 1), (60, .invokevirtual 103, 3), (63, .ifCond .ne (16), 3), (66, .aload_n 0, 1), (67, .aload_n 0, 1), (68, .getfield 37, 3), (71, .getfield 107, 3), (74, .putfield 110, 3), (77, .iconst (-1), 1), (78, .ireturn, 1), (79, .aload_n 0, 1), (80, .getfield 77, 3), (83, .iload_n 2, 1), (84, .iload_n 1, 1), (85, .invokevirtual 113, 3), (88, .istore_n 3, 1), (89, .aload_n 0, 1), (90, .iload_n 3, 1), (91, .ifCond .ne (7), 3), (94, .iconst 0, 1), (95, .goto (10), 3), (98, .aload_n 0, 1), (99, .getfield 77, 3), (102, .invokevirtual 117, 3), (105, .putfield 110, 3), (108, .iload_n 3, 1), (109, .ireturn, 1)]
theorem dq_30_0 : sf_dok 30 md_30_0 := by
  unfold sf_dok
  decide +kernel
def md_30 : sf_D := md_30_0
theorem dq_30 : sf_dok 30 md_30 := dq_30_0
def md_31_0 : sf_D := [(0, .aload_n 0, 1), (1, .iconst 0, 1), (2, .putfield 34, 3), (5, .return_, 1)]
theorem dq_31_0 : sf_dok 31 md_31_0 := by
  unfold sf_dok
  decide +kernel
def md_31 : sf_D := md_31_0
theorem dq_31 : sf_dok 31 md_31 := dq_31_0
def md_32_0 : sf_D := [(0, .aload_n 0, 1), (1, .iconst 0, 1), (2, .putfield 62, 3), (5, .return_, 1)]
theorem dq_32_0 : sf_dok 32 md_32_0 := by
  unfold sf_dok
  decide +kernel
def md_32 : sf_D := md_32_0
theorem dq_32 : sf_dok 32 md_32 := dq_32_0
def md_33_0 : sf_D := [(0, .aload_n 0, 1), (1, .getfield 15, 3), (4, .iconst 0, 1), (5, .putfield 31, 3), (8, .aload_n 0, 1), (9, .getfield 19, 3), (12, .invokevirtual 37, 3), (15, .aload_n 0, 1), (16, .iconst 0, 1), (17, .putfield 42, 3), (20, .aload_n 0, 1), (21, .iconst 0, 1), (22, .putfield 46, 3), (25, .aload_n 0, 1), (26, .iconst (-1), 1), (27, .putfield 49, 3), (30, .aload_n 0, 1), (31, .aload_n 0, 1), (32, .getfield 15, 3), (35, .getfield 52, 3), (38, .putfield 55, 3), (41, .aload_n 0, 1), (42, .aload_n 0, 1), (43, .getfield 15, 3), (46, .getfield 58, 3), (49, .putfield 61, 3), (52, .aload_n 0, 1), (53, .getfield 9, 3), (56, .iload_n 1, 1), (57, .invokevirtual 64, 3), (60, .aload_n 0, 1), (61, .getfield 15, 3), (64, .getfield 69, 3), (67, .ireturn, 1)]
theorem dq_33_0 : sf_dok 33 md_33_0 := by
  unfold sf_dok
  decide +kernel
def md_33 : sf_D := md_33_0
theorem dq_33 : sf_dok 33 md_33 := dq_33_0
def md_34_0 : sf_D := [(0, .aload_n 0, 1), (1, .iconst 0, 1), (2, .putfield 44, 3), (5, .aload_n 0, 1), (6, .iconst 1, 1), (7, .putfield 48, 3), (10, .aload_n 0, 1), (11, .iconst 0, 1), (12, .putfield 51, 3), (15, .aload_n 0, 1), (16, .iconst 0, 1), (17, .putfield 54, 3), (20, .return_, 1)]
theorem dq_34_0 : sf_dok 34 md_34_0 := by
  unfold sf_dok
  decide +kernel
def md_34 : sf_D := md_34_0
theorem dq_34 : sf_dok 34 md_34 := dq_34_0
def md_35_0 : sf_D := [(0, .aload_n 0, 1), (1, .iload_n 1, 1), (2, .putfield 19, 3), (5, .aload_n 0, 1), (6, .iconst 0, 1), (7, .putfield 23, 3), (10, .aload_n 0, 1), (11, .iconst 0, 1), (12, .putfield 26, 3), (15, .aload_n 0, 1), (16, .iconst 0, 1), (17, .putfield 29, 3), (20, .aload_n 0, 1), (21, .iconst 1, 1), (22, .putfield 32, 3), (25, .aload_n 0, 1), (26, .invokevirtual 35, 3), (29, .aload_n 0, 1), (30, .getfield 38, 3), (33, .iconst 2, 1), (34, .if_icmp .ne (7), 3), (37, .aload_n 0, 1), (38, .invokevirtual 41, 3), (41, .return_, 1)]
theorem dq_35_0 : sf_dok 35 md_35_0 := by
  unfold sf_dok
  decide +kernel
def md_35 : sf_D := md_35_0
theorem dq_35 : sf_dok 35 md_35 := dq_35_0
def md_36_0 : sf_D := [(0, .iconst 0, 1), (1, .istore_n 1, 1), (2, .iload_n 1, 1), (3, .aload_n 0, 1), (4, .getfield 19, 3), (7, .if_icmp .gt (86), 3), (10, .aload_n 0, 1), (11, .getfield 23, 3), (14, .istore_n 2, 1), (15, .aload_n 0, 1), (16, .invokevirtual 54, 3), (19, .aload_n 0, 1), (20, .getfield 23, 3), (23, .aload_n 0, 1), (24, .getfield 19, 3), (27, .if_icmp .lt (6), 3), (30, .goto (63), 3), (33, .aload_n 0, 1), (34, .aload_n 0, 1), (35, .getfield 23, 3), (38, .invokevirtual 50, 3), (41, .bipush (10), 2), (43, .if_icmp .eq (40), 3), (46, .aload_n 0, 1), (47, .aload_n 0, 1), (48, .getfield 23, 3), (51, .invokevirtual 50, 3), (54, .bipush (35), 2), (56, .if_icmp .eq (27), 3), (59, .aload_n 0, 1), (60, .aload_n 0, 1), (61, .getfield 32, 3), (64, .putfield 29, 3), (67, .aload_n 0, 1), (68, .aload_n 0, 1), (69, .getfield 23, 3), (72, .iload_n 2, 1), (73, .isub, 1), (74, .putfield 57, 3), (77, .aload_n 0, 1), (78, .iconst 2, 1), (79, .putfield 38, 3), (82, .return_, 1), (83, .aload_n 0, 1), (84, .invokevirtual 47, 3), (87, .iinc 1 (1), 3), (90, .goto (-88), 3), (93, .aload_n 0, 1), (94, .iconst 1, 1), (95, .putfield 38, 3), (98, .aload_n 0, 1), (99, .iconst (-1), 1), (100, .putfield 57, 3), (103, .return_, 1)]
theorem dq_36_0 : sf_dok 36 md_36_0 := by
  unfold sf_dok
  decide +kernel
def md_36 : sf_D := md_36_0
theorem dq_36 : sf_dok 36 md_36 := dq_36_0
def md_37_0 : sf_D := [(0, .aload_n 0, 1), (1, .getfield 23, 3), (4, .aload_n 0, 1), (5, .getfield 19, 3), (8, .if_icmp .ge (29), 3), (11, .aload_n 0, 1), (12, .aload_n 0, 1), (13, .getfield 23, 3), (16, .invokevirtual 50, 3), (19, .bipush (32), 2), (21, .if_icmp .ne (16), 3), (24, .aload_n 0, 1), (25, .dup, 1), (26, .getfield 23, 3), (29, .iconst 1, 1), (30, .iadd, 1), (31, .putfield 23, 3), (34, .goto (-34), 3), (37, .return_, 1)]
theorem dq_37_0 : sf_dok 37 md_37_0 := by
  unfold sf_dok
  decide +kernel
def md_37 : sf_D := md_37_0
theorem dq_37 : sf_dok 37 md_37 := dq_37_0
def md_38_0 : sf_D := [(0, .iload_n 1, 1), (1, .ifCond .lt (33), 3), (4, .iload_n 1, 1), (5, .aload_n 0, 1), (6, .getfield 19, 3), (9, .if_icmp .ge (25), 3), (12, .iload_n 1, 1), (13, .aload_n 0, 1), (14, .getfield 9, 3), (17, .arraylength, 1), (18, .if_icmp .ge (16), 3), (21, .aload_n 0, 1), (22, .getfield 9, 3), (25, .iload_n 1, 1), (26, .baload, 1), (27, .sipush (255), 3), (30, .iand, 1), (31, .goto (4), 3), (34, .iconst (-1), 1), (35, .ireturn, 1)]
theorem dq_38_0 : sf_dok 38 md_38_0 := by
  unfold sf_dok
  decide +kernel
def md_38 : sf_D := md_38_0
theorem dq_38 : sf_dok 38 md_38 := dq_38_0
def md_39_0 : sf_D := [(0, .aload_n 0, 1), (1, .getfield 23, 3), (4, .aload_n 0, 1), (5, .getfield 19, 3), (8, .if_icmp .ge (29), 3), (11, .aload_n 0, 1), (12, .aload_n 0, 1), (13, .getfield 23, 3), (16, .invokevirtual 50, 3), (19, .bipush (10), 2), (21, .if_icmp .eq (16), 3), (24, .aload_n 0, 1), (25, .dup, 1), (26, .getfield 23, 3), (29, .iconst 1, 1), (30, .iadd, 1), (31, .putfield 23, 3), (34, .goto (-34), 3), (37, .aload_n 0, 1), (38, .getfield 23, 3), (41, .aload_n 0, 1), (42, .getfield 19, 3), (45, .if_icmp .ge (23), 3), (48, .aload_n 0, 1), (49, .dup, 1), (50, .getfield 23, 3), (53, .iconst 1, 1), (54, .iadd, 1), (55, .putfield 23, 3), (58, .aload_n 0, 1), (59, .dup, 1), (60, .getfield 32, 3), (63, .iconst 1, 1), (64, .iadd, 1), (65, .putfield 32, 3), (68, .return_, 1)]
theorem dq_39_0 : sf_dok 39 md_39_0 := by
  unfold sf_dok
  decide +kernel
def md_39 : sf_D := md_39_0
theorem dq_39 : sf_dok 39 md_39 := dq_39_0
def md_40_0 : sf_D := [(0, .aload_n 0, 1), (1, .getfield 38, 3), (4, .ifCond .ne (4), 3), (7, .return_, 1), (8, .aload_n 0, 1), (9, .invokevirtual 54, 3), (12, .aload_n 0, 1), (13, .aload_n 0, 1), (14, .getfield 23, 3), (17, .putfield 60, 3), (20, .aload_n 0, 1), (21, .aload_n 0, 1), (22, .getfield 23, 3), (25, .invokevirtual 50, 3), (28, .istore_n 1, 1), (29, .iload_n 1, 1), (30, .iconst (-1), 1), (31, .if_icmp .eq (15), 3), (34, .iload_n 1, 1), (35, .bipush (10), 2), (37, .if_icmp .eq (9), 3), (40, .iload_n 1, 1), (41, .bipush (35), 2), (43, .if_icmp .ne (11), 3), (46, .aload_n 0, 1), (47, .iconst 2, 1), (48, .putfield 38, 3), (51, .goto (49), 3), (54, .iload_n 1, 1), (55, .invokestatic 63, 3), (58, .ifCond .eq (10), 3), (61, .aload_n 0, 1), (62, .invokevirtual 67, 3), (65, .goto (35), 3), (68, .iload_n 1, 1), (69, .invokestatic 70, 3), (72, .ifCond .eq (10), 3), (75, .aload_n 0, 1), (76, .invokevirtual 73, 3), (79, .goto (21), 3), (82, .iload_n 1, 1), (83, .bipush (39), 2), (85, .if_icmp .ne (10), 3), (88, .aload_n 0, 1), (89, .invokevirtual 76, 3), (92, .goto (8), 3), (95, .aload_n 0, 1), (96, .iload_n 1, 1), (97, .invokevirtual 79, 3), (100, .return_, 1)]
theorem dq_40_0 : sf_dok 40 md_40_0 := by
  unfold sf_dok
  decide +kernel
def md_40 : sf_D := md_40_0
theorem dq_40 : sf_dok 40 md_40 := dq_40_0
def md_41_0 : sf_D := [(0, .iload_n 0, 1), (1, .bipush (97), 2), (3, .if_icmp .lt (9), 3), (6, .iload_n 0, 1), (7, .bipush (122), 2), (9, .if_icmp .le (21), 3), (12, .iload_n 0, 1), (13, .bipush (65), 2), (15, .if_icmp .lt (9), 3), (18, .iload_n 0, 1), (19, .bipush (90), 2), (21, .if_icmp .le (9), 3), (24, .iload_n 0, 1), (25, .bipush (95), 2), (27, .if_icmp .ne (7), 3), (30, .iconst 1, 1), (31, .goto (4), 3), (34, .iconst 0, 1), (35, .ireturn, 1)]
theorem dq_41_0 : sf_dok 41 md_41_0 := by
  unfold sf_dok
  decide +kernel
def md_41 : sf_D := md_41_0
theorem dq_41 : sf_dok 41 md_41 := dq_41_0
def md_42_0 : sf_D := [(0, .ldc2_w 83, 3), (3, .lstore_n 1, 1), (4, .lconst 0, 1), (5, .lstore_n 3, 1), (6, .aload_n 0, 1), (7, .aload_n 0, 1), (8, .getfield 23, 3), (11, .invokevirtual 50, 3), (14, .istore 5, 2), (16, .aload_n 0, 1), (17, .getfield 23, 3), (20, .aload_n 0, 1), (21, .getfield 19, 3), (24, .if_icmp .ge (76), 3), (27, .iload 5, 2), (29, .invokestatic 63, 3), (32, .ifCond .ne (11), 3), (35, .iload 5, 2), (37, .invokestatic 70, 3), (40, .ifCond .eq (60), 3), (43, .aload_n 0, 1), (44, .getfield 23, 3), (47, .aload_n 0, 1), (48, .getfield 60, 3), (51, .isub, 1), (52, .bipush (12), 2), (54, .if_icmp .lt (8), 3), (57, .aload_n 0, 1), (58, .invokevirtual 44, 3), (61, .return_, 1), (62, .lload_n 1, 1), (63, .lload_n 3, 1), (64, .iload 5, 2), (66, .invokestatic 85, 3), (69, .lstore_n 3, 1), (70, .lload_n 1, 1), (71, .iload 5, 2), (73, .invokestatic 89, 3), (76, .lstore_n 1, 1), (77, .aload_n 0, 1), (78, .dup, 1), (79, .getfield 23, 3), (82, .iconst 1, 1), (83, .iadd, 1), (84, .putfield 23, 3), (87, .aload_n 0, 1), (88, .aload_n 0, 1), (89, .getfield 23, 3), (92, .invokevirtual 50, 3), (95, .istore 5, 2), (97, .goto (-81), 3), (100, .aload_n 0, 1), (101, .aload_n 0, 1), (102, .getfield 15, 3), (105, .lload_n 1, 1), (106, .lload_n 3, 1), (107, .invokevirtual 93, 3), (110, .putfield 99, 3), (113, .aload_n 0, 1), (114, .aload_n 0, 1), (115, .getfield 99, 3), (118, .ifCond .lt (22), 3), (121, .aload_n 0, 1), (122, .getfield 99, 3), (125, .bipush (24), 2), (127, .if_icmp .ge (13), 3), (130, .bipush (40), 2), (132, .aload_n 0, 1), (133, .getfield 99, 3), (136, .iadd, 1), (137, .goto (4), 3), (140, .iconst 3, 1), (141, .putfield 38, 3), (144, .aload_n 0, 1), (145, .getfield 99, 3), (148, .ifCond .ge (7), 3), (151, .aload_n 0, 1), (152, .invokevirtual 44, 3), (155, .return_, 1)]
theorem dq_42_0 : sf_dok 42 md_42_0 := by
  unfold sf_dok
  decide +kernel
def md_42 : sf_D := md_42_0
theorem dq_42 : sf_dok 42 md_42 := dq_42_0
def md_43_0 : sf_D := [(0, .iload_n 0, 1), (1, .bipush (48), 2), (3, .if_icmp .lt (13), 3), (6, .iload_n 0, 1), (7, .bipush (57), 2), (9, .if_icmp .gt (7), 3), (12, .iconst 1, 1), (13, .goto (4), 3), (16, .iconst 0, 1), (17, .ireturn, 1)]
theorem dq_43_0 : sf_dok 43 md_43_0 := by
  unfold sf_dok
  decide +kernel
def md_43 : sf_D := md_43_0
theorem dq_43 : sf_dok 43 md_43 := dq_43_0
def md_44_0 : sf_D := [(0, .aload_n 0, 1), (1, .getfield 26, 3), (4, .ifCond .ne (11), 3), (7, .aload_n 0, 1), (8, .aload_n 0, 1), (9, .getfield 29, 3), (12, .putfield 26, 3), (15, .aload_n 0, 1), (16, .iconst 0, 1), (17, .putfield 38, 3), (20, .return_, 1)]
theorem dq_44_0 : sf_dok 44 md_44_0 := by
  unfold sf_dok
  decide +kernel
def md_44 : sf_D := md_44_0
theorem dq_44 : sf_dok 44 md_44 := dq_44_0
def md_45_0 : sf_D := [(0, .aload_n 0, 1), (1, .lconst 0, 1), (2, .putfield 102, 3), (5, .aload_n 0, 1), (6, .aload_n 0, 1), (7, .getfield 23, 3), (10, .invokevirtual 50, 3), (13, .istore_n 1, 1), (14, .aload_n 0, 1), (15, .getfield 23, 3), (18, .aload_n 0, 1), (19, .getfield 19, 3), (22, .if_icmp .ge (76), 3), (25, .iload_n 1, 1), (26, .invokestatic 70, 3), (29, .ifCond .eq (69), 3), (32, .aload_n 0, 1), (33, .getfield 102, 3), (36, .ldc2_w 106, 3), (39, .iload_n 1, 1), (40, .bipush (48), 2), (42, .isub, 1), (43, .i2l, 1), (44, .lsub, 1), (45, .ldc2_w 108, 3), (48, .ldiv, 1), (49, .lcmp, 1), (50, .ifCond .le (8), 3), (53, .aload_n 0, 1), (54, .invokevirtual 44, 3), (57, .return_, 1), (58, .aload_n 0, 1), (59, .aload_n 0, 1), (60, .getfield 102, 3), (63, .ldc2_w 108, 3), (66, .lmul, 1), (67, .iload_n 1, 1), (68, .bipush (48), 2), (70, .isub, 1), (71, .i2l, 1), (72, .ladd, 1), (73, .putfield 102, 3), (76, .aload_n 0, 1), (77, .dup, 1), (78, .getfield 23, 3), (81, .iconst 1, 1), (82, .iadd, 1), (83, .putfield 23, 3), (86, .aload_n 0, 1), (87, .aload_n 0, 1), (88, .getfield 23, 3), (91, .invokevirtual 50, 3), (94, .istore_n 1, 1), (95, .goto (-81), 3), (98, .aload_n 0, 1), (99, .iconst 4, 1), (100, .putfield 38, 3), (103, .return_, 1)]
theorem dq_45_0 : sf_dok 45 md_45_0 := by
  unfold sf_dok
  decide +kernel
def md_45 : sf_D := md_45_0
theorem dq_45 : sf_dok 45 md_45 := dq_45_0
def md_46_0 : sf_D := [(0, .aload_n 0, 1), (1, .ldc2_w 83, 3), (4, .putfield 110, 3), (7, .aload_n 0, 1), (8, .lconst 0, 1), (9, .putfield 113, 3), (12, .aload_n 0, 1), (13, .dup, 1), (14, .getfield 23, 3), (17, .iconst 1, 1), (18, .iadd, 1), (19, .putfield 23, 3), (22, .aload_n 0, 1), (23, .aload_n 0, 1), (24, .getfield 23, 3), (27, .invokevirtual 50, 3), (30, .istore_n 1, 1), (31, .aload_n 0, 1), (32, .getfield 23, 3), (35, .aload_n 0, 1), (36, .getfield 19, 3), (39, .if_icmp .ge (88), 3), (42, .iload_n 1, 1), (43, .bipush (39), 2), (45, .if_icmp .eq (82), 3), (48, .iload_n 1, 1), (49, .bipush (32), 2), (51, .if_icmp .lt (21), 3), (54, .iload_n 1, 1), (55, .bipush (126), 2), (57, .if_icmp .gt (15), 3), (60, .aload_n 0, 1), (61, .getfield 110, 3), (64, .invokestatic 116, 3), (67, .bipush (15), 2), (69, .if_icmp .lt (8), 3), (72, .aload_n 0, 1), (73, .invokevirtual 44, 3), (76, .return_, 1), (77, .aload_n 0, 1), (78, .aload_n 0, 1), (79, .getfield 110, 3), (82, .aload_n 0, 1), (83, .getfield 113, 3), (86, .iload_n 1, 1), (87, .invokestatic 85, 3), (90, .putfield 113, 3), (93, .aload_n 0, 1), (94, .aload_n 0, 1), (95, .getfield 110, 3), (98, .iload_n 1, 1), (99, .invokestatic 89, 3), (102, .putfield 110, 3), (105, .aload_n 0, 1), (106, .dup, 1), (107, .getfield 23, 3), (110, .iconst 1, 1), (111, .iadd, 1), (112, .putfield 23, 3), (115, .aload_n 0, 1), (116, .aload_n 0, 1), (117, .getfield 23, 3), (120, .invokevirtual 50, 3), (123, .istore_n 1, 1), (124, .goto (-93), 3), (127, .aload_n 0, 1), (128, .getfield 23, 3), (131, .aload_n 0, 1), (132, .getfield 19, 3), (135, .if_icmp .lt (8), 3), (138, .aload_n 0, 1), (139, .invokevirtual 44, 3), (142, .return_, 1), (143, .aload_n 0, 1), (144, .dup, 1), (145, .getfield 23, 3), (148, .iconst 1, 1), (149, .iadd, 1), (150, .putfield 23, 3), (153, .aload_n 0, 1), (154, .iconst 5, 1), (155, .putfield 38, 3), (158, .return_, 1)]
theorem dq_46_0 : sf_dok 46 md_46_0 := by
  unfold sf_dok
  decide +kernel
def md_46 : sf_D := md_46_0
theorem dq_46 : sf_dok 46 md_46 := dq_46_0
def md_47_0 : sf_D := [(0, .lload_n 0, 1), (1, .bipush (56), 2), (3, .lushr, 1), (4, .l2i, 1), (5, .bipush (15), 2), (7, .iand, 1), (8, .ireturn, 1)]
theorem dq_47_0 : sf_dok 47 md_47_0 := by
  unfold sf_dok
  decide +kernel
def md_47 : sf_D := md_47_0
theorem dq_47 : sf_dok 47 md_47 := dq_47_0
def md_48_0 : sf_D := [(0, .aload_n 0, 1), (1, .aload_n 0, 1), (2, .getfield 23, 3), (5, .iconst 1, 1), (6, .iadd, 1), (7, .invokevirtual 50, 3), (10, .bipush (61), 2), (12, .if_icmp .ne (10), 3), (15, .iload_n 1, 1), (16, .invokestatic 120, 3), (19, .goto (4), 3), (22, .iconst 0, 1), (23, .istore_n 2, 1), (24, .iload_n 1, 1), (25, .bipush (47), 2), (27, .if_icmp .ne (21), 3), (30, .aload_n 0, 1), (31, .aload_n 0, 1), (32, .getfield 23, 3), (35, .iconst 1, 1), (36, .iadd, 1), (37, .invokevirtual 50, 3), (40, .bipush (47), 2), (42, .if_icmp .ne (6), 3), (45, .bipush (22), 2), (47, .istore_n 2, 1), (48, .iload_n 2, 1), (49, .ifCond .ne (8), 3), (52, .iload_n 1, 1), (53, .invokestatic 123, 3), (56, .istore_n 2, 1), (57, .iload_n 2, 1), (58, .ifCond .ne (8), 3), (61, .aload_n 0, 1), (62, .invokevirtual 44, 3), (65, .return_, 1), (66, .aload_n 0, 1), (67, .dup, 1), (68, .getfield 23, 3), (71, .iload_n 2, 1), (72, .bipush (22), 2), (74, .if_icmp .lt (7), 3), (77, .iconst 2, 1), (78, .goto (4), 3), (81, .iconst 1, 1), (82, .iadd, 1), (83, .putfield 23, 3), (86, .aload_n 0, 1), (87, .iload_n 2, 1), (88, .putfield 38, 3), (91, .return_, 1)]
theorem dq_48_0 : sf_dok 48 md_48_0 := by
  unfold sf_dok
  decide +kernel
def md_48 : sf_D := md_48_0
theorem dq_48 : sf_dok 48 md_48 := dq_48_0
def md_49_0 : sf_D := [(0, .iload_n 0, 1), (1, .lookupswitch (88) #[(33, 79), (42, 73), (43, 67), (45, 70), (60, 82), (61, 76), (62, 85)], 67), (68, .bipush (23), 2), (70, .ireturn, 1), (71, .bipush (24), 2), (73, .ireturn, 1), (74, .bipush (25), 2), (76, .ireturn, 1), (77, .bipush (26), 2), (79, .ireturn, 1), (80, .bipush (27), 2), (82, .ireturn, 1), (83, .bipush (28), 2), (85, .ireturn, 1), (86, .bipush (29), 2), (88, .ireturn, 1), (89, .iconst 0, 1), (90, .ireturn, 1)]
theorem dq_49_0 : sf_dok 49 md_49_0 := by
  unfold sf_dok
  decide +kernel
def md_49 : sf_D := md_49_0
theorem dq_49 : sf_dok 49 md_49 := dq_49_0
def md_50_0 : sf_D := [(0, .iload_n 0, 1), (1, .lookupswitch (187) #[(37, 175), (40, 139), (41, 142), (42, 172), (43, 166), (44, 157), (45, 169), (46, 163), (58, 160), (60, 181), (61, 178), (62, 184), (91, 145), (93, 148), (123, 151), (125, 154)], 139), (140, .bipush (6), 2), (142, .ireturn, 1), (143, .bipush (7), 2), (145, .ireturn, 1), (146, .bipush (8), 2), (148, .ireturn, 1), (149, .bipush (9), 2), (151, .ireturn, 1), (152, .bipush (10), 2), (154, .ireturn, 1), (155, .bipush (11), 2), (157, .ireturn, 1), (158, .bipush (12), 2), (160, .ireturn, 1), (161, .bipush (13), 2), (163, .ireturn, 1), (164, .bipush (14), 2), (166, .ireturn, 1), (167, .bipush (15), 2), (169, .ireturn, 1), (170, .bipush (16), 2), (172, .ireturn, 1), (173, .bipush (17), 2), (175, .ireturn, 1), (176, .bipush (18), 2), (178, .ireturn, 1), (179, .bipush (19), 2), (181, .ireturn, 1), (182, .bipush (20), 2), (184, .ireturn, 1), (185, .bipush (21), 2), (187, .ireturn, 1), (188, .iconst 0, 1), (189, .ireturn, 1)]
theorem dq_50_0 : sf_dok 50 md_50_0 := by
  unfold sf_dok
  decide +kernel
def md_50 : sf_D := md_50_0
theorem dq_50 : sf_dok 50 md_50 := dq_50_0
def md_51_0 : sf_D := [(0, .iconst 0, 1), (1, .istore_n 3, 1), (2, .iload_n 3, 1), (3, .sipush (3000), 3), (6, .if_icmp .gt (22), 3), (9, .aload_n 0, 1), (10, .iload_n 1, 1), (11, .invokevirtual 89, 3), (14, .ifCond .eq (14), 3), (17, .aload_n 0, 1), (18, .iload_n 2, 1), (19, .invokevirtual 93, 3), (22, .iinc 3 (1), 3), (25, .goto (-23), 3), (28, .aload_n 0, 1), (29, .getfield 9, 3), (32, .getfield 96, 3), (35, .iload_n 1, 1), (36, .if_icmp .le (10), 3), (39, .aload_n 0, 1), (40, .getfield 9, 3), (43, .invokevirtual 76, 3), (46, .return_, 1)]
theorem dq_51_0 : sf_dok 51 md_51_0 := by
  unfold sf_dok
  decide +kernel
def md_51 : sf_D := md_51_0
theorem dq_51 : sf_dok 51 md_51 := dq_51_0
def md_52_0 : sf_D := [(0, .aload_n 0, 1), (1, .getfield 9, 3), (4, .getfield 79, 3), (7, .ifCond .eq (29), 3), (10, .aload_n 0, 1), (11, .getfield 9, 3), (14, .getfield 79, 3), (17, .iconst 1, 1), (18, .if_icmp .eq (18), 3), (21, .aload_n 0, 1), (22, .getfield 9, 3), (25, .getfield 96, 3), (28, .iload_n 1, 1), (29, .if_icmp .ne (7), 3), (32, .iconst 1, 1), (33, .goto (4), 3), (36, .iconst 0, 1), (37, .ireturn, 1)]
theorem dq_52_0 : sf_dok 52 md_52_0 := by
  unfold sf_dok
  decide +kernel
def md_52 : sf_D := md_52_0
theorem dq_52 : sf_dok 52 md_52 := dq_52_0
def md_53_0 : sf_D := [(0, .aload_n 0, 1), (1, .getfield 15, 3), (4, .iconst 1, 1), (5, .aload_n 0, 1), (6, .getfield 9, 3), (9, .getfield 113, 3), (12, .invokevirtual 116, 3), (15, .pop, 1), (16, .aload_n 0, 1), (17, .getfield 9, 3), (20, .getfield 79, 3), (23, .tableswitch (177) 40 56 #[81, 177, 177, 87, 93, 177, 99, 109, 128, 154, 162, 142, 121, 170, 115, 177, 135], 81), (104, .aload_n 0, 1), (105, .iload_n 1, 1), (106, .invokevirtual 119, 3), (109, .return_, 1), (110, .aload_n 0, 1), (111, .iload_n 1, 1), (112, .invokevirtual 122, 3), (115, .return_, 1), (116, .aload_n 0, 1), (117, .iload_n 1, 1), (118, .invokevirtual 125, 3), (121, .return_, 1), (122, .aload_n 0, 1), (123, .aload_n 0, 1), (124, .iload_n 1, 1), (125, .invokevirtual 128, 3), (128, .invokevirtual 131, 3), (131, .return_, 1), (132, .aload_n 0, 1), (133, .iload_n 1, 1), (134, .invokevirtual 134, 3), (137, .return_, 1), (138, .aload_n 0, 1), (139, .iload_n 1, 1), (140, .invokevirtual 137, 3), (143, .return_, 1), (144, .aload_n 0, 1), (145, .invokevirtual 140, 3), (148, .goto (56), 3), (151, .aload_n 0, 1), (152, .invokevirtual 143, 3), (155, .goto (49), 3), (158, .aload_n 0, 1), (159, .invokevirtual 146, 3), (162, .goto (42), 3), (165, .aload_n 0, 1), (166, .getfield 9, 3), (169, .bipush (51), 2), (171, .invokevirtual 107, 3), (174, .goto (30), 3), (177, .aload_n 0, 1), (178, .iconst 1, 1), (179, .invokevirtual 149, 3), (182, .goto (22), 3), (185, .aload_n 0, 1), (186, .iconst 0, 1), (187, .invokevirtual 149, 3), (190, .goto (14), 3), (193, .aload_n 0, 1), (194, .invokevirtual 153, 3), (197, .goto (7), 3), (200, .aload_n 0, 1), (201, .invokevirtual 156, 3), (204, .aload_n 0, 1), (205, .getfield 9, 3), (208, .invokevirtual 110, 3), (211, .return_, 1)]
theorem dq_53_0 : sf_dok 53 md_53_0 := by
  unfold sf_dok
  decide +kernel
def md_53 : sf_D := md_53_0
theorem dq_53 : sf_dok 53 md_53 := dq_53_0
def md_54_0 : sf_D := [(0, .aload_n 0, 1), (1, .iconst 2, 1), (2, .invokevirtual 39, 3), (5, .ifCond .ne (6), 3), (8, .ldc 11, 2), (10, .ireturn, 1), (11, .aload_n 0, 1), (12, .getfield 12, 3), (15, .aload_n 0, 1), (16, .getfield 35, 3), (19, .iload_n 1, 1), (20, .iastore, 1), (21, .aload_n 0, 1), (22, .getfield 12, 3), (25, .aload_n 0, 1), (26, .getfield 35, 3), (29, .iconst 1, 1), (30, .iadd, 1), (31, .iload_n 2, 1), (32, .iastore, 1), (33, .aload_n 0, 1), (34, .dup, 1), (35, .getfield 35, 3), (38, .iconst 2, 1), (39, .iadd, 1), (40, .putfield 35, 3), (43, .aload_n 0, 1), (44, .getfield 35, 3), (47, .iconst 2, 1), (48, .isub, 1), (49, .ireturn, 1)]
theorem dq_54_0 : sf_dok 54 md_54_0 := by
  unfold sf_dok
  decide +kernel
def md_54 : sf_D := md_54_0
theorem dq_54 : sf_dok 54 md_54 := dq_54_0
def md_55_0 : sf_D := [(0, .aload_n 0, 1), (1, .getfield 35, 3), (4, .ifCond .lt (18), 3), (7, .aload_n 0, 1), (8, .getfield 35, 3), (11, .iload_n 1, 1), (12, .iadd, 1), (13, .ldc 11, 2), (15, .if_icmp .gt (7), 3), (18, .iconst 1, 1), (19, .goto (4), 3), (22, .iconst 0, 1), (23, .istore_n 2, 1), (24, .iload_n 2, 1), (25, .ifCond .ne (8), 3), (28, .aload_n 0, 1), (29, .iconst 1, 1), (30, .putfield 43, 3), (33, .iload_n 2, 1), (34, .ireturn, 1)]
theorem dq_55_0 : sf_dok 55 md_55_0 := by
  unfold sf_dok
  decide +kernel
def md_55 : sf_D := md_55_0
theorem dq_55 : sf_dok 55 md_55 := dq_55_0
def md_56_0 : sf_D := [(0, .aload_n 0, 1), (1, .getfield 9, 3), (4, .getfield 96, 3), (7, .istore_n 2, 1), (8, .iconst (-1), 1), (9, .istore_n 3, 1), (10, .iconst 1, 1), (11, .istore 4, 2), (13, .iconst 0, 1), (14, .istore 5, 2), (16, .iload 4, 2), (18, .ifCond .eq (106), 3), (21, .iload 5, 2), (23, .sipush (3000), 3), (26, .if_icmp .ge (98), 3), (29, .aload_n 0, 1), (30, .getfield 9, 3), (33, .invokevirtual 192, 3), (36, .aload_n 0, 1), (37, .getfield 23, 3), (40, .iconst 0, 1), (41, .invokevirtual 169, 3), (44, .aload_n 0, 1), (45, .getfield 15, 3), (48, .iconst 5, 1), (49, .iconst 0, 1), (50, .invokevirtual 116, 3), (53, .istore 6, 2), (55, .aload_n 0, 1), (56, .iload_n 2, 1), (57, .iload_n 1, 1), (58, .iconst 1, 1), (59, .iadd, 1), (60, .invokevirtual 226, 3), (63, .aload_n 0, 1), (64, .iload_n 2, 1), (65, .invokevirtual 89, 3), (68, .ifCond .eq (19), 3), (71, .aload_n 0, 1), (72, .getfield 9, 3), (75, .getfield 79, 3), (78, .bipush (41), 2), (80, .if_icmp .ne (7), 3), (83, .iconst 1, 1), (84, .goto (4), 3), (87, .iconst 0, 1), (88, .istore 4, 2), (90, .aload_n 0, 1), (91, .getfield 15, 3), (94, .iconst 4, 1), (95, .iload_n 3, 1), (96, .invokevirtual 116, 3), (99, .istore_n 3, 1), (100, .aload_n 0, 1), (101, .getfield 15, 3), (104, .iload 6, 2), (106, .iconst 1, 1), (107, .iadd, 1), (108, .aload_n 0, 1), (109, .getfield 15, 3), (112, .getfield 69, 3), (115, .invokevirtual 201, 3), (118, .iinc 5 (1), 3), (121, .goto (-105), 3), (124, .aload_n 0, 1), (125, .iload_n 2, 1), (126, .invokevirtual 89, 3), (129, .ifCond .eq (32), 3), (132, .aload_n 0, 1), (133, .getfield 9, 3), (136, .getfield 79, 3), (139, .bipush (42), 2), (141, .if_icmp .ne (20), 3), (144, .aload_n 0, 1), (145, .getfield 9, 3), (148, .bipush (42), 2), (150, .invokevirtual 107, 3), (153, .aload_n 0, 1), (154, .iload_n 2, 1), (155, .iload_n 1, 1), (156, .iconst 1, 1), (157, .iadd, 1), (158, .invokevirtual 226, 3), (161, .aload_n 0, 1), (162, .iload_n 3, 1), (163, .invokevirtual 229, 3), (166, .return_, 1)]
theorem dq_56_0 : sf_dok 56 md_56_0 := by
  unfold sf_dok
  decide +kernel
def md_56 : sf_D := md_56_0
theorem dq_56 : sf_dok 56 md_56 := dq_56_0
def md_57_0 : sf_D := [(0, .aload_n 0, 1), (1, .iload_n 1, 1), (2, .invokevirtual 23, 3), (5, .iconst 0, 1), (6, .istore_n 2, 1), (7, .iload_n 2, 1), (8, .sipush (3000), 3), (11, .if_icmp .ge (68), 3), (14, .aload_n 0, 1), (15, .getfield 9, 3), (18, .getfield 27, 3), (21, .bipush (58), 2), (23, .if_icmp .ne (56), 3), (26, .aload_n 0, 1), (27, .getfield 9, 3), (30, .bipush (58), 2), (32, .invokevirtual 33, 3), (35, .aload_n 0, 1), (36, .getfield 15, 3), (39, .bipush (7), 2), (41, .iconst 0, 1), (42, .invokevirtual 38, 3), (45, .istore_n 3, 1), (46, .aload_n 0, 1), (47, .iload_n 1, 1), (48, .invokevirtual 23, 3), (51, .aload_n 0, 1), (52, .getfield 15, 3), (55, .iload_n 3, 1), (56, .iconst 1, 1), (57, .iadd, 1), (58, .aload_n 0, 1), (59, .getfield 15, 3), (62, .getfield 42, 3), (65, .invokevirtual 45, 3), (68, .aload_n 0, 1), (69, .iconst 0, 1), (70, .putfield 49, 3), (73, .iinc 2 (1), 3), (76, .goto (-69), 3), (79, .return_, 1)]
theorem dq_57_0 : sf_dok 57 md_57_0 := by
  unfold sf_dok
  decide +kernel
def md_57 : sf_D := md_57_0
theorem dq_57 : sf_dok 57 md_57 := dq_57_0
def md_58_0 : sf_D := [(0, .aload_n 0, 1), (1, .iload_n 1, 1), (2, .invokevirtual 52, 3), (5, .iconst 0, 1), (6, .istore_n 2, 1), (7, .iload_n 2, 1), (8, .sipush (3000), 3), (11, .if_icmp .ge (68), 3), (14, .aload_n 0, 1), (15, .getfield 9, 3), (18, .getfield 27, 3), (21, .bipush (57), 2), (23, .if_icmp .ne (56), 3), (26, .aload_n 0, 1), (27, .getfield 9, 3), (30, .bipush (57), 2), (32, .invokevirtual 33, 3), (35, .aload_n 0, 1), (36, .getfield 15, 3), (39, .bipush (6), 2), (41, .iconst 0, 1), (42, .invokevirtual 38, 3), (45, .istore_n 3, 1), (46, .aload_n 0, 1), (47, .iload_n 1, 1), (48, .invokevirtual 52, 3), (51, .aload_n 0, 1), (52, .getfield 15, 3), (55, .iload_n 3, 1), (56, .iconst 1, 1), (57, .iadd, 1), (58, .aload_n 0, 1), (59, .getfield 15, 3), (62, .getfield 42, 3), (65, .invokevirtual 45, 3), (68, .aload_n 0, 1), (69, .iconst 0, 1), (70, .putfield 49, 3), (73, .iinc 2 (1), 3), (76, .goto (-69), 3), (79, .return_, 1)]
theorem dq_58_0 : sf_dok 58 md_58_0 := by
  unfold sf_dok
  decide +kernel
def md_58 : sf_D := md_58_0
theorem dq_58 : sf_dok 58 md_58 := dq_58_0
def md_59_0 : sf_D := [(0, .aload_n 0, 1), (1, .getfield 9, 3), (4, .getfield 27, 3), (7, .bipush (59), 2), (9, .if_icmp .eq (9), 3), (12, .aload_n 0, 1), (13, .iload_n 1, 1), (14, .invokevirtual 55, 3), (17, .return_, 1), (18, .aload_n 0, 1), (19, .iload_n 1, 1), (20, .invokevirtual 58, 3), (23, .ifCond .eq (10), 3), (26, .aload_n 0, 1), (27, .iload_n 1, 1), (28, .iconst 1, 1), (29, .iadd, 1), (30, .invokevirtual 52, 3), (33, .aload_n 0, 1), (34, .getfield 15, 3), (37, .bipush (25), 2), (39, .invokevirtual 62, 3), (42, .pop, 1), (43, .aload_n 0, 1), (44, .iconst 0, 1), (45, .putfield 49, 3), (48, .return_, 1)]
theorem dq_59_0 : sf_dok 59 md_59_0 := by
  unfold sf_dok
  decide +kernel
def md_59 : sf_D := md_59_0
theorem dq_59 : sf_dok 59 md_59 := dq_59_0
def md_60_0 : sf_D := [(0, .aload_n 0, 1), (1, .iload_n 1, 1), (2, .invokevirtual 71, 3), (5, .aload_n 0, 1), (6, .getfield 9, 3), (9, .getfield 27, 3), (12, .invokestatic 74, 3), (15, .istore_n 2, 1), (16, .iload_n 2, 1), (17, .ifCond .ne (4), 3), (20, .return_, 1), (21, .aload_n 0, 1), (22, .getfield 9, 3), (25, .invokevirtual 68, 3), (28, .aload_n 0, 1), (29, .iload_n 1, 1), (30, .invokevirtual 71, 3), (33, .aload_n 0, 1), (34, .getfield 15, 3), (37, .iload_n 2, 1), (38, .invokevirtual 62, 3), (41, .pop, 1), (42, .aload_n 0, 1), (43, .iconst 0, 1), (44, .putfield 49, 3), (47, .return_, 1)]
theorem dq_60_0 : sf_dok 60 md_60_0 := by
  unfold sf_dok
  decide +kernel
def md_60 : sf_D := md_60_0
theorem dq_60 : sf_dok 60 md_60 := dq_60_0
def md_61_0 : sf_D := [(0, .aload_n 0, 1), (1, .iload_n 1, 1), (2, .invokevirtual 77, 3), (5, .iconst 0, 1), (6, .istore_n 2, 1), (7, .iload_n 2, 1), (8, .sipush (3000), 3), (11, .if_icmp .ge (82), 3), (14, .aload_n 0, 1), (15, .getfield 9, 3), (18, .getfield 27, 3), (21, .bipush (15), 2), (23, .if_icmp .eq (18), 3), (26, .aload_n 0, 1), (27, .getfield 9, 3), (30, .getfield 27, 3), (33, .bipush (16), 2), (35, .if_icmp .eq (6), 3), (38, .goto (55), 3), (41, .aload_n 0, 1), (42, .getfield 9, 3), (45, .getfield 27, 3), (48, .bipush (15), 2), (50, .if_icmp .ne (8), 3), (53, .bipush (27), 2), (55, .goto (5), 3), (58, .bipush (28), 2), (60, .istore_n 3, 1), (61, .aload_n 0, 1), (62, .getfield 9, 3), (65, .invokevirtual 68, 3), (68, .aload_n 0, 1), (69, .iload_n 1, 1), (70, .invokevirtual 77, 3), (73, .aload_n 0, 1), (74, .getfield 15, 3), (77, .iload_n 3, 1), (78, .invokevirtual 62, 3), (81, .pop, 1), (82, .aload_n 0, 1), (83, .iconst 0, 1), (84, .putfield 49, 3), (87, .iinc 2 (1), 3), (90, .goto (-83), 3), (93, .return_, 1)]
theorem dq_61_0 : sf_dok 61 md_61_0 := by
  unfold sf_dok
  decide +kernel
def md_61 : sf_D := md_61_0
theorem dq_61 : sf_dok 61 md_61 := dq_61_0
def md_62_0 : sf_D := [(0, .aload_n 0, 1), (1, .iload_n 1, 1), (2, .invokevirtual 80, 3), (5, .aload_n 0, 1), (6, .getfield 9, 3), (9, .getfield 27, 3), (12, .invokestatic 83, 3), (15, .istore_n 2, 1), (16, .iconst 0, 1), (17, .istore_n 3, 1), (18, .iload_n 3, 1), (19, .sipush (3000), 3), (22, .if_icmp .ge (50), 3), (25, .iload_n 2, 1), (26, .ifCond .eq (46), 3), (29, .aload_n 0, 1), (30, .getfield 9, 3), (33, .invokevirtual 68, 3), (36, .aload_n 0, 1), (37, .iload_n 1, 1), (38, .invokevirtual 80, 3), (41, .aload_n 0, 1), (42, .getfield 15, 3), (45, .iload_n 2, 1), (46, .invokevirtual 62, 3), (49, .pop, 1), (50, .aload_n 0, 1), (51, .iconst 0, 1), (52, .putfield 49, 3), (55, .aload_n 0, 1), (56, .getfield 9, 3), (59, .getfield 27, 3), (62, .invokestatic 83, 3), (65, .istore_n 2, 1), (66, .iinc 3 (1), 3), (69, .goto (-51), 3), (72, .return_, 1)]
theorem dq_62_0 : sf_dok 62 md_62_0 := by
  unfold sf_dok
  decide +kernel
def md_62 : sf_D := md_62_0
theorem dq_62 : sf_dok 62 md_62 := dq_62_0
def md_63_0 : sf_D := [(0, .aload_n 0, 1), (1, .getfield 9, 3), (4, .getfield 27, 3), (7, .bipush (16), 2), (9, .if_icmp .eq (9), 3), (12, .aload_n 0, 1), (13, .iload_n 1, 1), (14, .invokevirtual 86, 3), (17, .return_, 1), (18, .aload_n 0, 1), (19, .iload_n 1, 1), (20, .invokevirtual 58, 3), (23, .ifCond .eq (10), 3), (26, .aload_n 0, 1), (27, .iload_n 1, 1), (28, .iconst 1, 1), (29, .iadd, 1), (30, .invokevirtual 80, 3), (33, .aload_n 0, 1), (34, .getfield 15, 3), (37, .bipush (26), 2), (39, .invokevirtual 62, 3), (42, .pop, 1), (43, .aload_n 0, 1), (44, .iconst 0, 1), (45, .putfield 49, 3), (48, .return_, 1)]
theorem dq_63_0 : sf_dok 63 md_63_0 := by
  unfold sf_dok
  decide +kernel
def md_63 : sf_D := md_63_0
theorem dq_63 : sf_dok 63 md_63 := dq_63_0
def md_64_0 : sf_D := [(0, .aload_n 0, 1), (1, .iload_n 1, 1), (2, .invokevirtual 89, 3), (5, .iconst 1, 1), (6, .istore_n 2, 1), (7, .iconst 0, 1), (8, .istore_n 3, 1), (9, .iload_n 2, 1), (10, .ifCond .eq (91), 3), (13, .iload_n 3, 1), (14, .sipush (3000), 3), (17, .if_icmp .ge (84), 3), (20, .aload_n 0, 1), (21, .getfield 9, 3), (24, .getfield 27, 3), (27, .lookupswitch (66) #[(6, 33), (8, 51), (14, 59)], 33), (60, .aload_n 0, 1), (61, .bipush (51), 2), (63, .aload_n 0, 1), (64, .iload_n 1, 1), (65, .bipush (7), 2), (67, .bipush (8), 2), (69, .invokevirtual 92, 3), (72, .invokevirtual 96, 3), (75, .goto (20), 3), (78, .aload_n 0, 1), (79, .iload_n 1, 1), (80, .invokevirtual 99, 3), (83, .goto (12), 3), (86, .aload_n 0, 1), (87, .invokevirtual 102, 3), (90, .goto (5), 3), (93, .iconst 0, 1), (94, .istore_n 2, 1), (95, .iinc 3 (1), 3), (98, .goto (-89), 3), (101, .return_, 1)]
theorem dq_64_0 : sf_dok 64 md_64_0 := by
  unfold sf_dok
  decide +kernel
def md_64 : sf_D := md_64_0
theorem dq_64 : sf_dok 64 md_64 := dq_64_0
def md_65_0 : sf_D := [(0, .aload_n 0, 1), (1, .iconst 0, 1), (2, .putfield 49, 3), (5, .aload_n 0, 1), (6, .getfield 9, 3), (9, .getfield 27, 3), (12, .lookupswitch (226) #[(3, 84), (4, 91), (5, 108), (6, 162), (8, 194), (10, 212), (61, 129), (62, 140), (63, 151)], 84), (96, .aload_n 0, 1), (97, .invokevirtual 114, 3), (100, .goto (145), 3), (103, .aload_n 0, 1), (104, .ldc2_w 116, 3), (107, .aload_n 0, 1), (108, .getfield 9, 3), (111, .getfield 118, 3), (114, .invokevirtual 122, 3), (117, .goto (128), 3), (120, .aload_n 0, 1), (121, .aload_n 0, 1), (122, .getfield 9, 3), (125, .getfield 126, 3), (128, .aload_n 0, 1), (129, .getfield 9, 3), (132, .getfield 129, 3), (135, .invokevirtual 122, 3), (138, .goto (107), 3), (141, .aload_n 0, 1), (142, .ldc2_w 132, 3), (145, .lconst 0, 1), (146, .invokevirtual 122, 3), (149, .goto (96), 3), (152, .aload_n 0, 1), (153, .ldc2_w 116, 3), (156, .lconst 1, 1), (157, .invokevirtual 122, 3), (160, .goto (85), 3), (163, .aload_n 0, 1), (164, .ldc2_w 116, 3), (167, .lconst 0, 1), (168, .invokevirtual 122, 3), (171, .goto (74), 3), (174, .aload_n 0, 1), (175, .iload_n 1, 1), (176, .invokevirtual 58, 3), (179, .ifCond .eq (10), 3), (182, .aload_n 0, 1), (183, .iload_n 1, 1), (184, .iconst 1, 1), (185, .iadd, 1), (186, .invokevirtual 105, 3), (189, .aload_n 0, 1), (190, .getfield 9, 3), (193, .bipush (7), 2), (195, .invokevirtual 33, 3), (198, .aload_n 0, 1), (199, .iconst 0, 1), (200, .putfield 49, 3), (203, .goto (42), 3), (206, .aload_n 0, 1), (207, .bipush (49), 2), (209, .aload_n 0, 1), (210, .iload_n 1, 1), (211, .bipush (9), 2), (213, .bipush (40), 2), (215, .invokevirtual 92, 3), (218, .invokevirtual 96, 3), (221, .goto (24), 3), (224, .aload_n 0, 1), (225, .bipush (50), 2), (227, .aload_n 0, 1), (228, .iload_n 1, 1), (229, .invokevirtual 134, 3), (232, .invokevirtual 96, 3), (235, .goto (10), 3), (238, .aload_n 0, 1), (239, .getfield 9, 3), (242, .invokevirtual 65, 3), (245, .return_, 1)]
theorem dq_65_0 : sf_dok 65 md_65_0 := by
  unfold sf_dok
  decide +kernel
def md_65 : sf_D := md_65_0
theorem dq_65 : sf_dok 65 md_65 := dq_65_0
def md_66_0 : sf_D := [(0, .aload_n 0, 1), (1, .getfield 9, 3), (4, .getfield 111, 3), (7, .istore_n 1, 1), (8, .aload_n 0, 1), (9, .getfield 9, 3), (12, .invokevirtual 68, 3), (15, .aload_n 0, 1), (16, .getfield 9, 3), (19, .getfield 27, 3), (22, .bipush (6), 2), (24, .if_icmp .ne (27), 3), (27, .aload_n 0, 1), (28, .getfield 19, 3), (31, .bipush (21), 2), (33, .iload_n 1, 1), (34, .invokevirtual 140, 3), (37, .pop, 1), (38, .aload_n 0, 1), (39, .getfield 15, 3), (42, .iload_n 1, 1), (43, .invokestatic 143, 3), (46, .invokevirtual 62, 3), (49, .pop, 1), (50, .return_, 1), (51, .aload_n 0, 1), (52, .aload_n 0, 1), (53, .getfield 19, 3), (56, .bipush (18), 2), (58, .iload_n 1, 1), (59, .invokevirtual 140, 3), (62, .putfield 108, 3), (65, .aload_n 0, 1), (66, .iconst 1, 1), (67, .putfield 49, 3), (70, .return_, 1)]
theorem dq_66_0 : sf_dok 66 md_66_0 := by
  unfold sf_dok
  decide +kernel
def md_66 : sf_D := md_66_0
theorem dq_66 : sf_dok 66 md_66 := dq_66_0
def md_67_0 : sf_D := [(0, .aload_n 0, 1), (1, .getfield 7, 3), (4, .iload_n 1, 1), (5, .iconst (-1), 1), (6, .iload_n 2, 1), (7, .invokevirtual 75, 3), (10, .istore_n 3, 1), (11, .aload_n 0, 1), (12, .invokevirtual 63, 3), (15, .ifCond .ne (5), 3), (18, .iload_n 3, 1), (19, .ireturn, 1), (20, .aload_n 0, 1), (21, .getfield 54, 3), (24, .sipush (1600), 3), (27, .if_icmp .ge (39), 3), (30, .aload_n 0, 1), (31, .getfield 38, 3), (34, .aload_n 0, 1), (35, .getfield 54, 3), (38, .iload_n 3, 1), (39, .iastore, 1), (40, .aload_n 0, 1), (41, .getfield 41, 3), (44, .aload_n 0, 1), (45, .getfield 54, 3), (48, .aload_n 0, 1), (49, .getfield 44, 3), (52, .iastore, 1), (53, .aload_n 0, 1), (54, .dup, 1), (55, .getfield 54, 3), (58, .iconst 1, 1), (59, .iadd, 1), (60, .putfield 54, 3), (63, .goto (11), 3), (66, .aload_n 0, 1), (67, .getfield 7, 3), (70, .iconst 1, 1), (71, .putfield 57, 3), (74, .iload_n 3, 1), (75, .ireturn, 1)]
theorem dq_67_0 : sf_dok 67 md_67_0 := by
  unfold sf_dok
  decide +kernel
def md_67 : sf_D := md_67_0
theorem dq_67 : sf_dok 67 md_67 := dq_67_0
def md_68_0 : sf_D := [(0, .aload_n 0, 1), (1, .iconst 3, 1), (2, .invokevirtual 39, 3), (5, .ifCond .ne (6), 3), (8, .ldc 11, 2), (10, .ireturn, 1), (11, .aload_n 0, 1), (12, .getfield 12, 3), (15, .aload_n 0, 1), (16, .getfield 35, 3), (19, .iload_n 1, 1), (20, .iastore, 1), (21, .aload_n 0, 1), (22, .getfield 12, 3), (25, .aload_n 0, 1), (26, .getfield 35, 3), (29, .iconst 1, 1), (30, .iadd, 1), (31, .iload_n 2, 1), (32, .iastore, 1), (33, .aload_n 0, 1), (34, .getfield 12, 3), (37, .aload_n 0, 1), (38, .getfield 35, 3), (41, .iconst 2, 1), (42, .iadd, 1), (43, .iload_n 3, 1), (44, .iastore, 1), (45, .aload_n 0, 1), (46, .dup, 1), (47, .getfield 35, 3), (50, .iconst 3, 1), (51, .iadd, 1), (52, .putfield 35, 3), (55, .aload_n 0, 1), (56, .getfield 35, 3), (59, .iconst 3, 1), (60, .isub, 1), (61, .ireturn, 1)]
theorem dq_68_0 : sf_dok 68 md_68_0 := by
  unfold sf_dok
  decide +kernel
def md_68 : sf_D := md_68_0
theorem dq_68 : sf_dok 68 md_68 := dq_68_0
def md_69_0 : sf_D := [(0, .aload_n 0, 1), (1, .getfield 44, 3), (4, .ifCond .eq (7), 3), (7, .iconst 1, 1), (8, .goto (4), 3), (11, .iconst 0, 1), (12, .ireturn, 1)]
theorem dq_69_0 : sf_dok 69 md_69_0 := by
  unfold sf_dok
  decide +kernel
def md_69 : sf_D := md_69_0
theorem dq_69 : sf_dok 69 md_69 := dq_69_0
def md_70_0 : sf_D := [(0, .iload_n 0, 1), (1, .bipush (24), 2), (3, .if_icmp .lt (18), 3), (6, .iload_n 0, 1), (7, .bipush (34), 2), (9, .if_icmp .ge (12), 3), (12, .iload_n 0, 1), (13, .bipush (24), 2), (15, .isub, 1), (16, .iconst 1, 1), (17, .iadd, 1), (18, .goto (4), 3), (21, .iconst 0, 1), (22, .ireturn, 1)]
theorem dq_70_0 : sf_dok 70 md_70_0 := by
  unfold sf_dok
  decide +kernel
def md_70 : sf_D := md_70_0
theorem dq_70 : sf_dok 70 md_70 := dq_70_0
def md_71_0 : sf_D := [(0, .aload_n 0, 1), (1, .iconst 1, 1), (2, .invokevirtual 39, 3), (5, .ifCond .ne (6), 3), (8, .ldc 11, 2), (10, .ireturn, 1), (11, .aload_n 0, 1), (12, .getfield 12, 3), (15, .aload_n 0, 1), (16, .getfield 35, 3), (19, .iload_n 1, 1), (20, .iastore, 1), (21, .aload_n 0, 1), (22, .dup, 1), (23, .getfield 35, 3), (26, .iconst 1, 1), (27, .iadd, 1), (28, .putfield 35, 3), (31, .aload_n 0, 1), (32, .getfield 35, 3), (35, .iconst 1, 1), (36, .isub, 1), (37, .ireturn, 1)]
theorem dq_71_0 : sf_dok 71 md_71_0 := by
  unfold sf_dok
  decide +kernel
def md_71 : sf_D := md_71_0
theorem dq_71 : sf_dok 71 md_71 := dq_71_0
def md_72_0 : sf_D := [(0, .aload_n 0, 1), (1, .getfield 15, 3), (4, .lload_n 1, 1), (5, .lload_n 3, 1), (6, .invokevirtual 137, 3), (9, .aload_n 0, 1), (10, .getfield 9, 3), (13, .invokevirtual 68, 3), (16, .return_, 1)]
theorem dq_72_0 : sf_dok 72 md_72_0 := by
  unfold sf_dok
  decide +kernel
def md_72 : sf_D := md_72_0
theorem dq_72 : sf_dok 72 md_72 := dq_72_0
def md_73_0 : sf_D := [(0, .aload_n 0, 1), (1, .getfield 47, 3), (4, .sipush (5200), 3), (7, .if_icmp .ge (36), 3), (10, .aload_n 0, 1), (11, .getfield 16, 3), (14, .aload_n 0, 1), (15, .getfield 47, 3), (18, .lload_n 1, 1), (19, .lastore, 1), (20, .aload_n 0, 1), (21, .getfield 20, 3), (24, .aload_n 0, 1), (25, .getfield 47, 3), (28, .lload_n 3, 1), (29, .lastore, 1), (30, .aload_n 0, 1), (31, .dup, 1), (32, .getfield 47, 3), (35, .iconst 1, 1), (36, .iadd, 1), (37, .putfield 47, 3), (40, .goto (8), 3), (43, .aload_n 0, 1), (44, .iconst 1, 1), (45, .putfield 43, 3), (48, .aload_n 0, 1), (49, .bipush (16), 2), (51, .aload_n 0, 1), (52, .getfield 47, 3), (55, .iconst 1, 1), (56, .isub, 1), (57, .invokevirtual 50, 3), (60, .pop, 1), (61, .return_, 1)]
theorem dq_73_0 : sf_dok 73 md_73_0 := by
  unfold sf_dok
  decide +kernel
def md_73 : sf_D := md_73_0
theorem dq_73 : sf_dok 73 md_73 := dq_73_0
def md_74_0 : sf_D := [(0, .iload_n 1, 1), (1, .bipush (12), 2), (3, .if_icmp .lt (10), 3), (6, .aload_n 0, 1), (7, .getfield 9, 3), (10, .invokevirtual 65, 3), (13, .aload_n 0, 1), (14, .getfield 9, 3), (17, .invokevirtual 68, 3), (20, .aload_n 0, 1), (21, .getfield 9, 3), (24, .getfield 27, 3), (27, .ifCond .eq (7), 3), (30, .iconst 1, 1), (31, .goto (4), 3), (34, .iconst 0, 1), (35, .ireturn, 1)]
theorem dq_74_0 : sf_dok 74 md_74_0 := by
  unfold sf_dok
  decide +kernel
def md_74 : sf_D := md_74_0
theorem dq_74 : sf_dok 74 md_74 := dq_74_0
def md_75_0 : sf_D := [(0, .aload_n 0, 1), (1, .getfield 38, 3), (4, .iload_n 1, 1), (5, .if_icmp .eq (7), 3), (8, .aload_n 0, 1), (9, .invokevirtual 44, 3), (12, .aload_n 0, 1), (13, .invokevirtual 41, 3), (16, .return_, 1)]
theorem dq_75_0 : sf_dok 75 md_75_0 := by
  unfold sf_dok
  decide +kernel
def md_75 : sf_D := md_75_0
theorem dq_75 : sf_dok 75 md_75 := dq_75_0
def md_76_0 : sf_D := [(0, .aload_n 0, 1), (1, .iload_n 1, 1), (2, .invokevirtual 58, 3), (5, .ifCond .ne (5), 3), (8, .iconst 0, 1), (9, .ireturn, 1), (10, .iconst 0, 1), (11, .istore 4, 2), (13, .aload_n 0, 1), (14, .getfield 9, 3), (17, .getfield 27, 3), (20, .iload_n 2, 1), (21, .if_icmp .eq (7), 3), (24, .iconst 1, 1), (25, .goto (4), 3), (28, .iconst 0, 1), (29, .istore 5, 2), (31, .iload 5, 2), (33, .ifCond .eq (55), 3), (36, .iload 4, 2), (38, .iload_n 3, 1), (39, .if_icmp .gt (49), 3), (42, .aload_n 0, 1), (43, .iload_n 1, 1), (44, .iconst 1, 1), (45, .iadd, 1), (46, .invokevirtual 105, 3), (49, .iinc 4 (1), 3), (52, .aload_n 0, 1), (53, .getfield 9, 3), (56, .getfield 27, 3), (59, .bipush (12), 2), (61, .if_icmp .ne (7), 3), (64, .iconst 1, 1), (65, .goto (4), 3), (68, .iconst 0, 1), (69, .istore 5, 2), (71, .iload 5, 2), (73, .ifCond .eq (-42), 3), (76, .aload_n 0, 1), (77, .getfield 9, 3), (80, .bipush (12), 2), (82, .invokevirtual 33, 3), (85, .goto (-54), 3), (88, .iload 4, 2), (90, .iload_n 3, 1), (91, .if_icmp .le (10), 3), (94, .aload_n 0, 1), (95, .getfield 9, 3), (98, .invokevirtual 65, 3), (101, .aload_n 0, 1), (102, .getfield 9, 3), (105, .iload_n 2, 1), (106, .invokevirtual 33, 3), (109, .iload 4, 2), (111, .ireturn, 1)]
theorem dq_76_0 : sf_dok 76 md_76_0 := by
  unfold sf_dok
  decide +kernel
def md_76 : sf_D := md_76_0
theorem dq_76 : sf_dok 76 md_76 := dq_76_0
def sf_md0 : List (Nat × sf_D) := [(1000, md_1000), (0, md_0), (1, md_1), (2, md_2), (3, md_3), (4, md_4), (5, md_5), (6, md_6), (7, md_7), (8, md_8), (9, md_9), (10, md_10), (11, md_11), (12, md_12), (13, md_13), (14, md_14), (15, md_15), (16, md_16), (17, md_17), (18, md_18), (19, md_19), (20, md_20), (21, md_21), (22, md_22), (23, md_23), (24, md_24), (25, md_25), (26, md_26), (27, md_27), (28, md_28), (29, md_29), (30, md_30), (31, md_31), (32, md_32), (33, md_33), (34, md_34), (35, md_35), (36, md_36), (37, md_37), (38, md_38), (39, md_39), (40, md_40), (41, md_41), (42, md_42), (43, md_43), (44, md_44), (45, md_45), (46, md_46), (47, md_47), (48, md_48), (49, md_49), (50, md_50), (51, md_51), (52, md_52), (53, md_53), (54, md_54), (55, md_55), (56, md_56), (57, md_57), (58, md_58), (59, md_59), (60, md_60), (61, md_61), (62, md_62), (63, md_63), (64, md_64), (65, md_65), (66, md_66), (67, md_67), (68, md_68), (69, md_69), (70, md_70), (71, md_71), (72, md_72), (73, md_73), (74, md_74), (75, md_75), (76, md_76)]
theorem sf_mdq0 : ∀ q ∈ sf_md0, sf_dok q.1 q.2 := (List.forall_mem_cons.mpr ⟨dq_1000, (List.forall_mem_cons.mpr ⟨dq_0, (List.forall_mem_cons.mpr ⟨dq_1, (List.forall_mem_cons.mpr ⟨dq_2, (List.forall_mem_cons.mpr ⟨dq_3, (List.forall_mem_cons.mpr ⟨dq_4, (List.forall_mem_cons.mpr ⟨dq_5, (List.forall_mem_cons.mpr ⟨dq_6, (List.forall_mem_cons.mpr ⟨dq_7, (List.forall_mem_cons.mpr ⟨dq_8, (List.forall_mem_cons.mpr ⟨dq_9, (List.forall_mem_cons.mpr ⟨dq_10, (List.forall_mem_cons.mpr ⟨dq_11, (List.forall_mem_cons.mpr ⟨dq_12, (List.forall_mem_cons.mpr ⟨dq_13, (List.forall_mem_cons.mpr ⟨dq_14, (List.forall_mem_cons.mpr ⟨dq_15, (List.forall_mem_cons.mpr ⟨dq_16, (List.forall_mem_cons.mpr ⟨dq_17, (List.forall_mem_cons.mpr ⟨dq_18, (List.forall_mem_cons.mpr ⟨dq_19, (List.forall_mem_cons.mpr ⟨dq_20, (List.forall_mem_cons.mpr ⟨dq_21, (List.forall_mem_cons.mpr ⟨dq_22, (List.forall_mem_cons.mpr ⟨dq_23, (List.forall_mem_cons.mpr ⟨dq_24, (List.forall_mem_cons.mpr ⟨dq_25, (List.forall_mem_cons.mpr ⟨dq_26, (List.forall_mem_cons.mpr ⟨dq_27, (List.forall_mem_cons.mpr ⟨dq_28, (List.forall_mem_cons.mpr ⟨dq_29, (List.forall_mem_cons.mpr ⟨dq_30, (List.forall_mem_cons.mpr ⟨dq_31, (List.forall_mem_cons.mpr ⟨dq_32, (List.forall_mem_cons.mpr ⟨dq_33, (List.forall_mem_cons.mpr ⟨dq_34, (List.forall_mem_cons.mpr ⟨dq_35, (List.forall_mem_cons.mpr ⟨dq_36, (List.forall_mem_cons.mpr ⟨dq_37, (List.forall_mem_cons.mpr ⟨dq_38, (List.forall_mem_cons.mpr ⟨dq_39, (List.forall_mem_cons.mpr ⟨dq_40, (List.forall_mem_cons.mpr ⟨dq_41, (List.forall_mem_cons.mpr ⟨dq_42, (List.forall_mem_cons.mpr ⟨dq_43, (List.forall_mem_cons.mpr ⟨dq_44, (List.forall_mem_cons.mpr ⟨dq_45, (List.forall_mem_cons.mpr ⟨dq_46, (List.forall_mem_cons.mpr ⟨dq_47, (List.forall_mem_cons.mpr ⟨dq_48, (List.forall_mem_cons.mpr ⟨dq_49, (List.forall_mem_cons.mpr ⟨dq_50, (List.forall_mem_cons.mpr ⟨dq_51, (List.forall_mem_cons.mpr ⟨dq_52, (List.forall_mem_cons.mpr ⟨dq_53, (List.forall_mem_cons.mpr ⟨dq_54, (List.forall_mem_cons.mpr ⟨dq_55, (List.forall_mem_cons.mpr ⟨dq_56, (List.forall_mem_cons.mpr ⟨dq_57, (List.forall_mem_cons.mpr ⟨dq_58, (List.forall_mem_cons.mpr ⟨dq_59, (List.forall_mem_cons.mpr ⟨dq_60, (List.forall_mem_cons.mpr ⟨dq_61, (List.forall_mem_cons.mpr ⟨dq_62, (List.forall_mem_cons.mpr ⟨dq_63, (List.forall_mem_cons.mpr ⟨dq_64, (List.forall_mem_cons.mpr ⟨dq_65, (List.forall_mem_cons.mpr ⟨dq_66, (List.forall_mem_cons.mpr ⟨dq_67, (List.forall_mem_cons.mpr ⟨dq_68, (List.forall_mem_cons.mpr ⟨dq_69, (List.forall_mem_cons.mpr ⟨dq_70, (List.forall_mem_cons.mpr ⟨dq_71, (List.forall_mem_cons.mpr ⟨dq_72, (List.forall_mem_cons.mpr ⟨dq_73, (List.forall_mem_cons.mpr ⟨dq_74, (List.forall_mem_cons.mpr ⟨dq_75, (List.forall_mem_cons.mpr ⟨dq_76, (fun _ h => absurd h List.not_mem_nil)⟩)⟩)⟩)⟩)⟩)⟩)⟩)⟩)⟩)⟩)⟩)⟩)⟩)⟩)⟩)⟩)⟩)⟩)⟩)⟩)⟩)⟩)⟩)⟩)⟩)⟩)⟩)⟩)⟩)⟩)⟩)⟩)⟩)⟩)⟩)⟩)⟩)⟩)⟩)⟩)⟩)⟩)⟩)⟩)⟩)⟩)⟩)⟩)⟩)⟩)⟩)⟩)⟩)⟩)⟩)⟩)⟩)⟩)⟩)⟩)⟩)⟩)⟩)⟩)⟩)⟩)⟩)⟩)⟩)⟩)⟩)⟩)⟩)⟩)⟩)⟩)⟩)⟩)
