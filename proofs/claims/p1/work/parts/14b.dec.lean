def md_77_0 : sf_D := [(0, .aload_n 0, 1), (1, .getfield 15, 3), (4, .iload_n 1, 1), (5, .iload_n 2, 1), (6, .invokevirtual 38, 3), (9, .pop, 1), (10, .aload_n 0, 1), (11, .iconst 0, 1), (12, .putfield 49, 3), (15, .return_, 1)]
theorem dq_77_0 : sf_dok 77 md_77_0 := by
  unfold sf_dok
  decide +kernel
def md_77 : sf_D := md_77_0
theorem dq_77 : sf_dok 77 md_77 := dq_77_0
def md_78_0 : sf_D := [(0, .aload_n 0, 1), (1, .iload_n 1, 1), (2, .invokevirtual 58, 3), (5, .ifCond .ne (5), 3), (8, .iconst 0, 1), (9, .ireturn, 1), (10, .iconst 0, 1), (11, .istore_n 2, 1), (12, .aload_n 0, 1), (13, .getfield 9, 3), (16, .getfield 27, 3), (19, .bipush (11), 2), (21, .if_icmp .eq (7), 3), (24, .iconst 1, 1), (25, .goto (4), 3), (28, .iconst 0, 1), (29, .istore_n 3, 1), (30, .iload_n 3, 1), (31, .ifCond .eq (69), 3), (34, .iload_n 2, 1), (35, .bipush (20), 2), (37, .if_icmp .gt (63), 3), (40, .aload_n 0, 1), (41, .iload_n 1, 1), (42, .iconst 1, 1), (43, .iadd, 1), (44, .invokevirtual 105, 3), (47, .aload_n 0, 1), (48, .getfield 9, 3), (51, .bipush (13), 2), (53, .invokevirtual 33, 3), (56, .aload_n 0, 1), (57, .iload_n 1, 1), (58, .iconst 1, 1), (59, .iadd, 1), (60, .invokevirtual 105, 3), (63, .iinc 2 (1), 3), (66, .aload_n 0, 1), (67, .getfield 9, 3), (70, .getfield 27, 3), (73, .bipush (12), 2), (75, .if_icmp .ne (7), 3), (78, .iconst 1, 1), (79, .goto (4), 3), (82, .iconst 0, 1), (83, .istore_n 3, 1), (84, .iload_n 3, 1), (85, .ifCond .eq (-55), 3), (88, .aload_n 0, 1), (89, .getfield 9, 3), (92, .bipush (12), 2), (94, .invokevirtual 33, 3), (97, .goto (-67), 3), (100, .iload_n 2, 1), (101, .bipush (20), 2), (103, .if_icmp .le (10), 3), (106, .aload_n 0, 1), (107, .getfield 9, 3), (110, .invokevirtual 65, 3), (113, .aload_n 0, 1), (114, .getfield 9, 3), (117, .bipush (11), 2), (119, .invokevirtual 33, 3), (122, .iload_n 2, 1), (123, .ireturn, 1)]
theorem dq_78_0 : sf_dok 78 md_78_0 := by
  unfold sf_dok
  decide +kernel
def md_78 : sf_D := md_78_0
theorem dq_78 : sf_dok 78 md_78 := dq_78_0
def md_79_0 : sf_D := [(0, .aload_n 0, 1), (1, .iload_n 1, 1), (2, .invokevirtual 58, 3), (5, .ifCond .eq (10), 3), (8, .aload_n 0, 1), (9, .iload_n 1, 1), (10, .iconst 1, 1), (11, .iadd, 1), (12, .invokevirtual 105, 3), (15, .aload_n 0, 1), (16, .getfield 9, 3), (19, .bipush (9), 2), (21, .invokevirtual 33, 3), (24, .aload_n 0, 1), (25, .aload_n 0, 1), (26, .getfield 15, 3), (29, .bipush (39), 2), (31, .invokevirtual 62, 3), (34, .putfield 108, 3), (37, .aload_n 0, 1), (38, .iconst 2, 1), (39, .putfield 49, 3), (42, .return_, 1)]
theorem dq_79_0 : sf_dok 79 md_79_0 := by
  unfold sf_dok
  decide +kernel
def md_79 : sf_D := md_79_0
theorem dq_79 : sf_dok 79 md_79 := dq_79_0
def md_80_0 : sf_D := [(0, .aload_n 0, 1), (1, .getfield 9, 3), (4, .invokevirtual 68, 3), (7, .aload_n 0, 1), (8, .getfield 9, 3), (11, .getfield 27, 3), (14, .iconst 3, 1), (15, .if_icmp .eq (10), 3), (18, .aload_n 0, 1), (19, .getfield 9, 3), (22, .invokevirtual 65, 3), (25, .aload_n 0, 1), (26, .aload_n 0, 1), (27, .getfield 15, 3), (30, .bipush (44), 2), (32, .aload_n 0, 1), (33, .getfield 9, 3), (36, .getfield 111, 3), (39, .invokevirtual 38, 3), (42, .putfield 108, 3), (45, .aload_n 0, 1), (46, .iconst 3, 1), (47, .putfield 49, 3), (50, .aload_n 0, 1), (51, .getfield 9, 3), (54, .invokevirtual 68, 3), (57, .return_, 1)]
theorem dq_80_0 : sf_dok 80 md_80_0 := by
  unfold sf_dok
  decide +kernel
def md_80 : sf_D := md_80_0
theorem dq_80 : sf_dok 80 md_80 := dq_80_0
def md_81_0 : sf_D := [(0, .iload_n 0, 1), (1, .lookupswitch (44) #[(17, 35), (18, 41), (22, 38)], 35), (36, .bipush (29), 2), (38, .ireturn, 1), (39, .bipush (30), 2), (41, .ireturn, 1), (42, .bipush (31), 2), (44, .ireturn, 1), (45, .iconst 0, 1), (46, .ireturn, 1)]
theorem dq_81_0 : sf_dok 81 md_81_0 := by
  unfold sf_dok
  decide +kernel
def md_81 : sf_D := md_81_0
theorem dq_81 : sf_dok 81 md_81 := dq_81_0
def md_82_0 : sf_D := [(0, .iload_n 0, 1), (1, .lookupswitch (99) #[(20, 84), (21, 90), (26, 75), (27, 81), (28, 87), (29, 93), (45, 96), (60, 78)], 75), (76, .bipush (32), 2), (78, .ireturn, 1), (79, .bipush (32), 2), (81, .ireturn, 1), (82, .bipush (33), 2), (84, .ireturn, 1), (85, .bipush (34), 2), (87, .ireturn, 1), (88, .bipush (35), 2), (90, .ireturn, 1), (91, .bipush (36), 2), (93, .ireturn, 1), (94, .bipush (37), 2), (96, .ireturn, 1), (97, .bipush (38), 2), (99, .ireturn, 1), (100, .iconst 0, 1), (101, .ireturn, 1)]
theorem dq_82_0 : sf_dok 82 md_82_0 := by
  unfold sf_dok
  decide +kernel
def md_82 : sf_D := md_82_0
theorem dq_82 : sf_dok 82 md_82 := dq_82_0
def md_83_0 : sf_D := [(0, .iload_n 1, 1), (1, .ifCond .lt (24), 3), (4, .iload_n 1, 1), (5, .aload_n 0, 1), (6, .getfield 35, 3), (9, .if_icmp .ge (16), 3), (12, .iload_n 1, 1), (13, .ldc 11, 2), (15, .if_icmp .ge (10), 3), (18, .aload_n 0, 1), (19, .getfield 12, 3), (22, .iload_n 1, 1), (23, .iload_n 2, 1), (24, .iastore, 1), (25, .return_, 1)]
theorem dq_83_0 : sf_dok 83 md_83_0 := by
  unfold sf_dok
  decide +kernel
def md_83 : sf_D := md_83_0
theorem dq_83 : sf_dok 83 md_83 := dq_83_0
def md_84_0 : sf_D := [(0, .aload_n 0, 1), (1, .iload_n 1, 1), (2, .iload_n 2, 1), (3, .invokevirtual 99, 3), (6, .ifCond .eq (15), 3), (9, .aload_n 0, 1), (10, .aload_n 0, 1), (11, .getfield 9, 3), (14, .getfield 96, 3), (17, .iload_n 2, 1), (18, .invokevirtual 103, 3), (21, .return_, 1)]
theorem dq_84_0 : sf_dok 84 md_84_0 := by
  unfold sf_dok
  decide +kernel
def md_84 : sf_D := md_84_0
theorem dq_84 : sf_dok 84 md_84 := dq_84_0
def md_85_0 : sf_D := [(0, .aload_n 0, 1), (1, .getfield 9, 3), (4, .bipush (13), 2), (6, .invokevirtual 107, 3), (9, .aload_n 0, 1), (10, .getfield 9, 3), (13, .invokevirtual 110, 3), (16, .aload_n 0, 1), (17, .getfield 9, 3), (20, .getfield 96, 3), (23, .iload_n 1, 1), (24, .if_icmp .le (9), 3), (27, .iload_n 2, 1), (28, .bipush (10), 2), (30, .if_icmp .le (10), 3), (33, .aload_n 0, 1), (34, .getfield 9, 3), (37, .invokevirtual 76, 3), (40, .aload_n 0, 1), (41, .getfield 9, 3), (44, .getfield 79, 3), (47, .ifCond .eq (7), 3), (50, .iconst 1, 1), (51, .goto (4), 3), (54, .iconst 0, 1), (55, .ireturn, 1)]
theorem dq_85_0 : sf_dok 85 md_85_0 := by
  unfold sf_dok
  decide +kernel
def md_85 : sf_D := md_85_0
theorem dq_85 : sf_dok 85 md_85 := dq_85_0
def md_86_0 : sf_D := [(0, .aload_n 0, 1), (1, .getfield 38, 3), (4, .iconst 2, 1), (5, .if_icmp .eq (8), 3), (8, .aload_n 0, 1), (9, .invokevirtual 44, 3), (12, .return_, 1), (13, .aload_n 0, 1), (14, .invokevirtual 47, 3), (17, .aload_n 0, 1), (18, .invokevirtual 35, 3), (21, .aload_n 0, 1), (22, .getfield 38, 3), (25, .iconst 2, 1), (26, .if_icmp .ne (7), 3), (29, .aload_n 0, 1), (30, .invokevirtual 41, 3), (33, .return_, 1)]
theorem dq_86_0 : sf_dok 86 md_86_0 := by
  unfold sf_dok
  decide +kernel
def md_86 : sf_D := md_86_0
theorem dq_86 : sf_dok 86 md_86 := dq_86_0
def md_87_0 : sf_D := [(0, .iload_n 1, 1), (1, .istore_n 2, 1), (2, .iconst 0, 1), (3, .istore_n 3, 1), (4, .iload_n 3, 1), (5, .sipush (3000), 3), (8, .if_icmp .ge (45), 3), (11, .iload_n 2, 1), (12, .ifCond .lt (41), 3), (15, .aload_n 0, 1), (16, .getfield 15, 3), (19, .iload_n 2, 1), (20, .iconst 1, 1), (21, .iadd, 1), (22, .invokevirtual 198, 3), (25, .istore 4, 2), (27, .aload_n 0, 1), (28, .getfield 15, 3), (31, .iload_n 2, 1), (32, .iconst 1, 1), (33, .iadd, 1), (34, .aload_n 0, 1), (35, .getfield 15, 3), (38, .getfield 69, 3), (41, .invokevirtual 201, 3), (44, .iload 4, 2), (46, .istore_n 2, 1), (47, .iinc 3 (1), 3), (50, .goto (-46), 3), (53, .return_, 1)]
theorem dq_87_0 : sf_dok 87 md_87_0 := by
  unfold sf_dok
  decide +kernel
def md_87 : sf_D := md_87_0
theorem dq_87 : sf_dok 87 md_87 := dq_87_0
def md_88_0 : sf_D := [(0, .iload_n 1, 1), (1, .ifCond .lt (26), 3), (4, .iload_n 1, 1), (5, .aload_n 0, 1), (6, .getfield 35, 3), (9, .if_icmp .ge (18), 3), (12, .iload_n 1, 1), (13, .ldc 11, 2), (15, .if_icmp .ge (12), 3), (18, .aload_n 0, 1), (19, .getfield 12, 3), (22, .iload_n 1, 1), (23, .iaload, 1), (24, .goto (4), 3), (27, .iconst 0, 1), (28, .ireturn, 1)]
theorem dq_88_0 : sf_dok 88 md_88_0 := by
  unfold sf_dok
  decide +kernel
def md_88 : sf_D := md_88_0
theorem dq_88 : sf_dok 88 md_88 := dq_88_0
def md_89_0 : sf_D := [(0, .aload_n 0, 1), (1, .getfield 9, 3), (4, .getfield 96, 3), (7, .istore_n 2, 1), (8, .aload_n 0, 1), (9, .getfield 15, 3), (12, .iconst 4, 1), (13, .iconst 0, 1), (14, .invokevirtual 116, 3), (17, .istore_n 3, 1), (18, .aload_n 0, 1), (19, .getfield 15, 3), (22, .iconst 2, 1), (23, .aload_n 0, 1), (24, .getfield 9, 3), (27, .getfield 113, 3), (30, .invokevirtual 116, 3), (33, .istore 4, 2), (35, .aload_n 0, 1), (36, .getfield 15, 3), (39, .iload_n 3, 1), (40, .iconst 1, 1), (41, .iadd, 1), (42, .aload_n 0, 1), (43, .getfield 15, 3), (46, .getfield 69, 3), (49, .invokevirtual 201, 3), (52, .aload_n 0, 1), (53, .getfield 9, 3), (56, .bipush (43), 2), (58, .invokevirtual 107, 3), (61, .aload_n 0, 1), (62, .getfield 23, 3), (65, .iconst 0, 1), (66, .invokevirtual 169, 3), (69, .aload_n 0, 1), (70, .getfield 15, 3), (73, .iconst 5, 1), (74, .iconst (-1), 1), (75, .invokevirtual 116, 3), (78, .istore 5, 2), (80, .aload_n 0, 1), (81, .iload_n 2, 1), (82, .iload_n 1, 1), (83, .iload 4, 2), (85, .iload 5, 2), (87, .invokevirtual 232, 3), (90, .return_, 1)]
theorem dq_89_0 : sf_dok 89 md_89_0 := by
  unfold sf_dok
  decide +kernel
def md_89 : sf_D := md_89_0
theorem dq_89 : sf_dok 89 md_89 := dq_89_0
def md_90_0 : sf_D := [(0, .aload_n 0, 1), (1, .getfield 49, 3), (4, .istore 5, 2), (6, .aload_n 0, 1), (7, .getfield 217, 3), (10, .istore 6, 2), (12, .aload_n 0, 1), (13, .getfield 214, 3), (16, .istore 7, 2), (18, .aload_n 0, 1), (19, .iload_n 3, 1), (20, .putfield 49, 3), (23, .aload_n 0, 1), (24, .iload 4, 2), (26, .putfield 217, 3), (29, .aload_n 0, 1), (30, .aload_n 0, 1), (31, .getfield 46, 3), (34, .putfield 214, 3), (37, .aload_n 0, 1), (38, .iload_n 1, 1), (39, .iload_n 2, 1), (40, .iconst 1, 1), (41, .iadd, 1), (42, .invokevirtual 226, 3), (45, .aload_n 0, 1), (46, .getfield 15, 3), (49, .iconst 4, 1), (50, .iload_n 3, 1), (51, .invokevirtual 116, 3), (54, .pop, 1), (55, .aload_n 0, 1), (56, .aload_n 0, 1), (57, .getfield 217, 3), (60, .invokevirtual 229, 3), (63, .aload_n 0, 1), (64, .iload 5, 2), (66, .putfield 49, 3), (69, .aload_n 0, 1), (70, .iload 6, 2), (72, .putfield 217, 3), (75, .aload_n 0, 1), (76, .iload 7, 2), (78, .putfield 214, 3), (81, .return_, 1)]
theorem dq_90_0 : sf_dok 90 md_90_0 := by
  unfold sf_dok
  decide +kernel
def md_90 : sf_D := md_90_0
theorem dq_90 : sf_dok 90 md_90 := dq_90_0
def md_91_0 : sf_D := [(0, .aload_n 0, 1), (1, .getfield 9, 3), (4, .getfield 96, 3), (7, .istore_n 2, 1), (8, .aload_n 0, 1), (9, .getfield 9, 3), (12, .getfield 113, 3), (15, .istore_n 3, 1), (16, .aload_n 0, 1), (17, .getfield 9, 3), (20, .bipush (44), 2), (22, .invokevirtual 107, 3), (25, .aload_n 0, 1), (26, .invokevirtual 220, 3), (29, .istore 4, 2), (31, .aload_n 0, 1), (32, .getfield 9, 3), (35, .bipush (45), 2), (37, .invokevirtual 107, 3), (40, .aload_n 0, 1), (41, .getfield 23, 3), (44, .iconst 0, 1), (45, .invokevirtual 169, 3), (48, .aload_n 0, 1), (49, .getfield 15, 3), (52, .bipush (9), 2), (54, .invokevirtual 72, 3), (57, .pop, 1), (58, .aload_n 0, 1), (59, .getfield 15, 3), (62, .iconst 4, 1), (63, .iconst 0, 1), (64, .invokevirtual 116, 3), (67, .istore 5, 2), (69, .aload_n 0, 1), (70, .getfield 15, 3), (73, .iconst 2, 1), (74, .iload_n 3, 1), (75, .invokevirtual 116, 3), (78, .istore 6, 2), (80, .aload_n 0, 1), (81, .getfield 15, 3), (84, .iload 5, 2), (86, .iconst 1, 1), (87, .iadd, 1), (88, .aload_n 0, 1), (89, .getfield 15, 3), (92, .getfield 69, 3), (95, .invokevirtual 201, 3), (98, .aload_n 0, 1), (99, .getfield 15, 3), (102, .bipush (10), 2), (104, .iconst (-1), 1), (105, .invokevirtual 116, 3), (108, .istore 7, 2), (110, .aload_n 0, 1), (111, .iload 4, 2), (113, .invokevirtual 131, 3), (116, .aload_n 0, 1), (117, .iload_n 2, 1), (118, .iload_n 1, 1), (119, .iload 6, 2), (121, .iload 7, 2), (123, .invokevirtual 232, 3), (126, .aload_n 0, 1), (127, .getfield 15, 3), (130, .bipush (11), 2), (132, .invokevirtual 72, 3), (135, .pop, 1), (136, .return_, 1)]
theorem dq_91_0 : sf_dok 91 md_91_0 := by
  unfold sf_dok
  decide +kernel
def md_91 : sf_D := md_91_0
theorem dq_91 : sf_dok 91 md_91 := dq_91_0
def md_92_0 : sf_D := [(0, .aload_n 0, 1), (1, .getfield 9, 3), (4, .getfield 159, 3), (7, .istore_n 1, 1), (8, .aload_n 0, 1), (9, .getfield 9, 3), (12, .iconst 3, 1), (13, .invokevirtual 107, 3), (16, .iload_n 1, 1), (17, .ireturn, 1)]
theorem dq_92_0 : sf_dok 92 md_92_0 := by
  unfold sf_dok
  decide +kernel
def md_92 : sf_D := md_92_0
theorem dq_92 : sf_dok 92 md_92 := dq_92_0
def md_93_0 : sf_D := [(0, .aload_n 0, 1), (1, .getfield 19, 3), (4, .iload_n 1, 1), (5, .invokevirtual 162, 3), (8, .aload_n 0, 1), (9, .getfield 19, 3), (12, .bipush (19), 2), (14, .iload_n 1, 1), (15, .invokevirtual 165, 3), (18, .pop, 1), (19, .return_, 1)]
theorem dq_93_0 : sf_dok 93 md_93_0 := by
  unfold sf_dok
  decide +kernel
def md_93 : sf_D := md_93_0
theorem dq_93 : sf_dok 93 md_93 := dq_93_0
def md_94_0 : sf_D := [(0, .aload_n 0, 1), (1, .invokevirtual 63, 3), (4, .ifCond .eq (21), 3), (7, .aload_n 0, 1), (8, .aload_n 0, 1), (9, .getfield 44, 3), (12, .iload_n 1, 1), (13, .invokevirtual 67, 3), (16, .ifCond .ge (9), 3), (19, .aload_n 0, 1), (20, .iload_n 1, 1), (21, .iconst 0, 1), (22, .invokevirtual 71, 3), (25, .return_, 1)]
theorem dq_94_0 : sf_dok 94 md_94_0 := by
  unfold sf_dok
  decide +kernel
def md_94 : sf_D := md_94_0
theorem dq_94 : sf_dok 94 md_94 := dq_94_0
def md_95_0 : sf_D := [(0, .iload_n 1, 1), (1, .ifCond .le (19), 3), (4, .iload_n 1, 1), (5, .sipush (300), 3), (8, .if_icmp .ge (12), 3), (11, .aload_n 0, 1), (12, .getfield 20, 3), (15, .iload_n 1, 1), (16, .iaload, 1), (17, .goto (4), 3), (20, .iconst (-1), 1), (21, .istore_n 3, 1), (22, .iconst 0, 1), (23, .istore 4, 2), (25, .iload 4, 2), (27, .sipush (1600), 3), (30, .if_icmp .ge (39), 3), (33, .iload_n 3, 1), (34, .ifCond .lt (35), 3), (37, .iload_n 3, 1), (38, .sipush (1600), 3), (41, .if_icmp .ge (28), 3), (44, .aload_n 0, 1), (45, .getfield 23, 3), (48, .iload_n 3, 1), (49, .iaload, 1), (50, .iload_n 2, 1), (51, .if_icmp .ne (5), 3), (54, .iload_n 3, 1), (55, .ireturn, 1), (56, .aload_n 0, 1), (57, .getfield 35, 3), (60, .iload_n 3, 1), (61, .iaload, 1), (62, .istore_n 3, 1), (63, .iinc 4 (1), 3), (66, .goto (-41), 3), (69, .iconst (-1), 1), (70, .ireturn, 1)]
theorem dq_95_0 : sf_dok 95 md_95_0 := by
  unfold sf_dok
  decide +kernel
def md_95 : sf_D := md_95_0
theorem dq_95 : sf_dok 95 md_95 := dq_95_0
def md_96_0 : sf_D := [(0, .aload_n 0, 1), (1, .getfield 51, 3), (4, .sipush (1600), 3), (7, .if_icmp .ge (20), 3), (10, .aload_n 0, 1), (11, .getfield 44, 3), (14, .ifCond .lt (13), 3), (17, .aload_n 0, 1), (18, .getfield 44, 3), (21, .sipush (300), 3), (24, .if_icmp .lt (12), 3), (27, .aload_n 0, 1), (28, .getfield 7, 3), (31, .iconst 1, 1), (32, .putfield 57, 3), (35, .return_, 1), (36, .aload_n 0, 1), (37, .getfield 23, 3), (40, .aload_n 0, 1), (41, .getfield 51, 3), (44, .iload_n 1, 1), (45, .iastore, 1), (46, .aload_n 0, 1), (47, .getfield 26, 3), (50, .aload_n 0, 1), (51, .getfield 51, 3), (54, .aload_n 0, 1), (55, .getfield 44, 3), (58, .iastore, 1), (59, .aload_n 0, 1), (60, .getfield 29, 3), (63, .aload_n 0, 1), (64, .getfield 51, 3), (67, .iload_n 2, 1), (68, .iastore, 1), (69, .aload_n 0, 1), (70, .getfield 35, 3), (73, .aload_n 0, 1), (74, .getfield 51, 3), (77, .aload_n 0, 1), (78, .getfield 20, 3), (81, .aload_n 0, 1), (82, .getfield 44, 3), (85, .iaload, 1), (86, .iastore, 1), (87, .aload_n 0, 1), (88, .getfield 20, 3), (91, .aload_n 0, 1), (92, .getfield 44, 3), (95, .aload_n 0, 1), (96, .getfield 51, 3), (99, .iastore, 1), (100, .aload_n 0, 1), (101, .dup, 1), (102, .getfield 51, 3), (105, .iconst 1, 1), (106, .iadd, 1), (107, .putfield 51, 3), (110, .return_, 1)]
theorem dq_96_0 : sf_dok 96 md_96_0 := by
  unfold sf_dok
  decide +kernel
def md_96 : sf_D := md_96_0
theorem dq_96 : sf_dok 96 md_96 := dq_96_0
def md_97_0 : sf_D := [(0, .aload_n 0, 1), (1, .getfield 9, 3), (4, .getfield 96, 3), (7, .istore_n 2, 1), (8, .aload_n 0, 1), (9, .getfield 9, 3), (12, .bipush (46), 2), (14, .invokevirtual 107, 3), (17, .aload_n 0, 1), (18, .invokevirtual 220, 3), (21, .istore_n 3, 1), (22, .aload_n 0, 1), (23, .getfield 15, 3), (26, .iconst 4, 1), (27, .iconst 0, 1), (28, .invokevirtual 116, 3), (31, .istore 4, 2), (33, .aload_n 0, 1), (34, .getfield 15, 3), (37, .iload_n 3, 1), (38, .invokevirtual 236, 3), (41, .istore 5, 2), (43, .aload_n 0, 1), (44, .getfield 19, 3), (47, .iload 5, 2), (49, .invokevirtual 239, 3), (52, .istore 6, 2), (54, .aload_n 0, 1), (55, .iload 5, 2), (57, .invokevirtual 242, 3), (60, .aload_n 0, 1), (61, .getfield 49, 3), (64, .istore 7, 2), (66, .aload_n 0, 1), (67, .getfield 46, 3), (70, .istore 8, 2), (72, .aload_n 0, 1), (73, .iconst (-1), 1), (74, .putfield 49, 3), (77, .aload_n 0, 1), (78, .iconst 0, 1), (79, .putfield 46, 3), (82, .aload_n 0, 1), (83, .iload_n 2, 1), (84, .iload_n 1, 1), (85, .iconst 1, 1), (86, .iadd, 1), (87, .invokevirtual 226, 3), (90, .aload_n 0, 1), (91, .getfield 15, 3), (94, .ldc2_w 208, 3), (97, .lconst 0, 1), (98, .invokevirtual 210, 3), (101, .aload_n 0, 1), (102, .getfield 15, 3), (105, .bipush (8), 2), (107, .invokevirtual 72, 3), (110, .pop, 1), (111, .aload_n 0, 1), (112, .iload 7, 2), (114, .putfield 49, 3), (117, .aload_n 0, 1), (118, .iload 8, 2), (120, .putfield 46, 3), (123, .aload_n 0, 1), (124, .getfield 19, 3), (127, .iload 6, 2), (129, .invokevirtual 245, 3), (132, .aload_n 0, 1), (133, .getfield 15, 3), (136, .iload 4, 2), (138, .iconst 1, 1), (139, .iadd, 1), (140, .aload_n 0, 1), (141, .getfield 15, 3), (144, .getfield 69, 3), (147, .invokevirtual 201, 3), (150, .aload_n 0, 1), (151, .getfield 15, 3), (154, .bipush (22), 2), (156, .iload 5, 2), (158, .invokevirtual 116, 3), (161, .pop, 1), (162, .iload_n 3, 1), (163, .ireturn, 1)]
theorem dq_97_0 : sf_dok 97 md_97_0 := by
  unfold sf_dok
  decide +kernel
def md_97 : sf_D := md_97_0
theorem dq_97 : sf_dok 97 md_97 := dq_97_0
def md_98_0 : sf_D := [(0, .aload_n 0, 1), (1, .getfield 59, 3), (4, .sipush (900), 3), (7, .if_icmp .lt (12), 3), (10, .aload_n 0, 1), (11, .iconst 1, 1), (12, .putfield 43, 3), (15, .sipush (899), 3), (18, .ireturn, 1), (19, .aload_n 0, 1), (20, .getfield 32, 3), (23, .aload_n 0, 1), (24, .getfield 59, 3), (27, .iload_n 1, 1), (28, .iastore, 1), (29, .aload_n 0, 1), (30, .getfield 23, 3), (33, .aload_n 0, 1), (34, .getfield 59, 3), (37, .aload_n 0, 1), (38, .getfield 35, 3), (41, .iastore, 1), (42, .aload_n 0, 1), (43, .getfield 26, 3), (46, .aload_n 0, 1), (47, .getfield 59, 3), (50, .iconst 0, 1), (51, .iastore, 1), (52, .aload_n 0, 1), (53, .getfield 29, 3), (56, .aload_n 0, 1), (57, .getfield 59, 3), (60, .iconst 0, 1), (61, .iastore, 1), (62, .aload_n 0, 1), (63, .dup, 1), (64, .getfield 59, 3), (67, .iconst 1, 1), (68, .iadd, 1), (69, .putfield 59, 3), (72, .aload_n 0, 1), (73, .getfield 59, 3), (76, .iconst 1, 1), (77, .isub, 1), (78, .ireturn, 1)]
theorem dq_98_0 : sf_dok 98 md_98_0 := by
  unfold sf_dok
  decide +kernel
def md_98 : sf_D := md_98_0
theorem dq_98 : sf_dok 98 md_98 := dq_98_0
def md_99_0 : sf_D := [(0, .aload_n 0, 1), (1, .getfield 44, 3), (4, .istore_n 2, 1), (5, .aload_n 0, 1), (6, .getfield 48, 3), (9, .sipush (300), 3), (12, .if_icmp .lt (13), 3), (15, .aload_n 0, 1), (16, .getfield 7, 3), (19, .iconst 1, 1), (20, .putfield 57, 3), (23, .iload_n 2, 1), (24, .ireturn, 1), (25, .aload_n 0, 1), (26, .aload_n 0, 1), (27, .getfield 48, 3), (30, .putfield 44, 3), (33, .aload_n 0, 1), (34, .dup, 1), (35, .getfield 48, 3), (38, .iconst 1, 1), (39, .iadd, 1), (40, .putfield 48, 3), (43, .aload_n 0, 1), (44, .getfield 13, 3), (47, .aload_n 0, 1), (48, .getfield 44, 3), (51, .iload_n 2, 1), (52, .iastore, 1), (53, .aload_n 0, 1), (54, .getfield 17, 3), (57, .aload_n 0, 1), (58, .getfield 44, 3), (61, .iload_n 1, 1), (62, .iastore, 1), (63, .aload_n 0, 1), (64, .getfield 20, 3), (67, .aload_n 0, 1), (68, .getfield 44, 3), (71, .iconst (-1), 1), (72, .iastore, 1), (73, .iload_n 2, 1), (74, .ireturn, 1)]
theorem dq_99_0 : sf_dok 99 md_99_0 := by
  unfold sf_dok
  decide +kernel
def md_99 : sf_D := md_99_0
theorem dq_99 : sf_dok 99 md_99 := dq_99_0
def md_100_0 : sf_D := [(0, .aload_n 0, 1), (1, .getfield 9, 3), (4, .bipush (6), 2), (6, .invokevirtual 107, 3), (9, .aload_n 0, 1), (10, .getfield 9, 3), (13, .getfield 79, 3), (16, .bipush (7), 2), (18, .if_icmp .eq (7), 3), (21, .iconst 1, 1), (22, .goto (4), 3), (25, .iconst 0, 1), (26, .istore_n 2, 1), (27, .iconst 0, 1), (28, .istore_n 3, 1), (29, .iload_n 2, 1), (30, .ifCond .eq (89), 3), (33, .iload_n 3, 1), (34, .bipush (8), 2), (36, .if_icmp .gt (83), 3), (39, .aload_n 0, 1), (40, .invokevirtual 220, 3), (43, .istore 4, 2), (45, .aload_n 0, 1), (46, .getfield 9, 3), (49, .getfield 79, 3), (52, .ifCond .eq (22), 3), (55, .aload_n 0, 1), (56, .getfield 19, 3), (59, .iload 4, 2), (61, .invokevirtual 248, 3), (64, .ifCond .ne (10), 3), (67, .aload_n 0, 1), (68, .getfield 9, 3), (71, .invokevirtual 76, 3), (74, .aload_n 0, 1), (75, .getfield 15, 3), (78, .iload_n 1, 1), (79, .invokevirtual 251, 3), (82, .iinc 3 (1), 3), (85, .aload_n 0, 1), (86, .getfield 9, 3), (89, .getfield 79, 3), (92, .bipush (12), 2), (94, .if_icmp .ne (7), 3), (97, .iconst 1, 1), (98, .goto (4), 3), (101, .iconst 0, 1), (102, .istore_n 2, 1), (103, .iload_n 2, 1), (104, .ifCond .eq (12), 3), (107, .aload_n 0, 1), (108, .getfield 9, 3), (111, .bipush (12), 2), (113, .invokevirtual 107, 3), (116, .goto (-87), 3), (119, .iload_n 3, 1), (120, .bipush (8), 2), (122, .if_icmp .le (10), 3), (125, .aload_n 0, 1), (126, .getfield 9, 3), (129, .invokevirtual 76, 3), (132, .aload_n 0, 1), (133, .getfield 9, 3), (136, .bipush (7), 2), (138, .invokevirtual 107, 3), (141, .return_, 1)]
theorem dq_100_0 : sf_dok 100 md_100_0 := by
  unfold sf_dok
  decide +kernel
def md_100 : sf_D := md_100_0
theorem dq_100 : sf_dok 100 md_100 := dq_100_0
def md_101_0 : sf_D := [(0, .aload_n 0, 1), (1, .aload_n 0, 1), (2, .getfield 44, 3), (5, .iload_n 1, 1), (6, .invokevirtual 67, 3), (9, .ifCond .lt (5), 3), (12, .iconst 0, 1), (13, .ireturn, 1), (14, .aload_n 0, 1), (15, .iload_n 1, 1), (16, .iconst 1, 1), (17, .invokevirtual 71, 3), (20, .iconst 1, 1), (21, .ireturn, 1)]
theorem dq_101_0 : sf_dok 101 md_101_0 := by
  unfold sf_dok
  decide +kernel
def md_101 : sf_D := md_101_0
theorem dq_101 : sf_dok 101 md_101 := dq_101_0
def md_102_0 : sf_D := [(0, .aload_n 0, 1), (1, .iload_n 1, 1), (2, .invokevirtual 62, 3), (5, .ifCond .eq (13), 3), (8, .aload_n 0, 1), (9, .getfield 26, 3), (12, .iload_n 1, 1), (13, .dup2, 1), (14, .iaload, 1), (15, .iconst 1, 1), (16, .iadd, 1), (17, .iastore, 1), (18, .return_, 1)]
theorem dq_102_0 : sf_dok 102 md_102_0 := by
  unfold sf_dok
  decide +kernel
def md_102 : sf_D := md_102_0
theorem dq_102 : sf_dok 102 md_102 := dq_102_0
def md_103_0 : sf_D := [(0, .iload_n 1, 1), (1, .ifCond .lt (14), 3), (4, .iload_n 1, 1), (5, .sipush (900), 3), (8, .if_icmp .ge (7), 3), (11, .iconst 1, 1), (12, .goto (4), 3), (15, .iconst 0, 1), (16, .ireturn, 1)]
theorem dq_103_0 : sf_dok 103 md_103_0 := by
  unfold sf_dok
  decide +kernel
def md_103 : sf_D := md_103_0
theorem dq_103 : sf_dok 103 md_103 := dq_103_0
def md_104_0 : sf_D := [(0, .aload_n 0, 1), (1, .iload_n 1, 1), (2, .putfield 44, 3), (5, .return_, 1)]
theorem dq_104_0 : sf_dok 104 md_104_0 := by
  unfold sf_dok
  decide +kernel
def md_104 : sf_D := md_104_0
theorem dq_104 : sf_dok 104 md_104 := dq_104_0
def md_105_0 : sf_D := [(0, .aload_n 0, 1), (1, .getfield 9, 3), (4, .getfield 96, 3), (7, .istore_n 2, 1), (8, .aload_n 0, 1), (9, .getfield 9, 3), (12, .getfield 113, 3), (15, .istore_n 3, 1), (16, .aload_n 0, 1), (17, .getfield 9, 3), (20, .bipush (47), 2), (22, .invokevirtual 107, 3), (25, .aload_n 0, 1), (26, .invokevirtual 220, 3), (29, .istore 4, 2), (31, .aload_n 0, 1), (32, .getfield 9, 3), (35, .getfield 79, 3), (38, .bipush (6), 2), (40, .if_icmp .ne (7), 3), (43, .iconst 1, 1), (44, .goto (4), 3), (47, .iconst 0, 1), (48, .istore 5, 2), (50, .iload 4, 2), (52, .istore 6, 2), (54, .iload 5, 2), (56, .ifCond .eq (27), 3), (59, .aload_n 0, 1), (60, .getfield 9, 3), (63, .bipush (6), 2), (65, .invokevirtual 107, 3), (68, .aload_n 0, 1), (69, .invokevirtual 220, 3), (72, .istore 6, 2), (74, .aload_n 0, 1), (75, .getfield 9, 3), (78, .bipush (7), 2), (80, .invokevirtual 107, 3), (83, .aload_n 0, 1), (84, .getfield 42, 3), (87, .istore 7, 2), (89, .aload_n 0, 1), (90, .iload_n 2, 1), (91, .iload_n 1, 1), (92, .iconst 1, 1), (93, .iadd, 1), (94, .invokevirtual 99, 3), (97, .ifCond .eq (19), 3), (100, .aload_n 0, 1), (101, .aload_n 0, 1), (102, .getfield 9, 3), (105, .getfield 96, 3), (108, .iload_n 1, 1), (109, .iconst 1, 1), (110, .iadd, 1), (111, .iload 7, 2), (113, .invokevirtual 254, 3), (116, .aload_n 0, 1), (117, .getfield 15, 3), (120, .iconst 3, 1), (121, .iload_n 3, 1), (122, .invokevirtual 116, 3), (125, .pop, 1), (126, .iload 5, 2), (128, .ifCond .eq (15), 3), (131, .aload_n 0, 1), (132, .getfield 19, 3), (135, .bipush (18), 2), (137, .iload 6, 2), (139, .invokevirtual 165, 3), (142, .pop, 1), (143, .aload_n 0, 1), (144, .getfield 15, 3), (147, .bipush (23), 2), (149, .iload 4, 2), (151, .iload 5, 2), (153, .ifCond .eq (7), 3), (156, .iconst 1, 1), (157, .goto (4), 3), (160, .iconst 0, 1), (161, .invokevirtual 257, 3), (164, .pop, 1), (165, .aload_n 0, 1), (166, .getfield 15, 3), (169, .aload_n 0, 1), (170, .getfield 42, 3), (173, .iload 7, 2), (175, .isub, 1), (176, .invokevirtual 72, 3), (179, .pop, 1), (180, .iload 7, 2), (182, .istore 8, 2), (184, .iload 8, 2), (186, .aload_n 0, 1), (187, .getfield 42, 3), (190, .if_icmp .ge (34), 3), (193, .iload 8, 2), (195, .aload_n 0, 1), (196, .getfield 27, 3)]
theorem dq_105_0 : sf_dok 105 md_105_0 := by
  unfold sf_dok
  decide +kernel
def md_105_1 : sf_D := [(199, .arraylength, 1), (200, .if_icmp .ge (24), 3), (203, .aload_n 0, 1), (204, .getfield 15, 3), (207, .aload_n 0, 1), (208, .getfield 27, 3), (211, .iload 8, 2), (213, .iaload, 1), (214, .invokevirtual 72, 3), (217, .pop, 1), (218, .iinc 8 (1), 3), (221, .goto (-37), 3), (224, .aload_n 0, 1), (225, .iload 7, 2), (227, .putfield 42, 3), (230, .aload_n 0, 1), (231, .iload 4, 2), (233, .invokevirtual 131, 3), (236, .return_, 1)]
theorem dq_105_1 : sf_dok 105 md_105_1 := by
  unfold sf_dok
  decide +kernel
def md_105 : sf_D := md_105_0 ++ md_105_1
theorem dq_105 : sf_dok 105 md_105 := (sf_dap dq_105_0 dq_105_1)
def md_106_0 : sf_D := [(0, .iconst 0, 1), (1, .istore 4, 2), (3, .iload 4, 2), (5, .sipush (3000), 3), (8, .if_icmp .gt (126), 3), (11, .aload_n 0, 1), (12, .iload_n 1, 1), (13, .invokevirtual 89, 3), (16, .ifCond .eq (118), 3), (19, .aload_n 0, 1), (20, .getfield 15, 3), (23, .iconst 1, 1), (24, .aload_n 0, 1), (25, .getfield 9, 3), (28, .getfield 113, 3), (31, .invokevirtual 116, 3), (34, .pop, 1), (35, .aload_n 0, 1), (36, .getfield 9, 3), (39, .getfield 79, 3), (42, .bipush (46), 2), (44, .if_icmp .ne (16), 3), (47, .aload_n 0, 1), (48, .aload_n 0, 1), (49, .iload_n 2, 1), (50, .invokevirtual 128, 3), (53, .iload_n 3, 1), (54, .invokevirtual 260, 3), (57, .goto (71), 3), (60, .aload_n 0, 1), (61, .getfield 9, 3), (64, .getfield 79, 3), (67, .bipush (51), 2), (69, .if_icmp .ne (22), 3), (72, .aload_n 0, 1), (73, .getfield 9, 3), (76, .bipush (51), 2), (78, .invokevirtual 107, 3), (81, .aload_n 0, 1), (82, .getfield 9, 3), (85, .invokevirtual 110, 3), (88, .goto (40), 3), (91, .aload_n 0, 1), (92, .invokevirtual 220, 3), (95, .istore 5, 2), (97, .aload_n 0, 1), (98, .getfield 9, 3), (101, .bipush (19), 2), (103, .invokevirtual 107, 3), (106, .aload_n 0, 1), (107, .getfield 23, 3), (110, .iconst 0, 1), (111, .invokevirtual 169, 3), (114, .aload_n 0, 1), (115, .iload 5, 2), (117, .iload_n 3, 1), (118, .invokevirtual 260, 3), (121, .aload_n 0, 1), (122, .getfield 9, 3), (125, .invokevirtual 110, 3), (128, .iinc 4 (1), 3), (131, .goto (-128), 3), (134, .aload_n 0, 1), (135, .getfield 9, 3), (138, .getfield 96, 3), (141, .iload_n 1, 1), (142, .if_icmp .le (10), 3), (145, .aload_n 0, 1), (146, .getfield 9, 3), (149, .invokevirtual 76, 3), (152, .return_, 1)]
theorem dq_106_0 : sf_dok 106 md_106_0 := by
  unfold sf_dok
  decide +kernel
def md_106 : sf_D := md_106_0
theorem dq_106 : sf_dok 106 md_106 := dq_106_0
def md_107_0 : sf_D := [(0, .iload_n 2, 1), (1, .istore_n 3, 1), (2, .iload_n 3, 1), (3, .aload_n 0, 1), (4, .getfield 42, 3), (7, .if_icmp .ge (45), 3), (10, .iload_n 3, 1), (11, .aload_n 0, 1), (12, .getfield 27, 3), (15, .arraylength, 1), (16, .if_icmp .ge (36), 3), (19, .aload_n 0, 1), (20, .getfield 27, 3), (23, .iload_n 3, 1), (24, .iaload, 1), (25, .iload_n 1, 1), (26, .if_icmp .ne (20), 3), (29, .aload_n 0, 1), (30, .getfield 15, 3), (33, .bipush (24), 2), (35, .aload_n 0, 1), (36, .getfield 42, 3), (39, .iload_n 3, 1), (40, .isub, 1), (41, .invokevirtual 116, 3), (44, .pop, 1), (45, .return_, 1), (46, .iinc 3 (1), 3), (49, .goto (-47), 3), (52, .aload_n 0, 1), (53, .getfield 42, 3), (56, .iload_n 2, 1), (57, .isub, 1), (58, .bipush (40), 2), (60, .if_icmp .ge (15), 3), (63, .aload_n 0, 1), (64, .getfield 42, 3), (67, .aload_n 0, 1), (68, .getfield 27, 3), (71, .arraylength, 1), (72, .if_icmp .lt (16), 3), (75, .aload_n 0, 1), (76, .getfield 15, 3), (79, .bipush (15), 2), (81, .bipush (8), 2), (83, .invokevirtual 116, 3), (86, .pop, 1), (87, .return_, 1), (88, .aload_n 0, 1), (89, .getfield 27, 3), (92, .aload_n 0, 1), (93, .getfield 42, 3), (96, .iload_n 1, 1), (97, .iastore, 1), (98, .aload_n 0, 1), (99, .dup, 1), (100, .getfield 42, 3), (103, .iconst 1, 1), (104, .iadd, 1), (105, .putfield 42, 3), (108, .return_, 1)]
theorem dq_107_0 : sf_dok 107 md_107_0 := by
  unfold sf_dok
  decide +kernel
def md_107 : sf_D := md_107_0
theorem dq_107 : sf_dok 107 md_107 := dq_107_0
def md_108_0 : sf_D := [(0, .aload_n 0, 1), (1, .getfield 9, 3), (4, .getfield 96, 3), (7, .istore_n 2, 1), (8, .aload_n 0, 1), (9, .getfield 9, 3), (12, .bipush (54), 2), (14, .invokevirtual 107, 3), (17, .aload_n 0, 1), (18, .getfield 15, 3), (21, .bipush (12), 2), (23, .iconst 0, 1), (24, .invokevirtual 116, 3), (27, .istore_n 3, 1), (28, .aload_n 0, 1), (29, .dup, 1), (30, .getfield 46, 3), (33, .iconst 1, 1), (34, .iadd, 1), (35, .putfield 46, 3), (38, .aload_n 0, 1), (39, .iload_n 2, 1), (40, .iload_n 1, 1), (41, .iconst 1, 1), (42, .iadd, 1), (43, .invokevirtual 226, 3), (46, .aload_n 0, 1), (47, .dup, 1), (48, .getfield 46, 3), (51, .iconst 1, 1), (52, .isub, 1), (53, .putfield 46, 3), (56, .aload_n 0, 1), (57, .getfield 15, 3), (60, .bipush (13), 2), (62, .iconst 1, 1), (63, .invokevirtual 116, 3), (66, .pop, 1), (67, .aload_n 0, 1), (68, .getfield 15, 3), (71, .iconst 4, 1), (72, .iconst 0, 1), (73, .invokevirtual 116, 3), (76, .istore 4, 2), (78, .aload_n 0, 1), (79, .getfield 15, 3), (82, .iload_n 3, 1), (83, .iconst 1, 1), (84, .iadd, 1), (85, .aload_n 0, 1), (86, .getfield 15, 3), (89, .getfield 69, 3), (92, .invokevirtual 201, 3), (95, .aload_n 0, 1), (96, .iload_n 2, 1), (97, .invokevirtual 89, 3), (100, .ifCond .ne (10), 3), (103, .aload_n 0, 1), (104, .getfield 9, 3), (107, .invokevirtual 76, 3), (110, .aload_n 0, 1), (111, .getfield 9, 3), (114, .bipush (55), 2), (116, .invokevirtual 107, 3), (119, .aload_n 0, 1), (120, .getfield 9, 3), (123, .getfield 79, 3), (126, .iconst 3, 1), (127, .if_icmp .ne (14), 3), (130, .aload_n 0, 1), (131, .aload_n 0, 1), (132, .invokevirtual 220, 3), (135, .invokevirtual 131, 3), (138, .goto (13), 3), (141, .aload_n 0, 1), (142, .getfield 15, 3), (145, .bipush (17), 2), (147, .invokevirtual 72, 3), (150, .pop, 1), (151, .aload_n 0, 1), (152, .iload_n 2, 1), (153, .iload_n 1, 1), (154, .iconst 1, 1), (155, .iadd, 1), (156, .invokevirtual 226, 3), (159, .aload_n 0, 1), (160, .getfield 15, 3), (163, .iload 4, 2), (165, .iconst 1, 1), (166, .iadd, 1), (167, .aload_n 0, 1), (168, .getfield 15, 3), (171, .getfield 69, 3), (174, .invokevirtual 201, 3), (177, .return_, 1)]
theorem dq_108_0 : sf_dok 108 md_108_0 := by
  unfold sf_dok
  decide +kernel
def md_108 : sf_D := md_108_0
theorem dq_108 : sf_dok 108 md_108 := dq_108_0
def md_109_0 : sf_D := [(0, .aload_n 0, 1), (1, .getfield 9, 3), (4, .bipush (52), 2), (6, .invokevirtual 107, 3), (9, .aload_n 0, 1), (10, .getfield 23, 3), (13, .iconst 0, 1), (14, .invokevirtual 169, 3), (17, .aload_n 0, 1), (18, .bipush (20), 2), (20, .bipush (43), 2), (22, .bipush (48), 2), (24, .invokevirtual 182, 3), (27, .return_, 1)]
theorem dq_109_0 : sf_dok 109 md_109_0 := by
  unfold sf_dok
  decide +kernel
def md_109 : sf_D := md_109_0
theorem dq_109 : sf_dok 109 md_109 := dq_109_0
def md_110_0 : sf_D := [(0, .aload_n 0, 1), (1, .getfield 23, 3), (4, .getfield 195, 3), (7, .istore 4, 2), (9, .aload_n 0, 1), (10, .getfield 23, 3), (13, .getfield 173, 3), (16, .tableswitch (78) 1 3 #[28, 52, 65], 28), (44, .aload_n 0, 1), (45, .getfield 15, 3), (48, .iload 4, 2), (50, .iload_n 1, 1), (51, .invokevirtual 201, 3), (54, .aload_n 0, 1), (55, .getfield 19, 3), (58, .aload_n 0, 1), (59, .invokevirtual 188, 3), (62, .invokevirtual 162, 3), (65, .goto (36), 3), (68, .aload_n 0, 1), (69, .getfield 15, 3), (72, .iload 4, 2), (74, .iload_n 2, 1), (75, .invokevirtual 201, 3), (78, .goto (23), 3), (81, .aload_n 0, 1), (82, .getfield 15, 3), (85, .iload 4, 2), (87, .iload_n 3, 1), (88, .invokevirtual 201, 3), (91, .goto (10), 3), (94, .aload_n 0, 1), (95, .getfield 9, 3), (98, .invokevirtual 76, 3), (101, .return_, 1)]
theorem dq_110_0 : sf_dok 110 md_110_0 := by
  unfold sf_dok
  decide +kernel
def md_110 : sf_D := md_110_0
theorem dq_110 : sf_dok 110 md_110 := dq_110_0
def md_111_0 : sf_D := [(0, .aload_n 0, 1), (1, .getfield 15, 3), (4, .aload_n 0, 1), (5, .getfield 23, 3), (8, .getfield 195, 3), (11, .aload_n 0, 1), (12, .getfield 23, 3), (15, .getfield 173, 3), (18, .iconst 1, 1), (19, .if_icmp .ne (7), 3), (22, .iconst 2, 1), (23, .goto (4), 3), (26, .iconst 1, 1), (27, .iadd, 1), (28, .invokevirtual 198, 3), (31, .ireturn, 1)]
theorem dq_111_0 : sf_dok 111 md_111_0 := by
  unfold sf_dok
  decide +kernel
def md_111 : sf_D := md_111_0
theorem dq_111 : sf_dok 111 md_111 := dq_111_0
def md_112_0 : sf_D := [(0, .aload_n 0, 1), (1, .getfield 19, 3), (4, .invokevirtual 204, 3), (7, .ifCond .ne (10), 3), (10, .aload_n 0, 1), (11, .getfield 9, 3), (14, .invokevirtual 76, 3), (17, .aload_n 0, 1), (18, .getfield 9, 3), (21, .bipush (48), 2), (23, .invokevirtual 107, 3), (26, .aload_n 0, 1), (27, .getfield 9, 3), (30, .getfield 79, 3), (33, .iconst 2, 1), (34, .if_icmp .ne (17), 3), (37, .aload_n 0, 1), (38, .getfield 15, 3), (41, .ldc2_w 208, 3), (44, .lconst 0, 1), (45, .invokevirtual 210, 3), (48, .goto (11), 3), (51, .aload_n 0, 1), (52, .getfield 23, 3), (55, .iconst 0, 1), (56, .invokevirtual 169, 3), (59, .aload_n 0, 1), (60, .getfield 15, 3), (63, .bipush (8), 2), (65, .invokevirtual 72, 3), (68, .pop, 1), (69, .return_, 1)]
theorem dq_112_0 : sf_dok 112 md_112_0 := by
  unfold sf_dok
  decide +kernel
def md_112 : sf_D := md_112_0
theorem dq_112 : sf_dok 112 md_112 := dq_112_0
def md_113_0 : sf_D := [(0, .aload_n 0, 1), (1, .getfield 9, 3), (4, .bipush (56), 2), (6, .invokevirtual 107, 3), (9, .aload_n 0, 1), (10, .getfield 23, 3), (13, .iconst 0, 1), (14, .invokevirtual 169, 3), (17, .aload_n 0, 1), (18, .getfield 15, 3), (21, .bipush (14), 2), (23, .invokevirtual 72, 3), (26, .pop, 1), (27, .return_, 1)]
theorem dq_113_0 : sf_dok 113 md_113_0 := by
  unfold sf_dok
  decide +kernel
def md_113 : sf_D := md_113_0
theorem dq_113 : sf_dok 113 md_113 := dq_113_0
def md_114_0 : sf_D := [(0, .aload_n 0, 1), (1, .getfield 49, 3), (4, .iconst (-1), 1), (5, .if_icmp .ne (10), 3), (8, .aload_n 0, 1), (9, .getfield 9, 3), (12, .invokevirtual 76, 3), (15, .aload_n 0, 1), (16, .getfield 9, 3), (19, .invokevirtual 192, 3), (22, .aload_n 0, 1), (23, .getfield 46, 3), (26, .aload_n 0, 1), (27, .getfield 214, 3), (30, .if_icmp .le (22), 3), (33, .aload_n 0, 1), (34, .getfield 15, 3), (37, .bipush (13), 2), (39, .aload_n 0, 1), (40, .getfield 46, 3), (43, .aload_n 0, 1), (44, .getfield 214, 3), (47, .isub, 1), (48, .invokevirtual 116, 3), (51, .pop, 1), (52, .iload_n 1, 1), (53, .ifCond .eq (22), 3), (56, .aload_n 0, 1), (57, .aload_n 0, 1), (58, .getfield 15, 3), (61, .iconst 4, 1), (62, .aload_n 0, 1), (63, .getfield 217, 3), (66, .invokevirtual 116, 3), (69, .putfield 217, 3), (72, .goto (16), 3), (75, .aload_n 0, 1), (76, .getfield 15, 3), (79, .iconst 4, 1), (80, .aload_n 0, 1), (81, .getfield 49, 3), (84, .invokevirtual 116, 3), (87, .pop, 1), (88, .return_, 1)]
theorem dq_114_0 : sf_dok 114 md_114_0 := by
  unfold sf_dok
  decide +kernel
def md_114 : sf_D := md_114_0
theorem dq_114 : sf_dok 114 md_114 := dq_114_0
def md_115_0 : sf_D := [(0, .aload_n 0, 1), (1, .getfield 19, 3), (4, .invokevirtual 204, 3), (7, .ifCond .ne (10), 3), (10, .aload_n 0, 1), (11, .getfield 9, 3), (14, .invokevirtual 76, 3), (17, .aload_n 0, 1), (18, .getfield 9, 3), (21, .getfield 79, 3), (24, .ifCond .eq (7), 3), (27, .iconst 1, 1), (28, .goto (4), 3), (31, .iconst 0, 1), (32, .istore_n 1, 1), (33, .iconst 0, 1), (34, .istore_n 2, 1), (35, .iload_n 1, 1), (36, .ifCond .eq (74), 3), (39, .iload_n 2, 1), (40, .sipush (3000), 3), (43, .if_icmp .ge (67), 3), (46, .aload_n 0, 1), (47, .getfield 9, 3), (50, .invokevirtual 192, 3), (53, .aload_n 0, 1), (54, .invokevirtual 220, 3), (57, .istore_n 3, 1), (58, .aload_n 0, 1), (59, .getfield 9, 3), (62, .getfield 79, 3), (65, .ifCond .eq (21), 3), (68, .aload_n 0, 1), (69, .getfield 19, 3), (72, .iload_n 3, 1), (73, .invokevirtual 223, 3), (76, .ifCond .ne (10), 3), (79, .aload_n 0, 1), (80, .getfield 9, 3), (83, .invokevirtual 76, 3), (86, .aload_n 0, 1), (87, .getfield 9, 3), (90, .getfield 79, 3), (93, .bipush (12), 2), (95, .if_icmp .ne (7), 3), (98, .iconst 1, 1), (99, .goto (4), 3), (102, .iconst 0, 1), (103, .istore_n 1, 1), (104, .iinc 2 (1), 3), (107, .goto (-72), 3), (110, .return_, 1)]
theorem dq_115_0 : sf_dok 115 md_115_0 := by
  unfold sf_dok
  decide +kernel
def md_115 : sf_D := md_115_0
theorem dq_115 : sf_dok 115 md_115 := dq_115_0
def md_116_0 : sf_D := [(0, .aload_n 0, 1), (1, .aload_n 0, 1), (2, .getfield 44, 3), (5, .iload_n 1, 1), (6, .invokevirtual 67, 3), (9, .istore_n 2, 1), (10, .iload_n 2, 1), (11, .ifCond .lt (10), 3), (14, .iload_n 2, 1), (15, .sipush (1600), 3), (18, .if_icmp .lt (11), 3), (21, .aload_n 0, 1), (22, .iload_n 1, 1), (23, .iconst 2, 1), (24, .invokevirtual 71, 3), (27, .iconst 1, 1), (28, .ireturn, 1), (29, .aload_n 0, 1), (30, .getfield 29, 3), (33, .iload_n 2, 1), (34, .iaload, 1), (35, .iconst 1, 1), (36, .if_icmp .ne (5), 3), (39, .iconst 0, 1), (40, .ireturn, 1), (41, .aload_n 0, 1), (42, .getfield 29, 3), (45, .iload_n 2, 1), (46, .iconst 2, 1), (47, .iastore, 1), (48, .iconst 1, 1), (49, .ireturn, 1)]
theorem dq_116_0 : sf_dok 116 md_116_0 := by
  unfold sf_dok
  decide +kernel
def md_116 : sf_D := md_116_0
theorem dq_116 : sf_dok 116 md_116 := dq_116_0
def md_117_0 : sf_D := [(0, .aload_n 0, 1), (1, .getfield 9, 3), (4, .getfield 166, 3), (7, .istore_n 1, 1), (8, .aload_n 0, 1), (9, .getfield 15, 3), (12, .getfield 69, 3), (15, .istore_n 2, 1), (16, .aload_n 0, 1), (17, .getfield 15, 3), (20, .getfield 52, 3), (23, .istore_n 3, 1), (24, .aload_n 0, 1), (25, .getfield 23, 3), (28, .iconst 0, 1), (29, .invokevirtual 169, 3), (32, .aload_n 0, 1), (33, .getfield 9, 3), (36, .getfield 79, 3), (39, .bipush (19), 2), (41, .if_icmp .ne (126), 3), (44, .aload_n 0, 1), (45, .getfield 23, 3), (48, .getfield 173, 3), (51, .ifCond .ne (10), 3), (54, .aload_n 0, 1), (55, .getfield 9, 3), (58, .invokevirtual 76, 3), (61, .aload_n 0, 1), (62, .getfield 15, 3), (65, .iload_n 2, 1), (66, .iload_n 3, 1), (67, .aload_n 0, 1), (68, .getfield 15, 3), (71, .getfield 58, 3), (74, .invokevirtual 85, 3), (77, .aload_n 0, 1), (78, .getfield 19, 3), (81, .iload_n 2, 1), (82, .invokevirtual 176, 3), (85, .aload_n 0, 1), (86, .getfield 9, 3), (89, .bipush (19), 2), (91, .invokevirtual 107, 3), (94, .aload_n 0, 1), (95, .getfield 23, 3), (98, .iconst 0, 1), (99, .invokevirtual 169, 3), (102, .aload_n 0, 1), (103, .getfield 9, 3), (106, .getfield 79, 3), (109, .iconst 2, 1), (110, .if_icmp .eq (10), 3), (113, .aload_n 0, 1), (114, .getfield 9, 3), (117, .invokevirtual 76, 3), (120, .aload_n 0, 1), (121, .getfield 9, 3), (124, .getfield 166, 3), (127, .istore 4, 2), (129, .aload_n 0, 1), (130, .getfield 9, 3), (133, .iload_n 1, 1), (134, .invokevirtual 179, 3), (137, .aload_n 0, 1), (138, .getfield 23, 3), (141, .iconst 0, 1), (142, .invokevirtual 169, 3), (145, .aload_n 0, 1), (146, .bipush (19), 2), (148, .bipush (41), 2), (150, .bipush (46), 2), (152, .invokevirtual 182, 3), (155, .aload_n 0, 1), (156, .getfield 9, 3), (159, .iload 4, 2), (161, .invokevirtual 179, 3), (164, .goto (137), 3), (167, .aload_n 0, 1), (168, .getfield 9, 3), (171, .getfield 79, 3), (174, .invokestatic 185, 3), (177, .ifCond .ne (16), 3), (180, .aload_n 0, 1), (181, .getfield 15, 3), (184, .bipush (17), 2), (186, .invokevirtual 72, 3), (189, .pop, 1), (190, .goto (111), 3), (193, .aload_n 0, 1), (194, .getfield 9, 3), (197, .getfield 79, 3), (200, .invokestatic 185, 3), (203, .istore 4, 2), (205, .aload_n 0, 1), (206, .getfield 23, 3), (209, .getfield 173, 3), (212, .istore 5, 2), (214, .aload_n 0, 1), (215, .invokevirtual 188, 3)]
theorem dq_117_0 : sf_dok 117 md_117_0 := by
  unfold sf_dok
  decide +kernel
def md_117_1 : sf_D := [(218, .istore 6, 2), (220, .aload_n 0, 1), (221, .bipush (18), 2), (223, .bipush (40), 2), (225, .bipush (45), 2), (227, .invokevirtual 182, 3), (230, .aload_n 0, 1), (231, .getfield 9, 3), (234, .invokevirtual 192, 3), (237, .aload_n 0, 1), (238, .getfield 23, 3), (241, .iconst 0, 1), (242, .invokevirtual 169, 3), (245, .aload_n 0, 1), (246, .getfield 15, 3), (249, .iload 4, 2), (251, .invokevirtual 72, 3), (254, .pop, 1), (255, .iload 5, 2), (257, .iconst 1, 1), (258, .if_icmp .ne (12), 3), (261, .aload_n 0, 1), (262, .iload 6, 2), (264, .invokevirtual 131, 3), (267, .goto (34), 3), (270, .iload 5, 2), (272, .iconst 2, 1), (273, .if_icmp .ne (16), 3), (276, .aload_n 0, 1), (277, .getfield 15, 3), (280, .bipush (42), 2), (282, .invokevirtual 72, 3), (285, .pop, 1), (286, .goto (15), 3), (289, .aload_n 0, 1), (290, .getfield 15, 3), (293, .bipush (47), 2), (295, .iload 6, 2), (297, .invokevirtual 116, 3), (300, .pop, 1), (301, .return_, 1)]
theorem dq_117_1 : sf_dok 117 md_117_1 := by
  unfold sf_dok
  decide +kernel
def md_117 : sf_D := md_117_0 ++ md_117_1
theorem dq_117 : sf_dok 117 md_117 := (sf_dap dq_117_0 dq_117_1)
def md_118_0 : sf_D := [(0, .aload_n 0, 1), (1, .iload_n 1, 1), (2, .putfield 35, 3), (5, .aload_n 0, 1), (6, .iload_n 2, 1), (7, .putfield 47, 3), (10, .aload_n 0, 1), (11, .iload_n 3, 1), (12, .putfield 59, 3), (15, .return_, 1)]
theorem dq_118_0 : sf_dok 118 md_118_0 := by
  unfold sf_dok
  decide +kernel
def md_118 : sf_D := md_118_0
theorem dq_118 : sf_dok 118 md_118 := dq_118_0
def md_119_0 : sf_D := [(0, .aload_n 0, 1), (1, .getfield 54, 3), (4, .ifCond .le (41), 3), (7, .aload_n 0, 1), (8, .getfield 54, 3), (11, .sipush (1600), 3), (14, .if_icmp .gt (31), 3), (17, .aload_n 0, 1), (18, .getfield 38, 3), (21, .aload_n 0, 1), (22, .getfield 54, 3), (25, .iconst 1, 1), (26, .isub, 1), (27, .iaload, 1), (28, .iload_n 1, 1), (29, .if_icmp .lt (16), 3), (32, .aload_n 0, 1), (33, .dup, 1), (34, .getfield 54, 3), (37, .iconst 1, 1), (38, .isub, 1), (39, .putfield 54, 3), (42, .goto (-42), 3), (45, .return_, 1)]
theorem dq_119_0 : sf_dok 119 md_119_0 := by
  unfold sf_dok
  decide +kernel
def md_119 : sf_D := md_119_0
theorem dq_119 : sf_dok 119 md_119 := dq_119_0
def md_120_0 : sf_D := [(0, .aload_n 0, 1), (1, .iload_n 1, 1), (2, .putfield 23, 3), (5, .aload_n 0, 1), (6, .invokevirtual 41, 3), (9, .return_, 1)]
theorem dq_120_0 : sf_dok 120 md_120_0 := by
  unfold sf_dok
  decide +kernel
def md_120 : sf_D := md_120_0
theorem dq_120 : sf_dok 120 md_120 := dq_120_0
def md_121_0 : sf_D := [(0, .iload_n 0, 1), (1, .tableswitch (36) 23 25 #[27, 30, 33], 27), (28, .bipush (27), 2), (30, .ireturn, 1), (31, .bipush (28), 2), (33, .ireturn, 1), (34, .bipush (29), 2), (36, .ireturn, 1), (37, .iconst 0, 1), (38, .ireturn, 1)]
theorem dq_121_0 : sf_dok 121 md_121_0 := by
  unfold sf_dok
  decide +kernel
def md_121 : sf_D := md_121_0
theorem dq_121 : sf_dok 121 md_121 := dq_121_0
def md_122_0 : sf_D := [(0, .aload_n 0, 1), (1, .getfield 15, 3), (4, .iconst 0, 1), (5, .invokevirtual 72, 3), (8, .pop, 1), (9, .aload_n 0, 1), (10, .getfield 15, 3), (13, .getfield 31, 3), (16, .ifCond .eq (10), 3), (19, .aload_n 0, 1), (20, .getfield 9, 3), (23, .invokevirtual 76, 3), (26, .aload_n 0, 1), (27, .getfield 9, 3), (30, .getfield 79, 3), (33, .ifCond .eq (7), 3), (36, .iconst 1, 1), (37, .goto (4), 3), (40, .iconst 0, 1), (41, .istore_n 2, 1), (42, .iload_n 2, 1), (43, .ifCond .eq (13), 3), (46, .aload_n 0, 1), (47, .getfield 19, 3), (50, .invokevirtual 82, 3), (53, .goto (19), 3), (56, .aload_n 0, 1), (57, .getfield 15, 3), (60, .iload_n 1, 1), (61, .aload_n 0, 1), (62, .getfield 55, 3), (65, .aload_n 0, 1), (66, .getfield 61, 3), (69, .invokevirtual 85, 3), (72, .iload_n 2, 1), (73, .ireturn, 1)]
theorem dq_122_0 : sf_dok 122 md_122_0 := by
  unfold sf_dok
  decide +kernel
def md_122 : sf_D := md_122_0
theorem dq_122 : sf_dok 122 md_122 := dq_122_0
def md_123_0 : sf_D := [(0, .iconst 0, 1), (1, .istore_n 1, 1), (2, .iload_n 1, 1), (3, .aload_n 0, 1), (4, .getfield 51, 3), (7, .if_icmp .ge (63), 3), (10, .iload_n 1, 1), (11, .sipush (1600), 3), (14, .if_icmp .ge (56), 3), (17, .aload_n 0, 1), (18, .getfield 26, 3), (21, .iload_n 1, 1), (22, .iaload, 1), (23, .istore_n 2, 1), (24, .aload_n 0, 1), (25, .getfield 29, 3), (28, .iload_n 1, 1), (29, .iaload, 1), (30, .iconst 2, 1), (31, .if_icmp .eq (33), 3), (34, .iload_n 2, 1), (35, .ifCond .lt (29), 3), (38, .iload_n 2, 1), (39, .sipush (300), 3), (42, .if_icmp .ge (22), 3), (45, .aload_n 0, 1), (46, .getfield 32, 3), (49, .iload_n 1, 1), (50, .aload_n 0, 1), (51, .getfield 7, 3), (54, .aload_n 0, 1), (55, .getfield 17, 3), (58, .iload_n 2, 1), (59, .iaload, 1), (60, .invokevirtual 79, 3), (63, .iastore, 1), (64, .iinc 1 (1), 3), (67, .goto (-65), 3), (70, .iconst 0, 1), (71, .istore_n 1, 1), (72, .iload_n 1, 1), (73, .aload_n 0, 1), (74, .getfield 54, 3), (77, .if_icmp .ge (32), 3), (80, .iload_n 1, 1), (81, .sipush (1600), 3), (84, .if_icmp .ge (25), 3), (87, .aload_n 0, 1), (88, .aload_n 0, 1), (89, .getfield 38, 3), (92, .iload_n 1, 1), (93, .iaload, 1), (94, .aload_n 0, 1), (95, .getfield 41, 3), (98, .iload_n 1, 1), (99, .iaload, 1), (100, .invokevirtual 83, 3), (103, .iinc 1 (1), 3), (106, .goto (-34), 3), (109, .return_, 1)]
theorem dq_123_0 : sf_dok 123 md_123_0 := by
  unfold sf_dok
  decide +kernel
def md_123 : sf_D := md_123_0
theorem dq_123 : sf_dok 123 md_123 := dq_123_0
def md_124_0 : sf_D := [(0, .aload_n 0, 1), (1, .iload_n 1, 1), (2, .invokevirtual 62, 3), (5, .ifCond .ne (5), 3), (8, .iconst 0, 1), (9, .ireturn, 1), (10, .aload_n 0, 1), (11, .getfield 29, 3), (14, .iload_n 1, 1), (15, .dup2, 1), (16, .iaload, 1), (17, .iconst 1, 1), (18, .iadd, 1), (19, .iastore, 1), (20, .aload_n 0, 1), (21, .getfield 29, 3), (24, .iload_n 1, 1), (25, .iaload, 1), (26, .iconst 1, 1), (27, .isub, 1), (28, .ireturn, 1)]
theorem dq_124_0 : sf_dok 124 md_124_0 := by
  unfold sf_dok
  decide +kernel
def md_124 : sf_D := md_124_0
theorem dq_124 : sf_dok 124 md_124 := dq_124_0
def md_125_0 : sf_D := [(0, .aload_n 0, 1), (1, .getfield 7, 3), (4, .iload_n 1, 1), (5, .iconst 2, 1), (6, .iadd, 1), (7, .invokevirtual 86, 3), (10, .istore_n 3, 1), (11, .iload_n 2, 1), (12, .istore 4, 2), (14, .iconst 0, 1), (15, .istore 5, 2), (17, .iload 5, 2), (19, .sipush (300), 3), (22, .if_icmp .ge (101), 3), (25, .iload 4, 2), (27, .ifCond .le (96), 3), (30, .iload 4, 2), (32, .sipush (300), 3), (35, .if_icmp .ge (88), 3), (38, .aload_n 0, 1), (39, .iload 4, 2), (41, .iload_n 3, 1), (42, .invokevirtual 67, 3), (45, .istore 6, 2), (47, .iload 6, 2), (49, .ifCond .lt (59), 3), (52, .iload 6, 2), (54, .sipush (1600), 3), (57, .if_icmp .ge (51), 3), (60, .aload_n 0, 1), (61, .getfield 29, 3), (64, .iload 6, 2), (66, .iaload, 1), (67, .iconst 2, 1), (68, .if_icmp .eq (33), 3), (71, .aload_n 0, 1), (72, .getfield 7, 3), (75, .iload_n 1, 1), (76, .iconst 1, 1), (77, .iadd, 1), (78, .iload 5, 2), (80, .invokevirtual 89, 3), (83, .aload_n 0, 1), (84, .getfield 7, 3), (87, .iload_n 1, 1), (88, .iconst 2, 1), (89, .iadd, 1), (90, .aload_n 0, 1), (91, .getfield 32, 3), (94, .iload 6, 2), (96, .iaload, 1), (97, .invokevirtual 89, 3), (100, .return_, 1), (101, .iload 4, 2), (103, .iload_n 2, 1), (104, .if_icmp .ne (4), 3), (107, .return_, 1), (108, .aload_n 0, 1), (109, .getfield 13, 3), (112, .iload 4, 2), (114, .iaload, 1), (115, .istore 4, 2), (117, .iinc 5 (1), 3), (120, .goto (-103), 3), (123, .return_, 1)]
theorem dq_125_0 : sf_dok 125 md_125_0 := by
  unfold sf_dok
  decide +kernel
def md_125 : sf_D := md_125_0
theorem dq_125 : sf_dok 125 md_125 := dq_125_0
def md_126_0 : sf_D := [(0, .aload_n 0, 1), (1, .iload_n 1, 1), (2, .putfield 69, 3), (5, .aload_n 0, 1), (6, .iload_n 2, 1), (7, .putfield 72, 3), (10, .aload_n 0, 1), (11, .iconst 0, 1), (12, .putfield 75, 3), (15, .aload_n 0, 1), (16, .iconst 0, 1), (17, .putfield 78, 3), (20, .iconst 0, 1), (21, .istore_n 3, 1), (22, .iconst 1, 1), (23, .istore 4, 2), (25, .iconst 0, 1), (26, .istore 5, 2), (28, .iload 4, 2), (30, .ifCond .eq (158), 3), (33, .iload 5, 2), (35, .ldc 81, 2), (37, .if_icmp .ge (151), 3), (40, .aload_n 0, 1), (41, .invokevirtual 82, 3), (44, .istore 6, 2), (46, .iload 6, 2), (48, .bipush (15), 2), (50, .if_icmp .gt (13), 3), (53, .aload_n 0, 1), (54, .iload 6, 2), (56, .invokevirtual 88, 3), (59, .istore_n 3, 1), (60, .goto (98), 3), (63, .iload 6, 2), (65, .bipush (24), 2), (67, .if_icmp .gt (13), 3), (70, .aload_n 0, 1), (71, .iload 6, 2), (73, .invokevirtual 92, 3), (76, .istore_n 3, 1), (77, .goto (81), 3), (80, .iload 6, 2), (82, .bipush (43), 2), (84, .if_icmp .gt (16), 3), (87, .aload_n 0, 1), (88, .getfield 36, 3), (91, .iload 6, 2), (93, .invokevirtual 95, 3), (96, .istore_n 3, 1), (97, .goto (61), 3), (100, .iload 6, 2), (102, .bipush (51), 2), (104, .if_icmp .eq (20), 3), (107, .aload_n 0, 1), (108, .getfield 36, 3), (111, .iload 6, 2), (113, .aload_n 0, 1), (114, .invokevirtual 82, 3), (117, .invokevirtual 98, 3), (120, .istore_n 3, 1), (121, .goto (37), 3), (124, .aload_n 0, 1), (125, .invokevirtual 101, 3), (128, .ifCond .eq (21), 3), (131, .aload_n 0, 1), (132, .getfield 27, 3), (135, .aload_n 0, 1), (136, .invokevirtual 105, 3), (139, .aload_n 0, 1), (140, .invokevirtual 82, 3), (143, .invokevirtual 108, 3), (146, .goto (11), 3), (149, .aload_n 0, 1), (150, .aload_n 0, 1), (151, .invokevirtual 82, 3), (154, .invokevirtual 111, 3), (157, .istore_n 3, 1), (158, .iload_n 3, 1), (159, .ifCond .ne (16), 3), (162, .iload 6, 2), (164, .ifCond .eq (7), 3), (167, .iconst 1, 1), (168, .goto (12), 3), (171, .iconst 0, 1), (172, .goto (8), 3), (175, .aload_n 0, 1), (176, .iload_n 3, 1), (177, .invokevirtual 114, 3), (180, .istore 4, 2), (182, .iinc 5 (1), 3), (185, .goto (-157), 3), (188, .aload_n 0, 1), (189, .getfield 66, 3), (192, .istore 5, 2), (194, .aload_n 0, 1), (195, .iconst 0, 1), (196, .invokevirtual 118, 3), (199, .aload_n 0, 1), (200, .getfield 23, 3)]
theorem dq_126_0 : sf_dok 126 md_126_0 := by
  unfold sf_dok
  decide +kernel
def md_126_1 : sf_D := [(203, .aload_n 0, 1), (204, .getfield 23, 3), (207, .getfield 122, 3), (210, .invokevirtual 127, 3), (213, .aload_n 0, 1), (214, .iload 5, 2), (216, .putfield 66, 3), (219, .iload 4, 2), (221, .ifCond .eq (8), 3), (224, .bipush (100), 2), (226, .goto (4), 3), (229, .iload_n 3, 1), (230, .ireturn, 1)]
theorem dq_126_1 : sf_dok 126 md_126_1 := by
  unfold sf_dok
  decide +kernel
def md_126 : sf_D := md_126_0 ++ md_126_1
theorem dq_126 : sf_dok 126 md_126 := (sf_dap dq_126_0 dq_126_1)
def md_127_0 : sf_D := [(0, .aload_n 0, 1), (1, .getfield 11, 3), (4, .aload_n 0, 1), (5, .getfield 69, 3), (8, .invokevirtual 130, 3), (11, .istore_n 1, 1), (12, .aload_n 0, 1), (13, .dup, 1), (14, .getfield 69, 3), (17, .iconst 1, 1), (18, .iadd, 1), (19, .putfield 69, 3), (22, .iload_n 1, 1), (23, .ireturn, 1)]
theorem dq_127_0 : sf_dok 127 md_127_0 := by
  unfold sf_dok
  decide +kernel
def md_127 : sf_D := md_127_0
theorem dq_127 : sf_dok 127 md_127 := dq_127_0
def md_128_0 : sf_D := [(0, .iload_n 1, 1), (1, .tableswitch (197) 1 15 #[75, 84, 93, 103, 113, 120, 127, 134, 139, 144, 153, 163, 172, 187, 192], 75), (76, .aload_n 0, 1), (77, .aload_n 0, 1), (78, .invokevirtual 82, 3), (81, .invokevirtual 165, 3), (84, .ireturn, 1), (85, .aload_n 0, 1), (86, .aload_n 0, 1), (87, .invokevirtual 82, 3), (90, .invokevirtual 165, 3), (93, .ireturn, 1), (94, .aload_n 0, 1), (95, .aload_n 0, 1), (96, .invokevirtual 82, 3), (99, .putfield 66, 3), (102, .iconst 0, 1), (103, .ireturn, 1), (104, .aload_n 0, 1), (105, .aload_n 0, 1), (106, .invokevirtual 82, 3), (109, .putfield 69, 3), (112, .iconst 0, 1), (113, .ireturn, 1), (114, .aload_n 0, 1), (115, .iconst 0, 1), (116, .iconst 1, 1), (117, .invokevirtual 168, 3), (120, .ireturn, 1), (121, .aload_n 0, 1), (122, .iconst 0, 1), (123, .iconst 0, 1), (124, .invokevirtual 168, 3), (127, .ireturn, 1), (128, .aload_n 0, 1), (129, .iconst 1, 1), (130, .iconst 0, 1), (131, .invokevirtual 168, 3), (134, .ireturn, 1), (135, .aload_n 0, 1), (136, .invokevirtual 172, 3), (139, .ireturn, 1), (140, .aload_n 0, 1), (141, .invokevirtual 175, 3), (144, .ireturn, 1), (145, .aload_n 0, 1), (146, .aload_n 0, 1), (147, .invokevirtual 82, 3), (150, .invokevirtual 178, 3), (153, .ireturn, 1), (154, .aload_n 0, 1), (155, .getfield 23, 3), (158, .iconst 2, 1), (159, .invokevirtual 127, 3), (162, .iconst 0, 1), (163, .ireturn, 1), (164, .aload_n 0, 1), (165, .aload_n 0, 1), (166, .invokevirtual 82, 3), (169, .invokevirtual 181, 3), (172, .ireturn, 1), (173, .aload_n 0, 1), (174, .dup, 1), (175, .getfield 75, 3), (178, .aload_n 0, 1), (179, .invokevirtual 82, 3), (182, .isub, 1), (183, .putfield 75, 3), (186, .iconst 0, 1), (187, .ireturn, 1), (188, .aload_n 0, 1), (189, .invokevirtual 184, 3), (192, .ireturn, 1), (193, .aload_n 0, 1), (194, .invokevirtual 82, 3), (197, .ireturn, 1), (198, .iconst 0, 1), (199, .ireturn, 1)]
theorem dq_128_0 : sf_dok 128 md_128_0 := by
  unfold sf_dok
  decide +kernel
def md_128 : sf_D := md_128_0
theorem dq_128 : sf_dok 128 md_128 := dq_128_0
def md_129_0 : sf_D := [(0, .aload_n 0, 1), (1, .iload_n 1, 1), (2, .putfield 66, 3), (5, .aload_n 0, 1), (6, .getfield 62, 3), (9, .aload_n 0, 1), (10, .getfield 72, 3), (13, .if_icmp .lt (6), 3), (16, .bipush (100), 2), (18, .ireturn, 1), (19, .aload_n 0, 1), (20, .dup, 1), (21, .getfield 62, 3), (24, .iconst 1, 1), (25, .iadd, 1), (26, .putfield 62, 3), (29, .iconst 0, 1), (30, .ireturn, 1)]
theorem dq_129_0 : sf_dok 129 md_129_0 := by
  unfold sf_dok
  decide +kernel
def md_129 : sf_D := md_129_0
theorem dq_129 : sf_dok 129 md_129 := dq_129_0
def md_130_0 : sf_D := [(0, .aload_n 0, 1), (1, .invokevirtual 82, 3), (4, .istore_n 3, 1), (5, .aload_n 0, 1), (6, .getfield 23, 3), (9, .iconst 0, 1), (10, .invokevirtual 187, 3), (13, .iload_n 1, 1), (14, .if_icmp .ne (7), 3), (17, .iconst 1, 1), (18, .goto (4), 3), (21, .iconst 0, 1), (22, .istore 4, 2), (24, .iload 4, 2), (26, .ifCond .eq (8), 3), (29, .aload_n 0, 1), (30, .iload_n 3, 1), (31, .putfield 69, 3), (34, .iload_n 2, 1), (35, .ifCond .ne (8), 3), (38, .iload 4, 2), (40, .ifCond .ne (11), 3), (43, .aload_n 0, 1), (44, .getfield 23, 3), (47, .iconst 1, 1), (48, .invokevirtual 127, 3), (51, .iconst 0, 1), (52, .ireturn, 1)]
theorem dq_130_0 : sf_dok 130 md_130_0 := by
  unfold sf_dok
  decide +kernel
def md_130 : sf_D := md_130_0
theorem dq_130 : sf_dok 130 md_130 := dq_130_0
def md_131_0 : sf_D := [(0, .aload_n 0, 1), (1, .iload_n 1, 1), (2, .invokevirtual 30, 3), (5, .lstore_n 2, 1), (6, .lload_n 2, 1), (7, .invokestatic 65, 3), (10, .tableswitch (57) 1 3 #[26, 28, 44], 26), (36, .iconst 0, 1), (37, .ireturn, 1), (38, .aload_n 0, 1), (39, .iload_n 1, 1), (40, .invokevirtual 34, 3), (43, .lconst 0, 1), (44, .lcmp, 1), (45, .ifCond .eq (7), 3), (48, .iconst 1, 1), (49, .goto (4), 3), (52, .iconst 0, 1), (53, .ireturn, 1), (54, .lload_n 2, 1), (55, .invokestatic 69, 3), (58, .ifCond .le (7), 3), (61, .iconst 1, 1), (62, .goto (4), 3), (65, .iconst 0, 1), (66, .ireturn, 1), (67, .aload_n 0, 1), (68, .iload_n 1, 1), (69, .invokevirtual 41, 3), (72, .istore 4, 2), (74, .aload_n 0, 1), (75, .getfield 9, 3), (78, .iload 4, 2), (80, .invokevirtual 45, 3), (83, .istore 5, 2), (85, .iload 5, 2), (87, .iconst 1, 1), (88, .if_icmp .eq (9), 3), (91, .iload 5, 2), (93, .iconst 2, 1), (94, .if_icmp .ne (15), 3), (97, .aload_n 0, 1), (98, .getfield 9, 3), (101, .iload 4, 2), (103, .invokevirtual 72, 3), (106, .ifCond .le (7), 3), (109, .iconst 1, 1), (110, .goto (4), 3), (113, .iconst 0, 1), (114, .ireturn, 1)]
theorem dq_131_0 : sf_dok 131 md_131_0 := by
  unfold sf_dok
  decide +kernel
def md_131 : sf_D := md_131_0
theorem dq_131 : sf_dok 131 md_131 := dq_131_0
def md_132_0 : sf_D := [(0, .aload_n 0, 1), (1, .iload_n 1, 1), (2, .invokevirtual 26, 3), (5, .ifCond .eq (19), 3), (8, .aload_n 0, 1), (9, .getfield 15, 3), (12, .aload_n 0, 1), (13, .getfield 22, 3), (16, .iconst 1, 1), (17, .isub, 1), (18, .iload_n 1, 1), (19, .isub, 1), (20, .laload, 1), (21, .goto (4), 3), (24, .lconst 0, 1), (25, .lreturn, 1)]
theorem dq_132_0 : sf_dok 132 md_132_0 := by
  unfold sf_dok
  decide +kernel
def md_132 : sf_D := md_132_0
theorem dq_132 : sf_dok 132 md_132 := dq_132_0
def md_133_0 : sf_D := [(0, .iload_n 1, 1), (1, .ifCond .lt (25), 3), (4, .iload_n 1, 1), (5, .aload_n 0, 1), (6, .getfield 22, 3), (9, .if_icmp .ge (17), 3), (12, .aload_n 0, 1), (13, .getfield 22, 3), (16, .sipush (20480), 3), (19, .if_icmp .gt (7), 3), (22, .iconst 1, 1), (23, .goto (4), 3), (26, .iconst 0, 1), (27, .ireturn, 1)]
theorem dq_133_0 : sf_dok 133 md_133_0 := by
  unfold sf_dok
  decide +kernel
def md_133 : sf_D := md_133_0
theorem dq_133 : sf_dok 133 md_133 := dq_133_0
def md_134_0 : sf_D := [(0, .lload_n 0, 1), (1, .bipush (60), 2), (3, .lushr, 1), (4, .l2i, 1), (5, .ireturn, 1)]
theorem dq_134_0 : sf_dok 134 md_134_0 := by
  unfold sf_dok
  decide +kernel
def md_134 : sf_D := md_134_0
theorem dq_134 : sf_dok 134 md_134 := dq_134_0
def md_135_0 : sf_D := [(0, .aload_n 0, 1), (1, .iload_n 1, 1), (2, .invokevirtual 26, 3), (5, .ifCond .eq (19), 3), (8, .aload_n 0, 1), (9, .getfield 19, 3), (12, .aload_n 0, 1), (13, .getfield 22, 3), (16, .iconst 1, 1), (17, .isub, 1), (18, .iload_n 1, 1), (19, .isub, 1), (20, .laload, 1), (21, .goto (4), 3), (24, .lconst 0, 1), (25, .lreturn, 1)]
theorem dq_135_0 : sf_dok 135 md_135_0 := by
  unfold sf_dok
  decide +kernel
def md_135 : sf_D := md_135_0
theorem dq_135 : sf_dok 135 md_135 := dq_135_0
def md_136_0 : sf_D := [(0, .aload_n 0, 1), (1, .iload_n 1, 1), (2, .invokevirtual 30, 3), (5, .aload_n 0, 1), (6, .iload_n 1, 1), (7, .invokevirtual 34, 3), (10, .invokestatic 37, 3), (13, .ireturn, 1)]
theorem dq_136_0 : sf_dok 136 md_136_0 := by
  unfold sf_dok
  decide +kernel
def md_136 : sf_D := md_136_0
theorem dq_136 : sf_dok 136 md_136 := dq_136_0
def md_137_0 : sf_D := [(0, .lload_n 0, 1), (1, .bipush (60), 2), (3, .lushr, 1), (4, .ldc2_w 168, 3), (7, .lcmp, 1), (8, .ifCond .ne (8), 3), (11, .lload_n 2, 1), (12, .l2i, 1), (13, .goto (4), 3), (16, .iconst 0, 1), (17, .ireturn, 1)]
theorem dq_137_0 : sf_dok 137 md_137_0 := by
  unfold sf_dok
  decide +kernel
def md_137 : sf_D := md_137_0
theorem dq_137 : sf_dok 137 md_137 := dq_137_0
def md_138_0 : sf_D := [(0, .iload_n 1, 1), (1, .invokestatic 65, 3), (4, .ifCond .eq (12), 3), (7, .aload_n 0, 1), (8, .getfield 11, 3), (11, .iload_n 1, 1), (12, .iaload, 1), (13, .goto (4), 3), (16, .iconst 0, 1), (17, .ireturn, 1)]
theorem dq_138_0 : sf_dok 138 md_138_0 := by
  unfold sf_dok
  decide +kernel
def md_138 : sf_D := md_138_0
theorem dq_138 : sf_dok 138 md_138 := dq_138_0
def md_139_0 : sf_D := [(0, .iload_n 0, 1), (1, .iconst 1, 1), (2, .if_icmp .lt (14), 3), (5, .iload_n 0, 1), (6, .sipush (1500), 3), (9, .if_icmp .gt (7), 3), (12, .iconst 1, 1), (13, .goto (4), 3), (16, .iconst 0, 1), (17, .ireturn, 1)]
theorem dq_139_0 : sf_dok 139 md_139_0 := by
  unfold sf_dok
  decide +kernel
def md_139 : sf_D := md_139_0
theorem dq_139 : sf_dok 139 md_139 := dq_139_0
def md_140_0 : sf_D := [(0, .iload_n 1, 1), (1, .invokestatic 65, 3), (4, .ifCond .eq (12), 3), (7, .aload_n 0, 1), (8, .getfield 33, 3), (11, .iload_n 1, 1), (12, .iaload, 1), (13, .goto (4), 3), (16, .iconst 0, 1), (17, .ireturn, 1)]
theorem dq_140_0 : sf_dok 140 md_140_0 := by
  unfold sf_dok
  decide +kernel
def md_140 : sf_D := md_140_0
theorem dq_140 : sf_dok 140 md_140 := dq_140_0
def md_141_0 : sf_D := [(0, .iconst 0, 1), (1, .istore_n 2, 1), (2, .iload_n 2, 1), (3, .iload_n 1, 1), (4, .if_icmp .ge (71), 3), (7, .aload_n 0, 1), (8, .getfield 22, 3), (11, .ifCond .le (64), 3), (14, .aload_n 0, 1), (15, .getfield 22, 3), (18, .sipush (20480), 3), (21, .if_icmp .gt (54), 3), (24, .aload_n 0, 1), (25, .dup, 1), (26, .getfield 22, 3), (29, .iconst 1, 1), (30, .isub, 1), (31, .putfield 22, 3), (34, .aload_n 0, 1), (35, .getfield 9, 3), (38, .aload_n 0, 1), (39, .getfield 9, 3), (42, .getfield 50, 3), (45, .aload_n 0, 1), (46, .getfield 15, 3), (49, .aload_n 0, 1), (50, .getfield 22, 3), (53, .laload, 1), (54, .aload_n 0, 1), (55, .getfield 19, 3), (58, .aload_n 0, 1), (59, .getfield 22, 3), (62, .laload, 1), (63, .invokestatic 37, 3), (66, .invokevirtual 58, 3), (69, .iinc 2 (1), 3), (72, .goto (-70), 3), (75, .return_, 1)]
theorem dq_141_0 : sf_dok 141 md_141_0 := by
  unfold sf_dok
  decide +kernel
def md_141 : sf_D := md_141_0
theorem dq_141 : sf_dok 141 md_141 := dq_141_0
def md_142_0 : sf_D := [(0, .iload_n 2, 1), (1, .invokestatic 65, 3), (4, .ifCond .eq (9), 3), (7, .iload_n 2, 1), (8, .aload_n 1, 1), (9, .arraylength, 1), (10, .if_icmp .lt (4), 3), (13, .return_, 1), (14, .aload_n 1, 1), (15, .iload_n 2, 1), (16, .dup2, 1), (17, .iaload, 1), (18, .iconst 1, 1), (19, .isub, 1), (20, .iastore, 1), (21, .aload_n 0, 1), (22, .getfield 15, 3), (25, .iload_n 2, 1), (26, .iaload, 1), (27, .aload_n 0, 1), (28, .getfield 18, 3), (31, .iload_n 2, 1), (32, .iaload, 1), (33, .iadd, 1), (34, .aload_n 0, 1), (35, .getfield 21, 3), (38, .iload_n 2, 1), (39, .iaload, 1), (40, .iadd, 1), (41, .ifCond .le (4), 3), (44, .return_, 1), (45, .aload_n 0, 1), (46, .getfield 48, 3), (49, .iconst 0, 1), (50, .iload_n 2, 1), (51, .iastore, 1), (52, .aload_n 0, 1), (53, .iconst 1, 1), (54, .putfield 73, 3), (57, .iconst 0, 1), (58, .istore_n 3, 1), (59, .iload_n 3, 1), (60, .sipush (1500), 3), (63, .if_icmp .gt (60), 3), (66, .aload_n 0, 1), (67, .getfield 73, 3), (70, .ifCond .le (53), 3), (73, .aload_n 0, 1), (74, .getfield 73, 3), (77, .sipush (1500), 3), (80, .if_icmp .gt (43), 3), (83, .aload_n 0, 1), (84, .dup, 1), (85, .getfield 73, 3), (88, .iconst 1, 1), (89, .isub, 1), (90, .putfield 73, 3), (93, .aload_n 0, 1), (94, .getfield 48, 3), (97, .aload_n 0, 1), (98, .getfield 73, 3), (101, .iaload, 1), (102, .istore 4, 2), (104, .aload_n 0, 1), (105, .iload 4, 2), (107, .iconst 0, 1), (108, .invokevirtual 76, 3), (111, .aload_n 0, 1), (112, .iload 4, 2), (114, .invokevirtual 80, 3), (117, .iinc 3 (1), 3), (120, .goto (-61), 3), (123, .return_, 1)]
theorem dq_142_0 : sf_dok 142 md_142_0 := by
  unfold sf_dok
  decide +kernel
def md_142 : sf_D := md_142_0
theorem dq_142 : sf_dok 142 md_142 := dq_142_0
def md_143_0 : sf_D := [(0, .iload_n 1, 1), (1, .invokestatic 65, 3), (4, .ifCond .ne (4), 3), (7, .return_, 1), (8, .aload_n 0, 1), (9, .aload_n 0, 1), (10, .getfield 24, 3), (13, .iload_n 1, 1), (14, .iaload, 1), (15, .iload_n 2, 1), (16, .invokevirtual 84, 3), (19, .aload_n 0, 1), (20, .aload_n 0, 1), (21, .getfield 27, 3), (24, .iload_n 1, 1), (25, .iaload, 1), (26, .iload_n 2, 1), (27, .invokevirtual 84, 3), (30, .aload_n 0, 1), (31, .getfield 11, 3), (34, .iload_n 1, 1), (35, .iaload, 1), (36, .invokestatic 87, 3), (39, .istore_n 3, 1), (40, .aload_n 0, 1), (41, .getfield 38, 3), (44, .iload_n 1, 1), (45, .aaload, 1), (46, .astore 4, 2), (48, .aload 4, 2), (50, .ifnull (7), 3), (53, .iload_n 3, 1), (54, .ifCond .ne (7), 3), (57, .iconst 0, 1), (58, .goto (9), 3), (61, .aload_n 0, 1), (62, .getfield 33, 3), (65, .iload_n 1, 1), (66, .iaload, 1), (67, .istore 5, 2), (69, .iconst 1, 1), (70, .istore 6, 2), (72, .iload 6, 2), (74, .iload 5, 2), (76, .if_icmp .gt (45), 3), (79, .iload 6, 2), (81, .iload_n 3, 1), (82, .imul, 1), (83, .aload 4, 2), (85, .arraylength, 1), (86, .if_icmp .gt (35), 3), (89, .aload_n 0, 1), (90, .aload 4, 2), (92, .iload 6, 2), (94, .iload_n 3, 1), (95, .imul, 1), (96, .iconst 2, 1), (97, .isub, 1), (98, .laload, 1), (99, .aload 4, 2), (101, .iload 6, 2), (103, .iload_n 3, 1), (104, .imul, 1), (105, .iconst 1, 1), (106, .isub, 1), (107, .laload, 1), (108, .invokestatic 91, 3), (111, .iload_n 2, 1), (112, .invokevirtual 84, 3), (115, .iinc 6 (1), 3), (118, .goto (-46), 3), (121, .return_, 1)]
theorem dq_143_0 : sf_dok 143 md_143_0 := by
  unfold sf_dok
  decide +kernel
def md_143 : sf_D := md_143_0
theorem dq_143 : sf_dok 143 md_143 := dq_143_0
def md_144_0 : sf_D := [(0, .iload_n 1, 1), (1, .iconst 1, 1), (2, .if_icmp .lt (10), 3), (5, .iload_n 1, 1), (6, .sipush (1500), 3), (9, .if_icmp .le (4), 3), (12, .return_, 1), (13, .iconst 0, 1), (14, .istore_n 3, 1), (15, .iload_n 2, 1), (16, .iconst 1, 1), (17, .if_icmp .ne (28), 3), (20, .aload_n 0, 1), (21, .getfield 51, 3), (24, .iload_n 1, 1), (25, .baload, 1), (26, .ifCond .ne (7), 3), (29, .iconst 1, 1), (30, .goto (4), 3), (33, .iconst 0, 1), (34, .istore_n 3, 1), (35, .aload_n 0, 1), (36, .getfield 51, 3), (39, .iload_n 1, 1), (40, .iconst 1, 1), (41, .bastore, 1), (42, .goto (55), 3), (45, .aload_n 0, 1), (46, .getfield 15, 3), (49, .iload_n 1, 1), (50, .dup2, 1), (51, .iaload, 1), (52, .iconst 1, 1), (53, .isub, 1), (54, .iastore, 1), (55, .iload_n 2, 1), (56, .ifCond .ne (39), 3), (59, .aload_n 0, 1), (60, .getfield 11, 3), (63, .iload_n 1, 1), (64, .iaload, 1), (65, .ifCond .eq (30), 3), (68, .aload_n 0, 1), (69, .getfield 15, 3), (72, .iload_n 1, 1), (73, .iaload, 1), (74, .aload_n 0, 1), (75, .getfield 18, 3), (78, .iload_n 1, 1), (79, .iaload, 1), (80, .iadd, 1), (81, .aload_n 0, 1), (82, .getfield 21, 3), (85, .iload_n 1, 1), (86, .iaload, 1), (87, .iadd, 1), (88, .ifCond .gt (7), 3), (91, .iconst 1, 1), (92, .goto (4), 3), (95, .iconst 0, 1), (96, .istore_n 3, 1), (97, .iload_n 3, 1), (98, .ifCond .eq (40), 3), (101, .aload_n 0, 1), (102, .getfield 73, 3), (105, .ifCond .lt (33), 3), (108, .aload_n 0, 1), (109, .getfield 73, 3), (112, .sipush (1500), 3), (115, .if_icmp .gt (23), 3), (118, .aload_n 0, 1), (119, .getfield 48, 3), (122, .aload_n 0, 1), (123, .getfield 73, 3), (126, .iload_n 1, 1), (127, .iastore, 1), (128, .aload_n 0, 1), (129, .dup, 1), (130, .getfield 73, 3), (133, .iconst 1, 1), (134, .iadd, 1), (135, .putfield 73, 3), (138, .return_, 1)]
theorem dq_144_0 : sf_dok 144 md_144_0 := by
  unfold sf_dok
  decide +kernel
def md_144 : sf_D := md_144_0
theorem dq_144 : sf_dok 144 md_144 := dq_144_0
def md_145_0 : sf_D := [(0, .iload_n 0, 1), (1, .iconst 1, 1), (2, .if_icmp .eq (9), 3), (5, .iload_n 0, 1), (6, .bipush (7), 2), (8, .if_icmp .ne (5), 3), (11, .iconst 2, 1), (12, .ireturn, 1), (13, .iload_n 0, 1), (14, .iconst 2, 1), (15, .if_icmp .eq (13), 3), (18, .iload_n 0, 1), (19, .iconst 4, 1), (20, .if_icmp .eq (8), 3), (23, .iload_n 0, 1), (24, .iconst 5, 1), (25, .if_icmp .ne (7), 3), (28, .iconst 4, 1), (29, .goto (4), 3), (32, .iconst 0, 1), (33, .ireturn, 1)]
theorem dq_145_0 : sf_dok 145 md_145_0 := by
  unfold sf_dok
  decide +kernel
def md_145 : sf_D := md_145_0
theorem dq_145 : sf_dok 145 md_145 := dq_145_0
def md_146_0 : sf_D := [(0, .iload_n 1, 1), (1, .invokestatic 65, 3), (4, .ifCond .eq (41), 3), (7, .aload_n 0, 1), (8, .getfield 11, 3), (11, .iload_n 1, 1), (12, .iaload, 1), (13, .iconst 1, 1), (14, .if_icmp .lt (31), 3), (17, .aload_n 0, 1), (18, .getfield 11, 3), (21, .iload_n 1, 1), (22, .iaload, 1), (23, .bipush (7), 2), (25, .if_icmp .gt (20), 3), (28, .aload_n 0, 1), (29, .getfield 62, 3), (32, .ifCond .lt (13), 3), (35, .aload_n 0, 1), (36, .getfield 62, 3), (39, .sipush (1500), 3), (42, .if_icmp .le (4), 3), (45, .return_, 1), (46, .aload_n 0, 1), (47, .getfield 42, 3), (50, .aload_n 0, 1), (51, .getfield 11, 3), (54, .iload_n 1, 1), (55, .iaload, 1), (56, .dup2, 1), (57, .iaload, 1), (58, .iconst 1, 1), (59, .isub, 1), (60, .iastore, 1), (61, .aload_n 0, 1), (62, .getfield 11, 3), (65, .iload_n 1, 1), (66, .iconst 0, 1), (67, .iastore, 1), (68, .aload_n 0, 1), (69, .getfield 15, 3), (72, .iload_n 1, 1), (73, .iconst 0, 1), (74, .iastore, 1), (75, .aload_n 0, 1), (76, .getfield 33, 3), (79, .iload_n 1, 1), (80, .iconst 0, 1), (81, .iastore, 1), (82, .aload_n 0, 1), (83, .dup, 1), (84, .getfield 55, 3), (87, .iconst 1, 1), (88, .isub, 1), (89, .putfield 55, 3), (92, .aload_n 0, 1), (93, .getfield 45, 3), (96, .aload_n 0, 1), (97, .getfield 62, 3), (100, .iload_n 1, 1), (101, .iastore, 1), (102, .aload_n 0, 1), (103, .dup, 1), (104, .getfield 62, 3), (107, .iconst 1, 1), (108, .iadd, 1), (109, .putfield 62, 3), (112, .return_, 1)]
theorem dq_146_0 : sf_dok 146 md_146_0 := by
  unfold sf_dok
  decide +kernel
def md_146 : sf_D := md_146_0
theorem dq_146 : sf_dok 146 md_146 := dq_146_0
def sf_md1 : List (Nat × sf_D) := [(77, md_77), (78, md_78), (79, md_79), (80, md_80), (81, md_81), (82, md_82), (83, md_83), (84, md_84), (85, md_85), (86, md_86), (87, md_87), (88, md_88), (89, md_89), (90, md_90), (91, md_91), (92, md_92), (93, md_93), (94, md_94), (95, md_95), (96, md_96), (97, md_97), (98, md_98), (99, md_99), (100, md_100), (101, md_101), (102, md_102), (103, md_103), (104, md_104), (105, md_105), (106, md_106), (107, md_107), (108, md_108), (109, md_109), (110, md_110), (111, md_111), (112, md_112), (113, md_113), (114, md_114), (115, md_115), (116, md_116), (117, md_117), (118, md_118), (119, md_119), (120, md_120), (121, md_121), (122, md_122), (123, md_123), (124, md_124), (125, md_125), (126, md_126), (127, md_127), (128, md_128), (129, md_129), (130, md_130), (131, md_131), (132, md_132), (133, md_133), (134, md_134), (135, md_135), (136, md_136), (137, md_137), (138, md_138), (139, md_139), (140, md_140), (141, md_141), (142, md_142), (143, md_143), (144, md_144), (145, md_145), (146, md_146)]
theorem sf_mdq1 : ∀ q ∈ sf_md1, sf_dok q.1 q.2 := (List.forall_mem_cons.mpr ⟨dq_77, (List.forall_mem_cons.mpr ⟨dq_78, (List.forall_mem_cons.mpr ⟨dq_79, (List.forall_mem_cons.mpr ⟨dq_80, (List.forall_mem_cons.mpr ⟨dq_81, (List.forall_mem_cons.mpr ⟨dq_82, (List.forall_mem_cons.mpr ⟨dq_83, (List.forall_mem_cons.mpr ⟨dq_84, (List.forall_mem_cons.mpr ⟨dq_85, (List.forall_mem_cons.mpr ⟨dq_86, (List.forall_mem_cons.mpr ⟨dq_87, (List.forall_mem_cons.mpr ⟨dq_88, (List.forall_mem_cons.mpr ⟨dq_89, (List.forall_mem_cons.mpr ⟨dq_90, (List.forall_mem_cons.mpr ⟨dq_91, (List.forall_mem_cons.mpr ⟨dq_92, (List.forall_mem_cons.mpr ⟨dq_93, (List.forall_mem_cons.mpr ⟨dq_94, (List.forall_mem_cons.mpr ⟨dq_95, (List.forall_mem_cons.mpr ⟨dq_96, (List.forall_mem_cons.mpr ⟨dq_97, (List.forall_mem_cons.mpr ⟨dq_98, (List.forall_mem_cons.mpr ⟨dq_99, (List.forall_mem_cons.mpr ⟨dq_100, (List.forall_mem_cons.mpr ⟨dq_101, (List.forall_mem_cons.mpr ⟨dq_102, (List.forall_mem_cons.mpr ⟨dq_103, (List.forall_mem_cons.mpr ⟨dq_104, (List.forall_mem_cons.mpr ⟨dq_105, (List.forall_mem_cons.mpr ⟨dq_106, (List.forall_mem_cons.mpr ⟨dq_107, (List.forall_mem_cons.mpr ⟨dq_108, (List.forall_mem_cons.mpr ⟨dq_109, (List.forall_mem_cons.mpr ⟨dq_110, (List.forall_mem_cons.mpr ⟨dq_111, (List.forall_mem_cons.mpr ⟨dq_112, (List.forall_mem_cons.mpr ⟨dq_113, (List.forall_mem_cons.mpr ⟨dq_114, (List.forall_mem_cons.mpr ⟨dq_115, (List.forall_mem_cons.mpr ⟨dq_116, (List.forall_mem_cons.mpr ⟨dq_117, (List.forall_mem_cons.mpr ⟨dq_118, (List.forall_mem_cons.mpr ⟨dq_119, (List.forall_mem_cons.mpr ⟨dq_120, (List.forall_mem_cons.mpr ⟨dq_121, (List.forall_mem_cons.mpr ⟨dq_122, (List.forall_mem_cons.mpr ⟨dq_123, (List.forall_mem_cons.mpr ⟨dq_124, (List.forall_mem_cons.mpr ⟨dq_125, (List.forall_mem_cons.mpr ⟨dq_126, (List.forall_mem_cons.mpr ⟨dq_127, (List.forall_mem_cons.mpr ⟨dq_128, (List.forall_mem_cons.mpr ⟨dq_129, (List.forall_mem_cons.mpr ⟨dq_130, (List.forall_mem_cons.mpr ⟨dq_131, (List.forall_mem_cons.mpr ⟨dq_132, (List.forall_mem_cons.mpr ⟨dq_133, (List.forall_mem_cons.mpr ⟨dq_134, (List.forall_mem_cons.mpr ⟨dq_135, (List.forall_mem_cons.mpr ⟨dq_136, (List.forall_mem_cons.mpr ⟨dq_137, (List.forall_mem_cons.mpr ⟨dq_138, (List.forall_mem_cons.mpr ⟨dq_139, (List.forall_mem_cons.mpr ⟨dq_140, (List.forall_mem_cons.mpr ⟨dq_141, (List.forall_mem_cons.mpr ⟨dq_142, (List.forall_mem_cons.mpr ⟨dq_143, (List.forall_mem_cons.mpr ⟨dq_144, (List.forall_mem_cons.mpr ⟨dq_145, (List.forall_mem_cons.mpr ⟨dq_146, (fun _ h => absurd h List.not_mem_nil)⟩)⟩)⟩)⟩)⟩)⟩)⟩)⟩)⟩)⟩)⟩)⟩)⟩)⟩)⟩)⟩)⟩)⟩)⟩)⟩)⟩)⟩)⟩)⟩)⟩)⟩)⟩)⟩)⟩)⟩)⟩)⟩)⟩)⟩)⟩)⟩)⟩)⟩)⟩)⟩)⟩)⟩)⟩)⟩)⟩)⟩)⟩)⟩)⟩)⟩)⟩)⟩)⟩)⟩)⟩)⟩)⟩)⟩)⟩)⟩)⟩)⟩)⟩)⟩)⟩)⟩)⟩)⟩)⟩)⟩)
