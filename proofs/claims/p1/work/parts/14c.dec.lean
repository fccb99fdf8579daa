def md_147_0 : sf_D := [(0, .aload_n 0, 1), (1, .getfield 150, 3), (4, .iconst 1, 1), (5, .isub, 1), (6, .istore_n 1, 1), (7, .iload_n 1, 1), (8, .ifCond .lt (9), 3), (11, .iload_n 1, 1), (12, .bipush (30), 2), (14, .if_icmp .lt (5), 3), (17, .iconst 0, 1), (18, .ireturn, 1), (19, .aload_n 0, 1), (20, .getfield 56, 3), (23, .iload_n 1, 1), (24, .iaload, 1), (25, .istore_n 2, 1), (26, .iload_n 2, 1), (27, .ifCond .ne (14), 3), (30, .aload_n 0, 1), (31, .getfield 23, 3), (34, .iconst 0, 1), (35, .invokevirtual 133, 3), (38, .goto (6), 3), (41, .ldc2_w 270, 3), (44, .lstore_n 3, 1), (45, .iload_n 2, 1), (46, .ifCond .ne (14), 3), (49, .aload_n 0, 1), (50, .getfield 23, 3), (53, .iconst 0, 1), (54, .invokevirtual 141, 3), (57, .goto (5), 3), (60, .iload_n 2, 1), (61, .i2l, 1), (62, .lstore 5, 2), (64, .aload_n 0, 1), (65, .getfield 23, 3), (68, .aload_n 0, 1), (69, .getfield 23, 3), (72, .getfield 122, 3), (75, .aload_n 0, 1), (76, .getfield 47, 3), (79, .iload_n 1, 1), (80, .iaload, 1), (81, .isub, 1), (82, .lload_n 3, 1), (83, .lload 5, 2), (85, .invokevirtual 282, 3), (88, .pop, 1), (89, .aload_n 0, 1), (90, .aload_n 0, 1), (91, .getfield 40, 3), (94, .iload_n 1, 1), (95, .iaload, 1), (96, .putfield 69, 3), (99, .aload_n 0, 1), (100, .aload_n 0, 1), (101, .getfield 50, 3), (104, .iload_n 1, 1), (105, .iaload, 1), (106, .putfield 75, 3), (109, .aload_n 0, 1), (110, .invokevirtual 153, 3), (113, .iconst 0, 1), (114, .ireturn, 1)]
theorem dq_147_0 : sf_dok 147 md_147_0 := by
  unfold sf_dok
  decide +kernel
def md_147 : sf_D := md_147_0
theorem dq_147 : sf_dok 147 md_147 := dq_147_0
def md_148_0 : sf_D := [(0, .aload_n 0, 1), (1, .getfield 9, 3), (4, .aload_n 0, 1), (5, .getfield 9, 3), (8, .getfield 50, 3), (11, .lload_n 2, 1), (12, .lload 4, 2), (14, .invokestatic 37, 3), (17, .invokevirtual 54, 3), (20, .iconst 0, 1), (21, .istore 6, 2), (23, .iload 6, 2), (25, .iload_n 1, 1), (26, .if_icmp .ge (71), 3), (29, .aload_n 0, 1), (30, .getfield 22, 3), (33, .ifCond .le (64), 3), (36, .aload_n 0, 1), (37, .getfield 22, 3), (40, .sipush (20480), 3), (43, .if_icmp .gt (54), 3), (46, .aload_n 0, 1), (47, .dup, 1), (48, .getfield 22, 3), (51, .iconst 1, 1), (52, .isub, 1), (53, .putfield 22, 3), (56, .aload_n 0, 1), (57, .getfield 9, 3), (60, .aload_n 0, 1), (61, .getfield 9, 3), (64, .getfield 50, 3), (67, .aload_n 0, 1), (68, .getfield 15, 3), (71, .aload_n 0, 1), (72, .getfield 22, 3), (75, .laload, 1), (76, .aload_n 0, 1), (77, .getfield 19, 3), (80, .aload_n 0, 1), (81, .getfield 22, 3), (84, .laload, 1), (85, .invokestatic 37, 3), (88, .invokevirtual 58, 3), (91, .iinc 6 (1), 3), (94, .goto (-71), 3), (97, .aload_n 0, 1), (98, .getfield 22, 3), (101, .ifCond .lt (13), 3), (104, .aload_n 0, 1), (105, .getfield 22, 3), (108, .sipush (20480), 3), (111, .if_icmp .lt (6), 3), (114, .bipush (8), 2), (116, .ireturn, 1), (117, .aload_n 0, 1), (118, .getfield 15, 3), (121, .aload_n 0, 1), (122, .getfield 22, 3), (125, .lload_n 2, 1), (126, .lastore, 1), (127, .aload_n 0, 1), (128, .getfield 19, 3), (131, .aload_n 0, 1), (132, .getfield 22, 3), (135, .lload 4, 2), (137, .lastore, 1), (138, .aload_n 0, 1), (139, .dup, 1), (140, .getfield 22, 3), (143, .iconst 1, 1), (144, .iadd, 1), (145, .putfield 22, 3), (148, .iconst 0, 1), (149, .ireturn, 1)]
theorem dq_148_0 : sf_dok 148 md_148_0 := by
  unfold sf_dok
  decide +kernel
def md_148 : sf_D := md_148_0
theorem dq_148 : sf_dok 148 md_148 := dq_148_0
def md_149_0 : sf_D := [(0, .iload_n 2, 1), (1, .iconst 1, 1), (2, .if_icmp .lt (16), 3), (5, .iload_n 2, 1), (6, .aload_n 1, 1), (7, .arraylength, 1), (8, .if_icmp .ge (10), 3), (11, .aload_n 1, 1), (12, .iload_n 2, 1), (13, .dup2, 1), (14, .iaload, 1), (15, .iconst 1, 1), (16, .iadd, 1), (17, .iastore, 1), (18, .return_, 1)]
theorem dq_149_0 : sf_dok 149 md_149_0 := by
  unfold sf_dok
  decide +kernel
def md_149 : sf_D := md_149_0
theorem dq_149 : sf_dok 149 md_149 := dq_149_0
def md_150_0 : sf_D := [(0, .aload_n 0, 1), (1, .dup, 1), (2, .getfield 150, 3), (5, .iconst 1, 1), (6, .isub, 1), (7, .putfield 150, 3), (10, .aload_n 0, 1), (11, .getfield 150, 3), (14, .ifCond .lt (12), 3), (17, .aload_n 0, 1), (18, .getfield 150, 3), (21, .bipush (30), 2), (23, .if_icmp .lt (4), 3), (26, .return_, 1), (27, .aload_n 0, 1), (28, .getfield 78, 3), (31, .istore_n 1, 1), (32, .aload_n 0, 1), (33, .aload_n 0, 1), (34, .getfield 53, 3), (37, .aload_n 0, 1), (38, .getfield 150, 3), (41, .iaload, 1), (42, .putfield 78, 3), (45, .aload_n 0, 1), (46, .aload_n 0, 1), (47, .getfield 44, 3), (50, .aload_n 0, 1), (51, .getfield 150, 3), (54, .iaload, 1), (55, .putfield 66, 3), (58, .aload_n 0, 1), (59, .getfield 15, 3), (62, .aload_n 0, 1), (63, .getfield 15, 3), (66, .getfield 156, 3), (69, .iload_n 1, 1), (70, .invokevirtual 161, 3), (73, .aload_n 0, 1), (74, .getfield 15, 3), (77, .aload_n 0, 1), (78, .getfield 15, 3), (81, .getfield 156, 3), (84, .aload_n 0, 1), (85, .getfield 56, 3), (88, .aload_n 0, 1), (89, .getfield 150, 3), (92, .iaload, 1), (93, .invokevirtual 161, 3), (96, .return_, 1)]
theorem dq_150_0 : sf_dok 150 md_150_0 := by
  unfold sf_dok
  decide +kernel
def md_150 : sf_D := md_150_0
theorem dq_150 : sf_dok 150 md_150 := dq_150_0
def md_151_0 : sf_D := [(0, .aload_n 0, 1), (1, .getfield 23, 3), (4, .iconst 0, 1), (5, .iconst 1, 1), (6, .invokevirtual 190, 3), (9, .ifCond .ne (5), 3), (12, .iconst 2, 1), (13, .ireturn, 1), (14, .aload_n 0, 1), (15, .getfield 23, 3), (18, .ldc2_w 144, 3), (21, .lconst 0, 1), (22, .invokevirtual 146, 3), (25, .iconst 0, 1), (26, .ireturn, 1)]
theorem dq_151_0 : sf_dok 151 md_151_0 := by
  unfold sf_dok
  decide +kernel
def md_151 : sf_D := md_151_0
theorem dq_151 : sf_dok 151 md_151 := dq_151_0
def md_152_0 : sf_D := [(0, .aload_n 0, 1), (1, .iload_n 1, 1), (2, .invokevirtual 41, 3), (5, .istore_n 3, 1), (6, .aload_n 0, 1), (7, .getfield 9, 3), (10, .iload_n 3, 1), (11, .invokevirtual 45, 3), (14, .iload_n 2, 1), (15, .if_icmp .ne (7), 3), (18, .iload_n 3, 1), (19, .goto (4), 3), (22, .iconst 0, 1), (23, .ireturn, 1)]
theorem dq_152_0 : sf_dok 152 md_152_0 := by
  unfold sf_dok
  decide +kernel
def md_152 : sf_D := md_152_0
theorem dq_152 : sf_dok 152 md_152 := dq_152_0
def md_153_0 : sf_D := [(0, .aload_n 0, 1), (1, .getfield 22, 3), (4, .ifCond .lt (13), 3), (7, .aload_n 0, 1), (8, .getfield 22, 3), (11, .sipush (20480), 3), (14, .if_icmp .lt (4), 3), (17, .return_, 1), (18, .aload_n 0, 1), (19, .getfield 15, 3), (22, .aload_n 0, 1), (23, .getfield 22, 3), (26, .lload_n 1, 1), (27, .lastore, 1), (28, .aload_n 0, 1), (29, .getfield 19, 3), (32, .aload_n 0, 1), (33, .getfield 22, 3), (36, .lload_n 3, 1), (37, .lastore, 1), (38, .aload_n 0, 1), (39, .dup, 1), (40, .getfield 22, 3), (43, .iconst 1, 1), (44, .iadd, 1), (45, .putfield 22, 3), (48, .aload_n 0, 1), (49, .getfield 9, 3), (52, .aload_n 0, 1), (53, .getfield 9, 3), (56, .getfield 50, 3), (59, .lload_n 1, 1), (60, .lload_n 3, 1), (61, .invokestatic 37, 3), (64, .invokevirtual 54, 3), (67, .return_, 1)]
theorem dq_153_0 : sf_dok 153 md_153_0 := by
  unfold sf_dok
  decide +kernel
def md_153 : sf_D := md_153_0
theorem dq_153 : sf_dok 153 md_153 := dq_153_0
def md_154_0 : sf_D := [(0, .aload_n 0, 1), (1, .getfield 23, 3), (4, .iconst 1, 1), (5, .iconst 1, 1), (6, .invokevirtual 190, 3), (9, .istore_n 2, 1), (10, .aload_n 0, 1), (11, .getfield 23, 3), (14, .iconst 0, 1), (15, .invokevirtual 141, 3), (18, .lstore_n 3, 1), (19, .lload_n 3, 1), (20, .lconst 0, 1), (21, .lcmp, 1), (22, .ifCond .lt (17), 3), (25, .lload_n 3, 1), (26, .aload_n 0, 1), (27, .getfield 15, 3), (30, .iload_n 2, 1), (31, .invokevirtual 193, 3), (34, .i2l, 1), (35, .lcmp, 1), (36, .ifCond .lt (10), 3), (39, .aload_n 0, 1), (40, .iload_n 1, 1), (41, .putfield 69, 3), (44, .iconst 0, 1), (45, .ireturn, 1), (46, .aload_n 0, 1), (47, .getfield 23, 3), (50, .iconst 0, 1), (51, .lload_n 3, 1), (52, .lconst 1, 1), (53, .ladd, 1), (54, .invokevirtual 196, 3), (57, .aload_n 0, 1), (58, .getfield 23, 3), (61, .aload_n 0, 1), (62, .getfield 15, 3), (65, .iload_n 2, 1), (66, .lload_n 3, 1), (67, .l2i, 1), (68, .invokevirtual 200, 3), (71, .aload_n 0, 1), (72, .getfield 15, 3), (75, .iload_n 2, 1), (76, .lload_n 3, 1), (77, .l2i, 1), (78, .invokevirtual 204, 3), (81, .invokevirtual 146, 3), (84, .iconst 0, 1), (85, .ireturn, 1)]
theorem dq_154_0 : sf_dok 154 md_154_0 := by
  unfold sf_dok
  decide +kernel
def md_154 : sf_D := md_154_0
theorem dq_154 : sf_dok 154 md_154 := dq_154_0
def md_155_0 : sf_D := [(0, .aload_n 0, 1), (1, .iload_n 1, 1), (2, .invokevirtual 26, 3), (5, .ifCond .eq (17), 3), (8, .aload_n 0, 1), (9, .getfield 19, 3), (12, .aload_n 0, 1), (13, .getfield 22, 3), (16, .iconst 1, 1), (17, .isub, 1), (18, .iload_n 1, 1), (19, .isub, 1), (20, .lload_n 2, 1), (21, .lastore, 1), (22, .return_, 1)]
theorem dq_155_0 : sf_dok 155 md_155_0 := by
  unfold sf_dok
  decide +kernel
def md_155 : sf_D := md_155_0
theorem dq_155 : sf_dok 155 md_155 := dq_155_0
def md_156_0 : sf_D := [(0, .aload_n 0, 1), (1, .iload_n 1, 1), (2, .iload_n 2, 1), (3, .invokevirtual 95, 3), (6, .istore_n 3, 1), (7, .iload_n 3, 1), (8, .ifCond .ge (7), 3), (11, .lconst 0, 1), (12, .goto (11), 3), (15, .aload_n 0, 1), (16, .getfield 38, 3), (19, .iload_n 1, 1), (20, .aaload, 1), (21, .iload_n 3, 1), (22, .laload, 1), (23, .lreturn, 1)]
theorem dq_156_0 : sf_dok 156 md_156_0 := by
  unfold sf_dok
  decide +kernel
def md_156 : sf_D := md_156_0
theorem dq_156 : sf_dok 156 md_156 := dq_156_0
def md_157_0 : sf_D := [(0, .iload_n 1, 1), (1, .invokestatic 65, 3), (4, .ifCond .eq (26), 3), (7, .aload_n 0, 1), (8, .getfield 38, 3), (11, .iload_n 1, 1), (12, .aaload, 1), (13, .ifnull (17), 3), (16, .iload_n 2, 1), (17, .ifCond .lt (13), 3), (20, .iload_n 2, 1), (21, .aload_n 0, 1), (22, .getfield 33, 3), (25, .iload_n 1, 1), (26, .iaload, 1), (27, .if_icmp .lt (5), 3), (30, .iconst (-1), 1), (31, .ireturn, 1), (32, .aload_n 0, 1), (33, .getfield 11, 3), (36, .iload_n 1, 1), (37, .iaload, 1), (38, .invokestatic 87, 3), (41, .istore_n 3, 1), (42, .iload_n 2, 1), (43, .iload_n 3, 1), (44, .imul, 1), (45, .iload_n 3, 1), (46, .iadd, 1), (47, .iconst 2, 1), (48, .isub, 1), (49, .istore 4, 2), (51, .iload 4, 2), (53, .ifCond .lt (22), 3), (56, .iload 4, 2), (58, .iconst 1, 1), (59, .iadd, 1), (60, .aload_n 0, 1), (61, .getfield 38, 3), (64, .iload_n 1, 1), (65, .aaload, 1), (66, .arraylength, 1), (67, .if_icmp .ge (8), 3), (70, .iload 4, 2), (72, .goto (4), 3), (75, .iconst (-1), 1), (76, .ireturn, 1)]
theorem dq_157_0 : sf_dok 157 md_157_0 := by
  unfold sf_dok
  decide +kernel
def md_157 : sf_D := md_157_0
theorem dq_157 : sf_dok 157 md_157 := dq_157_0
def md_158_0 : sf_D := [(0, .aload_n 0, 1), (1, .iload_n 1, 1), (2, .iload_n 2, 1), (3, .invokevirtual 95, 3), (6, .istore_n 3, 1), (7, .iload_n 3, 1), (8, .ifCond .ge (7), 3), (11, .lconst 0, 1), (12, .goto (13), 3), (15, .aload_n 0, 1), (16, .getfield 38, 3), (19, .iload_n 1, 1), (20, .aaload, 1), (21, .iload_n 3, 1), (22, .iconst 1, 1), (23, .iadd, 1), (24, .laload, 1), (25, .lreturn, 1)]
theorem dq_158_0 : sf_dok 158 md_158_0 := by
  unfold sf_dok
  decide +kernel
def md_158 : sf_D := md_158_0
theorem dq_158 : sf_dok 158 md_158 := dq_158_0
def md_159_0 : sf_D := [(0, .aload_n 0, 1), (1, .getfield 75, 3), (4, .ifCond .lt (13), 3), (7, .aload_n 0, 1), (8, .getfield 75, 3), (11, .sipush (341), 3), (14, .if_icmp .lt (6), 3), (17, .bipush (8), 2), (19, .ireturn, 1), (20, .aload_n 0, 1), (21, .getfield 59, 3), (24, .iconst 3, 1), (25, .aload_n 0, 1), (26, .getfield 75, 3), (29, .imul, 1), (30, .iload_n 1, 1), (31, .iastore, 1), (32, .aload_n 0, 1), (33, .getfield 59, 3), (36, .iconst 3, 1), (37, .aload_n 0, 1), (38, .getfield 75, 3), (41, .imul, 1), (42, .iconst 1, 1), (43, .iadd, 1), (44, .aload_n 0, 1), (45, .getfield 23, 3), (48, .getfield 122, 3), (51, .iastore, 1), (52, .aload_n 0, 1), (53, .getfield 59, 3), (56, .iconst 3, 1), (57, .aload_n 0, 1), (58, .getfield 75, 3), (61, .imul, 1), (62, .iconst 2, 1), (63, .iadd, 1), (64, .aload_n 0, 1), (65, .getfield 150, 3), (68, .iastore, 1), (69, .aload_n 0, 1), (70, .dup, 1), (71, .getfield 75, 3), (74, .iconst 1, 1), (75, .iadd, 1), (76, .putfield 75, 3), (79, .iconst 0, 1), (80, .ireturn, 1)]
theorem dq_159_0 : sf_dok 159 md_159_0 := by
  unfold sf_dok
  decide +kernel
def md_159 : sf_D := md_159_0
theorem dq_159 : sf_dok 159 md_159 := dq_159_0
def md_160_0 : sf_D := [(0, .aload_n 0, 1), (1, .getfield 23, 3), (4, .iconst 0, 1), (5, .invokevirtual 141, 3), (8, .lstore_n 1, 1), (9, .aload_n 0, 1), (10, .getfield 23, 3), (13, .iconst 0, 1), (14, .invokevirtual 133, 3), (17, .invokestatic 137, 3), (20, .iconst 2, 1), (21, .if_icmp .ne (23), 3), (24, .lload_n 1, 1), (25, .ldc2_w 207, 3), (28, .lcmp, 1), (29, .ifCond .lt (15), 3), (32, .lload_n 1, 1), (33, .ldc2_w 209, 3), (36, .lcmp, 1), (37, .ifCond .gt (7), 3), (40, .iconst 1, 1), (41, .goto (4), 3), (44, .iconst 0, 1), (45, .istore_n 3, 1), (46, .iload_n 3, 1), (47, .ifCond .eq (8), 3), (50, .lload_n 1, 1), (51, .l2i, 1), (52, .goto (4), 3), (55, .iconst 2, 1), (56, .ireturn, 1)]
theorem dq_160_0 : sf_dok 160 md_160_0 := by
  unfold sf_dok
  decide +kernel
def md_160 : sf_D := md_160_0
theorem dq_160 : sf_dok 160 md_160 := dq_160_0
def md_161_0 : sf_D := [(0, .iload_n 1, 1), (1, .tableswitch (125) 16 24 #[51, 60, 70, 83, 88, 93, 98, 107, 112], 51), (52, .aload_n 0, 1), (53, .aload_n 0, 1), (54, .invokevirtual 82, 3), (57, .invokevirtual 211, 3), (60, .ireturn, 1), (61, .aload_n 0, 1), (62, .getfield 23, 3), (65, .iconst 1, 1), (66, .invokevirtual 127, 3), (69, .iconst 0, 1), (70, .ireturn, 1), (71, .aload_n 0, 1), (72, .invokevirtual 214, 3), (75, .ifCond .eq (7), 3), (78, .iconst 0, 1), (79, .goto (4), 3), (82, .iconst 1, 1), (83, .ireturn, 1), (84, .aload_n 0, 1), (85, .invokevirtual 217, 3), (88, .ireturn, 1), (89, .aload_n 0, 1), (90, .invokevirtual 220, 3), (93, .ireturn, 1), (94, .aload_n 0, 1), (95, .invokevirtual 223, 3), (98, .ireturn, 1), (99, .aload_n 0, 1), (100, .aload_n 0, 1), (101, .invokevirtual 82, 3), (104, .invokevirtual 226, 3), (107, .ireturn, 1), (108, .aload_n 0, 1), (109, .invokevirtual 229, 3), (112, .ireturn, 1), (113, .aload_n 0, 1), (114, .getfield 23, 3), (117, .aload_n 0, 1), (118, .invokevirtual 82, 3), (121, .invokevirtual 232, 3), (124, .iconst 0, 1), (125, .ireturn, 1), (126, .iconst 0, 1), (127, .ireturn, 1)]
theorem dq_161_0 : sf_dok 161 md_161_0 := by
  unfold sf_dok
  decide +kernel
def md_161 : sf_D := md_161_0
theorem dq_161 : sf_dok 161 md_161 := dq_161_0
def md_162_0 : sf_D := [(0, .aload_n 0, 1), (1, .getfield 23, 3), (4, .aload_n 0, 1), (5, .getfield 11, 3), (8, .iload_n 1, 1), (9, .invokevirtual 235, 3), (12, .aload_n 0, 1), (13, .getfield 11, 3), (16, .iload_n 1, 1), (17, .invokevirtual 238, 3), (20, .invokevirtual 146, 3), (23, .iconst 0, 1), (24, .ireturn, 1)]
theorem dq_162_0 : sf_dok 162 md_162_0 := by
  unfold sf_dok
  decide +kernel
def md_162 : sf_D := md_162_0
theorem dq_162 : sf_dok 162 md_162 := dq_162_0
def md_163_0 : sf_D := [(0, .aload_n 0, 1), (1, .iload_n 1, 1), (2, .invokevirtual 54, 3), (5, .ifCond .eq (12), 3), (8, .aload_n 0, 1), (9, .getfield 16, 3), (12, .iload_n 1, 1), (13, .laload, 1), (14, .goto (6), 3), (17, .ldc2_w 57, 3), (20, .lreturn, 1)]
theorem dq_163_0 : sf_dok 163 md_163_0 := by
  unfold sf_dok
  decide +kernel
def md_163 : sf_D := md_163_0
theorem dq_163 : sf_dok 163 md_163 := dq_163_0
def md_164_0 : sf_D := [(0, .iload_n 1, 1), (1, .ifCond .lt (14), 3), (4, .iload_n 1, 1), (5, .sipush (5200), 3), (8, .if_icmp .ge (7), 3), (11, .iconst 1, 1), (12, .goto (4), 3), (15, .iconst 0, 1), (16, .ireturn, 1)]
theorem dq_164_0 : sf_dok 164 md_164_0 := by
  unfold sf_dok
  decide +kernel
def md_164 : sf_D := md_164_0
theorem dq_164 : sf_dok 164 md_164 := dq_164_0
def md_165_0 : sf_D := [(0, .aload_n 0, 1), (1, .iload_n 1, 1), (2, .invokevirtual 54, 3), (5, .ifCond .eq (12), 3), (8, .aload_n 0, 1), (9, .getfield 20, 3), (12, .iload_n 1, 1), (13, .laload, 1), (14, .goto (4), 3), (17, .lconst 0, 1), (18, .lreturn, 1)]
theorem dq_165_0 : sf_dok 165 md_165_0 := by
  unfold sf_dok
  decide +kernel
def md_165 : sf_D := md_165_0
theorem dq_165 : sf_dok 165 md_165 := dq_165_0
def md_166_0 : sf_D := [(0, .aload_n 0, 1), (1, .invokevirtual 82, 3), (4, .istore_n 1, 1), (5, .aload_n 0, 1), (6, .invokevirtual 82, 3), (9, .istore_n 2, 1), (10, .aload_n 0, 1), (11, .iload_n 1, 1), (12, .invokevirtual 244, 3), (15, .istore_n 3, 1), (16, .iload_n 1, 1), (17, .ifCond .ge (14), 3), (20, .aload_n 0, 1), (21, .getfield 19, 3), (24, .iload_n 2, 1), (25, .invokevirtual 247, 3), (28, .goto (12), 3), (31, .aload_n 0, 1), (32, .getfield 15, 3), (35, .iload_n 3, 1), (36, .iload_n 2, 1), (37, .invokevirtual 200, 3), (40, .lstore 4, 2), (42, .iload_n 1, 1), (43, .ifCond .ge (14), 3), (46, .aload_n 0, 1), (47, .getfield 19, 3), (50, .iload_n 2, 1), (51, .invokevirtual 251, 3), (54, .goto (12), 3), (57, .aload_n 0, 1), (58, .getfield 15, 3), (61, .iload_n 3, 1), (62, .iload_n 2, 1), (63, .invokevirtual 204, 3), (66, .lstore 6, 2), (68, .lload 4, 2), (70, .invokestatic 137, 3), (73, .ifCond .ne (5), 3), (76, .iconst 0, 1), (77, .ireturn, 1), (78, .aload_n 0, 1), (79, .getfield 23, 3), (82, .lload 4, 2), (84, .lload 6, 2), (86, .invokevirtual 146, 3), (89, .iconst 1, 1), (90, .ireturn, 1)]
theorem dq_166_0 : sf_dok 166 md_166_0 := by
  unfold sf_dok
  decide +kernel
def md_166 : sf_D := md_166_0
theorem dq_166 : sf_dok 166 md_166 := dq_166_0
def md_167_0 : sf_D := [(0, .aload_n 0, 1), (1, .getfield 78, 3), (4, .istore_n 2, 1), (5, .iconst 0, 1), (6, .istore_n 3, 1), (7, .iload_n 3, 1), (8, .iload_n 1, 1), (9, .if_icmp .ge (22), 3), (12, .iload_n 2, 1), (13, .ifCond .eq (18), 3), (16, .aload_n 0, 1), (17, .getfield 15, 3), (20, .iload_n 2, 1), (21, .invokevirtual 241, 3), (24, .istore_n 2, 1), (25, .iinc 3 (1), 3), (28, .goto (-21), 3), (31, .iload_n 2, 1), (32, .ireturn, 1)]
theorem dq_167_0 : sf_dok 167 md_167_0 := by
  unfold sf_dok
  decide +kernel
def md_167 : sf_D := md_167_0
theorem dq_167 : sf_dok 167 md_167 := dq_167_0
def md_168_0 : sf_D := [(0, .iload_n 1, 1), (1, .invokestatic 65, 3), (4, .ifCond .eq (12), 3), (7, .aload_n 0, 1), (8, .getfield 24, 3), (11, .iload_n 1, 1), (12, .iaload, 1), (13, .goto (4), 3), (16, .iconst 0, 1), (17, .ireturn, 1)]
theorem dq_168_0 : sf_dok 168 md_168_0 := by
  unfold sf_dok
  decide +kernel
def md_168 : sf_D := md_168_0
theorem dq_168 : sf_dok 168 md_168 := dq_168_0
def md_169_0 : sf_D := [(0, .aload_n 0, 1), (1, .iload_n 1, 1), (2, .invokevirtual 81, 3), (5, .ifCond .eq (12), 3), (8, .aload_n 0, 1), (9, .getfield 29, 3), (12, .iload_n 1, 1), (13, .laload, 1), (14, .goto (4), 3), (17, .lconst 0, 1), (18, .lreturn, 1)]
theorem dq_169_0 : sf_dok 169 md_169_0 := by
  unfold sf_dok
  decide +kernel
def md_169 : sf_D := md_169_0
theorem dq_169 : sf_dok 169 md_169 := dq_169_0
def md_170_0 : sf_D := [(0, .iload_n 1, 1), (1, .ifCond .lt (14), 3), (4, .iload_n 1, 1), (5, .sipush (4096), 3), (8, .if_icmp .ge (7), 3), (11, .iconst 1, 1), (12, .goto (4), 3), (15, .iconst 0, 1), (16, .ireturn, 1)]
theorem dq_170_0 : sf_dok 170 md_170_0 := by
  unfold sf_dok
  decide +kernel
def md_170 : sf_D := md_170_0
theorem dq_170 : sf_dok 170 md_170 := dq_170_0
def md_171_0 : sf_D := [(0, .aload_n 0, 1), (1, .iload_n 1, 1), (2, .invokevirtual 81, 3), (5, .ifCond .eq (12), 3), (8, .aload_n 0, 1), (9, .getfield 32, 3), (12, .iload_n 1, 1), (13, .laload, 1), (14, .goto (4), 3), (17, .lconst 0, 1), (18, .lreturn, 1)]
theorem dq_171_0 : sf_dok 171 md_171_0 := by
  unfold sf_dok
  decide +kernel
def md_171 : sf_D := md_171_0
theorem dq_171 : sf_dok 171 md_171 := dq_171_0
def md_172_0 : sf_D := [(0, .aload_n 0, 1), (1, .invokevirtual 82, 3), (4, .istore_n 1, 1), (5, .aload_n 0, 1), (6, .invokevirtual 82, 3), (9, .istore_n 2, 1), (10, .iload_n 1, 1), (11, .ifCond .ge (30), 3), (14, .aload_n 0, 1), (15, .getfield 19, 3), (18, .iload_n 2, 1), (19, .aload_n 0, 1), (20, .getfield 23, 3), (23, .iconst 0, 1), (24, .invokevirtual 133, 3), (27, .aload_n 0, 1), (28, .getfield 23, 3), (31, .iconst 0, 1), (32, .invokevirtual 141, 3), (35, .invokevirtual 253, 3), (38, .goto (32), 3), (41, .aload_n 0, 1), (42, .getfield 15, 3), (45, .aload_n 0, 1), (46, .iload_n 1, 1), (47, .invokevirtual 244, 3), (50, .iload_n 2, 1), (51, .aload_n 0, 1), (52, .getfield 23, 3), (55, .iconst 0, 1), (56, .invokevirtual 133, 3), (59, .aload_n 0, 1), (60, .getfield 23, 3), (63, .iconst 0, 1), (64, .invokevirtual 141, 3), (67, .invokevirtual 257, 3), (70, .aload_n 0, 1), (71, .getfield 23, 3), (74, .iconst 1, 1), (75, .invokevirtual 127, 3), (78, .iconst 0, 1), (79, .ireturn, 1)]
theorem dq_172_0 : sf_dok 172 md_172_0 := by
  unfold sf_dok
  decide +kernel
def md_172 : sf_D := md_172_0
theorem dq_172 : sf_dok 172 md_172 := dq_172_0
def md_173_0 : sf_D := [(0, .aload_n 0, 1), (1, .iload_n 1, 1), (2, .invokevirtual 81, 3), (5, .ifCond .ne (4), 3), (8, .return_, 1), (9, .aload_n 0, 1), (10, .getfield 29, 3), (13, .iload_n 1, 1), (14, .laload, 1), (15, .lstore 6, 2), (17, .aload_n 0, 1), (18, .getfield 32, 3), (21, .iload_n 1, 1), (22, .laload, 1), (23, .lstore 8, 2), (25, .lload 6, 2), (27, .invokestatic 88, 3), (30, .ifCond .eq (13), 3), (33, .aload_n 0, 1), (34, .dup, 1), (35, .getfield 85, 3), (38, .iconst 1, 1), (39, .isub, 1), (40, .putfield 85, 3), (43, .lload_n 2, 1), (44, .invokestatic 88, 3), (47, .ifCond .eq (13), 3), (50, .aload_n 0, 1), (51, .dup, 1), (52, .getfield 85, 3), (55, .iconst 1, 1), (56, .iadd, 1), (57, .putfield 85, 3), (60, .aload_n 0, 1), (61, .getfield 29, 3), (64, .iload_n 1, 1), (65, .lload_n 2, 1), (66, .lastore, 1), (67, .aload_n 0, 1), (68, .getfield 32, 3), (71, .iload_n 1, 1), (72, .lload 4, 2), (74, .lastore, 1), (75, .aload_n 0, 1), (76, .getfield 11, 3), (79, .aload_n 0, 1), (80, .getfield 11, 3), (83, .getfield 92, 3), (86, .lload_n 2, 1), (87, .lload 4, 2), (89, .invokestatic 97, 3), (92, .invokevirtual 100, 3), (95, .aload_n 0, 1), (96, .getfield 11, 3), (99, .aload_n 0, 1), (100, .getfield 11, 3), (103, .getfield 92, 3), (106, .lload 6, 2), (108, .lload 8, 2), (110, .invokestatic 97, 3), (113, .invokevirtual 104, 3), (116, .return_, 1)]
theorem dq_173_0 : sf_dok 173 md_173_0 := by
  unfold sf_dok
  decide +kernel
def md_173 : sf_D := md_173_0
theorem dq_173 : sf_dok 173 md_173 := dq_173_0
def md_174_0 : sf_D := [(0, .aload_n 0, 1), (1, .iload_n 1, 1), (2, .iload_n 2, 1), (3, .invokevirtual 95, 3), (6, .istore 7, 2), (8, .iload 7, 2), (10, .ifCond .ge (4), 3), (13, .return_, 1), (14, .aload_n 0, 1), (15, .getfield 38, 3), (18, .iload_n 1, 1), (19, .aaload, 1), (20, .iload 7, 2), (22, .laload, 1), (23, .aload_n 0, 1), (24, .getfield 38, 3), (27, .iload_n 1, 1), (28, .aaload, 1), (29, .iload 7, 2), (31, .iconst 1, 1), (32, .iadd, 1), (33, .laload, 1), (34, .invokestatic 91, 3), (37, .istore 8, 2), (39, .aload_n 0, 1), (40, .aload_n 0, 1), (41, .getfield 15, 3), (44, .lload_n 3, 1), (45, .lload 5, 2), (47, .invokestatic 91, 3), (50, .invokevirtual 69, 3), (53, .aload_n 0, 1), (54, .getfield 38, 3), (57, .iload_n 1, 1), (58, .aaload, 1), (59, .iload 7, 2), (61, .lload_n 3, 1), (62, .lastore, 1), (63, .aload_n 0, 1), (64, .getfield 38, 3), (67, .iload_n 1, 1), (68, .aaload, 1), (69, .iload 7, 2), (71, .iconst 1, 1), (72, .iadd, 1), (73, .lload 5, 2), (75, .lastore, 1), (76, .aload_n 0, 1), (77, .aload_n 0, 1), (78, .getfield 15, 3), (81, .iload 8, 2), (83, .invokevirtual 99, 3), (86, .return_, 1)]
theorem dq_174_0 : sf_dok 174 md_174_0 := by
  unfold sf_dok
  decide +kernel
def md_174 : sf_D := md_174_0
theorem dq_174 : sf_dok 174 md_174 := dq_174_0
def md_175_0 : sf_D := [(0, .aload_n 0, 1), (1, .invokevirtual 82, 3), (4, .istore_n 1, 1), (5, .aload_n 0, 1), (6, .invokevirtual 82, 3), (9, .istore_n 2, 1), (10, .iload_n 1, 1), (11, .ifCond .ge (14), 3), (14, .aload_n 0, 1), (15, .getfield 19, 3), (18, .iload_n 2, 1), (19, .invokevirtual 247, 3), (22, .goto (16), 3), (25, .aload_n 0, 1), (26, .getfield 15, 3), (29, .aload_n 0, 1), (30, .iload_n 1, 1), (31, .invokevirtual 244, 3), (34, .iload_n 2, 1), (35, .invokevirtual 200, 3), (38, .lstore_n 3, 1), (39, .lload_n 3, 1), (40, .invokestatic 137, 3), (43, .ifCond .ne (5), 3), (46, .iconst 1, 1), (47, .ireturn, 1), (48, .iload_n 1, 1), (49, .ifCond .ge (16), 3), (52, .aload_n 0, 1), (53, .getfield 19, 3), (56, .iload_n 2, 1), (57, .lconst 0, 1), (58, .lconst 0, 1), (59, .invokevirtual 253, 3), (62, .goto (18), 3), (65, .aload_n 0, 1), (66, .getfield 15, 3), (69, .aload_n 0, 1), (70, .iload_n 1, 1), (71, .invokevirtual 244, 3), (74, .iload_n 2, 1), (75, .lconst 0, 1), (76, .lconst 0, 1), (77, .invokevirtual 257, 3), (80, .iconst 0, 1), (81, .ireturn, 1)]
theorem dq_175_0 : sf_dok 175 md_175_0 := by
  unfold sf_dok
  decide +kernel
def md_175 : sf_D := md_175_0
theorem dq_175 : sf_dok 175 md_175 := dq_175_0
def md_176_0 : sf_D := [(0, .aload_n 0, 1), (1, .invokevirtual 214, 3), (4, .istore_n 1, 1), (5, .aload_n 0, 1), (6, .invokevirtual 82, 3), (9, .istore_n 2, 1), (10, .iload_n 1, 1), (11, .ifCond .eq (5), 3), (14, .iconst 0, 1), (15, .ireturn, 1), (16, .iload_n 2, 1), (17, .ifCond .ne (5), 3), (20, .iconst 1, 1), (21, .ireturn, 1), (22, .aload_n 0, 1), (23, .getfield 23, 3), (26, .ldc2_w 261, 3), (29, .iload_n 2, 1), (30, .i2l, 1), (31, .invokevirtual 146, 3), (34, .iconst 0, 1), (35, .ireturn, 1)]
theorem dq_176_0 : sf_dok 176 md_176_0 := by
  unfold sf_dok
  decide +kernel
def md_176 : sf_D := md_176_0
theorem dq_176 : sf_dok 176 md_176 := dq_176_0
def md_177_0 : sf_D := [(0, .aload_n 0, 1), (1, .getfield 15, 3), (4, .iconst 3, 1), (5, .invokevirtual 263, 3), (8, .istore_n 2, 1), (9, .iload_n 2, 1), (10, .ifCond .ne (6), 3), (13, .bipush (8), 2), (15, .ireturn, 1), (16, .aload_n 0, 1), (17, .getfield 15, 3), (20, .iload_n 2, 1), (21, .iload_n 1, 1), (22, .aload_n 0, 1), (23, .getfield 78, 3), (26, .iconst 0, 1), (27, .invokevirtual 266, 3), (30, .aload_n 0, 1), (31, .getfield 23, 3), (34, .ldc2_w 270, 3), (37, .iload_n 2, 1), (38, .i2l, 1), (39, .invokevirtual 146, 3), (42, .iconst 0, 1), (43, .ireturn, 1)]
theorem dq_177_0 : sf_dok 177 md_177_0 := by
  unfold sf_dok
  decide +kernel
def md_177 : sf_D := md_177_0
theorem dq_177 : sf_dok 177 md_177 := dq_177_0
def md_178_0 : sf_D := [(0, .aload_n 0, 1), (1, .getfield 55, 3), (4, .sipush (1500), 3), (7, .if_icmp .ge (14), 3), (10, .iload_n 1, 1), (11, .iconst 1, 1), (12, .if_icmp .lt (9), 3), (15, .iload_n 1, 1), (16, .bipush (7), 2), (18, .if_icmp .le (5), 3), (21, .iconst 0, 1), (22, .ireturn, 1), (23, .aload_n 0, 1), (24, .getfield 59, 3), (27, .iconst 1, 1), (28, .iadd, 1), (29, .istore_n 2, 1), (30, .aload_n 0, 1), (31, .getfield 62, 3), (34, .ifCond .le (36), 3), (37, .aload_n 0, 1), (38, .getfield 62, 3), (41, .sipush (1500), 3), (44, .if_icmp .gt (26), 3), (47, .aload_n 0, 1), (48, .dup, 1), (49, .getfield 62, 3), (52, .iconst 1, 1), (53, .isub, 1), (54, .putfield 62, 3), (57, .aload_n 0, 1), (58, .getfield 45, 3), (61, .aload_n 0, 1), (62, .getfield 62, 3), (65, .iaload, 1), (66, .istore_n 2, 1), (67, .goto (13), 3), (70, .aload_n 0, 1), (71, .dup, 1), (72, .getfield 59, 3), (75, .iconst 1, 1), (76, .iadd, 1), (77, .putfield 59, 3), (80, .iload_n 2, 1), (81, .invokestatic 65, 3), (84, .ifCond .ne (5), 3), (87, .iconst 0, 1), (88, .ireturn, 1), (89, .aload_n 0, 1), (90, .getfield 11, 3), (93, .iload_n 2, 1), (94, .iload_n 1, 1), (95, .iastore, 1), (96, .aload_n 0, 1), (97, .getfield 24, 3), (100, .iload_n 2, 1), (101, .iconst 0, 1), (102, .iastore, 1), (103, .aload_n 0, 1), (104, .getfield 27, 3), (107, .iload_n 2, 1), (108, .iconst 0, 1), (109, .iastore, 1), (110, .aload_n 0, 1), (111, .getfield 30, 3), (114, .iload_n 2, 1), (115, .iconst 0, 1), (116, .iastore, 1), (117, .aload_n 0, 1), (118, .getfield 33, 3), (121, .iload_n 2, 1), (122, .iconst 0, 1), (123, .iastore, 1), (124, .aload_n 0, 1), (125, .dup, 1), (126, .getfield 55, 3), (129, .iconst 1, 1), (130, .iadd, 1), (131, .putfield 55, 3), (134, .aload_n 0, 1), (135, .getfield 42, 3), (138, .iload_n 1, 1), (139, .dup2, 1), (140, .iaload, 1), (141, .iconst 1, 1), (142, .iadd, 1), (143, .iastore, 1), (144, .iload_n 2, 1), (145, .ireturn, 1)]
theorem dq_178_0 : sf_dok 178 md_178_0 := by
  unfold sf_dok
  decide +kernel
def md_178 : sf_D := md_178_0
theorem dq_178 : sf_dok 178 md_178 := dq_178_0
def md_179_0 : sf_D := [(0, .iload_n 1, 1), (1, .invokestatic 65, 3), (4, .ifCond .ne (4), 3), (7, .return_, 1), (8, .aload_n 0, 1), (9, .getfield 30, 3), (12, .iload_n 1, 1), (13, .iload_n 2, 1), (14, .iastore, 1), (15, .aload_n 0, 1), (16, .getfield 24, 3), (19, .iload_n 1, 1), (20, .iload_n 3, 1), (21, .iastore, 1), (22, .aload_n 0, 1), (23, .getfield 27, 3), (26, .iload_n 1, 1), (27, .iload 4, 2), (29, .iastore, 1), (30, .aload_n 0, 1), (31, .aload_n 0, 1), (32, .getfield 15, 3), (35, .iload_n 3, 1), (36, .invokevirtual 69, 3), (39, .aload_n 0, 1), (40, .aload_n 0, 1), (41, .getfield 15, 3), (44, .iload 4, 2), (46, .invokevirtual 69, 3), (49, .return_, 1)]
theorem dq_179_0 : sf_dok 179 md_179_0 := by
  unfold sf_dok
  decide +kernel
def md_179 : sf_D := md_179_0
theorem dq_179 : sf_dok 179 md_179 := dq_179_0
def md_180_0 : sf_D := [(0, .aload_n 0, 1), (1, .invokevirtual 82, 3), (4, .istore_n 1, 1), (5, .aload_n 0, 1), (6, .invokevirtual 82, 3), (9, .istore_n 2, 1), (10, .aload_n 0, 1), (11, .invokevirtual 82, 3), (14, .istore_n 3, 1), (15, .iload_n 2, 1), (16, .iconst 1, 1), (17, .if_icmp .ne (15), 3), (20, .aload_n 0, 1), (21, .getfield 23, 3), (24, .iconst 0, 1), (25, .iconst 4, 1), (26, .invokevirtual 190, 3), (29, .goto (4), 3), (32, .iconst 0, 1), (33, .istore 4, 2), (35, .iload_n 2, 1), (36, .iconst 1, 1), (37, .if_icmp .ne (10), 3), (40, .iload 4, 2), (42, .ifCond .ne (5), 3), (45, .iconst 2, 1), (46, .ireturn, 1), (47, .aload_n 0, 1), (48, .getfield 15, 3), (51, .iconst 4, 1), (52, .invokevirtual 263, 3), (55, .istore 5, 2), (57, .iload 5, 2), (59, .ifCond .ne (6), 3), (62, .bipush (8), 2), (64, .ireturn, 1), (65, .aload_n 0, 1), (66, .getfield 15, 3), (69, .iload 5, 2), (71, .iload_n 1, 1), (72, .iload 4, 2), (74, .iconst 0, 1), (75, .invokevirtual 266, 3), (78, .iload_n 3, 1), (79, .iconst 1, 1), (80, .isub, 1), (81, .istore 6, 2), (83, .iload 6, 2), (85, .ifCond .lt (67), 3), (88, .aload_n 0, 1), (89, .invokevirtual 82, 3), (92, .istore 7, 2), (94, .iload 6, 2), (96, .iload_n 2, 1), (97, .iadd, 1), (98, .istore 8, 2), (100, .aload_n 0, 1), (101, .getfield 15, 3), (104, .iload 5, 2), (106, .aload_n 0, 1), (107, .getfield 19, 3), (110, .iload 7, 2), (112, .invokevirtual 272, 3), (115, .aload_n 0, 1), (116, .getfield 19, 3), (119, .iload 7, 2), (121, .invokevirtual 275, 3), (124, .aload_n 0, 1), (125, .getfield 23, 3), (128, .iload 8, 2), (130, .invokevirtual 133, 3), (133, .aload_n 0, 1), (134, .getfield 23, 3), (137, .iload 8, 2), (139, .invokevirtual 141, 3), (142, .invokevirtual 278, 3), (145, .pop, 1), (146, .iinc 6 (-1), 3), (149, .goto (-66), 3), (152, .aload_n 0, 1), (153, .getfield 23, 3), (156, .iload_n 3, 1), (157, .iload_n 2, 1), (158, .iadd, 1), (159, .ldc2_w 270, 3), (162, .iload 5, 2), (164, .i2l, 1), (165, .invokevirtual 282, 3), (168, .ireturn, 1)]
theorem dq_180_0 : sf_dok 180 md_180_0 := by
  unfold sf_dok
  decide +kernel
def md_180 : sf_D := md_180_0
theorem dq_180 : sf_dok 180 md_180 := dq_180_0
def md_181_0 : sf_D := [(0, .aload_n 0, 1), (1, .iload_n 1, 1), (2, .invokevirtual 81, 3), (5, .ifCond .eq (12), 3), (8, .aload_n 0, 1), (9, .getfield 15, 3), (12, .iload_n 1, 1), (13, .laload, 1), (14, .goto (6), 3), (17, .ldc2_w 47, 3), (20, .lreturn, 1)]
theorem dq_181_0 : sf_dok 181 md_181_0 := by
  unfold sf_dok
  decide +kernel
def md_181 : sf_D := md_181_0
theorem dq_181 : sf_dok 181 md_181 := dq_181_0
def md_182_0 : sf_D := [(0, .aload_n 0, 1), (1, .iload_n 1, 1), (2, .invokevirtual 81, 3), (5, .ifCond .eq (12), 3), (8, .aload_n 0, 1), (9, .getfield 19, 3), (12, .iload_n 1, 1), (13, .laload, 1), (14, .goto (4), 3), (17, .lconst 0, 1), (18, .lreturn, 1)]
theorem dq_182_0 : sf_dok 182 md_182_0 := by
  unfold sf_dok
  decide +kernel
def md_182 : sf_D := md_182_0
theorem dq_182 : sf_dok 182 md_182 := dq_182_0
def md_183_0 : sf_D := [(0, .iload_n 1, 1), (1, .invokestatic 65, 3), (4, .ifCond .eq (21), 3), (7, .aload_n 0, 1), (8, .getfield 33, 3), (11, .iload_n 1, 1), (12, .iaload, 1), (13, .aload_n 0, 1), (14, .getfield 11, 3), (17, .iload_n 1, 1), (18, .iaload, 1), (19, .invokestatic 109, 3), (22, .if_icmp .lt (5), 3), (25, .iconst 0, 1), (26, .ireturn, 1), (27, .aload_n 0, 1), (28, .getfield 11, 3), (31, .iload_n 1, 1), (32, .iaload, 1), (33, .invokestatic 87, 3), (36, .istore 10, 2), (38, .aload_n 0, 1), (39, .getfield 33, 3), (42, .iload_n 1, 1), (43, .iaload, 1), (44, .iload 10, 2), (46, .imul, 1), (47, .istore 11, 2), (49, .aload_n 0, 1), (50, .iload_n 1, 1), (51, .iload 11, 2), (53, .iload 10, 2), (55, .iadd, 1), (56, .invokevirtual 112, 3), (59, .iload 10, 2), (61, .iconst 2, 1), (62, .if_icmp .lt (27), 3), (65, .aload_n 0, 1), (66, .getfield 38, 3), (69, .iload_n 1, 1), (70, .aaload, 1), (71, .ifnull (18), 3), (74, .iload 11, 2), (76, .iload 10, 2), (78, .iadd, 1), (79, .aload_n 0, 1), (80, .getfield 38, 3), (83, .iload_n 1, 1), (84, .aaload, 1), (85, .arraylength, 1), (86, .if_icmp .le (5), 3), (89, .iconst 0, 1), (90, .ireturn, 1), (91, .iload 10, 2), (93, .iconst 4, 1), (94, .if_icmp .ne (26), 3), (97, .aload_n 0, 1), (98, .getfield 38, 3), (101, .iload_n 1, 1), (102, .aaload, 1), (103, .iload 11, 2), (105, .lload_n 2, 1), (106, .lastore, 1), (107, .aload_n 0, 1), (108, .getfield 38, 3), (111, .iload_n 1, 1), (112, .aaload, 1), (113, .iload 11, 2), (115, .iconst 1, 1), (116, .iadd, 1), (117, .lload 4, 2), (119, .lastore, 1), (120, .aload_n 0, 1), (121, .getfield 38, 3), (124, .iload_n 1, 1), (125, .aaload, 1), (126, .iload 11, 2), (128, .iload 10, 2), (130, .iadd, 1), (131, .iconst 2, 1), (132, .isub, 1), (133, .lload 6, 2), (135, .lastore, 1), (136, .aload_n 0, 1), (137, .getfield 38, 3), (140, .iload_n 1, 1), (141, .aaload, 1), (142, .iload 11, 2), (144, .iload 10, 2), (146, .iadd, 1), (147, .iconst 1, 1), (148, .isub, 1), (149, .lload 8, 2), (151, .lastore, 1), (152, .aload_n 0, 1), (153, .getfield 33, 3), (156, .iload_n 1, 1), (157, .dup2, 1), (158, .iaload, 1), (159, .iconst 1, 1)]
theorem dq_183_0 : sf_dok 183 md_183_0 := by
  unfold sf_dok
  decide +kernel
def md_183_1 : sf_D := [(160, .iadd, 1), (161, .iastore, 1), (162, .aload_n 0, 1), (163, .aload_n 0, 1), (164, .getfield 15, 3), (167, .lload 6, 2), (169, .lload 8, 2), (171, .invokestatic 91, 3), (174, .invokevirtual 69, 3), (177, .iconst 1, 1), (178, .ireturn, 1)]
theorem dq_183_1 : sf_dok 183 md_183_1 := by
  unfold sf_dok
  decide +kernel
def md_183 : sf_D := md_183_0 ++ md_183_1
theorem dq_183 : sf_dok 183 md_183 := (sf_dap dq_183_0 dq_183_1)
def md_184_0 : sf_D := [(0, .iload_n 0, 1), (1, .iconst 1, 1), (2, .if_icmp .eq (9), 3), (5, .iload_n 0, 1), (6, .bipush (7), 2), (8, .if_icmp .ne (7), 3), (11, .sipush (300), 3), (14, .ireturn, 1), (15, .iload_n 0, 1), (16, .iconst 2, 1), (17, .if_icmp .ne (8), 3), (20, .bipush (100), 2), (22, .goto (5), 3), (25, .bipush (40), 2), (27, .ireturn, 1)]
theorem dq_184_0 : sf_dok 184 md_184_0 := by
  unfold sf_dok
  decide +kernel
def md_184 : sf_D := md_184_0
theorem dq_184 : sf_dok 184 md_184 := dq_184_0
def md_185_0 : sf_D := [(0, .iload_n 1, 1), (1, .invokestatic 65, 3), (4, .ifCond .eq (10), 3), (7, .iload_n 2, 1), (8, .sipush (600), 3), (11, .if_icmp .le (4), 3), (14, .return_, 1), (15, .aload_n 0, 1), (16, .getfield 38, 3), (19, .iload_n 1, 1), (20, .aaload, 1), (21, .ifnonnull (7), 3), (24, .iconst 0, 1), (25, .goto (10), 3), (28, .aload_n 0, 1), (29, .getfield 38, 3), (32, .iload_n 1, 1), (33, .aaload, 1), (34, .arraylength, 1), (35, .istore_n 3, 1), (36, .iload_n 2, 1), (37, .iload_n 3, 1), (38, .if_icmp .gt (4), 3), (41, .return_, 1), (42, .iload_n 2, 1), (43, .bipush (16), 2), (45, .if_icmp .gt (8), 3), (48, .bipush (16), 2), (50, .goto (30), 3), (53, .iload_n 2, 1), (54, .bipush (64), 2), (56, .if_icmp .gt (8), 3), (59, .bipush (64), 2), (61, .goto (19), 3), (64, .iload_n 2, 1), (65, .sipush (240), 3), (68, .if_icmp .gt (9), 3), (71, .sipush (240), 3), (74, .goto (6), 3), (77, .sipush (600), 3), (80, .istore 4, 2), (82, .aload_n 0, 1), (83, .getfield 38, 3), (86, .iload_n 1, 1), (87, .iload_n 3, 1), (88, .ifCond .ne (10), 3), (91, .iload 4, 2), (93, .newarray .long, 2), (95, .goto (14), 3), (98, .aload_n 0, 1), (99, .getfield 38, 3), (102, .iload_n 1, 1), (103, .aaload, 1), (104, .iload 4, 2), (106, .invokestatic 115, 3), (109, .aastore, 1), (110, .return_, 1)]
theorem dq_185_0 : sf_dok 185 md_185_0 := by
  unfold sf_dok
  decide +kernel
def md_185 : sf_D := md_185_0
theorem dq_185 : sf_dok 185 md_185 := dq_185_0
def md_186_0 : sf_D := [(0, .iload_n 1, 1), (1, .aload_n 0, 1), (2, .arraylength, 1), (3, .if_icmp .ne (11), 3), (6, .aload_n 0, 1), (7, .invokevirtual 319, 3), (10, .checkcast 320, 3), (13, .areturn, 1), (14, .iload_n 1, 1), (15, .newarray .long, 2), (17, .astore_n 2, 1), (18, .aload_n 0, 1), (19, .iconst 0, 1), (20, .aload_n 2, 1), (21, .iconst 0, 1), (22, .aload_n 0, 1), (23, .arraylength, 1), (24, .iload_n 1, 1), (25, .invokestatic 304, 3), (28, .invokestatic 150, 3), (31, .aload_n 2, 1), (32, .areturn, 1)]
theorem dq_186_0 : sf_dok 186 md_186_0 := by
  unfold sf_dok
  decide +kernel
def md_186 : sf_D := md_186_0
theorem dq_186 : sf_dok 186 md_186 := dq_186_0
def md_187_0 : sf_D := [(0, .iload_n 0, 1), (1, .iload_n 1, 1), (2, .if_icmp .gt (7), 3), (5, .iload_n 0, 1), (6, .goto (4), 3), (9, .iload_n 1, 1), (10, .ireturn, 1)]
theorem dq_187_0 : sf_dok 187 md_187_0 := by
  unfold sf_dok
  decide +kernel
def md_187 : sf_D := md_187_0
theorem dq_187 : sf_dok 187 md_187 := dq_187_0
def md_188_0 : sf_D := [(0, .aload_n 0, 1), (1, .iload_n 1, 1), (2, .invokevirtual 26, 3), (5, .ifCond .eq (7), 3), (8, .iload_n 1, 1), (9, .ifCond .ne (4), 3), (12, .return_, 1), (13, .aload_n 0, 1), (14, .getfield 22, 3), (17, .iconst 1, 1), (18, .isub, 1), (19, .iload_n 1, 1), (20, .isub, 1), (21, .istore_n 2, 1), (22, .aload_n 0, 1), (23, .getfield 15, 3), (26, .iload_n 2, 1), (27, .laload, 1), (28, .aload_n 0, 1), (29, .getfield 19, 3), (32, .iload_n 2, 1), (33, .laload, 1), (34, .invokestatic 37, 3), (37, .istore_n 3, 1), (38, .aload_n 0, 1), (39, .dup, 1), (40, .getfield 22, 3), (43, .iconst 1, 1), (44, .isub, 1), (45, .putfield 22, 3), (48, .aload_n 0, 1), (49, .getfield 15, 3), (52, .iload_n 2, 1), (53, .aload_n 0, 1), (54, .getfield 15, 3), (57, .aload_n 0, 1), (58, .getfield 22, 3), (61, .laload, 1), (62, .lastore, 1), (63, .aload_n 0, 1), (64, .getfield 19, 3), (67, .iload_n 2, 1), (68, .aload_n 0, 1), (69, .getfield 19, 3), (72, .aload_n 0, 1), (73, .getfield 22, 3), (76, .laload, 1), (77, .lastore, 1), (78, .aload_n 0, 1), (79, .getfield 9, 3), (82, .aload_n 0, 1), (83, .getfield 9, 3), (86, .getfield 50, 3), (89, .iload_n 3, 1), (90, .invokevirtual 58, 3), (93, .return_, 1)]
theorem dq_188_0 : sf_dok 188 md_188_0 := by
  unfold sf_dok
  decide +kernel
def md_188 : sf_D := md_188_0
theorem dq_188 : sf_dok 188 md_188 := dq_188_0
def md_189_0 : sf_D := [(0, .iload_n 1, 1), (1, .tableswitch (311) 25 43 #[91, 119, 124, 159, 164, 169, 174, 179, 203, 311, 311, 311, 311, 227, 232, 261, 290, 298, 306], 91), (92, .aload_n 0, 1), (93, .getfield 15, 3), (96, .iconst 1, 1), (97, .ldc2_w 23, 3), (100, .aload_n 0, 1), (101, .getfield 15, 3), (104, .iconst 0, 1), (105, .invokevirtual 25, 3), (108, .ifCond .eq (7), 3), (111, .lconst 0, 1), (112, .goto (4), 3), (115, .lconst 1, 1), (116, .invokevirtual 31, 3), (119, .ireturn, 1), (120, .aload_n 0, 1), (121, .invokevirtual 35, 3), (124, .ireturn, 1), (125, .aload_n 0, 1), (126, .iconst 3, 1), (127, .invokevirtual 39, 3), (130, .ifCond .eq (10), 3), (133, .aload_n 0, 1), (134, .invokevirtual 42, 3), (137, .goto (22), 3), (140, .aload_n 0, 1), (141, .iconst 4, 1), (142, .invokevirtual 39, 3), (145, .ifCond .eq (10), 3), (148, .aload_n 0, 1), (149, .invokevirtual 45, 3), (152, .goto (7), 3), (155, .aload_n 0, 1), (156, .invokevirtual 48, 3), (159, .ireturn, 1), (160, .aload_n 0, 1), (161, .invokevirtual 51, 3), (164, .ireturn, 1), (165, .aload_n 0, 1), (166, .invokevirtual 54, 3), (169, .ireturn, 1), (170, .aload_n 0, 1), (171, .invokevirtual 57, 3), (174, .ireturn, 1), (175, .aload_n 0, 1), (176, .invokevirtual 60, 3), (179, .ireturn, 1), (180, .aload_n 0, 1), (181, .getfield 15, 3), (184, .iconst 2, 1), (185, .ldc2_w 23, 3), (188, .aload_n 0, 1), (189, .invokevirtual 63, 3), (192, .ifCond .eq (7), 3), (195, .lconst 1, 1), (196, .goto (4), 3), (199, .lconst 0, 1), (200, .invokevirtual 31, 3), (203, .ireturn, 1), (204, .aload_n 0, 1), (205, .getfield 15, 3), (208, .iconst 2, 1), (209, .ldc2_w 23, 3), (212, .aload_n 0, 1), (213, .invokevirtual 63, 3), (216, .ifCond .eq (7), 3), (219, .lconst 0, 1), (220, .goto (4), 3), (223, .lconst 1, 1), (224, .invokevirtual 31, 3), (227, .ireturn, 1), (228, .aload_n 0, 1), (229, .invokevirtual 67, 3), (232, .ireturn, 1), (233, .aload_n 0, 1), (234, .getfield 15, 3), (237, .iconst 1, 1), (238, .invokevirtual 70, 3), (241, .invokestatic 74, 3), (244, .iconst 3, 1), (245, .if_icmp .ne (11), 3), (248, .aload_n 0, 1), (249, .iconst 2, 1), (250, .invokevirtual 78, 3), (253, .goto (8), 3), (256, .aload_n 0, 1), (257, .iconst 2, 1), (258, .invokevirtual 82, 3), (261, .ireturn, 1), (262, .aload_n 0, 1), (263, .getfield 15, 3), (266, .iconst 1, 1), (267, .invokevirtual 70, 3), (270, .invokestatic 74, 3), (273, .iconst 3, 1), (274, .if_icmp .ne (11), 3), (277, .aload_n 0, 1), (278, .iconst 0, 1), (279, .invokevirtual 78, 3)]
theorem dq_189_0 : sf_dok 189 md_189_0 := by
  unfold sf_dok
  decide +kernel
def md_189_1 : sf_D := [(282, .goto (8), 3), (285, .aload_n 0, 1), (286, .iconst 0, 1), (287, .invokevirtual 82, 3), (290, .ireturn, 1), (291, .aload_n 0, 1), (292, .iconst 1, 1), (293, .iconst 0, 1), (294, .iconst 2, 1), (295, .invokevirtual 85, 3), (298, .ireturn, 1), (299, .aload_n 0, 1), (300, .iconst 2, 1), (301, .iconst 1, 1), (302, .iconst 0, 1), (303, .invokevirtual 85, 3), (306, .ireturn, 1), (307, .aload_n 0, 1), (308, .invokevirtual 89, 3), (311, .ireturn, 1), (312, .aload_n 0, 1), (313, .iload_n 1, 1), (314, .invokevirtual 92, 3), (317, .ireturn, 1)]
theorem dq_189_1 : sf_dok 189 md_189_1 := by
  unfold sf_dok
  decide +kernel
def md_189 : sf_D := md_189_0 ++ md_189_1
theorem dq_189 : sf_dok 189 md_189 := (sf_dap dq_189_0 dq_189_1)
def md_190_0 : sf_D := [(0, .aload_n 0, 1), (1, .getfield 15, 3), (4, .iconst 0, 1), (5, .invokevirtual 111, 3), (8, .lstore_n 1, 1), (9, .aload_n 0, 1), (10, .getfield 15, 3), (13, .iconst 0, 1), (14, .invokevirtual 70, 3), (17, .invokestatic 74, 3), (20, .iconst 2, 1), (21, .if_icmp .eq (5), 3), (24, .iconst 2, 1), (25, .ireturn, 1), (26, .lload_n 1, 1), (27, .ldc2_w 114, 3), (30, .lcmp, 1), (31, .ifCond .ne (8), 3), (34, .bipush (6), 2), (36, .goto (16), 3), (39, .aload_n 0, 1), (40, .getfield 15, 3), (43, .iconst 1, 1), (44, .ldc2_w 23, 3), (47, .lload_n 1, 1), (48, .lneg, 1), (49, .invokevirtual 31, 3), (52, .ireturn, 1)]
theorem dq_190_0 : sf_dok 190 md_190_0 := by
  unfold sf_dok
  decide +kernel
def md_190 : sf_D := md_190_0
theorem dq_190 : sf_dok 190 md_190 := dq_190_0
def md_191_0 : sf_D := [(0, .aload_n 0, 1), (1, .getfield 15, 3), (4, .iconst 0, 1), (5, .invokevirtual 70, 3), (8, .invokestatic 74, 3), (11, .iload_n 1, 1), (12, .if_icmp .ne (22), 3), (15, .aload_n 0, 1), (16, .getfield 15, 3), (19, .iconst 1, 1), (20, .invokevirtual 70, 3), (23, .invokestatic 74, 3), (26, .iload_n 1, 1), (27, .if_icmp .ne (7), 3), (30, .iconst 1, 1), (31, .goto (4), 3), (34, .iconst 0, 1), (35, .ireturn, 1)]
theorem dq_191_0 : sf_dok 191 md_191_0 := by
  unfold sf_dok
  decide +kernel
def md_191 : sf_D := md_191_0
theorem dq_191 : sf_dok 191 md_191 := dq_191_0
def md_192_0 : sf_D := [(0, .aload_n 0, 1), (1, .getfield 15, 3), (4, .iconst 1, 1), (5, .invokevirtual 70, 3), (8, .lstore_n 1, 1), (9, .aload_n 0, 1), (10, .getfield 15, 3), (13, .iconst 1, 1), (14, .invokevirtual 111, 3), (17, .lstore_n 3, 1), (18, .aload_n 0, 1), (19, .getfield 15, 3), (22, .iconst 0, 1), (23, .invokevirtual 70, 3), (26, .invokestatic 116, 3), (29, .istore 5, 2), (31, .lload_n 1, 1), (32, .invokestatic 116, 3), (35, .iload 5, 2), (37, .iadd, 1), (38, .bipush (15), 2), (40, .if_icmp .le (6), 3), (43, .bipush (8), 2), (45, .ireturn, 1), (46, .iconst 0, 1), (47, .istore 6, 2), (49, .iload 6, 2), (51, .iload 5, 2), (53, .if_icmp .ge (47), 3), (56, .aload_n 0, 1), (57, .getfield 15, 3), (60, .iconst 0, 1), (61, .invokevirtual 70, 3), (64, .aload_n 0, 1), (65, .getfield 15, 3), (68, .iconst 0, 1), (69, .invokevirtual 111, 3), (72, .iload 6, 2), (74, .invokestatic 119, 3), (77, .istore 7, 2), (79, .lload_n 1, 1), (80, .lload_n 3, 1), (81, .iload 7, 2), (83, .invokestatic 123, 3), (86, .lstore_n 3, 1), (87, .lload_n 1, 1), (88, .iload 7, 2), (90, .invokestatic 127, 3), (93, .lstore_n 1, 1), (94, .iinc 6 (1), 3), (97, .goto (-48), 3), (100, .aload_n 0, 1), (101, .getfield 15, 3), (104, .iconst 2, 1), (105, .lload_n 1, 1), (106, .lload_n 3, 1), (107, .invokevirtual 31, 3), (110, .ireturn, 1)]
theorem dq_192_0 : sf_dok 192 md_192_0 := by
  unfold sf_dok
  decide +kernel
def md_192 : sf_D := md_192_0
theorem dq_192 : sf_dok 192 md_192 := dq_192_0
def md_193_0 : sf_D := [(0, .iload 4, 2), (2, .bipush (7), 2), (4, .if_icmp .ge (16), 3), (7, .lload_n 0, 1), (8, .bipush (48), 2), (10, .bipush (8), 2), (12, .iload 4, 2), (14, .imul, 1), (15, .isub, 1), (16, .lushr, 1), (17, .goto (16), 3), (20, .lload_n 2, 1), (21, .bipush (56), 2), (23, .bipush (8), 2), (25, .iload 4, 2), (27, .bipush (7), 2), (29, .isub, 1), (30, .imul, 1), (31, .isub, 1), (32, .lushr, 1), (33, .lstore 5, 2), (35, .lload 5, 2), (37, .l2i, 1), (38, .sipush (255), 3), (41, .iand, 1), (42, .ireturn, 1)]
theorem dq_193_0 : sf_dok 193 md_193_0 := by
  unfold sf_dok
  decide +kernel
def md_193 : sf_D := md_193_0
theorem dq_193 : sf_dok 193 md_193 := dq_193_0
def md_194_0 : sf_D := [(0, .aload_n 0, 1), (1, .getfield 15, 3), (4, .iconst 1, 1), (5, .iconst 1, 1), (6, .invokevirtual 133, 3), (9, .istore_n 1, 1), (10, .aload_n 0, 1), (11, .getfield 15, 3), (14, .iconst 0, 1), (15, .iconst 1, 1), (16, .invokevirtual 133, 3), (19, .istore_n 2, 1), (20, .iload_n 1, 1), (21, .ifCond .eq (7), 3), (24, .iload_n 2, 1), (25, .ifCond .ne (5), 3), (28, .iconst 2, 1), (29, .ireturn, 1), (30, .aload_n 0, 1), (31, .getfield 9, 3), (34, .iload_n 1, 1), (35, .invokevirtual 136, 3), (38, .aload_n 0, 1), (39, .getfield 9, 3), (42, .iload_n 2, 1), (43, .invokevirtual 136, 3), (46, .iadd, 1), (47, .sipush (300), 3), (50, .if_icmp .le (6), 3), (53, .bipush (8), 2), (55, .ireturn, 1), (56, .aload_n 0, 1), (57, .getfield 9, 3), (60, .iconst 1, 1), (61, .invokevirtual 139, 3), (64, .istore_n 3, 1), (65, .iload_n 3, 1), (66, .ifCond .ne (6), 3), (69, .bipush (8), 2), (71, .ireturn, 1), (72, .aload_n 0, 1), (73, .getfield 9, 3), (76, .iload_n 3, 1), (77, .iload_n 1, 1), (78, .invokevirtual 142, 3), (81, .aload_n 0, 1), (82, .getfield 9, 3), (85, .iload_n 3, 1), (86, .iload_n 2, 1), (87, .invokevirtual 142, 3), (90, .aload_n 0, 1), (91, .getfield 15, 3), (94, .iconst 2, 1), (95, .ldc2_w 146, 3), (98, .iload_n 3, 1), (99, .i2l, 1), (100, .invokevirtual 31, 3), (103, .ireturn, 1)]
theorem dq_194_0 : sf_dok 194 md_194_0 := by
  unfold sf_dok
  decide +kernel
def md_194 : sf_D := md_194_0
theorem dq_194 : sf_dok 194 md_194 := dq_194_0
def md_195_0 : sf_D := [(0, .aload_n 0, 1), (1, .iload_n 2, 1), (2, .invokevirtual 121, 3), (5, .istore_n 3, 1), (6, .iconst 0, 1), (7, .istore 4, 2), (9, .iload 4, 2), (11, .iload_n 3, 1), (12, .if_icmp .ge (31), 3), (15, .aload_n 0, 1), (16, .iload_n 1, 1), (17, .lconst 0, 1), (18, .lconst 0, 1), (19, .aload_n 0, 1), (20, .iload_n 2, 1), (21, .iload 4, 2), (23, .invokevirtual 124, 3), (26, .aload_n 0, 1), (27, .iload_n 2, 1), (28, .iload 4, 2), (30, .invokevirtual 128, 3), (33, .invokevirtual 131, 3), (36, .pop, 1), (37, .iinc 4 (1), 3), (40, .goto (-31), 3), (43, .return_, 1)]
theorem dq_195_0 : sf_dok 195 md_195_0 := by
  unfold sf_dok
  decide +kernel
def md_195 : sf_D := md_195_0
theorem dq_195 : sf_dok 195 md_195 := dq_195_0
def md_196_0 : sf_D := [(0, .aload_n 0, 1), (1, .iconst 2, 1), (2, .invokevirtual 39, 3), (5, .ifCond .ne (5), 3), (8, .iconst 2, 1), (9, .ireturn, 1), (10, .aload_n 0, 1), (11, .getfield 15, 3), (14, .iconst 1, 1), (15, .invokevirtual 111, 3), (18, .lstore_n 1, 1), (19, .aload_n 0, 1), (20, .getfield 15, 3), (23, .iconst 0, 1), (24, .invokevirtual 111, 3), (27, .lstore_n 3, 1), (28, .lload_n 1, 1), (29, .lload_n 3, 1), (30, .ladd, 1), (31, .lstore 5, 2), (33, .lload_n 1, 1), (34, .lload 5, 2), (36, .lxor, 1), (37, .lload_n 3, 1), (38, .lload 5, 2), (40, .lxor, 1), (41, .land, 1), (42, .lconst 0, 1), (43, .lcmp, 1), (44, .ifCond .ge (7), 3), (47, .iconst 1, 1), (48, .goto (4), 3), (51, .iconst 0, 1), (52, .istore 7, 2), (54, .iload 7, 2), (56, .ifCond .eq (8), 3), (59, .bipush (6), 2), (61, .goto (16), 3), (64, .aload_n 0, 1), (65, .getfield 15, 3), (68, .iconst 2, 1), (69, .ldc2_w 23, 3), (72, .lload 5, 2), (74, .invokevirtual 31, 3), (77, .ireturn, 1)]
theorem dq_196_0 : sf_dok 196 md_196_0 := by
  unfold sf_dok
  decide +kernel
def md_196 : sf_D := md_196_0
theorem dq_196 : sf_dok 196 md_196 := dq_196_0
def md_197_0 : sf_D := [(0, .aload_n 0, 1), (1, .iconst 2, 1), (2, .invokevirtual 39, 3), (5, .ifCond .ne (5), 3), (8, .iconst 2, 1), (9, .ireturn, 1), (10, .aload_n 0, 1), (11, .getfield 15, 3), (14, .iconst 1, 1), (15, .invokevirtual 111, 3), (18, .lstore_n 1, 1), (19, .aload_n 0, 1), (20, .getfield 15, 3), (23, .iconst 0, 1), (24, .invokevirtual 111, 3), (27, .lstore_n 3, 1), (28, .lload_n 1, 1), (29, .lload_n 3, 1), (30, .lsub, 1), (31, .lstore 5, 2), (33, .lload_n 1, 1), (34, .lload_n 3, 1), (35, .lxor, 1), (36, .lload_n 1, 1), (37, .lload 5, 2), (39, .lxor, 1), (40, .land, 1), (41, .lconst 0, 1), (42, .lcmp, 1), (43, .ifCond .ge (7), 3), (46, .iconst 1, 1), (47, .goto (4), 3), (50, .iconst 0, 1), (51, .istore 7, 2), (53, .iload 7, 2), (55, .ifCond .eq (8), 3), (58, .bipush (6), 2), (60, .goto (16), 3), (63, .aload_n 0, 1), (64, .getfield 15, 3), (67, .iconst 2, 1), (68, .ldc2_w 23, 3), (71, .lload 5, 2), (73, .invokevirtual 31, 3), (76, .ireturn, 1)]
theorem dq_197_0 : sf_dok 197 md_197_0 := by
  unfold sf_dok
  decide +kernel
def md_197 : sf_D := md_197_0
theorem dq_197 : sf_dok 197 md_197 := dq_197_0
def md_198_0 : sf_D := [(0, .aload_n 0, 1), (1, .iconst 2, 1), (2, .invokevirtual 39, 3), (5, .ifCond .ne (5), 3), (8, .iconst 2, 1), (9, .ireturn, 1), (10, .aload_n 0, 1), (11, .getfield 15, 3), (14, .iconst 1, 1), (15, .invokevirtual 111, 3), (18, .lstore_n 1, 1), (19, .aload_n 0, 1), (20, .getfield 15, 3), (23, .iconst 0, 1), (24, .invokevirtual 111, 3), (27, .lstore_n 3, 1), (28, .lload_n 1, 1), (29, .lload_n 3, 1), (30, .lmul, 1), (31, .lstore 5, 2), (33, .lload_n 1, 1), (34, .ldc2_w 148, 3), (37, .lcmp, 1), (38, .ifCond .ne (19), 3), (41, .lload_n 3, 1), (42, .ldc2_w 114, 3), (45, .lcmp, 1), (46, .ifCond .ne (7), 3), (49, .iconst 1, 1), (50, .goto (27), 3), (53, .iconst 0, 1), (54, .goto (23), 3), (57, .lload_n 1, 1), (58, .lconst 0, 1), (59, .lcmp, 1), (60, .ifCond .eq (16), 3), (63, .lload 5, 2), (65, .lload_n 1, 1), (66, .ldiv, 1), (67, .lload_n 3, 1), (68, .lcmp, 1), (69, .ifCond .eq (7), 3), (72, .iconst 1, 1), (73, .goto (4), 3), (76, .iconst 0, 1), (77, .istore 7, 2), (79, .iload 7, 2), (81, .ifCond .eq (8), 3), (84, .bipush (6), 2), (86, .goto (16), 3), (89, .aload_n 0, 1), (90, .getfield 15, 3), (93, .iconst 2, 1), (94, .ldc2_w 23, 3), (97, .lload 5, 2), (99, .invokevirtual 31, 3), (102, .ireturn, 1)]
theorem dq_198_0 : sf_dok 198 md_198_0 := by
  unfold sf_dok
  decide +kernel
def md_198 : sf_D := md_198_0
theorem dq_198 : sf_dok 198 md_198 := dq_198_0
def md_199_0 : sf_D := [(0, .aload_n 0, 1), (1, .iconst 2, 1), (2, .invokevirtual 39, 3), (5, .ifCond .ne (5), 3), (8, .iconst 2, 1), (9, .ireturn, 1), (10, .aload_n 0, 1), (11, .getfield 15, 3), (14, .iconst 1, 1), (15, .invokevirtual 111, 3), (18, .lstore_n 1, 1), (19, .aload_n 0, 1), (20, .getfield 15, 3), (23, .iconst 0, 1), (24, .invokevirtual 111, 3), (27, .lstore_n 3, 1), (28, .lload_n 3, 1), (29, .lconst 0, 1), (30, .lcmp, 1), (31, .ifCond .ne (5), 3), (34, .iconst 5, 1), (35, .ireturn, 1), (36, .lload_n 1, 1), (37, .ldc2_w 114, 3), (40, .lcmp, 1), (41, .ifCond .ne (14), 3), (44, .lload_n 3, 1), (45, .ldc2_w 148, 3), (48, .lcmp, 1), (49, .ifCond .ne (6), 3), (52, .bipush (6), 2), (54, .ireturn, 1), (55, .aload_n 0, 1), (56, .getfield 15, 3), (59, .iconst 2, 1), (60, .ldc2_w 23, 3), (63, .lload_n 1, 1), (64, .lload_n 3, 1), (65, .invokestatic 150, 3), (68, .invokevirtual 31, 3), (71, .ireturn, 1)]
theorem dq_199_0 : sf_dok 199 md_199_0 := by
  unfold sf_dok
  decide +kernel
def md_199 : sf_D := md_199_0
theorem dq_199 : sf_dok 199 md_199 := dq_199_0
def md_200_0 : sf_D := [(0, .lload_n 0, 1), (1, .lload_n 2, 1), (2, .ldiv, 1), (3, .lstore 4, 2), (5, .lload_n 0, 1), (6, .lload_n 2, 1), (7, .lxor, 1), (8, .lconst 0, 1), (9, .lcmp, 1), (10, .ifCond .ge (17), 3), (13, .lload 4, 2), (15, .lload_n 2, 1), (16, .lmul, 1), (17, .lload_n 0, 1), (18, .lcmp, 1), (19, .ifCond .eq (8), 3), (22, .lload 4, 2), (24, .lconst 1, 1), (25, .lsub, 1), (26, .lreturn, 1), (27, .lload 4, 2), (29, .lreturn, 1)]
theorem dq_200_0 : sf_dok 200 md_200_0 := by
  unfold sf_dok
  decide +kernel
def md_200 : sf_D := md_200_0
theorem dq_200 : sf_dok 200 md_200 := dq_200_0
def md_201_0 : sf_D := [(0, .aload_n 0, 1), (1, .iconst 2, 1), (2, .invokevirtual 39, 3), (5, .ifCond .ne (5), 3), (8, .iconst 2, 1), (9, .ireturn, 1), (10, .aload_n 0, 1), (11, .getfield 15, 3), (14, .iconst 0, 1), (15, .invokevirtual 111, 3), (18, .lstore_n 1, 1), (19, .lload_n 1, 1), (20, .lconst 0, 1), (21, .lcmp, 1), (22, .ifCond .ne (5), 3), (25, .iconst 5, 1), (26, .ireturn, 1), (27, .aload_n 0, 1), (28, .getfield 15, 3), (31, .iconst 2, 1), (32, .ldc2_w 23, 3), (35, .aload_n 0, 1), (36, .getfield 15, 3), (39, .iconst 1, 1), (40, .invokevirtual 111, 3), (43, .lload_n 1, 1), (44, .invokestatic 156, 3), (47, .invokevirtual 31, 3), (50, .ireturn, 1)]
theorem dq_201_0 : sf_dok 201 md_201_0 := by
  unfold sf_dok
  decide +kernel
def md_201 : sf_D := md_201_0
theorem dq_201 : sf_dok 201 md_201 := dq_201_0
def md_202_0 : sf_D := [(0, .lload_n 0, 1), (1, .lload_n 2, 1), (2, .lrem, 1), (3, .lstore 4, 2), (5, .lload_n 0, 1), (6, .lload_n 2, 1), (7, .lxor, 1), (8, .lconst 0, 1), (9, .lcmp, 1), (10, .ifCond .ge (15), 3), (13, .lload 4, 2), (15, .lconst 0, 1), (16, .lcmp, 1), (17, .ifCond .eq (8), 3), (20, .lload 4, 2), (22, .lload_n 2, 1), (23, .ladd, 1), (24, .lreturn, 1), (25, .lload 4, 2), (27, .lreturn, 1)]
theorem dq_202_0 : sf_dok 202 md_202_0 := by
  unfold sf_dok
  decide +kernel
def md_202 : sf_D := md_202_0
theorem dq_202 : sf_dok 202 md_202 := dq_202_0
def md_203_0 : sf_D := [(0, .aload_n 0, 1), (1, .getfield 15, 3), (4, .iconst 0, 1), (5, .invokevirtual 70, 3), (8, .aload_n 0, 1), (9, .getfield 15, 3), (12, .iconst 1, 1), (13, .invokevirtual 70, 3), (16, .lcmp, 1), (17, .ifCond .ne (27), 3), (20, .aload_n 0, 1), (21, .getfield 15, 3), (24, .iconst 0, 1), (25, .invokevirtual 111, 3), (28, .aload_n 0, 1), (29, .getfield 15, 3), (32, .iconst 1, 1), (33, .invokevirtual 111, 3), (36, .lcmp, 1), (37, .ifCond .ne (7), 3), (40, .iconst 1, 1), (41, .goto (4), 3), (44, .iconst 0, 1), (45, .ireturn, 1)]
theorem dq_203_0 : sf_dok 203 md_203_0 := by
  unfold sf_dok
  decide +kernel
def md_203 : sf_D := md_203_0
theorem dq_203 : sf_dok 203 md_203 := dq_203_0
def md_204_0 : sf_D := [(0, .aload_n 0, 1), (1, .getfield 15, 3), (4, .iconst 0, 1), (5, .invokevirtual 169, 3), (8, .istore_n 1, 1), (9, .aload_n 0, 1), (10, .getfield 15, 3), (13, .iconst 1, 1), (14, .invokevirtual 70, 3), (17, .lstore_n 2, 1), (18, .aload_n 0, 1), (19, .getfield 15, 3), (22, .iconst 1, 1), (23, .invokevirtual 111, 3), (26, .lstore 4, 2), (28, .iconst 0, 1), (29, .istore 6, 2), (31, .aload_n 0, 1), (32, .getfield 9, 3), (35, .iload_n 1, 1), (36, .invokevirtual 171, 3), (39, .iconst 2, 1), (40, .if_icmp .ne (36), 3), (43, .lload_n 2, 1), (44, .invokestatic 174, 3), (47, .ifCond .ne (5), 3), (50, .iconst 2, 1), (51, .ireturn, 1), (52, .aload_n 0, 1), (53, .getfield 9, 3), (56, .iload_n 1, 1), (57, .lload_n 2, 1), (58, .lload 4, 2), (60, .invokevirtual 178, 3), (63, .ifCond .lt (7), 3), (66, .iconst 1, 1), (67, .goto (4), 3), (70, .iconst 0, 1), (71, .istore 6, 2), (73, .goto (89), 3), (76, .aload_n 0, 1), (77, .getfield 9, 3), (80, .iload_n 1, 1), (81, .invokevirtual 171, 3), (84, .iconst 1, 1), (85, .if_icmp .ne (75), 3), (88, .aload_n 0, 1), (89, .getfield 9, 3), (92, .iload_n 1, 1), (93, .invokevirtual 136, 3), (96, .istore 7, 2), (98, .iconst 0, 1), (99, .istore 8, 2), (101, .iload 8, 2), (103, .iload 7, 2), (105, .if_icmp .ge (52), 3), (108, .iload 6, 2), (110, .ifCond .ne (47), 3), (113, .aload_n 0, 1), (114, .getfield 9, 3), (117, .iload_n 1, 1), (118, .iload 8, 2), (120, .invokevirtual 181, 3), (123, .lload_n 2, 1), (124, .lcmp, 1), (125, .ifCond .ne (23), 3), (128, .aload_n 0, 1), (129, .getfield 9, 3), (132, .iload_n 1, 1), (133, .iload 8, 2), (135, .invokevirtual 185, 3), (138, .lload 4, 2), (140, .lcmp, 1), (141, .ifCond .ne (7), 3), (144, .iconst 1, 1), (145, .goto (4), 3), (148, .iconst 0, 1), (149, .istore 6, 2), (151, .iinc 8 (1), 3), (154, .goto (-53), 3), (157, .goto (5), 3), (160, .iconst 2, 1), (161, .ireturn, 1), (162, .aload_n 0, 1), (163, .getfield 15, 3), (166, .iconst 2, 1), (167, .ldc2_w 23, 3), (170, .iload 6, 2), (172, .ifCond .eq (7), 3), (175, .lconst 1, 1), (176, .goto (4), 3), (179, .lconst 0, 1), (180, .invokevirtual 31, 3), (183, .ireturn, 1)]
theorem dq_204_0 : sf_dok 204 md_204_0 := by
  unfold sf_dok
  decide +kernel
def md_204 : sf_D := md_204_0
theorem dq_204 : sf_dok 204 md_204 := dq_204_0
def md_205_0 : sf_D := [(0, .lload_n 0, 1), (1, .invokestatic 152, 3), (4, .iconst 2, 1), (5, .if_icmp .eq (11), 3), (8, .lload_n 0, 1), (9, .invokestatic 152, 3), (12, .iconst 3, 1), (13, .if_icmp .ne (7), 3), (16, .iconst 1, 1), (17, .goto (4), 3), (20, .iconst 0, 1), (21, .ireturn, 1)]
theorem dq_205_0 : sf_dok 205 md_205_0 := by
  unfold sf_dok
  decide +kernel
def md_205 : sf_D := md_205_0
theorem dq_205 : sf_dok 205 md_205 := dq_205_0
def md_206_0 : sf_D := [(0, .iload_n 1, 1), (1, .invokestatic 65, 3), (4, .ifCond .eq (25), 3), (7, .aload_n 0, 1), (8, .getfield 38, 3), (11, .iload_n 1, 1), (12, .aaload, 1), (13, .ifnull (16), 3), (16, .aload_n 0, 1), (17, .getfield 11, 3), (20, .iload_n 1, 1), (21, .iaload, 1), (22, .invokestatic 87, 3), (25, .iconst 4, 1), (26, .if_icmp .eq (5), 3), (29, .iconst (-1), 1), (30, .ireturn, 1), (31, .aload_n 0, 1), (32, .getfield 38, 3), (35, .iload_n 1, 1), (36, .aaload, 1), (37, .astore 6, 2), (39, .iconst 0, 1), (40, .istore 7, 2), (42, .iload 7, 2), (44, .aload_n 0, 1), (45, .getfield 33, 3), (48, .iload_n 1, 1), (49, .iaload, 1), (50, .if_icmp .ge (51), 3), (53, .iconst 4, 1), (54, .iload 7, 2), (56, .imul, 1), (57, .iconst 3, 1), (58, .iadd, 1), (59, .aload 6, 2), (61, .arraylength, 1), (62, .if_icmp .ge (39), 3), (65, .aload 6, 2), (67, .iconst 4, 1), (68, .iload 7, 2), (70, .imul, 1), (71, .laload, 1), (72, .lload_n 2, 1), (73, .lcmp, 1), (74, .ifCond .ne (21), 3), (77, .aload 6, 2), (79, .iconst 4, 1), (80, .iload 7, 2), (82, .imul, 1), (83, .iconst 1, 1), (84, .iadd, 1), (85, .laload, 1), (86, .lload 4, 2), (88, .lcmp, 1), (89, .ifCond .ne (6), 3), (92, .iload 7, 2), (94, .ireturn, 1), (95, .iinc 7 (1), 3), (98, .goto (-56), 3), (101, .iconst (-1), 1), (102, .ireturn, 1)]
theorem dq_206_0 : sf_dok 206 md_206_0 := by
  unfold sf_dok
  decide +kernel
def md_206 : sf_D := md_206_0
theorem dq_206 : sf_dok 206 md_206 := dq_206_0
def md_207_0 : sf_D := [(0, .aload_n 0, 1), (1, .getfield 15, 3), (4, .iconst 1, 1), (5, .invokevirtual 70, 3), (8, .lstore_n 2, 1), (9, .aload_n 0, 1), (10, .getfield 15, 3), (13, .iconst 0, 1), (14, .invokevirtual 70, 3), (17, .invokestatic 74, 3), (20, .iconst 2, 1), (21, .if_icmp .eq (5), 3), (24, .iconst 2, 1), (25, .ireturn, 1), (26, .aload_n 0, 1), (27, .getfield 15, 3), (30, .iconst 0, 1), (31, .invokevirtual 111, 3), (34, .lload_n 2, 1), (35, .invokestatic 116, 3), (38, .invokestatic 188, 3), (41, .istore 4, 2), (43, .iload 4, 2), (45, .ifCond .ge (7), 3), (48, .iload 4, 2), (50, .ineg, 1), (51, .ireturn, 1), (52, .aload_n 0, 1), (53, .getfield 15, 3), (56, .iload_n 1, 1), (57, .ldc2_w 195, 3), (60, .lload_n 2, 1), (61, .aload_n 0, 1), (62, .getfield 15, 3), (65, .iconst 1, 1), (66, .invokevirtual 111, 3), (69, .iload 4, 2), (71, .invokestatic 119, 3), (74, .invokestatic 127, 3), (77, .lconst 0, 1), (78, .invokevirtual 31, 3), (81, .ireturn, 1)]
theorem dq_207_0 : sf_dok 207 md_207_0 := by
  unfold sf_dok
  decide +kernel
def md_207 : sf_D := md_207_0
theorem dq_207 : sf_dok 207 md_207 := dq_207_0
def md_208_0 : sf_D := [(0, .lload_n 0, 1), (1, .lconst 0, 1), (2, .lcmp, 1), (3, .ifCond .ge (10), 3), (6, .lload_n 0, 1), (7, .iload_n 2, 1), (8, .i2l, 1), (9, .ladd, 1), (10, .goto (4), 3), (13, .lload_n 0, 1), (14, .lstore_n 3, 1), (15, .lload_n 3, 1), (16, .lconst 0, 1), (17, .lcmp, 1), (18, .ifCond .lt (10), 3), (21, .lload_n 3, 1), (22, .iload_n 2, 1), (23, .i2l, 1), (24, .lcmp, 1), (25, .ifCond .lt (8), 3), (28, .bipush (-3), 2), (30, .goto (5), 3), (33, .lload_n 3, 1), (34, .l2i, 1), (35, .ireturn, 1)]
theorem dq_208_0 : sf_dok 208 md_208_0 := by
  unfold sf_dok
  decide +kernel
def md_208 : sf_D := md_208_0
theorem dq_208 : sf_dok 208 md_208 := dq_208_0
def md_209_0 : sf_D := [(0, .aload_n 0, 1), (1, .iconst 1, 1), (2, .iconst 0, 1), (3, .invokevirtual 192, 3), (6, .istore_n 2, 1), (7, .iload_n 2, 1), (8, .ifCond .ge (6), 3), (11, .iload_n 2, 1), (12, .ineg, 1), (13, .ireturn, 1), (14, .aload_n 0, 1), (15, .getfield 15, 3), (18, .iconst 1, 1), (19, .invokevirtual 169, 3), (22, .istore_n 3, 1), (23, .aload_n 0, 1), (24, .getfield 15, 3), (27, .iload_n 1, 1), (28, .aload_n 0, 1), (29, .getfield 9, 3), (32, .iload_n 3, 1), (33, .iload_n 2, 1), (34, .invokevirtual 181, 3), (37, .aload_n 0, 1), (38, .getfield 9, 3), (41, .iload_n 3, 1), (42, .iload_n 2, 1), (43, .invokevirtual 185, 3), (46, .invokevirtual 31, 3), (49, .ireturn, 1)]
theorem dq_209_0 : sf_dok 209 md_209_0 := by
  unfold sf_dok
  decide +kernel
def md_209 : sf_D := md_209_0
theorem dq_209 : sf_dok 209 md_209 := dq_209_0
def md_210_0 : sf_D := [(0, .aload_n 0, 1), (1, .getfield 15, 3), (4, .iload_n 1, 1), (5, .invokevirtual 169, 3), (8, .istore_n 3, 1), (9, .aload_n 0, 1), (10, .getfield 15, 3), (13, .iload_n 2, 1), (14, .invokevirtual 70, 3), (17, .lstore 4, 2), (19, .aload_n 0, 1), (20, .getfield 15, 3), (23, .iload_n 2, 1), (24, .invokevirtual 111, 3), (27, .lstore 6, 2), (29, .aload_n 0, 1), (30, .getfield 9, 3), (33, .iload_n 3, 1), (34, .invokevirtual 171, 3), (37, .iconst 1, 1), (38, .if_icmp .ne (31), 3), (41, .lload 4, 2), (43, .invokestatic 74, 3), (46, .iconst 2, 1), (47, .if_icmp .ne (19), 3), (50, .lload 6, 2), (52, .aload_n 0, 1), (53, .getfield 9, 3), (56, .iload_n 3, 1), (57, .invokevirtual 136, 3), (60, .invokestatic 188, 3), (63, .goto (5), 3), (66, .bipush (-2), 2), (68, .ireturn, 1), (69, .aload_n 0, 1), (70, .getfield 9, 3), (73, .iload_n 3, 1), (74, .invokevirtual 171, 3), (77, .iconst 2, 1), (78, .if_icmp .ne (11), 3), (81, .lload 4, 2), (83, .invokestatic 174, 3), (86, .ifCond .ne (6), 3), (89, .bipush (-2), 2), (91, .ireturn, 1), (92, .aload_n 0, 1), (93, .getfield 9, 3), (96, .iload_n 3, 1), (97, .lload 4, 2), (99, .lload 6, 2), (101, .invokevirtual 178, 3), (104, .istore 8, 2), (106, .iload 8, 2), (108, .ifCond .ge (8), 3), (111, .bipush (-4), 2), (113, .goto (5), 3), (116, .iload 8, 2), (118, .ireturn, 1)]
theorem dq_210_0 : sf_dok 210 md_210_0 := by
  unfold sf_dok
  decide +kernel
def md_210 : sf_D := md_210_0
theorem dq_210 : sf_dok 210 md_210 := dq_210_0
def md_211_0 : sf_D := [(0, .aload_n 0, 1), (1, .iload_n 1, 1), (2, .iload_n 2, 1), (3, .invokevirtual 192, 3), (6, .istore 4, 2), (8, .aload_n 0, 1), (9, .getfield 15, 3), (12, .iload_n 1, 1), (13, .invokevirtual 169, 3), (16, .istore 5, 2), (18, .aload_n 0, 1), (19, .getfield 15, 3), (22, .iload_n 3, 1), (23, .invokevirtual 70, 3), (26, .lstore 6, 2), (28, .aload_n 0, 1), (29, .getfield 15, 3), (32, .iload_n 3, 1), (33, .invokevirtual 111, 3), (36, .lstore 8, 2), (38, .iload 4, 2), (40, .ifCond .lt (21), 3), (43, .aload_n 0, 1), (44, .getfield 9, 3), (47, .iload 5, 2), (49, .iload 4, 2), (51, .lload 6, 2), (53, .lload 8, 2), (55, .invokevirtual 197, 3), (58, .goto (49), 3), (61, .iload 4, 2), (63, .bipush (-4), 2), (65, .if_icmp .eq (7), 3), (68, .iload 4, 2), (70, .ineg, 1), (71, .ireturn, 1), (72, .aload_n 0, 1), (73, .getfield 9, 3), (76, .iload 5, 2), (78, .aload_n 0, 1), (79, .getfield 15, 3), (82, .iload_n 2, 1), (83, .invokevirtual 70, 3), (86, .aload_n 0, 1), (87, .getfield 15, 3), (90, .iload_n 2, 1), (91, .invokevirtual 111, 3), (94, .lload 6, 2), (96, .lload 8, 2), (98, .invokevirtual 201, 3), (101, .ifCond .ne (6), 3), (104, .bipush (8), 2), (106, .ireturn, 1), (107, .aload_n 0, 1), (108, .getfield 15, 3), (111, .iconst 3, 1), (112, .invokevirtual 205, 3), (115, .iconst 0, 1), (116, .ireturn, 1)]
theorem dq_211_0 : sf_dok 211 md_211_0 := by
  unfold sf_dok
  decide +kernel
def md_211 : sf_D := md_211_0
theorem dq_211 : sf_dok 211 md_211 := dq_211_0
def md_212_0 : sf_D := [(0, .aload_n 0, 1), (1, .iconst 1, 1), (2, .iconst 0, 1), (3, .invokevirtual 192, 3), (6, .istore_n 1, 1), (7, .iload_n 1, 1), (8, .ifCond .ge (6), 3), (11, .iload_n 1, 1), (12, .ineg, 1), (13, .ireturn, 1), (14, .aload_n 0, 1), (15, .getfield 9, 3), (18, .aload_n 0, 1), (19, .getfield 15, 3), (22, .iconst 1, 1), (23, .invokevirtual 169, 3), (26, .iload_n 1, 1), (27, .invokevirtual 209, 3), (30, .aload_n 0, 1), (31, .getfield 15, 3), (34, .iconst 2, 1), (35, .invokevirtual 205, 3), (38, .iconst 0, 1), (39, .ireturn, 1)]
theorem dq_212_0 : sf_dok 212 md_212_0 := by
  unfold sf_dok
  decide +kernel
def md_212 : sf_D := md_212_0
theorem dq_212 : sf_dok 212 md_212 := dq_212_0
def md_213_0 : sf_D := [(0, .aload_n 0, 1), (1, .iload_n 1, 1), (2, .iload_n 2, 1), (3, .invokevirtual 95, 3), (6, .istore_n 3, 1), (7, .iload_n 3, 1), (8, .ifCond .ge (4), 3), (11, .return_, 1), (12, .aload_n 0, 1), (13, .getfield 38, 3), (16, .iload_n 1, 1), (17, .aaload, 1), (18, .iload_n 3, 1), (19, .laload, 1), (20, .aload_n 0, 1), (21, .getfield 38, 3), (24, .iload_n 1, 1), (25, .aaload, 1), (26, .iload_n 3, 1), (27, .iconst 1, 1), (28, .iadd, 1), (29, .laload, 1), (30, .invokestatic 91, 3), (33, .istore 4, 2), (35, .aload_n 0, 1), (36, .getfield 11, 3), (39, .iload_n 1, 1), (40, .iaload, 1), (41, .invokestatic 87, 3), (44, .istore 5, 2), (46, .iload_n 2, 1), (47, .iconst 1, 1), (48, .iadd, 1), (49, .iload 5, 2), (51, .imul, 1), (52, .istore 6, 2), (54, .aload_n 0, 1), (55, .getfield 33, 3), (58, .iload_n 1, 1), (59, .iaload, 1), (60, .iload 5, 2), (62, .imul, 1), (63, .iload 6, 2), (65, .isub, 1), (66, .istore 7, 2), (68, .iload 7, 2), (70, .ifCond .le (49), 3), (73, .iload 6, 2), (75, .iload 5, 2), (77, .if_icmp .lt (42), 3), (80, .iload 6, 2), (82, .iload 7, 2), (84, .iadd, 1), (85, .aload_n 0, 1), (86, .getfield 38, 3), (89, .iload_n 1, 1), (90, .aaload, 1), (91, .arraylength, 1), (92, .if_icmp .gt (27), 3), (95, .aload_n 0, 1), (96, .getfield 38, 3), (99, .iload_n 1, 1), (100, .aaload, 1), (101, .iload 6, 2), (103, .aload_n 0, 1), (104, .getfield 38, 3), (107, .iload_n 1, 1), (108, .aaload, 1), (109, .iload 6, 2), (111, .iload 5, 2), (113, .isub, 1), (114, .iload 7, 2), (116, .invokestatic 139, 3), (119, .aload_n 0, 1), (120, .getfield 33, 3), (123, .iload_n 1, 1), (124, .dup2, 1), (125, .iaload, 1), (126, .iconst 1, 1), (127, .isub, 1), (128, .iastore, 1), (129, .aload_n 0, 1), (130, .aload_n 0, 1), (131, .getfield 15, 3), (134, .iload 4, 2), (136, .invokevirtual 99, 3), (139, .return_, 1)]
theorem dq_213_0 : sf_dok 213 md_213_0 := by
  unfold sf_dok
  decide +kernel
def md_213 : sf_D := md_213_0
theorem dq_213 : sf_dok 213 md_213 := dq_213_0
def sf_md2 : List (Nat × sf_D) := [(147, md_147), (148, md_148), (149, md_149), (150, md_150), (151, md_151), (152, md_152), (153, md_153), (154, md_154), (155, md_155), (156, md_156), (157, md_157), (158, md_158), (159, md_159), (160, md_160), (161, md_161), (162, md_162), (163, md_163), (164, md_164), (165, md_165), (166, md_166), (167, md_167), (168, md_168), (169, md_169), (170, md_170), (171, md_171), (172, md_172), (173, md_173), (174, md_174), (175, md_175), (176, md_176), (177, md_177), (178, md_178), (179, md_179), (180, md_180), (181, md_181), (182, md_182), (183, md_183), (184, md_184), (185, md_185), (186, md_186), (187, md_187), (188, md_188), (189, md_189), (190, md_190), (191, md_191), (192, md_192), (193, md_193), (194, md_194), (195, md_195), (196, md_196), (197, md_197), (198, md_198), (199, md_199), (200, md_200), (201, md_201), (202, md_202), (203, md_203), (204, md_204), (205, md_205), (206, md_206), (207, md_207), (208, md_208), (209, md_209), (210, md_210), (211, md_211), (212, md_212), (213, md_213)]
theorem sf_mdq2 : ∀ q ∈ sf_md2, sf_dok q.1 q.2 := (List.forall_mem_cons.mpr ⟨dq_147, (List.forall_mem_cons.mpr ⟨dq_148, (List.forall_mem_cons.mpr ⟨dq_149, (List.forall_mem_cons.mpr ⟨dq_150, (List.forall_mem_cons.mpr ⟨dq_151, (List.forall_mem_cons.mpr ⟨dq_152, (List.forall_mem_cons.mpr ⟨dq_153, (List.forall_mem_cons.mpr ⟨dq_154, (List.forall_mem_cons.mpr ⟨dq_155, (List.forall_mem_cons.mpr ⟨dq_156, (List.forall_mem_cons.mpr ⟨dq_157, (List.forall_mem_cons.mpr ⟨dq_158, (List.forall_mem_cons.mpr ⟨dq_159, (List.forall_mem_cons.mpr ⟨dq_160, (List.forall_mem_cons.mpr ⟨dq_161, (List.forall_mem_cons.mpr ⟨dq_162, (List.forall_mem_cons.mpr ⟨dq_163, (List.forall_mem_cons.mpr ⟨dq_164, (List.forall_mem_cons.mpr ⟨dq_165, (List.forall_mem_cons.mpr ⟨dq_166, (List.forall_mem_cons.mpr ⟨dq_167, (List.forall_mem_cons.mpr ⟨dq_168, (List.forall_mem_cons.mpr ⟨dq_169, (List.forall_mem_cons.mpr ⟨dq_170, (List.forall_mem_cons.mpr ⟨dq_171, (List.forall_mem_cons.mpr ⟨dq_172, (List.forall_mem_cons.mpr ⟨dq_173, (List.forall_mem_cons.mpr ⟨dq_174, (List.forall_mem_cons.mpr ⟨dq_175, (List.forall_mem_cons.mpr ⟨dq_176, (List.forall_mem_cons.mpr ⟨dq_177, (List.forall_mem_cons.mpr ⟨dq_178, (List.forall_mem_cons.mpr ⟨dq_179, (List.forall_mem_cons.mpr ⟨dq_180, (List.forall_mem_cons.mpr ⟨dq_181, (List.forall_mem_cons.mpr ⟨dq_182, (List.forall_mem_cons.mpr ⟨dq_183, (List.forall_mem_cons.mpr ⟨dq_184, (List.forall_mem_cons.mpr ⟨dq_185, (List.forall_mem_cons.mpr ⟨dq_186, (List.forall_mem_cons.mpr ⟨dq_187, (List.forall_mem_cons.mpr ⟨dq_188, (List.forall_mem_cons.mpr ⟨dq_189, (List.forall_mem_cons.mpr ⟨dq_190, (List.forall_mem_cons.mpr ⟨dq_191, (List.forall_mem_cons.mpr ⟨dq_192, (List.forall_mem_cons.mpr ⟨dq_193, (List.forall_mem_cons.mpr ⟨dq_194, (List.forall_mem_cons.mpr ⟨dq_195, (List.forall_mem_cons.mpr ⟨dq_196, (List.forall_mem_cons.mpr ⟨dq_197, (List.forall_mem_cons.mpr ⟨dq_198, (List.forall_mem_cons.mpr ⟨dq_199, (List.forall_mem_cons.mpr ⟨dq_200, (List.forall_mem_cons.mpr ⟨dq_201, (List.forall_mem_cons.mpr ⟨dq_202, (List.forall_mem_cons.mpr ⟨dq_203, (List.forall_mem_cons.mpr ⟨dq_204, (List.forall_mem_cons.mpr ⟨dq_205, (List.forall_mem_cons.mpr ⟨dq_206, (List.forall_mem_cons.mpr ⟨dq_207, (List.forall_mem_cons.mpr ⟨dq_208, (List.forall_mem_cons.mpr ⟨dq_209, (List.forall_mem_cons.mpr ⟨dq_210, (List.forall_mem_cons.mpr ⟨dq_211, (List.forall_mem_cons.mpr ⟨dq_212, (List.forall_mem_cons.mpr ⟨dq_213, (fun _ h => absurd h List.not_mem_nil)⟩)⟩)⟩)⟩)⟩)⟩)⟩)⟩)⟩)⟩)⟩)⟩)⟩)⟩)⟩)⟩)⟩)⟩)⟩)⟩)⟩)⟩)⟩)⟩)⟩)⟩)⟩)⟩)⟩)⟩)⟩)⟩)⟩)⟩)⟩)⟩)⟩)⟩)⟩)⟩)⟩)⟩)⟩)⟩)⟩)⟩)⟩)⟩)⟩)⟩)⟩)⟩)⟩)⟩)⟩)⟩)⟩)⟩)⟩)⟩)⟩)⟩)⟩)⟩)⟩)⟩)⟩)
