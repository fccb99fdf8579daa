def md_214_0 : sf_D := [(0, .iconst 0, 1), (1, .istore_n 2, 1), (2, .aload_n 0, 1), (3, .iconst 2, 1), (4, .invokevirtual 39, 3), (7, .ifCond .eq (26), 3), (10, .aload_n 0, 1), (11, .getfield 15, 3), (14, .iconst 1, 1), (15, .invokevirtual 111, 3), (18, .aload_n 0, 1), (19, .getfield 15, 3), (22, .iconst 0, 1), (23, .invokevirtual 111, 3), (26, .invokestatic 159, 3), (29, .istore_n 2, 1), (30, .goto (21), 3), (33, .aload_n 0, 1), (34, .iconst 3, 1), (35, .invokevirtual 39, 3), (38, .ifCond .eq (11), 3), (41, .aload_n 0, 1), (42, .invokevirtual 164, 3), (45, .istore_n 2, 1), (46, .goto (5), 3), (49, .iconst 2, 1), (50, .ireturn, 1), (51, .iconst 0, 1), (52, .istore_n 3, 1), (53, .iload_n 1, 1), (54, .tableswitch (65) 34 36 #[26, 39, 52], 26), (80, .iload_n 2, 1), (81, .ifCond .ge (7), 3), (84, .iconst 1, 1), (85, .goto (4), 3), (88, .iconst 0, 1), (89, .istore_n 3, 1), (90, .goto (39), 3), (93, .iload_n 2, 1), (94, .ifCond .gt (7), 3), (97, .iconst 1, 1), (98, .goto (4), 3), (101, .iconst 0, 1), (102, .istore_n 3, 1), (103, .goto (26), 3), (106, .iload_n 2, 1), (107, .ifCond .le (7), 3), (110, .iconst 1, 1), (111, .goto (4), 3), (114, .iconst 0, 1), (115, .istore_n 3, 1), (116, .goto (13), 3), (119, .iload_n 2, 1), (120, .ifCond .lt (7), 3), (123, .iconst 1, 1), (124, .goto (4), 3), (127, .iconst 0, 1), (128, .istore_n 3, 1), (129, .aload_n 0, 1), (130, .getfield 15, 3), (133, .iconst 2, 1), (134, .ldc2_w 23, 3), (137, .iload_n 3, 1), (138, .ifCond .eq (7), 3), (141, .lconst 1, 1), (142, .goto (4), 3), (145, .lconst 0, 1), (146, .invokevirtual 31, 3), (149, .ireturn, 1)]
theorem dq_214_0 : sf_dok 214 md_214_0 := by
  unfold sf_dok
  decide +kernel
def md_214 : sf_D := md_214_0
theorem dq_214 : sf_dok 214 md_214 := dq_214_0
def md_215_0 : sf_D := [(0, .lload_n 0, 1), (1, .lload_n 2, 1), (2, .lcmp, 1), (3, .ifCond .ge (7), 3), (6, .iconst (-1), 1), (7, .goto (14), 3), (10, .lload_n 0, 1), (11, .lload_n 2, 1), (12, .lcmp, 1), (13, .ifCond .ne (7), 3), (16, .iconst 0, 1), (17, .goto (4), 3), (20, .iconst 1, 1), (21, .ireturn, 1)]
theorem dq_215_0 : sf_dok 215 md_215_0 := by
  unfold sf_dok
  decide +kernel
def md_215 : sf_D := md_215_0
theorem dq_215 : sf_dok 215 md_215 := dq_215_0
def md_216_0 : sf_D := [(0, .ldc2_w 167, 3), (3, .lstore_n 1, 1), (4, .aload_n 0, 1), (5, .getfield 15, 3), (8, .iconst 1, 1), (9, .invokevirtual 70, 3), (12, .lload_n 1, 1), (13, .land, 1), (14, .aload_n 0, 1), (15, .getfield 15, 3), (18, .iconst 0, 1), (19, .invokevirtual 70, 3), (22, .lload_n 1, 1), (23, .land, 1), (24, .invokestatic 159, 3), (27, .istore_n 3, 1), (28, .iload_n 3, 1), (29, .ifCond .eq (7), 3), (32, .iload_n 3, 1), (33, .goto (22), 3), (36, .aload_n 0, 1), (37, .getfield 15, 3), (40, .iconst 1, 1), (41, .invokevirtual 111, 3), (44, .aload_n 0, 1), (45, .getfield 15, 3), (48, .iconst 0, 1), (49, .invokevirtual 111, 3), (52, .invokestatic 159, 3), (55, .ireturn, 1)]
theorem dq_216_0 : sf_dok 216 md_216_0 := by
  unfold sf_dok
  decide +kernel
def md_216 : sf_D := md_216_0
theorem dq_216 : sf_dok 216 md_216 := dq_216_0
def md_217_0 : sf_D := [(0, .iload_n 1, 1), (1, .tableswitch (91) 44 50 #[43, 50, 57, 65, 73, 79, 85], 43), (44, .aload_n 0, 1), (45, .iload_n 2, 1), (46, .iconst 1, 1), (47, .invokevirtual 95, 3), (50, .ireturn, 1), (51, .aload_n 0, 1), (52, .iload_n 2, 1), (53, .iconst 0, 1), (54, .invokevirtual 95, 3), (57, .ireturn, 1), (58, .aload_n 0, 1), (59, .iload_n 2, 1), (60, .iconst 0, 1), (61, .iconst 1, 1), (62, .invokevirtual 99, 3), (65, .ireturn, 1), (66, .aload_n 0, 1), (67, .iload_n 2, 1), (68, .iconst 1, 1), (69, .iconst 0, 1), (70, .invokevirtual 99, 3), (73, .ireturn, 1), (74, .aload_n 0, 1), (75, .iload_n 2, 1), (76, .invokevirtual 102, 3), (79, .ireturn, 1), (80, .aload_n 0, 1), (81, .iload_n 2, 1), (82, .invokevirtual 105, 3), (85, .ireturn, 1), (86, .aload_n 0, 1), (87, .iload_n 2, 1), (88, .invokevirtual 108, 3), (91, .ireturn, 1), (92, .iconst 0, 1), (93, .ireturn, 1)]
theorem dq_217_0 : sf_dok 217 md_217_0 := by
  unfold sf_dok
  decide +kernel
def md_217 : sf_D := md_217_0
theorem dq_217 : sf_dok 217 md_217 := dq_217_0
def md_218_0 : sf_D := [(0, .aload_n 0, 1), (1, .getfield 15, 3), (4, .iconst 0, 1), (5, .invokevirtual 169, 3), (8, .istore_n 3, 1), (9, .aload_n 0, 1), (10, .iload_n 3, 1), (11, .invokevirtual 212, 3), (14, .ifCond .ne (5), 3), (17, .iconst 2, 1), (18, .ireturn, 1), (19, .aload_n 0, 1), (20, .getfield 19, 3), (23, .iload_n 1, 1), (24, .invokevirtual 215, 3), (27, .lstore 4, 2), (29, .aload_n 0, 1), (30, .getfield 19, 3), (33, .iload_n 1, 1), (34, .invokevirtual 220, 3), (37, .lstore 6, 2), (39, .aload_n 0, 1), (40, .getfield 9, 3), (43, .iload_n 3, 1), (44, .invokevirtual 171, 3), (47, .iconst 5, 1), (48, .if_icmp .ne (22), 3), (51, .aload_n 0, 1), (52, .getfield 9, 3), (55, .iload_n 3, 1), (56, .lload 4, 2), (58, .lload 6, 2), (60, .invokevirtual 178, 3), (63, .ifCond .ge (7), 3), (66, .iconst 1, 1), (67, .goto (4), 3), (70, .iconst 0, 1), (71, .istore 8, 2), (73, .aload_n 0, 1), (74, .getfield 9, 3), (77, .iload 8, 2), (79, .ifCond .eq (14), 3), (82, .aload_n 0, 1), (83, .getfield 9, 3), (86, .iload_n 3, 1), (87, .invokevirtual 223, 3), (90, .goto (4), 3), (93, .iload_n 3, 1), (94, .lload 4, 2), (96, .lload 6, 2), (98, .invokevirtual 226, 3), (101, .istore 9, 2), (103, .iload 9, 2), (105, .ifCond .ne (6), 3), (108, .bipush (9), 2), (110, .ireturn, 1), (111, .aload_n 0, 1), (112, .getfield 9, 3), (115, .iload 9, 2), (117, .lload 4, 2), (119, .lload 6, 2), (121, .invokevirtual 178, 3), (124, .istore 10, 2), (126, .aload_n 0, 1), (127, .getfield 9, 3), (130, .iload 9, 2), (132, .iload 10, 2), (134, .invokevirtual 181, 3), (137, .lstore 11, 2), (139, .aload_n 0, 1), (140, .getfield 9, 3), (143, .iload 9, 2), (145, .iload 10, 2), (147, .invokevirtual 185, 3), (150, .lstore 13, 2), (152, .lload 11, 2), (154, .lload 13, 2), (156, .invokestatic 229, 3), (159, .istore 15, 2), (161, .iload 8, 2), (163, .ifCond .eq (16), 3), (166, .aload_n 0, 1), (167, .getfield 9, 3), (170, .iload 15, 2), (172, .invokevirtual 171, 3), (175, .iconst 3, 1), (176, .if_icmp .eq (16), 3), (179, .aload_n 0, 1), (180, .getfield 15, 3), (183, .iload_n 2, 1), (184, .lload 11, 2), (186, .lload 13, 2), (188, .invokevirtual 31, 3), (191, .ireturn, 1), (192, .aload_n 0, 1), (193, .getfield 9, 3), (196, .bipush (6), 2), (198, .invokevirtual 139, 3), (201, .istore 16, 2), (203, .iload 16, 2)]
theorem dq_218_0 : sf_dok 218 md_218_0 := by
  unfold sf_dok
  decide +kernel
def md_218_1 : sf_D := [(205, .ifCond .ne (6), 3), (208, .bipush (8), 2), (210, .ireturn, 1), (211, .aload_n 0, 1), (212, .getfield 9, 3), (215, .iload 16, 2), (217, .iconst 0, 1), (218, .iload 15, 2), (220, .iload_n 3, 1), (221, .invokevirtual 232, 3), (224, .aload_n 0, 1), (225, .getfield 15, 3), (228, .iload_n 2, 1), (229, .ldc2_w 146, 3), (232, .iload 16, 2), (234, .i2l, 1), (235, .invokevirtual 31, 3), (238, .ireturn, 1)]
theorem dq_218_1 : sf_dok 218 md_218_1 := by
  unfold sf_dok
  decide +kernel
def md_218 : sf_D := md_218_0 ++ md_218_1
theorem dq_218 : sf_dok 218 md_218 := (sf_dap dq_218_0 dq_218_1)
def md_219_0 : sf_D := [(0, .aload_n 0, 1), (1, .getfield 9, 3), (4, .iload_n 1, 1), (5, .invokevirtual 171, 3), (8, .iconst 5, 1), (9, .if_icmp .eq (15), 3), (12, .aload_n 0, 1), (13, .getfield 9, 3), (16, .iload_n 1, 1), (17, .invokevirtual 171, 3), (20, .iconst 4, 1), (21, .if_icmp .ne (7), 3), (24, .iconst 1, 1), (25, .goto (4), 3), (28, .iconst 0, 1), (29, .ireturn, 1)]
theorem dq_219_0 : sf_dok 219 md_219_0 := by
  unfold sf_dok
  decide +kernel
def md_219 : sf_D := md_219_0
theorem dq_219 : sf_dok 219 md_219 := dq_219_0
def md_220_0 : sf_D := [(0, .iload_n 1, 1), (1, .istore 6, 2), (3, .iconst 0, 1), (4, .istore 7, 2), (6, .iload 7, 2), (8, .sipush (1500), 3), (11, .if_icmp .gt (37), 3), (14, .iload 6, 2), (16, .ifCond .eq (32), 3), (19, .aload_n 0, 1), (20, .iload 6, 2), (22, .lload_n 2, 1), (23, .lload 4, 2), (25, .invokevirtual 102, 3), (28, .ifCond .lt (6), 3), (31, .iload 6, 2), (33, .ireturn, 1), (34, .aload_n 0, 1), (35, .iload 6, 2), (37, .invokevirtual 106, 3), (40, .istore 6, 2), (42, .iinc 7 (1), 3), (45, .goto (-39), 3), (48, .iconst 0, 1), (49, .ireturn, 1)]
theorem dq_220_0 : sf_dok 220 md_220_0 := by
  unfold sf_dok
  decide +kernel
def md_220 : sf_D := md_220_0
theorem dq_220 : sf_dok 220 md_220 := dq_220_0
def md_221_0 : sf_D := [(0, .aload_n 0, 1), (1, .getfield 15, 3), (4, .iload_n 2, 1), (5, .invokevirtual 169, 3), (8, .istore 4, 2), (10, .aload_n 0, 1), (11, .iload 4, 2), (13, .invokevirtual 212, 3), (16, .ifCond .ne (5), 3), (19, .iconst 2, 1), (20, .ireturn, 1), (21, .aload_n 0, 1), (22, .getfield 19, 3), (25, .iload_n 1, 1), (26, .invokevirtual 215, 3), (29, .lstore 5, 2), (31, .aload_n 0, 1), (32, .getfield 19, 3), (35, .iload_n 1, 1), (36, .invokevirtual 220, 3), (39, .lstore 7, 2), (41, .aload_n 0, 1), (42, .getfield 15, 3), (45, .iload_n 3, 1), (46, .invokevirtual 70, 3), (49, .lstore 9, 2), (51, .aload_n 0, 1), (52, .getfield 15, 3), (55, .iload_n 3, 1), (56, .invokevirtual 111, 3), (59, .lstore 11, 2), (61, .aload_n 0, 1), (62, .getfield 9, 3), (65, .iload 4, 2), (67, .lload 5, 2), (69, .lload 7, 2), (71, .invokevirtual 178, 3), (74, .istore 13, 2), (76, .iload 13, 2), (78, .ifCond .lt (21), 3), (81, .aload_n 0, 1), (82, .getfield 9, 3), (85, .iload 4, 2), (87, .iload 13, 2), (89, .lload 9, 2), (91, .lload 11, 2), (93, .invokevirtual 197, 3), (96, .goto (26), 3), (99, .aload_n 0, 1), (100, .getfield 9, 3), (103, .iload 4, 2), (105, .lload 5, 2), (107, .lload 7, 2), (109, .lload 9, 2), (111, .lload 11, 2), (113, .invokevirtual 201, 3), (116, .ifCond .ne (6), 3), (119, .bipush (8), 2), (121, .ireturn, 1), (122, .aload_n 0, 1), (123, .getfield 15, 3), (126, .iconst 2, 1), (127, .invokevirtual 205, 3), (130, .iconst 0, 1), (131, .ireturn, 1)]
theorem dq_221_0 : sf_dok 221 md_221_0 := by
  unfold sf_dok
  decide +kernel
def md_221 : sf_D := md_221_0
theorem dq_221 : sf_dok 221 md_221 := dq_221_0
def md_222_0 : sf_D := [(0, .aload_n 0, 1), (1, .getfield 15, 3), (4, .iconst 0, 1), (5, .invokevirtual 169, 3), (8, .istore_n 2, 1), (9, .aload_n 0, 1), (10, .iload_n 2, 1), (11, .invokevirtual 212, 3), (14, .ifCond .ne (5), 3), (17, .iconst 2, 1), (18, .ireturn, 1), (19, .aload_n 0, 1), (20, .getfield 9, 3), (23, .iload_n 2, 1), (24, .aload_n 0, 1), (25, .getfield 19, 3), (28, .iload_n 1, 1), (29, .invokevirtual 215, 3), (32, .aload_n 0, 1), (33, .getfield 19, 3), (36, .iload_n 1, 1), (37, .invokevirtual 220, 3), (40, .invokevirtual 178, 3), (43, .istore_n 3, 1), (44, .iload_n 3, 1), (45, .ifCond .ge (6), 3), (48, .bipush (9), 2), (50, .ireturn, 1), (51, .aload_n 0, 1), (52, .getfield 9, 3), (55, .iload_n 2, 1), (56, .iload_n 3, 1), (57, .invokevirtual 209, 3), (60, .aload_n 0, 1), (61, .getfield 15, 3), (64, .iconst 1, 1), (65, .invokevirtual 205, 3), (68, .iconst 0, 1), (69, .ireturn, 1)]
theorem dq_222_0 : sf_dok 222 md_222_0 := by
  unfold sf_dok
  decide +kernel
def md_222 : sf_D := md_222_0
theorem dq_222 : sf_dok 222 md_222 := dq_222_0
def md_223_0 : sf_D := [(0, .aload_n 0, 1), (1, .getfield 9, 3), (4, .iconst 1, 1), (5, .invokevirtual 139, 3), (8, .istore_n 2, 1), (9, .iload_n 2, 1), (10, .ifCond .ne (6), 3), (13, .bipush (8), 2), (15, .ireturn, 1), (16, .iload_n 1, 1), (17, .iconst 1, 1), (18, .isub, 1), (19, .istore_n 3, 1), (20, .iload_n 3, 1), (21, .ifCond .lt (36), 3), (24, .aload_n 0, 1), (25, .getfield 9, 3), (28, .iload_n 2, 1), (29, .lconst 0, 1), (30, .lconst 0, 1), (31, .aload_n 0, 1), (32, .getfield 15, 3), (35, .iload_n 3, 1), (36, .invokevirtual 70, 3), (39, .aload_n 0, 1), (40, .getfield 15, 3), (43, .iload_n 3, 1), (44, .invokevirtual 111, 3), (47, .invokevirtual 201, 3), (50, .pop, 1), (51, .iinc 3 (-1), 3), (54, .goto (-34), 3), (57, .aload_n 0, 1), (58, .getfield 15, 3), (61, .iload_n 1, 1), (62, .ldc2_w 146, 3), (65, .iload_n 2, 1), (66, .i2l, 1), (67, .invokevirtual 31, 3), (70, .ireturn, 1)]
theorem dq_223_0 : sf_dok 223 md_223_0 := by
  unfold sf_dok
  decide +kernel
def md_223 : sf_D := md_223_0
theorem dq_223 : sf_dok 223 md_223 := dq_223_0
def md_224_0 : sf_D := [(0, .iconst 0, 1), (1, .istore_n 2, 1), (2, .iload_n 2, 1), (3, .iload_n 1, 1), (4, .if_icmp .ge (29), 3), (7, .aload_n 0, 1), (8, .getfield 15, 3), (11, .iconst 2, 1), (12, .iload_n 2, 1), (13, .imul, 1), (14, .iconst 1, 1), (15, .iadd, 1), (16, .invokevirtual 70, 3), (19, .invokestatic 174, 3), (22, .ifCond .ne (5), 3), (25, .iconst 2, 1), (26, .ireturn, 1), (27, .iinc 2 (1), 3), (30, .goto (-28), 3), (33, .aload_n 0, 1), (34, .getfield 9, 3), (37, .iconst 2, 1), (38, .invokevirtual 139, 3), (41, .istore_n 2, 1), (42, .iload_n 2, 1), (43, .ifCond .ne (6), 3), (46, .bipush (8), 2), (48, .ireturn, 1), (49, .iload_n 1, 1), (50, .iconst 1, 1), (51, .isub, 1), (52, .istore_n 3, 1), (53, .iload_n 3, 1), (54, .ifCond .lt (122), 3), (57, .aload_n 0, 1), (58, .getfield 15, 3), (61, .iconst 2, 1), (62, .iload_n 3, 1), (63, .imul, 1), (64, .iconst 1, 1), (65, .iadd, 1), (66, .invokevirtual 70, 3), (69, .lstore 4, 2), (71, .aload_n 0, 1), (72, .getfield 15, 3), (75, .iconst 2, 1), (76, .iload_n 3, 1), (77, .imul, 1), (78, .iconst 1, 1), (79, .iadd, 1), (80, .invokevirtual 111, 3), (83, .lstore 6, 2), (85, .aload_n 0, 1), (86, .getfield 9, 3), (89, .iload_n 2, 1), (90, .lload 4, 2), (92, .lload 6, 2), (94, .invokevirtual 178, 3), (97, .istore 8, 2), (99, .iload 8, 2), (101, .ifCond .lt (36), 3), (104, .aload_n 0, 1), (105, .getfield 9, 3), (108, .iload_n 2, 1), (109, .iload 8, 2), (111, .aload_n 0, 1), (112, .getfield 15, 3), (115, .iconst 2, 1), (116, .iload_n 3, 1), (117, .imul, 1), (118, .invokevirtual 70, 3), (121, .aload_n 0, 1), (122, .getfield 15, 3), (125, .iconst 2, 1), (126, .iload_n 3, 1), (127, .imul, 1), (128, .invokevirtual 111, 3), (131, .invokevirtual 197, 3), (134, .goto (36), 3), (137, .aload_n 0, 1), (138, .getfield 9, 3), (141, .iload_n 2, 1), (142, .lload 4, 2), (144, .lload 6, 2), (146, .aload_n 0, 1), (147, .getfield 15, 3), (150, .iconst 2, 1), (151, .iload_n 3, 1), (152, .imul, 1), (153, .invokevirtual 70, 3), (156, .aload_n 0, 1), (157, .getfield 15, 3), (160, .iconst 2, 1), (161, .iload_n 3, 1), (162, .imul, 1), (163, .invokevirtual 111, 3), (166, .invokevirtual 201, 3), (169, .pop, 1), (170, .iinc 3 (-1), 3), (173, .goto (-120), 3)]
theorem dq_224_0 : sf_dok 224 md_224_0 := by
  unfold sf_dok
  decide +kernel
def md_224_1 : sf_D := [(176, .aload_n 0, 1), (177, .getfield 15, 3), (180, .iconst 2, 1), (181, .iload_n 1, 1), (182, .imul, 1), (183, .ldc2_w 146, 3), (186, .iload_n 2, 1), (187, .i2l, 1), (188, .invokevirtual 31, 3), (191, .ireturn, 1)]
theorem dq_224_1 : sf_dok 224 md_224_1 := by
  unfold sf_dok
  decide +kernel
def md_224 : sf_D := md_224_0 ++ md_224_1
theorem dq_224 : sf_dok 224 md_224 := (sf_dap dq_224_0 dq_224_1)
def md_225_0 : sf_D := [(0, .aload_n 0, 1), (1, .getfield 23, 3), (4, .aload_n 0, 1), (5, .getfield 11, 3), (8, .aload_n 0, 1), (9, .getfield 69, 3), (12, .invokevirtual 130, 3), (15, .invokevirtual 133, 3), (18, .invokestatic 137, 3), (21, .iconst 5, 1), (22, .if_icmp .ne (7), 3), (25, .iconst 1, 1), (26, .goto (4), 3), (29, .iconst 0, 1), (30, .ireturn, 1)]
theorem dq_225_0 : sf_dok 225 md_225_0 := by
  unfold sf_dok
  decide +kernel
def md_225 : sf_D := md_225_0
theorem dq_225 : sf_dok 225 md_225 := dq_225_0
def md_226_0 : sf_D := [(0, .aload_n 0, 1), (1, .getfield 23, 3), (4, .aload_n 0, 1), (5, .getfield 11, 3), (8, .aload_n 0, 1), (9, .getfield 69, 3), (12, .invokevirtual 130, 3), (15, .invokevirtual 141, 3), (18, .l2i, 1), (19, .ireturn, 1)]
theorem dq_226_0 : sf_dok 226 md_226_0 := by
  unfold sf_dok
  decide +kernel
def md_226 : sf_D := md_226_0
theorem dq_226 : sf_dok 226 md_226 := dq_226_0
def md_227_0 : sf_D := [(0, .iload_n 1, 1), (1, .iconst 1, 1), (2, .if_icmp .ne (9), 3), (5, .aload_n 0, 1), (6, .iload_n 2, 1), (7, .invokevirtual 38, 3), (10, .ireturn, 1), (11, .iload_n 1, 1), (12, .iconst 3, 1), (13, .if_icmp .ne (23), 3), (16, .iload_n 2, 1), (17, .iconst 1, 1), (18, .if_icmp .eq (8), 3), (21, .iload_n 2, 1), (22, .iconst 2, 1), (23, .if_icmp .ne (11), 3), (26, .aload_n 0, 1), (27, .iload_n 2, 1), (28, .invokevirtual 42, 3), (31, .goto (4), 3), (34, .iconst 2, 1), (35, .ireturn, 1), (36, .iload_n 2, 1), (37, .iload_n 1, 1), (38, .iconst 4, 1), (39, .if_icmp .ne (7), 3), (42, .iconst 2, 1), (43, .goto (14), 3), (46, .iload_n 1, 1), (47, .bipush (9), 2), (49, .if_icmp .lt (7), 3), (52, .iconst 0, 1), (53, .goto (4), 3), (56, .iconst 1, 1), (57, .if_icmp .eq (5), 3), (60, .iconst 2, 1), (61, .ireturn, 1), (62, .iload_n 1, 1), (63, .tableswitch (119) 2 10 #[49, 119, 54, 59, 64, 69, 74, 79, 99], 49), (112, .aload_n 0, 1), (113, .invokevirtual 45, 3), (116, .ireturn, 1), (117, .aload_n 0, 1), (118, .invokevirtual 49, 3), (121, .ireturn, 1), (122, .aload_n 0, 1), (123, .invokevirtual 52, 3), (126, .ireturn, 1), (127, .aload_n 0, 1), (128, .invokevirtual 55, 3), (131, .ireturn, 1), (132, .aload_n 0, 1), (133, .invokevirtual 58, 3), (136, .ireturn, 1), (137, .aload_n 0, 1), (138, .invokevirtual 61, 3), (141, .ireturn, 1), (142, .aload_n 0, 1), (143, .getfield 15, 3), (146, .iconst 1, 1), (147, .ldc2_w 64, 3), (150, .aload_n 0, 1), (151, .getfield 9, 3), (154, .invokevirtual 66, 3), (157, .i2l, 1), (158, .invokevirtual 71, 3), (161, .ireturn, 1), (162, .aload_n 0, 1), (163, .getfield 15, 3), (166, .iconst 1, 1), (167, .ldc2_w 64, 3), (170, .aload_n 0, 1), (171, .getfield 9, 3), (174, .invokevirtual 77, 3), (177, .i2l, 1), (178, .invokevirtual 71, 3), (181, .ireturn, 1), (182, .iconst 2, 1), (183, .ireturn, 1)]
theorem dq_227_0 : sf_dok 227 md_227_0 := by
  unfold sf_dok
  decide +kernel
def md_227 : sf_D := md_227_0
theorem dq_227 : sf_dok 227 md_227 := dq_227_0
def md_228_0 : sf_D := [(0, .aload_n 0, 1), (1, .aload_n 0, 1), (2, .getfield 34, 3), (5, .putfield 155, 3), (8, .iload_n 1, 1), (9, .iconst 1, 1), (10, .isub, 1), (11, .istore_n 2, 1), (12, .iload_n 2, 1), (13, .ifCond .lt (130), 3), (16, .aload_n 0, 1), (17, .getfield 15, 3), (20, .iload_n 2, 1), (21, .invokevirtual 91, 3), (24, .istore_n 3, 1), (25, .aload_n 0, 1), (26, .getfield 9, 3), (29, .iload_n 3, 1), (30, .invokevirtual 94, 3), (33, .iconst 1, 1), (34, .if_icmp .eq (15), 3), (37, .aload_n 0, 1), (38, .getfield 9, 3), (41, .iload_n 3, 1), (42, .invokevirtual 94, 3), (45, .iconst 2, 1), (46, .if_icmp .ne (11), 3), (49, .aload_n 0, 1), (50, .iload_n 3, 1), (51, .invokevirtual 158, 3), (54, .goto (73), 3), (57, .aload_n 0, 1), (58, .getfield 15, 3), (61, .iload_n 2, 1), (62, .invokevirtual 80, 3), (65, .invokestatic 84, 3), (68, .iconst 3, 1), (69, .if_icmp .ne (26), 3), (72, .aload_n 0, 1), (73, .aload_n 0, 1), (74, .getfield 15, 3), (77, .iload_n 2, 1), (78, .invokevirtual 80, 3), (81, .aload_n 0, 1), (82, .getfield 15, 3), (85, .iload_n 2, 1), (86, .invokevirtual 100, 3), (89, .invokevirtual 162, 3), (92, .goto (35), 3), (95, .iload_n 3, 1), (96, .ifCond .eq (11), 3), (99, .aload_n 0, 1), (100, .iload_n 3, 1), (101, .invokevirtual 165, 3), (104, .goto (23), 3), (107, .aload_n 0, 1), (108, .aload_n 0, 1), (109, .getfield 15, 3), (112, .iload_n 2, 1), (113, .invokevirtual 80, 3), (116, .aload_n 0, 1), (117, .getfield 15, 3), (120, .iload_n 2, 1), (121, .invokevirtual 100, 3), (124, .invokevirtual 168, 3), (127, .iload_n 2, 1), (128, .ifCond .le (9), 3), (131, .aload_n 0, 1), (132, .bipush (32), 2), (134, .invokevirtual 171, 3), (137, .iinc 2 (-1), 3), (140, .goto (-128), 3), (143, .aload_n 0, 1), (144, .bipush (10), 2), (146, .invokevirtual 171, 3), (149, .aload_n 0, 1), (150, .getfield 155, 3), (153, .sipush (4000), 3), (156, .if_icmp .le (6), 3), (159, .bipush (8), 2), (161, .ireturn, 1), (162, .aload_n 0, 1), (163, .aload_n 0, 1), (164, .getfield 155, 3), (167, .putfield 34, 3), (170, .aload_n 0, 1), (171, .getfield 15, 3), (174, .iload_n 1, 1), (175, .iconst 1, 1), (176, .iadd, 1), (177, .ldc2_w 117, 3), (180, .lconst 0, 1), (181, .invokevirtual 71, 3), (184, .ireturn, 1)]
theorem dq_228_0 : sf_dok 228 md_228_0 := by
  unfold sf_dok
  decide +kernel
def md_228 : sf_D := md_228_0
theorem dq_228 : sf_dok 228 md_228 := dq_228_0
def md_229_0 : sf_D := [(0, .aload_n 0, 1), (1, .getfield 9, 3), (4, .iload_n 1, 1), (5, .invokevirtual 94, 3), (8, .iconst 2, 1), (9, .if_icmp .ne (7), 3), (12, .iconst 1, 1), (13, .goto (4), 3), (16, .iconst 0, 1), (17, .istore_n 2, 1), (18, .aload_n 0, 1), (19, .getfield 9, 3), (22, .iload_n 1, 1), (23, .invokevirtual 97, 3), (26, .istore_n 3, 1), (27, .aload_n 0, 1), (28, .iload_n 2, 1), (29, .ifCond .eq (8), 3), (32, .bipush (123), 2), (34, .goto (5), 3), (37, .bipush (91), 2), (39, .invokevirtual 171, 3), (42, .iconst 0, 1), (43, .istore 4, 2), (45, .iload 4, 2), (47, .iload_n 3, 1), (48, .if_icmp .ge (78), 3), (51, .iload 4, 2), (53, .ifCond .le (9), 3), (56, .aload_n 0, 1), (57, .ldc 224, 2), (59, .invokevirtual 206, 3), (62, .iload_n 2, 1), (63, .ifCond .eq (33), 3), (66, .aload_n 0, 1), (67, .aload_n 0, 1), (68, .getfield 9, 3), (71, .iload_n 1, 1), (72, .iload 4, 2), (74, .invokevirtual 133, 3), (77, .aload_n 0, 1), (78, .getfield 9, 3), (81, .iload_n 1, 1), (82, .iload 4, 2), (84, .invokevirtual 136, 3), (87, .invokevirtual 168, 3), (90, .aload_n 0, 1), (91, .ldc 226, 2), (93, .invokevirtual 206, 3), (96, .aload_n 0, 1), (97, .aload_n 0, 1), (98, .getfield 9, 3), (101, .iload_n 1, 1), (102, .iload 4, 2), (104, .invokevirtual 119, 3), (107, .aload_n 0, 1), (108, .getfield 9, 3), (111, .iload_n 1, 1), (112, .iload 4, 2), (114, .invokevirtual 123, 3), (117, .invokevirtual 168, 3), (120, .iinc 4 (1), 3), (123, .goto (-78), 3), (126, .aload_n 0, 1), (127, .iload_n 2, 1), (128, .ifCond .eq (8), 3), (131, .bipush (125), 2), (133, .goto (5), 3), (136, .bipush (93), 2), (138, .invokevirtual 171, 3), (141, .return_, 1)]
theorem dq_229_0 : sf_dok 229 md_229_0 := by
  unfold sf_dok
  decide +kernel
def md_229 : sf_D := md_229_0
theorem dq_229 : sf_dok 229 md_229 := dq_229_0
def md_230_0 : sf_D := [(0, .aload_n 0, 1), (1, .getfield 155, 3), (4, .ifCond .lt (24), 3), (7, .aload_n 0, 1), (8, .getfield 155, 3), (11, .sipush (4000), 3), (14, .if_icmp .ge (14), 3), (17, .aload_n 0, 1), (18, .getfield 27, 3), (21, .aload_n 0, 1), (22, .getfield 155, 3), (25, .iload_n 1, 1), (26, .i2b, 1), (27, .bastore, 1), (28, .aload_n 0, 1), (29, .dup, 1), (30, .getfield 155, 3), (33, .iconst 1, 1), (34, .iadd, 1), (35, .putfield 155, 3), (38, .return_, 1)]
theorem dq_230_0 : sf_dok 230 md_230_0 := by
  unfold sf_dok
  decide +kernel
def md_230 : sf_D := md_230_0
theorem dq_230 : sf_dok 230 md_230 := dq_230_0
def md_231_0 : sf_D := [(0, .iconst 0, 1), (1, .istore_n 2, 1), (2, .iload_n 2, 1), (3, .aload_n 1, 1), (4, .invokevirtual 174, 3), (7, .if_icmp .ge (18), 3), (10, .aload_n 0, 1), (11, .aload_n 1, 1), (12, .iload_n 2, 1), (13, .invokevirtual 179, 3), (16, .invokevirtual 171, 3), (19, .iinc 2 (1), 3), (22, .goto (-20), 3), (25, .return_, 1)]
theorem dq_231_0 : sf_dok 231 md_231_0 := by
  unfold sf_dok
  decide +kernel
def md_231 : sf_D := md_231_0
theorem dq_231 : sf_dok 231 md_231 := dq_231_0
def md_232_0 : sf_D := [(0, .aload_n 0, 1), (1, .iload_n 1, 1), (2, .iload_n 2, 1), (3, .invokevirtual 95, 3), (6, .istore_n 3, 1), (7, .iload_n 3, 1), (8, .iconst 2, 1), (9, .if_icmp .ge (7), 3), (12, .lconst 0, 1), (13, .goto (13), 3), (16, .aload_n 0, 1), (17, .getfield 38, 3), (20, .iload_n 1, 1), (21, .aaload, 1), (22, .iload_n 3, 1), (23, .iconst 2, 1), (24, .isub, 1), (25, .laload, 1), (26, .lreturn, 1)]
theorem dq_232_0 : sf_dok 232 md_232_0 := by
  unfold sf_dok
  decide +kernel
def md_232 : sf_D := md_232_0
theorem dq_232 : sf_dok 232 md_232 := dq_232_0
def md_233_0 : sf_D := [(0, .aload_n 0, 1), (1, .iload_n 1, 1), (2, .iload_n 2, 1), (3, .invokevirtual 95, 3), (6, .istore_n 3, 1), (7, .iload_n 3, 1), (8, .iconst 2, 1), (9, .if_icmp .ge (7), 3), (12, .lconst 0, 1), (13, .goto (13), 3), (16, .aload_n 0, 1), (17, .getfield 38, 3), (20, .iload_n 1, 1), (21, .aaload, 1), (22, .iload_n 3, 1), (23, .iconst 1, 1), (24, .isub, 1), (25, .laload, 1), (26, .lreturn, 1)]
theorem dq_233_0 : sf_dok 233 md_233_0 := by
  unfold sf_dok
  decide +kernel
def md_233 : sf_D := md_233_0
theorem dq_233 : sf_dok 233 md_233 := dq_233_0
def md_234_0 : sf_D := [(0, .lload_n 1, 1), (1, .invokestatic 84, 3), (4, .tableswitch (91) 2 4 #[28, 36, 57], 28), (32, .aload_n 0, 1), (33, .lload_n 3, 1), (34, .invokevirtual 194, 3), (37, .goto (64), 3), (40, .aload_n 0, 1), (41, .bipush (39), 2), (43, .invokevirtual 171, 3), (46, .aload_n 0, 1), (47, .lload_n 1, 1), (48, .lload_n 3, 1), (49, .invokevirtual 162, 3), (52, .aload_n 0, 1), (53, .bipush (39), 2), (55, .invokevirtual 171, 3), (58, .goto (43), 3), (61, .aload_n 0, 1), (62, .bipush (60), 2), (64, .invokevirtual 171, 3), (67, .aload_n 0, 1), (68, .aload_n 0, 1), (69, .getfield 9, 3), (72, .lload_n 1, 1), (73, .lload_n 3, 1), (74, .invokestatic 198, 3), (77, .invokevirtual 94, 3), (80, .invokestatic 202, 3), (83, .invokevirtual 206, 3), (86, .aload_n 0, 1), (87, .bipush (62), 2), (89, .invokevirtual 171, 3), (92, .goto (9), 3), (95, .aload_n 0, 1), (96, .ldc 210, 2), (98, .invokevirtual 206, 3), (101, .return_, 1)]
theorem dq_234_0 : sf_dok 234 md_234_0 := by
  unfold sf_dok
  decide +kernel
def md_234 : sf_D := md_234_0
theorem dq_234 : sf_dok 234 md_234 := dq_234_0
def md_235_0 : sf_D := [(0, .aload_n 0, 1), (1, .lload_n 1, 1), (2, .invokevirtual 139, 3), (5, .istore_n 3, 1), (6, .iload_n 3, 1), (7, .ifCond .lt (25), 3), (10, .iload_n 3, 1), (11, .bipush (20), 2), (13, .if_icmp .ge (19), 3), (16, .aload_n 0, 1), (17, .aload_n 0, 1), (18, .getfield 31, 3), (21, .iload_n 3, 1), (22, .baload, 1), (23, .invokevirtual 171, 3), (26, .iinc 3 (1), 3), (29, .goto (-23), 3), (32, .return_, 1)]
theorem dq_235_0 : sf_dok 235 md_235_0 := by
  unfold sf_dok
  decide +kernel
def md_235 : sf_D := md_235_0
theorem dq_235 : sf_dok 235 md_235 := dq_235_0
def md_236_0 : sf_D := [(0, .bipush (20), 2), (2, .istore_n 3, 1), (3, .lload_n 1, 1), (4, .lstore 4, 2), (6, .iinc 3 (-1), 3), (9, .aload_n 0, 1), (10, .getfield 31, 3), (13, .iload_n 3, 1), (14, .bipush (48), 2), (16, .lload 4, 2), (18, .ldc2_w 187, 3), (21, .lrem, 1), (22, .l2i, 1), (23, .invokestatic 189, 3), (26, .iadd, 1), (27, .i2b, 1), (28, .bastore, 1), (29, .lload 4, 2), (31, .ldc2_w 187, 3), (34, .ldiv, 1), (35, .lstore 4, 2), (37, .lload 4, 2), (39, .lconst 0, 1), (40, .lcmp, 1), (41, .ifCond .eq (8), 3), (44, .iload_n 3, 1), (45, .iconst 1, 1), (46, .if_icmp .gt (-40), 3), (49, .lload_n 1, 1), (50, .lconst 0, 1), (51, .lcmp, 1), (52, .ifCond .ge (14), 3), (55, .iinc 3 (-1), 3), (58, .aload_n 0, 1), (59, .getfield 31, 3), (62, .iload_n 3, 1), (63, .bipush (45), 2), (65, .bastore, 1), (66, .iload_n 3, 1), (67, .ireturn, 1)]
theorem dq_236_0 : sf_dok 236 md_236_0 := by
  unfold sf_dok
  decide +kernel
def md_236 : sf_D := md_236_0
theorem dq_236 : sf_dok 236 md_236 := dq_236_0
def md_237_0 : sf_D := [(0, .iload_n 0, 1), (1, .ifCond .ge (8), 3), (4, .iload_n 0, 1), (5, .ineg, 1), (6, .goto (4), 3), (9, .iload_n 0, 1), (10, .ireturn, 1)]
theorem dq_237_0 : sf_dok 237 md_237_0 := by
  unfold sf_dok
  decide +kernel
def md_237 : sf_D := md_237_0
theorem dq_237 : sf_dok 237 md_237 := dq_237_0
def md_238_0 : sf_D := [(0, .lload_n 1, 1), (1, .invokestatic 88, 3), (4, .istore 5, 2), (6, .iconst 0, 1), (7, .istore 6, 2), (9, .iload 6, 2), (11, .iload 5, 2), (13, .if_icmp .ge (20), 3), (16, .aload_n 0, 1), (17, .lload_n 1, 1), (18, .lload_n 3, 1), (19, .iload 6, 2), (21, .invokestatic 183, 3), (24, .invokevirtual 171, 3), (27, .iinc 6 (1), 3), (30, .goto (-21), 3), (33, .return_, 1)]
theorem dq_238_0 : sf_dok 238 md_238_0 := by
  unfold sf_dok
  decide +kernel
def md_238 : sf_D := md_238_0
theorem dq_238 : sf_dok 238 md_238 := dq_238_0
def md_239_0 : sf_D := [(0, .iload_n 0, 1), (1, .tableswitch (50) 1 5 #[35, 38, 41, 44, 47], 35), (36, .ldc 212, 2), (38, .areturn, 1), (39, .ldc 214, 2), (41, .areturn, 1), (42, .ldc 216, 2), (44, .areturn, 1), (45, .ldc 218, 2), (47, .areturn, 1), (48, .ldc 220, 2), (50, .areturn, 1), (51, .ldc 222, 2), (53, .areturn, 1)]
theorem dq_239_0 : sf_dok 239 md_239_0 := by
  unfold sf_dok
  decide +kernel
def md_239 : sf_D := md_239_0
theorem dq_239 : sf_dok 239 md_239 := dq_239_0
def md_240_0 : sf_D := [(0, .aload_n 0, 1), (1, .getfield 9, 3), (4, .iload_n 1, 1), (5, .invokevirtual 94, 3), (8, .istore_n 2, 1), (9, .iload_n 2, 1), (10, .iconst 5, 1), (11, .if_icmp .eq (9), 3), (14, .iload_n 2, 1), (15, .bipush (6), 2), (17, .if_icmp .ne (14), 3), (20, .aload_n 0, 1), (21, .getfield 9, 3), (24, .iload_n 1, 1), (25, .invokevirtual 228, 3), (28, .goto (4), 3), (31, .iload_n 1, 1), (32, .istore_n 3, 1), (33, .aload_n 0, 1), (34, .getfield 9, 3), (37, .iload_n 3, 1), (38, .invokevirtual 231, 3), (41, .istore 4, 2), (43, .aload_n 0, 1), (44, .getfield 9, 3), (47, .iload_n 3, 1), (48, .invokevirtual 94, 3), (51, .iconst 4, 1), (52, .if_icmp .ne (8), 3), (55, .iload 4, 2), (57, .goto (12), 3), (60, .aload_n 0, 1), (61, .getfield 23, 3), (64, .iload 4, 2), (66, .invokevirtual 234, 3), (69, .istore 5, 2), (71, .aload_n 0, 1), (72, .bipush (60), 2), (74, .invokevirtual 171, 3), (77, .aload_n 0, 1), (78, .iload_n 2, 1), (79, .invokestatic 202, 3), (82, .invokevirtual 206, 3), (85, .aload_n 0, 1), (86, .bipush (32), 2), (88, .invokevirtual 171, 3), (91, .aload_n 0, 1), (92, .aload_n 0, 1), (93, .getfield 19, 3), (96, .iload 5, 2), (98, .invokevirtual 239, 3), (101, .aload_n 0, 1), (102, .getfield 19, 3), (105, .iload 5, 2), (107, .invokevirtual 244, 3), (110, .invokevirtual 162, 3), (113, .aload_n 0, 1), (114, .bipush (62), 2), (116, .invokevirtual 171, 3), (119, .return_, 1)]
theorem dq_240_0 : sf_dok 240 md_240_0 := by
  unfold sf_dok
  decide +kernel
def md_240 : sf_D := md_240_0
theorem dq_240 : sf_dok 240 md_240 := dq_240_0
def md_241_0 : sf_D := [(0, .iload_n 1, 1), (1, .invokestatic 65, 3), (4, .ifCond .eq (12), 3), (7, .aload_n 0, 1), (8, .getfield 30, 3), (11, .iload_n 1, 1), (12, .iaload, 1), (13, .goto (4), 3), (16, .iconst 0, 1), (17, .ireturn, 1)]
theorem dq_241_0 : sf_dok 241 md_241_0 := by
  unfold sf_dok
  decide +kernel
def md_241 : sf_D := md_241_0
theorem dq_241 : sf_dok 241 md_241 := dq_241_0
def md_242_0 : sf_D := [(0, .aload_n 0, 1), (1, .iload_n 1, 1), (2, .invokevirtual 62, 3), (5, .ifCond .eq (12), 3), (8, .aload_n 0, 1), (9, .getfield 32, 3), (12, .iload_n 1, 1), (13, .iaload, 1), (14, .goto (4), 3), (17, .iconst (-1), 1), (18, .ireturn, 1)]
theorem dq_242_0 : sf_dok 242 md_242_0 := by
  unfold sf_dok
  decide +kernel
def md_242 : sf_D := md_242_0
theorem dq_242 : sf_dok 242 md_242 := dq_242_0
def md_243_0 : sf_D := [(0, .aload_n 0, 1), (1, .getfield 15, 3), (4, .iconst 0, 1), (5, .invokevirtual 80, 3), (8, .invokestatic 84, 3), (11, .iconst 2, 1), (12, .if_icmp .ne (23), 3), (15, .iload_n 1, 1), (16, .iconst 2, 1), (17, .if_icmp .ne (20), 3), (20, .aload_n 0, 1), (21, .getfield 15, 3), (24, .iconst 1, 1), (25, .invokevirtual 80, 3), (28, .invokestatic 84, 3), (31, .iconst 2, 1), (32, .if_icmp .eq (5), 3), (35, .iconst 2, 1), (36, .ireturn, 1), (37, .iload_n 1, 1), (38, .iconst 2, 1), (39, .if_icmp .ne (14), 3), (42, .aload_n 0, 1), (43, .getfield 15, 3), (46, .iconst 1, 1), (47, .invokevirtual 100, 3), (50, .goto (4), 3), (53, .lconst 0, 1), (54, .lstore_n 2, 1), (55, .aload_n 0, 1), (56, .getfield 15, 3), (59, .iconst 0, 1), (60, .invokevirtual 100, 3), (63, .lstore 4, 2), (65, .lload_n 2, 1), (66, .lload 4, 2), (68, .lcmp, 1), (69, .ifCond .ge (10), 3), (72, .lload 4, 2), (74, .lload_n 2, 1), (75, .lsub, 1), (76, .goto (4), 3), (79, .lconst 0, 1), (80, .lstore 6, 2), (82, .lload 6, 2), (84, .lconst 0, 1), (85, .lcmp, 1), (86, .ifCond .lt (12), 3), (89, .lload 6, 2), (91, .ldc2_w 103, 3), (94, .lcmp, 1), (95, .ifCond .le (6), 3), (98, .bipush (8), 2), (100, .ireturn, 1), (101, .aload_n 0, 1), (102, .getfield 9, 3), (105, .iconst 1, 1), (106, .invokevirtual 105, 3), (109, .istore 8, 2), (111, .iload 8, 2), (113, .ifCond .ne (6), 3), (116, .bipush (8), 2), (118, .ireturn, 1), (119, .iconst 0, 1), (120, .istore 9, 2), (122, .iload 9, 2), (124, .i2l, 1), (125, .lload 6, 2), (127, .lcmp, 1), (128, .ifCond .ge (29), 3), (131, .aload_n 0, 1), (132, .getfield 9, 3), (135, .iload 8, 2), (137, .lconst 0, 1), (138, .lconst 0, 1), (139, .ldc2_w 64, 3), (142, .lload_n 2, 1), (143, .iload 9, 2), (145, .i2l, 1), (146, .ladd, 1), (147, .invokevirtual 108, 3), (150, .pop, 1), (151, .iinc 9 (1), 3), (154, .goto (-32), 3), (157, .aload_n 0, 1), (158, .getfield 15, 3), (161, .iload_n 1, 1), (162, .iconst 1, 1), (163, .iadd, 1), (164, .ldc2_w 112, 3), (167, .iload 8, 2), (169, .i2l, 1), (170, .invokevirtual 71, 3), (173, .ireturn, 1)]
theorem dq_243_0 : sf_dok 243 md_243_0 := by
  unfold sf_dok
  decide +kernel
def md_243 : sf_D := md_243_0
theorem dq_243 : sf_dok 243 md_243 := dq_243_0
def md_244_0 : sf_D := [(0, .aload_n 0, 1), (1, .getfield 15, 3), (4, .iconst 0, 1), (5, .invokevirtual 80, 3), (8, .invokestatic 84, 3), (11, .iconst 3, 1), (12, .if_icmp .ne (27), 3), (15, .aload_n 0, 1), (16, .getfield 15, 3), (19, .iconst 2, 1), (20, .ldc2_w 64, 3), (23, .aload_n 0, 1), (24, .getfield 15, 3), (27, .iconst 0, 1), (28, .invokevirtual 80, 3), (31, .invokestatic 88, 3), (34, .i2l, 1), (35, .invokevirtual 71, 3), (38, .ireturn, 1), (39, .aload_n 0, 1), (40, .getfield 15, 3), (43, .iconst 0, 1), (44, .invokevirtual 91, 3), (47, .istore_n 1, 1), (48, .aload_n 0, 1), (49, .getfield 9, 3), (52, .iload_n 1, 1), (53, .invokevirtual 94, 3), (56, .iconst 1, 1), (57, .if_icmp .eq (17), 3), (60, .aload_n 0, 1), (61, .getfield 9, 3), (64, .iload_n 1, 1), (65, .invokevirtual 94, 3), (68, .iconst 2, 1), (69, .if_icmp .eq (5), 3), (72, .iconst 2, 1), (73, .ireturn, 1), (74, .aload_n 0, 1), (75, .getfield 15, 3), (78, .iconst 2, 1), (79, .ldc2_w 64, 3), (82, .aload_n 0, 1), (83, .getfield 9, 3), (86, .iload_n 1, 1), (87, .invokevirtual 97, 3), (90, .i2l, 1), (91, .invokevirtual 71, 3), (94, .ireturn, 1)]
theorem dq_244_0 : sf_dok 244 md_244_0 := by
  unfold sf_dok
  decide +kernel
def md_244 : sf_D := md_244_0
theorem dq_244 : sf_dok 244 md_244 := dq_244_0
def md_245_0 : sf_D := [(0, .aload_n 0, 1), (1, .getfield 15, 3), (4, .iconst 1, 1), (5, .iconst 1, 1), (6, .invokevirtual 114, 3), (9, .istore_n 1, 1), (10, .iload_n 1, 1), (11, .ifCond .ne (5), 3), (14, .iconst 2, 1), (15, .ireturn, 1), (16, .aload_n 0, 1), (17, .getfield 9, 3), (20, .iload_n 1, 1), (21, .lconst 0, 1), (22, .lconst 0, 1), (23, .aload_n 0, 1), (24, .getfield 15, 3), (27, .iconst 0, 1), (28, .invokevirtual 80, 3), (31, .aload_n 0, 1), (32, .getfield 15, 3), (35, .iconst 0, 1), (36, .invokevirtual 100, 3), (39, .invokevirtual 108, 3), (42, .ifCond .ne (6), 3), (45, .bipush (8), 2), (47, .ireturn, 1), (48, .aload_n 0, 1), (49, .getfield 15, 3), (52, .iconst 3, 1), (53, .ldc2_w 117, 3), (56, .lconst 0, 1), (57, .invokevirtual 71, 3), (60, .ireturn, 1)]
theorem dq_245_0 : sf_dok 245 md_245_0 := by
  unfold sf_dok
  decide +kernel
def md_245 : sf_D := md_245_0
theorem dq_245 : sf_dok 245 md_245 := dq_245_0
def md_246_0 : sf_D := [(0, .aload_n 0, 1), (1, .getfield 15, 3), (4, .iconst 0, 1), (5, .iconst 1, 1), (6, .invokevirtual 114, 3), (9, .istore_n 1, 1), (10, .iload_n 1, 1), (11, .ifCond .ne (5), 3), (14, .iconst 2, 1), (15, .ireturn, 1), (16, .aload_n 0, 1), (17, .getfield 9, 3), (20, .iload_n 1, 1), (21, .invokevirtual 97, 3), (24, .iconst 1, 1), (25, .isub, 1), (26, .istore_n 2, 1), (27, .iload_n 2, 1), (28, .ifCond .ge (5), 3), (31, .iconst 3, 1), (32, .ireturn, 1), (33, .aload_n 0, 1), (34, .getfield 15, 3), (37, .aload_n 0, 1), (38, .getfield 9, 3), (41, .iload_n 1, 1), (42, .iload_n 2, 1), (43, .invokevirtual 119, 3), (46, .aload_n 0, 1), (47, .getfield 9, 3), (50, .iload_n 1, 1), (51, .iload_n 2, 1), (52, .invokevirtual 123, 3), (55, .invokevirtual 126, 3), (58, .aload_n 0, 1), (59, .getfield 9, 3), (62, .iload_n 1, 1), (63, .iload_n 2, 1), (64, .invokevirtual 129, 3), (67, .aload_n 0, 1), (68, .getfield 15, 3), (71, .iconst 3, 1), (72, .aload_n 0, 1), (73, .getfield 15, 3), (76, .iconst 0, 1), (77, .invokevirtual 80, 3), (80, .aload_n 0, 1), (81, .getfield 15, 3), (84, .iconst 0, 1), (85, .invokevirtual 100, 3), (88, .invokevirtual 71, 3), (91, .ireturn, 1)]
theorem dq_246_0 : sf_dok 246 md_246_0 := by
  unfold sf_dok
  decide +kernel
def md_246 : sf_D := md_246_0
theorem dq_246 : sf_dok 246 md_246 := dq_246_0
def md_247_0 : sf_D := [(0, .aload_n 0, 1), (1, .getfield 15, 3), (4, .iconst 0, 1), (5, .iconst 2, 1), (6, .invokevirtual 114, 3), (9, .istore_n 1, 1), (10, .iload_n 1, 1), (11, .ifCond .ne (5), 3), (14, .iconst 2, 1), (15, .ireturn, 1), (16, .aload_n 0, 1), (17, .getfield 9, 3), (20, .iconst 1, 1), (21, .invokevirtual 105, 3), (24, .istore_n 2, 1), (25, .iload_n 2, 1), (26, .ifCond .ne (6), 3), (29, .bipush (8), 2), (31, .ireturn, 1), (32, .aload_n 0, 1), (33, .getfield 9, 3), (36, .iload_n 1, 1), (37, .invokevirtual 97, 3), (40, .istore_n 3, 1), (41, .iconst 0, 1), (42, .istore 4, 2), (44, .iload 4, 2), (46, .iload_n 3, 1), (47, .if_icmp .ge (40), 3), (50, .aload_n 0, 1), (51, .getfield 9, 3), (54, .iload_n 2, 1), (55, .lconst 0, 1), (56, .lconst 0, 1), (57, .aload_n 0, 1), (58, .getfield 9, 3), (61, .iload_n 1, 1), (62, .iload 4, 2), (64, .invokevirtual 133, 3), (67, .aload_n 0, 1), (68, .getfield 9, 3), (71, .iload_n 1, 1), (72, .iload 4, 2), (74, .invokevirtual 136, 3), (77, .invokevirtual 108, 3), (80, .pop, 1), (81, .iinc 4 (1), 3), (84, .goto (-40), 3), (87, .aload_n 0, 1), (88, .getfield 15, 3), (91, .iconst 2, 1), (92, .ldc2_w 112, 3), (95, .iload_n 2, 1), (96, .i2l, 1), (97, .invokevirtual 71, 3), (100, .ireturn, 1)]
theorem dq_247_0 : sf_dok 247 md_247_0 := by
  unfold sf_dok
  decide +kernel
def md_247 : sf_D := md_247_0
theorem dq_247 : sf_dok 247 md_247 := dq_247_0
def md_248_0 : sf_D := [(0, .aload_n 0, 1), (1, .getfield 15, 3), (4, .iconst 0, 1), (5, .invokevirtual 80, 3), (8, .invokestatic 84, 3), (11, .iconst 3, 1), (12, .if_icmp .ne (28), 3), (15, .aload_n 0, 1), (16, .getfield 15, 3), (19, .iconst 2, 1), (20, .aload_n 0, 1), (21, .getfield 15, 3), (24, .iconst 0, 1), (25, .invokevirtual 80, 3), (28, .aload_n 0, 1), (29, .getfield 15, 3), (32, .iconst 0, 1), (33, .invokevirtual 100, 3), (36, .invokevirtual 71, 3), (39, .ireturn, 1), (40, .aload_n 0, 1), (41, .getfield 15, 3), (44, .iconst 0, 1), (45, .invokevirtual 80, 3), (48, .invokestatic 84, 3), (51, .iconst 2, 1), (52, .if_icmp .eq (5), 3), (55, .iconst 2, 1), (56, .ireturn, 1), (57, .aload_n 0, 1), (58, .aload_n 0, 1), (59, .getfield 15, 3), (62, .iconst 0, 1), (63, .invokevirtual 100, 3), (66, .invokevirtual 139, 3), (69, .istore_n 1, 1), (70, .bipush (20), 2), (72, .iload_n 1, 1), (73, .isub, 1), (74, .bipush (15), 2), (76, .if_icmp .le (6), 3), (79, .bipush (8), 2), (81, .ireturn, 1), (82, .ldc2_w 142, 3), (85, .lstore_n 2, 1), (86, .lconst 0, 1), (87, .lstore 4, 2), (89, .iload_n 1, 1), (90, .istore 6, 2), (92, .iload 6, 2), (94, .ifCond .lt (43), 3), (97, .iload 6, 2), (99, .bipush (20), 2), (101, .if_icmp .ge (36), 3), (104, .lload_n 2, 1), (105, .lload 4, 2), (107, .aload_n 0, 1), (108, .getfield 31, 3), (111, .iload 6, 2), (113, .baload, 1), (114, .invokestatic 144, 3), (117, .lstore 4, 2), (119, .lload_n 2, 1), (120, .aload_n 0, 1), (121, .getfield 31, 3), (124, .iload 6, 2), (126, .baload, 1), (127, .invokestatic 148, 3), (130, .lstore_n 2, 1), (131, .iinc 6 (1), 3), (134, .goto (-42), 3), (137, .aload_n 0, 1), (138, .getfield 15, 3), (141, .iconst 2, 1), (142, .lload_n 2, 1), (143, .lload 4, 2), (145, .invokevirtual 71, 3), (148, .ireturn, 1)]
theorem dq_248_0 : sf_dok 248 md_248_0 := by
  unfold sf_dok
  decide +kernel
def md_248 : sf_D := md_248_0
theorem dq_248 : sf_dok 248 md_248 := dq_248_0
def md_249_0 : sf_D := [(0, .aload_n 0, 1), (1, .getfield 15, 3), (4, .iconst 0, 1), (5, .invokevirtual 91, 3), (8, .istore_n 1, 1), (9, .iload_n 1, 1), (10, .ifCond .ne (7), 3), (13, .iconst 2, 1), (14, .goto (23), 3), (17, .aload_n 0, 1), (18, .getfield 15, 3), (21, .iconst 2, 1), (22, .ldc2_w 64, 3), (25, .aload_n 0, 1), (26, .getfield 9, 3), (29, .iload_n 1, 1), (30, .invokevirtual 152, 3), (33, .i2l, 1), (34, .invokevirtual 71, 3), (37, .ireturn, 1)]
theorem dq_249_0 : sf_dok 249 md_249_0 := by
  unfold sf_dok
  decide +kernel
def md_249 : sf_D := md_249_0
theorem dq_249 : sf_dok 249 md_249 := dq_249_0
def md_250_0 : sf_D := [(0, .iload_n 1, 1), (1, .invokestatic 65, 3), (4, .ifCond .eq (19), 3), (7, .aload_n 0, 1), (8, .getfield 15, 3), (11, .iload_n 1, 1), (12, .iaload, 1), (13, .aload_n 0, 1), (14, .getfield 18, 3), (17, .iload_n 1, 1), (18, .iaload, 1), (19, .iadd, 1), (20, .goto (4), 3), (23, .iconst 0, 1), (24, .ireturn, 1)]
theorem dq_250_0 : sf_dok 250 md_250_0 := by
  unfold sf_dok
  decide +kernel
def md_250 : sf_D := md_250_0
theorem dq_250 : sf_dok 250 md_250 := dq_250_0
def md_251_0 : sf_D := [(0, .aload_n 0, 1), (1, .getfield 55, 3), (4, .ireturn, 1)]
theorem dq_251_0 : sf_dok 251 md_251_0 := by
  unfold sf_dok
  decide +kernel
def md_251 : sf_D := md_251_0
theorem dq_251 : sf_dok 251 md_251 := dq_251_0
def md_252_0 : sf_D := [(0, .aload_n 0, 1), (1, .iconst 0, 1), (2, .putfield 73, 3), (5, .iconst 1, 1), (6, .istore_n 1, 1), (7, .iload_n 1, 1), (8, .aload_n 0, 1), (9, .getfield 59, 3), (12, .if_icmp .gt (54), 3), (15, .iload_n 1, 1), (16, .sipush (1500), 3), (19, .if_icmp .gt (47), 3), (22, .aload_n 0, 1), (23, .getfield 51, 3), (26, .iload_n 1, 1), (27, .iconst 0, 1), (28, .bastore, 1), (29, .aload_n 0, 1), (30, .getfield 11, 3), (33, .iload_n 1, 1), (34, .iaload, 1), (35, .ifCond .eq (25), 3), (38, .aload_n 0, 1), (39, .getfield 18, 3), (42, .iload_n 1, 1), (43, .iaload, 1), (44, .aload_n 0, 1), (45, .getfield 21, 3), (48, .iload_n 1, 1), (49, .iaload, 1), (50, .iadd, 1), (51, .ifCond .le (9), 3), (54, .aload_n 0, 1), (55, .iload_n 1, 1), (56, .iconst 1, 1), (57, .invokevirtual 84, 3), (60, .iinc 1 (1), 3), (63, .goto (-56), 3), (66, .iconst 0, 1), (67, .istore_n 1, 1), (68, .iload_n 1, 1), (69, .sipush (1500), 3), (72, .if_icmp .gt (50), 3), (75, .aload_n 0, 1), (76, .getfield 73, 3), (79, .ifCond .le (43), 3), (82, .aload_n 0, 1), (83, .getfield 73, 3), (86, .sipush (1500), 3), (89, .if_icmp .gt (33), 3), (92, .aload_n 0, 1), (93, .dup, 1), (94, .getfield 73, 3), (97, .iconst 1, 1), (98, .isub, 1), (99, .putfield 73, 3), (102, .aload_n 0, 1), (103, .aload_n 0, 1), (104, .getfield 48, 3), (107, .aload_n 0, 1), (108, .getfield 73, 3), (111, .iaload, 1), (112, .iconst 1, 1), (113, .invokevirtual 76, 3), (116, .iinc 1 (1), 3), (119, .goto (-51), 3), (122, .aload_n 0, 1), (123, .getfield 55, 3), (126, .istore_n 1, 1), (127, .iconst 1, 1), (128, .istore_n 2, 1), (129, .iload_n 2, 1), (130, .aload_n 0, 1), (131, .getfield 59, 3), (134, .if_icmp .gt (40), 3), (137, .iload_n 2, 1), (138, .sipush (1500), 3), (141, .if_icmp .gt (33), 3), (144, .aload_n 0, 1), (145, .getfield 11, 3), (148, .iload_n 2, 1), (149, .iaload, 1), (150, .ifCond .eq (18), 3), (153, .aload_n 0, 1), (154, .getfield 51, 3), (157, .iload_n 2, 1), (158, .baload, 1), (159, .ifCond .ne (9), 3), (162, .aload_n 0, 1), (163, .iload_n 2, 1), (164, .iconst 2, 1), (165, .invokevirtual 76, 3), (168, .iinc 2 (1), 3), (171, .goto (-42), 3), (174, .iconst 1, 1), (175, .istore_n 2, 1), (176, .iload_n 2, 1), (177, .aload_n 0, 1), (178, .getfield 59, 3), (181, .if_icmp .gt (39), 3)]
theorem dq_252_0 : sf_dok 252 md_252_0 := by
  unfold sf_dok
  decide +kernel
def md_252_1 : sf_D := [(184, .iload_n 2, 1), (185, .sipush (1500), 3), (188, .if_icmp .gt (32), 3), (191, .aload_n 0, 1), (192, .getfield 11, 3), (195, .iload_n 2, 1), (196, .iaload, 1), (197, .ifCond .eq (17), 3), (200, .aload_n 0, 1), (201, .getfield 51, 3), (204, .iload_n 2, 1), (205, .baload, 1), (206, .ifCond .ne (8), 3), (209, .aload_n 0, 1), (210, .iload_n 2, 1), (211, .invokevirtual 80, 3), (214, .iinc 2 (1), 3), (217, .goto (-41), 3), (220, .iload_n 1, 1), (221, .aload_n 0, 1), (222, .getfield 55, 3), (225, .isub, 1), (226, .ireturn, 1)]
theorem dq_252_1 : sf_dok 252 md_252_1 := by
  unfold sf_dok
  decide +kernel
def md_252 : sf_D := md_252_0 ++ md_252_1
theorem dq_252 : sf_dok 252 md_252 := (sf_dap dq_252_0 dq_252_1)
def md_253_0 : sf_D := [(0, .aload_n 0, 1), (1, .getfield 23, 3), (4, .iload_n 1, 1), (5, .invokevirtual 286, 3), (8, .istore_n 2, 1), (9, .aload_n 0, 1), (10, .getfield 15, 3), (13, .iload_n 2, 1), (14, .invokevirtual 288, 3), (17, .tableswitch (70) 3 6 #[31, 63, 70, 40], 31), (48, .aload_n 0, 1), (49, .iload_n 2, 1), (50, .iload_n 1, 1), (51, .iconst 0, 1), (52, .iconst 0, 1), (53, .invokevirtual 291, 3), (56, .ireturn, 1), (57, .aload_n 0, 1), (58, .aload_n 0, 1), (59, .getfield 15, 3), (62, .iload_n 2, 1), (63, .invokevirtual 241, 3), (66, .iload_n 1, 1), (67, .aload_n 0, 1), (68, .getfield 15, 3), (71, .iload_n 2, 1), (72, .invokevirtual 295, 3), (75, .iconst 0, 1), (76, .invokevirtual 291, 3), (79, .ireturn, 1), (80, .aload_n 0, 1), (81, .iload_n 2, 1), (82, .iload_n 1, 1), (83, .invokevirtual 298, 3), (86, .ireturn, 1), (87, .iconst 2, 1), (88, .ireturn, 1)]
theorem dq_253_0 : sf_dok 253 md_253_0 := by
  unfold sf_dok
  decide +kernel
def md_253 : sf_D := md_253_0
theorem dq_253 : sf_dok 253 md_253 := dq_253_0
def md_254_0 : sf_D := [(0, .aload_n 0, 1), (1, .getfield 15, 3), (4, .iload_n 1, 1), (5, .invokevirtual 314, 3), (8, .istore 5, 2), (10, .iload_n 3, 1), (11, .ifCond .ne (7), 3), (14, .iconst 0, 1), (15, .goto (4), 3), (18, .iconst 1, 1), (19, .istore 6, 2), (21, .iload_n 2, 1), (22, .iload 6, 2), (24, .iadd, 1), (25, .aload_n 0, 1), (26, .getfield 11, 3), (29, .iload 5, 2), (31, .invokevirtual 317, 3), (34, .if_icmp .eq (5), 3), (37, .iconst 2, 1), (38, .ireturn, 1), (39, .aload_n 0, 1), (40, .getfield 150, 3), (43, .ifCond .lt (12), 3), (46, .aload_n 0, 1), (47, .getfield 150, 3), (50, .bipush (30), 2), (52, .if_icmp .lt (6), 3), (55, .bipush (7), 2), (57, .ireturn, 1), (58, .aload_n 0, 1), (59, .getfield 11, 3), (62, .iload 5, 2), (64, .invokevirtual 320, 3), (67, .istore 7, 2), (69, .iload 7, 2), (71, .sipush (300), 3), (74, .if_icmp .le (7), 3), (77, .iconst 0, 1), (78, .goto (12), 3), (81, .aload_n 0, 1), (82, .getfield 15, 3), (85, .bipush (7), 2), (87, .invokevirtual 263, 3), (90, .istore 8, 2), (92, .iload 8, 2), (94, .ifCond .ne (6), 3), (97, .bipush (8), 2), (99, .ireturn, 1), (100, .aload_n 0, 1), (101, .getfield 15, 3), (104, .aload_n 0, 1), (105, .getfield 15, 3), (108, .getfield 156, 3), (111, .iload 8, 2), (113, .invokevirtual 301, 3), (116, .aload_n 0, 1), (117, .getfield 15, 3), (120, .iload 8, 2), (122, .iconst 0, 1), (123, .aload_n 0, 1), (124, .getfield 15, 3), (127, .iload_n 1, 1), (128, .invokevirtual 241, 3), (131, .iconst 0, 1), (132, .invokevirtual 266, 3), (135, .aload_n 0, 1), (136, .getfield 15, 3), (139, .iload 8, 2), (141, .iload 7, 2), (143, .invokevirtual 323, 3), (146, .iload_n 3, 1), (147, .ifCond .eq (18), 3), (150, .aload_n 0, 1), (151, .getfield 15, 3), (154, .iload 8, 2), (156, .iconst 0, 1), (157, .ldc2_w 270, 3), (160, .iload_n 3, 1), (161, .i2l, 1), (162, .invokevirtual 327, 3), (165, .iconst 0, 1), (166, .istore 9, 2), (168, .iload 9, 2), (170, .iload_n 2, 1), (171, .if_icmp .ge (49), 3), (174, .aload_n 0, 1), (175, .getfield 15, 3), (178, .iload 8, 2), (180, .iload 6, 2), (182, .iload 9, 2), (184, .iadd, 1), (185, .aload_n 0, 1), (186, .getfield 23, 3), (189, .iload_n 2, 1), (190, .iconst 1, 1), (191, .isub, 1), (192, .iload 9, 2), (194, .isub, 1), (195, .invokevirtual 133, 3)]
theorem dq_254_0 : sf_dok 254 md_254_0 := by
  unfold sf_dok
  decide +kernel
def md_254_1 : sf_D := [(198, .aload_n 0, 1), (199, .getfield 23, 3), (202, .iload_n 2, 1), (203, .iconst 1, 1), (204, .isub, 1), (205, .iload 9, 2), (207, .isub, 1), (208, .invokevirtual 141, 3), (211, .invokevirtual 327, 3), (214, .iinc 9 (1), 3), (217, .goto (-49), 3), (220, .aload_n 0, 1), (221, .getfield 23, 3), (224, .iload_n 2, 1), (225, .invokevirtual 330, 3), (228, .aload_n 0, 1), (229, .getfield 40, 3), (232, .aload_n 0, 1), (233, .getfield 150, 3), (236, .aload_n 0, 1), (237, .getfield 69, 3), (240, .iastore, 1), (241, .aload_n 0, 1), (242, .getfield 44, 3), (245, .aload_n 0, 1), (246, .getfield 150, 3), (249, .aload_n 0, 1), (250, .getfield 66, 3), (253, .iastore, 1), (254, .aload_n 0, 1), (255, .getfield 47, 3), (258, .aload_n 0, 1), (259, .getfield 150, 3), (262, .aload_n 0, 1), (263, .getfield 23, 3), (266, .getfield 122, 3), (269, .iconst 1, 1), (270, .isub, 1), (271, .iastore, 1), (272, .aload_n 0, 1), (273, .getfield 50, 3), (276, .aload_n 0, 1), (277, .getfield 150, 3), (280, .aload_n 0, 1), (281, .getfield 75, 3), (284, .iastore, 1), (285, .aload_n 0, 1), (286, .getfield 53, 3), (289, .aload_n 0, 1), (290, .getfield 150, 3), (293, .aload_n 0, 1), (294, .getfield 78, 3), (297, .iastore, 1), (298, .aload_n 0, 1), (299, .getfield 56, 3), (302, .aload_n 0, 1), (303, .getfield 150, 3), (306, .iload 4, 2), (308, .iastore, 1), (309, .aload_n 0, 1), (310, .dup, 1), (311, .getfield 150, 3), (314, .iconst 1, 1), (315, .iadd, 1), (316, .putfield 150, 3), (319, .aload_n 0, 1), (320, .iload 8, 2), (322, .putfield 78, 3), (325, .aload_n 0, 1), (326, .aload_n 0, 1), (327, .getfield 11, 3), (330, .iload 5, 2), (332, .invokevirtual 333, 3), (335, .putfield 69, 3), (338, .iconst 0, 1), (339, .ireturn, 1)]
theorem dq_254_1 : sf_dok 254 md_254_1 := by
  unfold sf_dok
  decide +kernel
def md_254 : sf_D := md_254_0 ++ md_254_1
theorem dq_254 : sf_dok 254 md_254 := (sf_dap dq_254_0 dq_254_1)
def md_255_0 : sf_D := [(0, .aload_n 0, 1), (1, .iload_n 1, 1), (2, .invokevirtual 62, 3), (5, .ifCond .eq (12), 3), (8, .aload_n 0, 1), (9, .getfield 26, 3), (12, .iload_n 1, 1), (13, .iaload, 1), (14, .goto (4), 3), (17, .iconst 0, 1), (18, .ireturn, 1)]
theorem dq_255_0 : sf_dok 255 md_255_0 := by
  unfold sf_dok
  decide +kernel
def md_255 : sf_D := md_255_0
theorem dq_255 : sf_dok 255 md_255 := dq_255_0
def md_256_0 : sf_D := [(0, .aload_n 0, 1), (1, .iload_n 1, 1), (2, .invokevirtual 62, 3), (5, .ifCond .eq (12), 3), (8, .aload_n 0, 1), (9, .getfield 29, 3), (12, .iload_n 1, 1), (13, .iaload, 1), (14, .goto (4), 3), (17, .iconst 0, 1), (18, .ireturn, 1)]
theorem dq_256_0 : sf_dok 256 md_256_0 := by
  unfold sf_dok
  decide +kernel
def md_256 : sf_D := md_256_0
theorem dq_256 : sf_dok 256 md_256 := dq_256_0
def md_257_0 : sf_D := [(0, .iload_n 1, 1), (1, .invokestatic 65, 3), (4, .ifCond .eq (14), 3), (7, .iload_n 2, 1), (8, .ifCond .lt (10), 3), (11, .iload_n 2, 1), (12, .sipush (300), 3), (15, .if_icmp .le (4), 3), (18, .return_, 1), (19, .aload_n 0, 1), (20, .iload_n 1, 1), (21, .iconst 2, 1), (22, .iload_n 2, 1), (23, .imul, 1), (24, .invokevirtual 112, 3), (27, .aload_n 0, 1), (28, .getfield 38, 3), (31, .iload_n 1, 1), (32, .aaload, 1), (33, .ifnull (16), 3), (36, .aload_n 0, 1), (37, .getfield 38, 3), (40, .iload_n 1, 1), (41, .aaload, 1), (42, .arraylength, 1), (43, .iconst 2, 1), (44, .iload_n 2, 1), (45, .imul, 1), (46, .if_icmp .ge (4), 3), (49, .return_, 1), (50, .aload_n 0, 1), (51, .getfield 38, 3), (54, .iload_n 1, 1), (55, .aaload, 1), (56, .iconst 0, 1), (57, .iconst 2, 1), (58, .iload_n 2, 1), (59, .imul, 1), (60, .lconst 0, 1), (61, .invokestatic 135, 3), (64, .aload_n 0, 1), (65, .getfield 33, 3), (68, .iload_n 1, 1), (69, .iload_n 2, 1), (70, .iastore, 1), (71, .return_, 1)]
theorem dq_257_0 : sf_dok 257 md_257_0 := by
  unfold sf_dok
  decide +kernel
def md_257 : sf_D := md_257_0
theorem dq_257 : sf_dok 257 md_257 := dq_257_0
def md_258_0 : sf_D := [(0, .aload_n 0, 1), (1, .arraylength, 1), (2, .iload_n 1, 1), (3, .iload_n 2, 1), (4, .invokestatic 13, 3), (7, .iload_n 1, 1), (8, .istore 5, 2), (10, .iload 5, 2), (12, .iload_n 2, 1), (13, .if_icmp .ge (14), 3), (16, .aload_n 0, 1), (17, .iload 5, 2), (19, .lload_n 3, 1), (20, .lastore, 1), (21, .iinc 5 (1), 3), (24, .goto (-14), 3), (27, .return_, 1)]
theorem dq_258_0 : sf_dok 258 md_258_0 := by
  unfold sf_dok
  decide +kernel
def md_258 : sf_D := md_258_0
theorem dq_258 : sf_dok 258 md_258 := dq_258_0
def md_259_0 : sf_D := [(0, .iload_n 1, 1), (1, .iload_n 2, 1), (2, .if_icmp .le (44), 3), (5, .new 43, 3), (8, .dup, 1), (9, .new 45, 3), (12, .dup, 1), (13, .invokespecial 47, 3), (16, .ldc 48, 2), (18, .invokevirtual 50, 3), (21, .iload_n 1, 1), (22, .invokevirtual 54, 3), (25, .ldc 57, 2), (27, .invokevirtual 50, 3), (30, .iload_n 2, 1), (31, .invokevirtual 54, 3), (34, .ldc 59, 2), (36, .invokevirtual 50, 3), (39, .invokevirtual 61, 3), (42, .invokespecial 65, 3), (45, .athrow, 1), (46, .iload_n 1, 1), (47, .ifCond .ge (12), 3), (50, .new 68, 3), (53, .dup, 1), (54, .iload_n 1, 1), (55, .invokespecial 70, 3), (58, .athrow, 1), (59, .iload_n 2, 1), (60, .iload_n 0, 1), (61, .if_icmp .le (12), 3), (64, .new 68, 3), (67, .dup, 1), (68, .iload_n 2, 1), (69, .invokespecial 70, 3), (72, .athrow, 1), (73, .return_, 1)]
theorem dq_259_0 : sf_dok 259 md_259_0 := by
  unfold sf_dok
  decide +kernel
def md_259 : sf_D := md_259_0
theorem dq_259 : sf_dok 259 md_259 := dq_259_0
def md_260_0 : sf_D := [(0, .aload_n 0, 1), (1, .iload_n 1, 1), (2, .iload_n 2, 1), (3, .invokevirtual 95, 3), (6, .istore 7, 2), (8, .iload 7, 2), (10, .ifCond .ge (4), 3), (13, .return_, 1), (14, .aload_n 0, 1), (15, .aload_n 0, 1), (16, .getfield 15, 3), (19, .lload_n 3, 1), (20, .lload 5, 2), (22, .invokestatic 91, 3), (25, .invokevirtual 69, 3), (28, .aload_n 0, 1), (29, .getfield 38, 3), (32, .iload_n 1, 1), (33, .aaload, 1), (34, .iload 7, 2), (36, .lload_n 3, 1), (37, .lastore, 1), (38, .aload_n 0, 1), (39, .getfield 38, 3), (42, .iload_n 1, 1), (43, .aaload, 1), (44, .iload 7, 2), (46, .iconst 1, 1), (47, .iadd, 1), (48, .lload 5, 2), (50, .lastore, 1), (51, .return_, 1)]
theorem dq_260_0 : sf_dok 260 md_260_0 := by
  unfold sf_dok
  decide +kernel
def md_260 : sf_D := md_260_0
theorem dq_260 : sf_dok 260 md_260 := dq_260_0
def md_261_0 : sf_D := [(0, .iconst 0, 1), (1, .istore_n 2, 1), (2, .iload_n 2, 1), (3, .iload_n 1, 1), (4, .if_icmp .ge (64), 3), (7, .aload_n 0, 1), (8, .getfield 22, 3), (11, .ifCond .le (57), 3), (14, .aload_n 0, 1), (15, .getfield 22, 3), (18, .sipush (20480), 3), (21, .if_icmp .gt (47), 3), (24, .aload_n 0, 1), (25, .dup, 1), (26, .getfield 22, 3), (29, .iconst 1, 1), (30, .isub, 1), (31, .putfield 22, 3), (34, .aload_n 0, 1), (35, .getfield 9, 3), (38, .aload_n 0, 1), (39, .getfield 15, 3), (42, .aload_n 0, 1), (43, .getfield 22, 3), (46, .laload, 1), (47, .aload_n 0, 1), (48, .getfield 19, 3), (51, .aload_n 0, 1), (52, .getfield 22, 3), (55, .laload, 1), (56, .invokestatic 37, 3), (59, .invokevirtual 61, 3), (62, .iinc 2 (1), 3), (65, .goto (-63), 3), (68, .return_, 1)]
theorem dq_261_0 : sf_dok 261 md_261_0 := by
  unfold sf_dok
  decide +kernel
def md_261 : sf_D := md_261_0
theorem dq_261 : sf_dok 261 md_261 := dq_261_0
def md_262_0 : sf_D := [(0, .iload_n 1, 1), (1, .invokestatic 65, 3), (4, .ifCond .eq (13), 3), (7, .aload_n 0, 1), (8, .getfield 21, 3), (11, .iload_n 1, 1), (12, .dup2, 1), (13, .iaload, 1), (14, .iconst 1, 1), (15, .isub, 1), (16, .iastore, 1), (17, .return_, 1)]
theorem dq_262_0 : sf_dok 262 md_262_0 := by
  unfold sf_dok
  decide +kernel
def md_262 : sf_D := md_262_0
theorem dq_262 : sf_dok 262 md_262 := dq_262_0
def md_263_0 : sf_D := [(0, .aload_n 0, 1), (1, .iload_n 1, 1), (2, .invokevirtual 62, 3), (5, .ifCond .eq (12), 3), (8, .aload_n 0, 1), (9, .getfield 23, 3), (12, .iload_n 1, 1), (13, .iaload, 1), (14, .goto (5), 3), (17, .ldc 11, 2), (19, .ireturn, 1)]
theorem dq_263_0 : sf_dok 263 md_263_0 := by
  unfold sf_dok
  decide +kernel
def md_263 : sf_D := md_263_0
theorem dq_263 : sf_dok 263 md_263 := dq_263_0
def md_264_0 : sf_D := [(0, .iload_n 1, 1), (1, .invokestatic 65, 3), (4, .ifCond .eq (12), 3), (7, .aload_n 0, 1), (8, .getfield 27, 3), (11, .iload_n 1, 1), (12, .iaload, 1), (13, .goto (4), 3), (16, .iconst 0, 1), (17, .ireturn, 1)]
theorem dq_264_0 : sf_dok 264 md_264_0 := by
  unfold sf_dok
  decide +kernel
def md_264 : sf_D := md_264_0
theorem dq_264 : sf_dok 264 md_264 := dq_264_0
def md_265_0 : sf_D := [(0, .aload_n 0, 1), (1, .getfield 15, 3), (4, .iconst 5, 1), (5, .invokevirtual 263, 3), (8, .istore_n 3, 1), (9, .iload_n 3, 1), (10, .ifCond .ne (6), 3), (13, .bipush (8), 2), (15, .ireturn, 1), (16, .aload_n 0, 1), (17, .getfield 15, 3), (20, .aload_n 0, 1), (21, .getfield 15, 3), (24, .getfield 156, 3), (27, .iload_n 3, 1), (28, .invokevirtual 301, 3), (31, .aload_n 0, 1), (32, .getfield 15, 3), (35, .iload_n 3, 1), (36, .iconst 0, 1), (37, .iload_n 1, 1), (38, .iconst 0, 1), (39, .invokevirtual 266, 3), (42, .aload_n 0, 1), (43, .getfield 19, 3), (46, .bipush (34), 2), (48, .invokevirtual 272, 3), (51, .lstore 4, 2), (53, .aload_n 0, 1), (54, .getfield 19, 3), (57, .bipush (34), 2), (59, .invokevirtual 275, 3), (62, .lstore 6, 2), (64, .aload_n 0, 1), (65, .getfield 15, 3), (68, .iload_n 1, 1), (69, .lload 4, 2), (71, .lload 6, 2), (73, .invokevirtual 304, 3), (76, .istore 8, 2), (78, .aload_n 0, 1), (79, .getfield 15, 3), (82, .iload 8, 2), (84, .lload 4, 2), (86, .lload 6, 2), (88, .invokevirtual 307, 3), (91, .istore 9, 2), (93, .aload_n 0, 1), (94, .getfield 15, 3), (97, .iload 8, 2), (99, .iload 9, 2), (101, .invokevirtual 200, 3), (104, .aload_n 0, 1), (105, .getfield 15, 3), (108, .iload 8, 2), (110, .iload 9, 2), (112, .invokevirtual 204, 3), (115, .invokestatic 310, 3), (118, .istore 10, 2), (120, .iconst 2, 1), (121, .istore 11, 2), (123, .aload_n 0, 1), (124, .getfield 15, 3), (127, .iload 10, 2), (129, .invokevirtual 288, 3), (132, .iconst 3, 1), (133, .if_icmp .ne (21), 3), (136, .aload_n 0, 1), (137, .iload 10, 2), (139, .iload_n 2, 1), (140, .iload_n 3, 1), (141, .iload_n 3, 1), (142, .invokevirtual 291, 3), (145, .istore 11, 2), (147, .iload 11, 2), (149, .ifCond .ne (24), 3), (152, .iconst 0, 1), (153, .ireturn, 1), (154, .iload_n 2, 1), (155, .ifCond .ne (18), 3), (158, .aload_n 0, 1), (159, .getfield 23, 3), (162, .iconst 1, 1), (163, .ldc2_w 270, 3), (166, .iload_n 3, 1), (167, .i2l, 1), (168, .invokevirtual 282, 3), (171, .istore 11, 2), (173, .aload_n 0, 1), (174, .getfield 15, 3), (177, .aload_n 0, 1), (178, .getfield 15, 3), (181, .getfield 156, 3), (184, .iload_n 3, 1), (185, .invokevirtual 161, 3), (188, .iload 11, 2), (190, .ireturn, 1)]
theorem dq_265_0 : sf_dok 265 md_265_0 := by
  unfold sf_dok
  decide +kernel
def md_265 : sf_D := md_265_0
theorem dq_265 : sf_dok 265 md_265 := dq_265_0
def md_266_0 : sf_D := [(0, .iload_n 1, 1), (1, .bipush (100), 2), (3, .if_icmp .eq (20), 3), (6, .aload_n 0, 1), (7, .getfield 75, 3), (10, .ifCond .le (13), 3), (13, .aload_n 0, 1), (14, .getfield 75, 3), (17, .sipush (341), 3), (20, .if_icmp .le (5), 3), (23, .iconst 0, 1), (24, .ireturn, 1), (25, .aload_n 0, 1), (26, .dup, 1), (27, .getfield 75, 3), (30, .iconst 1, 1), (31, .isub, 1), (32, .putfield 75, 3), (35, .aload_n 0, 1), (36, .aload_n 0, 1), (37, .getfield 59, 3), (40, .iconst 3, 1), (41, .aload_n 0, 1), (42, .getfield 75, 3), (45, .imul, 1), (46, .iaload, 1), (47, .putfield 69, 3), (50, .aload_n 0, 1), (51, .aload_n 0, 1), (52, .getfield 59, 3), (55, .iconst 3, 1), (56, .aload_n 0, 1), (57, .getfield 75, 3), (60, .imul, 1), (61, .iconst 2, 1), (62, .iadd, 1), (63, .iaload, 1), (64, .invokevirtual 118, 3), (67, .aload_n 0, 1), (68, .getfield 23, 3), (71, .aload_n 0, 1), (72, .getfield 23, 3), (75, .getfield 122, 3), (78, .aload_n 0, 1), (79, .getfield 59, 3), (82, .iconst 3, 1), (83, .aload_n 0, 1), (84, .getfield 75, 3), (87, .imul, 1), (88, .iconst 1, 1), (89, .iadd, 1), (90, .iaload, 1), (91, .isub, 1), (92, .invokevirtual 127, 3), (95, .aload_n 0, 1), (96, .getfield 23, 3), (99, .ldc2_w 144, 3), (102, .iload_n 1, 1), (103, .i2l, 1), (104, .invokevirtual 146, 3), (107, .iconst 1, 1), (108, .ireturn, 1)]
theorem dq_266_0 : sf_dok 266 md_266_0 := by
  unfold sf_dok
  decide +kernel
def md_266 : sf_D := md_266_0
theorem dq_266 : sf_dok 266 md_266 := dq_266_0
def md_267_0 : sf_D := [(0, .aload_n 0, 1), (1, .getfield 150, 3), (4, .istore_n 2, 1), (5, .iload_n 2, 1), (6, .iload_n 1, 1), (7, .if_icmp .le (17), 3), (10, .iload_n 2, 1), (11, .ifCond .le (13), 3), (14, .aload_n 0, 1), (15, .invokevirtual 153, 3), (18, .iinc 2 (-1), 3), (21, .goto (-16), 3), (24, .return_, 1)]
theorem dq_267_0 : sf_dok 267 md_267_0 := by
  unfold sf_dok
  decide +kernel
def md_267 : sf_D := md_267_0
theorem dq_267 : sf_dok 267 md_267 := dq_267_0
def md_268_0 : sf_D := [(0, .aload_n 0, 1), (1, .getfield 66, 3), (4, .ireturn, 1)]
theorem dq_268_0 : sf_dok 268 md_268_0 := by
  unfold sf_dok
  decide +kernel
def md_268 : sf_D := md_268_0
theorem dq_268 : sf_dok 268 md_268 := dq_268_0
def md_269_0 : sf_D := [(0, .aload_n 0, 1), (1, .getfield 110, 3), (4, .ireturn, 1)]
theorem dq_269_0 : sf_dok 269 md_269_0 := by
  unfold sf_dok
  decide +kernel
def md_269 : sf_D := md_269_0
theorem dq_269 : sf_dok 269 md_269 := dq_269_0
def md_270_0 : sf_D := [(0, .iload_n 1, 1), (1, .iconst (-1), 1), (2, .if_icmp .ne (13), 3), (5, .aload_n 0, 1), (6, .getfield 68, 3), (9, .invokevirtual 121, 3), (12, .goto (11), 3), (15, .aload_n 0, 1), (16, .getfield 68, 3), (19, .iload_n 1, 1), (20, .invokevirtual 124, 3), (23, .ireturn, 1)]
theorem dq_270_0 : sf_dok 270 md_270_0 := by
  unfold sf_dok
  decide +kernel
def md_270 : sf_D := md_270_0
theorem dq_270 : sf_dok 270 md_270 := dq_270_0
def md_271_0 : sf_D := [(0, .aload_n 0, 1), (1, .getfield 34, 3), (4, .ireturn, 1)]
theorem dq_271_0 : sf_dok 271 md_271_0 := by
  unfold sf_dok
  decide +kernel
def md_271 : sf_D := md_271_0
theorem dq_271 : sf_dok 271 md_271 := dq_271_0
def md_272_0 : sf_D := [(0, .iload_n 1, 1), (1, .ifCond .lt (31), 3), (4, .iload_n 1, 1), (5, .aload_n 0, 1), (6, .getfield 34, 3), (9, .if_icmp .ge (23), 3), (12, .iload_n 1, 1), (13, .sipush (4000), 3), (16, .if_icmp .ge (16), 3), (19, .aload_n 0, 1), (20, .getfield 27, 3), (23, .iload_n 1, 1), (24, .baload, 1), (25, .sipush (255), 3), (28, .iand, 1), (29, .goto (4), 3), (32, .iconst (-1), 1), (33, .ireturn, 1)]
theorem dq_272_0 : sf_dok 272 md_272_0 := by
  unfold sf_dok
  decide +kernel
def md_272 : sf_D := md_272_0
theorem dq_272 : sf_dok 272 md_272 := dq_272_0
def md_273_0 : sf_D := [(0, .iload_n 1, 1), (1, .ifCond .ne (11), 3), (4, .aload_n 0, 1), (5, .getfield 16, 3), (8, .invokevirtual 127, 3), (11, .ireturn, 1), (12, .iload_n 1, 1), (13, .iconst 1, 1), (14, .if_icmp .lt (18), 3), (17, .iload_n 1, 1), (18, .bipush (7), 2), (20, .if_icmp .gt (12), 3), (23, .aload_n 0, 1), (24, .getfield 16, 3), (27, .iload_n 1, 1), (28, .invokevirtual 130, 3), (31, .ireturn, 1), (32, .iload_n 1, 1), (33, .bipush (8), 2), (35, .if_icmp .ne (11), 3), (38, .aload_n 0, 1), (39, .getfield 25, 3), (42, .invokevirtual 133, 3), (45, .ireturn, 1), (46, .iload_n 1, 1), (47, .bipush (9), 2), (49, .if_icmp .ne (13), 3), (52, .aload_n 0, 1), (53, .getfield 77, 3), (56, .invokevirtual 136, 3), (59, .goto (4), 3), (62, .iconst (-1), 1), (63, .ireturn, 1)]
theorem dq_273_0 : sf_dok 273 md_273_0 := by
  unfold sf_dok
  decide +kernel
def md_273 : sf_D := md_273_0
theorem dq_273 : sf_dok 273 md_273 := dq_273_0
def md_274_0 : sf_D := [(0, .iload_n 1, 1), (1, .iconst 1, 1), (2, .if_icmp .lt (18), 3), (5, .iload_n 1, 1), (6, .bipush (7), 2), (8, .if_icmp .gt (12), 3), (11, .aload_n 0, 1), (12, .getfield 42, 3), (15, .iload_n 1, 1), (16, .iaload, 1), (17, .goto (4), 3), (20, .iconst 0, 1), (21, .ireturn, 1)]
theorem dq_274_0 : sf_dok 274 md_274_0 := by
  unfold sf_dok
  decide +kernel
def md_274 : sf_D := md_274_0
theorem dq_274 : sf_dok 274 md_274 := dq_274_0
def md_275_0 : sf_D := [(0, .aload_n 0, 1), (1, .getfield 85, 3), (4, .ireturn, 1)]
theorem dq_275_0 : sf_dok 275 md_275_0 := by
  unfold sf_dok
  decide +kernel
def md_275 : sf_D := md_275_0
theorem dq_275 : sf_dok 275 md_275 := dq_275_0
def md_276_0 : sf_D := [(0, .aload_n 0, 1), (1, .getfield 62, 3), (4, .ireturn, 1)]
theorem dq_276_0 : sf_dok 276 md_276_0 := by
  unfold sf_dok
  decide +kernel
def md_276 : sf_D := md_276_0
theorem dq_276 : sf_dok 276 md_276 := dq_276_0
def md_277_0 : sf_D := [(0, .aload_n 0, 1), (1, .invokevirtual 139, 3), (4, .istore_n 3, 1), (5, .iload_n 3, 1), (6, .ifCond .ge (5), 3), (9, .iconst (-1), 1), (10, .ireturn, 1), (11, .aload_n 0, 1), (12, .getfield 25, 3), (15, .iload_n 3, 1), (16, .ldc2_w 142, 3), (19, .lload_n 1, 1), (20, .invokevirtual 144, 3), (23, .iconst 0, 1), (24, .ireturn, 1)]
theorem dq_277_0 : sf_dok 277 md_277_0 := by
  unfold sf_dok
  decide +kernel
def md_277 : sf_D := md_277_0
theorem dq_277 : sf_dok 277 md_277 := dq_277_0
def md_278_0 : sf_D := [(0, .aload_n 0, 1), (1, .getfield 81, 3), (4, .istore_n 1, 1), (5, .aload_n 0, 1), (6, .iconst 0, 1), (7, .putfield 81, 3), (10, .aload_n 0, 1), (11, .getfield 37, 3), (14, .iload_n 1, 1), (15, .invokevirtual 163, 3), (18, .ireturn, 1)]
theorem dq_278_0 : sf_dok 278 md_278_0 := by
  unfold sf_dok
  decide +kernel
def md_278 : sf_D := md_278_0
theorem dq_278 : sf_dok 278 md_278 := dq_278_0
def md_279_0 : sf_D := [(0, .aload_n 0, 1), (1, .iload_n 1, 1), (2, .putfield 19, 3), (5, .aload_n 0, 1), (6, .iconst 0, 1), (7, .putfield 23, 3), (10, .aload_n 0, 1), (11, .iconst 0, 1), (12, .putfield 60, 3), (15, .aload_n 0, 1), (16, .iconst 2, 1), (17, .putfield 38, 3), (20, .iload_n 1, 1), (21, .bipush (12), 2), (23, .if_icmp .gt (14), 3), (26, .aload_n 0, 1), (27, .iconst 0, 1), (28, .invokevirtual 50, 3), (31, .invokestatic 63, 3), (34, .ifCond .ne (5), 3), (37, .iconst (-1), 1), (38, .ireturn, 1), (39, .aload_n 0, 1), (40, .invokevirtual 67, 3), (43, .aload_n 0, 1), (44, .getfield 38, 3), (47, .iconst 3, 1), (48, .if_icmp .ne (21), 3), (51, .aload_n 0, 1), (52, .getfield 23, 3), (55, .aload_n 0, 1), (56, .getfield 19, 3), (59, .if_icmp .ne (10), 3), (62, .aload_n 0, 1), (63, .getfield 99, 3), (66, .goto (4), 3), (69, .iconst (-1), 1), (70, .ireturn, 1)]
theorem dq_279_0 : sf_dok 279 md_279_0 := by
  unfold sf_dok
  decide +kernel
def md_279 : sf_D := md_279_0
theorem dq_279 : sf_dok 279 md_279 := dq_279_0
def md_280_0 : sf_D := [(0, .aload_n 0, 1), (1, .invokevirtual 139, 3), (4, .istore_n 1, 1), (5, .aload_n 0, 1), (6, .getfield 25, 3), (9, .iload_n 1, 1), (10, .invokevirtual 148, 3), (13, .invokestatic 152, 3), (16, .istore_n 2, 1), (17, .iload_n 2, 1), (18, .ifCond .ne (7), 3), (21, .ldc2_w 156, 3), (24, .lreturn, 1), (25, .iload_n 2, 1), (26, .iconst 2, 1), (27, .if_icmp .ne (14), 3), (30, .aload_n 0, 1), (31, .getfield 25, 3), (34, .iload_n 1, 1), (35, .invokevirtual 158, 3), (38, .goto (6), 3), (41, .ldc2_w 161, 3), (44, .lreturn, 1)]
theorem dq_280_0 : sf_dok 280 md_280_0 := by
  unfold sf_dok
  decide +kernel
def md_280 : sf_D := md_280_0
theorem dq_280 : sf_dok 280 md_280 := dq_280_0
def md_281_0 : sf_D := [(0, .aload_n 0, 1), (1, .invokespecial 848, 3), (4, .aload_n 0, 1), (5, .sipush (768), 3), (8, .newarray .byte, 2), (10, .putfield 11, 3), (13, .aload_n 0, 1), (14, .bipush (64), 2), (16, .newarray .int, 2), (18, .putfield 7, 3), (21, .aload_n 0, 1), (22, .bipush (64), 2), (24, .newarray .int, 2), (26, .putfield 24, 3), (29, .aload_n 0, 1), (30, .bipush (64), 2), (32, .newarray .long, 2), (34, .putfield 27, 3), (37, .aload_n 0, 1), (38, .bipush (64), 2), (40, .newarray .long, 2), (42, .putfield 34, 3), (45, .aload_n 0, 1), (46, .sipush (6002), 3), (49, .newarray .int, 2), (51, .putfield 129, 3), (54, .aload_n 0, 1), (55, .sipush (6002), 3), (58, .newarray .int, 2), (60, .putfield 135, 3), (63, .aload_n 0, 1), (64, .sipush (6002), 3), (67, .newarray .int, 2), (69, .putfield 138, 3), (72, .aload_n 0, 1), (73, .sipush (6002), 3), (76, .newarray .int, 2), (78, .putfield 141, 3), (81, .aload_n 0, 1), (82, .sipush (6002), 3), (85, .newarray .long, 2), (87, .putfield 175, 3), (90, .aload_n 0, 1), (91, .sipush (6002), 3), (94, .newarray .long, 2), (96, .putfield 182, 3), (99, .aload_n 0, 1), (100, .bipush (16), 2), (102, .newarray .int, 2), (104, .putfield 263, 3), (107, .aload_n 0, 1), (108, .sipush (6000), 3), (111, .newarray .int, 2), (113, .putfield 347, 3), (116, .aload_n 0, 1), (117, .bipush (16), 2), (119, .newarray .int, 2), (121, .putfield 350, 3), (124, .aload_n 0, 1), (125, .bipush (16), 2), (127, .newarray .int, 2), (129, .putfield 344, 3), (132, .aload_n 0, 1), (133, .bipush (32), 2), (135, .newarray .int, 2), (137, .putfield 320, 3), (140, .aload_n 0, 1), (141, .bipush (32), 2), (143, .newarray .int, 2), (145, .putfield 323, 3), (148, .aload_n 0, 1), (149, .bipush (64), 2), (151, .newarray .int, 2), (153, .putfield 329, 3), (156, .aload_n 0, 1), (157, .bipush (64), 2), (159, .newarray .int, 2), (161, .putfield 326, 3), (164, .aload_n 0, 1), (165, .sipush (3000), 3), (168, .newarray .int, 2), (170, .putfield 314, 3), (173, .aload_n 0, 1), (174, .sipush (6000), 3), (177, .newarray .int, 2), (179, .putfield 365, 3), (182, .aload_n 0, 1), (183, .bipush (16), 2), (185, .newarray .int, 2), (187, .putfield 362, 3), (190, .aload_n 0, 1), (191, .sipush (6000), 3), (194, .newarray .int, 2), (196, .putfield 385, 3), (199, .aload_n 0, 1), (200, .sipush (15000), 3), (203, .newarray .int, 2), (205, .putfield 450, 3), (208, .aload_n 0, 1), (209, .sipush (1500), 3)]
theorem dq_281_0 : sf_dok 281 md_281_0 := by
  unfold sf_dok
  decide +kernel
def md_281_1 : sf_D := [(212, .anewarray 460, 3), (215, .putfield 485, 3), (218, .aload_n 0, 1), (219, .sipush (1500), 3), (222, .newarray .boolean, 2), (224, .putfield 481, 3), (227, .aload_n 0, 1), (228, .sipush (1500), 3), (231, .newarray .boolean, 2), (233, .putfield 537, 3), (236, .aload_n 0, 1), (237, .sipush (1500), 3), (240, .newarray .int, 2), (242, .putfield 456, 3), (245, .aload_n 0, 1), (246, .sipush (1500), 3), (249, .newarray .int, 2), (251, .putfield 514, 3), (254, .aload_n 0, 1), (255, .sipush (20480), 3), (258, .newarray .int, 2), (260, .putfield 496, 3), (263, .aload_n 0, 1), (264, .sipush (20480), 3), (267, .newarray .long, 2), (269, .putfield 499, 3), (272, .aload_n 0, 1), (273, .sipush (20480), 3), (276, .newarray .long, 2), (278, .putfield 546, 3), (281, .aload_n 0, 1), (282, .bipush (31), 2), (284, .anewarray 211, 3), (287, .putfield 568, 3), (290, .aload_n 0, 1), (291, .bipush (31), 2), (293, .newarray .int, 2), (295, .putfield 572, 3), (298, .aload_n 0, 1), (299, .bipush (31), 2), (301, .newarray .int, 2), (303, .putfield 505, 3), (306, .aload_n 0, 1), (307, .bipush (31), 2), (309, .newarray .int, 2), (311, .putfield 596, 3), (314, .aload_n 0, 1), (315, .bipush (31), 2), (317, .newarray .int, 2), (319, .putfield 578, 3), (322, .aload_n 0, 1), (323, .bipush (31), 2), (325, .newarray .int, 2), (327, .putfield 599, 3), (330, .aload_n 0, 1), (331, .bipush (31), 2), (333, .newarray .boolean, 2), (335, .putfield 602, 3), (338, .aload_n 0, 1), (339, .sipush (400), 3), (342, .newarray .int, 2), (344, .putfield 584, 3), (347, .aload_n 0, 1), (348, .sipush (400), 3), (351, .newarray .int, 2), (353, .putfield 590, 3), (356, .aload_n 0, 1), (357, .sipush (400), 3), (360, .newarray .int, 2), (362, .putfield 587, 3), (365, .aload_n 0, 1), (366, .bipush (40), 2), (368, .newarray .byte, 2), (370, .putfield 752, 3), (373, .aload_n 0, 1), (374, .iconst 4, 1), (375, .newarray .byte, 2), (377, .dup, 1), (378, .iconst 0, 1), (379, .bipush (105), 2), (381, .bastore, 1), (382, .dup, 1), (383, .iconst 1, 1), (384, .bipush (110), 2), (386, .bastore, 1), (387, .dup, 1), (388, .iconst 2, 1), (389, .bipush (105), 2), (391, .bastore, 1), (392, .dup, 1), (393, .iconst 3, 1), (394, .bipush (116), 2), (396, .bastore, 1), (397, .putfield 790, 3), (400, .aload_n 0, 1), (401, .sipush (4000), 3), (404, .newarray .byte, 2), (406, .putfield 815, 3), (409, .aload_n 0, 1), (410, .sipush (3000), 3)]
theorem dq_281_1 : sf_dok 281 md_281_1 := by
  unfold sf_dok
  decide +kernel
def md_281_2 : sf_D := [(413, .newarray .byte, 2), (415, .putfield 851, 3), (418, .return_, 1)]
theorem dq_281_2 : sf_dok 281 md_281_2 := by
  unfold sf_dok
  decide +kernel
def md_281 : sf_D := md_281_0 ++ md_281_1 ++ md_281_2
theorem dq_281 : sf_dok 281 md_281 := (sf_dap (sf_dap dq_281_0 dq_281_1) dq_281_2)
def sf_md3 : List (Nat × sf_D) := [(214, md_214), (215, md_215), (216, md_216), (217, md_217), (218, md_218), (219, md_219), (220, md_220), (221, md_221), (222, md_222), (223, md_223), (224, md_224), (225, md_225), (226, md_226), (227, md_227), (228, md_228), (229, md_229), (230, md_230), (231, md_231), (232, md_232), (233, md_233), (234, md_234), (235, md_235), (236, md_236), (237, md_237), (238, md_238), (239, md_239), (240, md_240), (241, md_241), (242, md_242), (243, md_243), (244, md_244), (245, md_245), (246, md_246), (247, md_247), (248, md_248), (249, md_249), (250, md_250), (251, md_251), (252, md_252), (253, md_253), (254, md_254), (255, md_255), (256, md_256), (257, md_257), (258, md_258), (259, md_259), (260, md_260), (261, md_261), (262, md_262), (263, md_263), (264, md_264), (265, md_265), (266, md_266), (267, md_267), (268, md_268), (269, md_269), (270, md_270), (271, md_271), (272, md_272), (273, md_273), (274, md_274), (275, md_275), (276, md_276), (277, md_277), (278, md_278), (279, md_279), (280, md_280), (281, md_281)]
theorem sf_mdq3 : ∀ q ∈ sf_md3, sf_dok q.1 q.2 := (List.forall_mem_cons.mpr ⟨dq_214, (List.forall_mem_cons.mpr ⟨dq_215, (List.forall_mem_cons.mpr ⟨dq_216, (List.forall_mem_cons.mpr ⟨dq_217, (List.forall_mem_cons.mpr ⟨dq_218, (List.forall_mem_cons.mpr ⟨dq_219, (List.forall_mem_cons.mpr ⟨dq_220, (List.forall_mem_cons.mpr ⟨dq_221, (List.forall_mem_cons.mpr ⟨dq_222, (List.forall_mem_cons.mpr ⟨dq_223, (List.forall_mem_cons.mpr ⟨dq_224, (List.forall_mem_cons.mpr ⟨dq_225, (List.forall_mem_cons.mpr ⟨dq_226, (List.forall_mem_cons.mpr ⟨dq_227, (List.forall_mem_cons.mpr ⟨dq_228, (List.forall_mem_cons.mpr ⟨dq_229, (List.forall_mem_cons.mpr ⟨dq_230, (List.forall_mem_cons.mpr ⟨dq_231, (List.forall_mem_cons.mpr ⟨dq_232, (List.forall_mem_cons.mpr ⟨dq_233, (List.forall_mem_cons.mpr ⟨dq_234, (List.forall_mem_cons.mpr ⟨dq_235, (List.forall_mem_cons.mpr ⟨dq_236, (List.forall_mem_cons.mpr ⟨dq_237, (List.forall_mem_cons.mpr ⟨dq_238, (List.forall_mem_cons.mpr ⟨dq_239, (List.forall_mem_cons.mpr ⟨dq_240, (List.forall_mem_cons.mpr ⟨dq_241, (List.forall_mem_cons.mpr ⟨dq_242, (List.forall_mem_cons.mpr ⟨dq_243, (List.forall_mem_cons.mpr ⟨dq_244, (List.forall_mem_cons.mpr ⟨dq_245, (List.forall_mem_cons.mpr ⟨dq_246, (List.forall_mem_cons.mpr ⟨dq_247, (List.forall_mem_cons.mpr ⟨dq_248, (List.forall_mem_cons.mpr ⟨dq_249, (List.forall_mem_cons.mpr ⟨dq_250, (List.forall_mem_cons.mpr ⟨dq_251, (List.forall_mem_cons.mpr ⟨dq_252, (List.forall_mem_cons.mpr ⟨dq_253, (List.forall_mem_cons.mpr ⟨dq_254, (List.forall_mem_cons.mpr ⟨dq_255, (List.forall_mem_cons.mpr ⟨dq_256, (List.forall_mem_cons.mpr ⟨dq_257, (List.forall_mem_cons.mpr ⟨dq_258, (List.forall_mem_cons.mpr ⟨dq_259, (List.forall_mem_cons.mpr ⟨dq_260, (List.forall_mem_cons.mpr ⟨dq_261, (List.forall_mem_cons.mpr ⟨dq_262, (List.forall_mem_cons.mpr ⟨dq_263, (List.forall_mem_cons.mpr ⟨dq_264, (List.forall_mem_cons.mpr ⟨dq_265, (List.forall_mem_cons.mpr ⟨dq_266, (List.forall_mem_cons.mpr ⟨dq_267, (List.forall_mem_cons.mpr ⟨dq_268, (List.forall_mem_cons.mpr ⟨dq_269, (List.forall_mem_cons.mpr ⟨dq_270, (List.forall_mem_cons.mpr ⟨dq_271, (List.forall_mem_cons.mpr ⟨dq_272, (List.forall_mem_cons.mpr ⟨dq_273, (List.forall_mem_cons.mpr ⟨dq_274, (List.forall_mem_cons.mpr ⟨dq_275, (List.forall_mem_cons.mpr ⟨dq_276, (List.forall_mem_cons.mpr ⟨dq_277, (List.forall_mem_cons.mpr ⟨dq_278, (List.forall_mem_cons.mpr ⟨dq_279, (List.forall_mem_cons.mpr ⟨dq_280, (List.forall_mem_cons.mpr ⟨dq_281, (fun _ h => absurd h List.not_mem_nil)⟩)⟩)⟩)⟩)⟩)⟩)⟩)⟩)⟩)⟩)⟩)⟩)⟩)⟩)⟩)⟩)⟩)⟩)⟩)⟩)⟩)⟩)⟩)⟩)⟩)⟩)⟩)⟩)⟩)⟩)⟩)⟩)⟩)⟩)⟩)⟩)⟩)⟩)⟩)⟩)⟩)⟩)⟩)⟩)⟩)⟩)⟩)⟩)⟩)⟩)⟩)⟩)⟩)⟩)⟩)⟩)⟩)⟩)⟩)⟩)⟩)⟩)⟩)⟩)⟩)⟩)⟩)⟩)
