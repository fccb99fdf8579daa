/-! VALUES of strings and names; lines of the tape; scopes' leaves -/
theorem dc_47_0 : decode (sm_cc 47) 0 = .ok (.lload_n 0, 1) := by decide +kernel
theorem dc_47_1 : decode (sm_cc 47) 1 = .ok (.bipush (56), 2) := by decide +kernel
theorem dc_47_3 : decode (sm_cc 47) 3 = .ok (.lushr, 1) := by decide +kernel
theorem dc_47_4 : decode (sm_cc 47) 4 = .ok (.l2i, 1) := by decide +kernel
theorem dc_47_5 : decode (sm_cc 47) 5 = .ok (.bipush (15), 2) := by decide +kernel
theorem dc_47_7 : decode (sm_cc 47) 7 = .ok (.iand, 1) := by decide +kernel
theorem dc_47_8 : decode (sm_cc 47) 8 = .ok (.ireturn, 1) := by decide +kernel
theorem rt_47 : sm_rt 47 = some .int := by decide +kernel
theorem ml_47 : sm_ml 47 = 2 := by decide +kernel
theorem dc_16_0 : decode (sm_cc 16) 0 = .ok (.lload_n 0, 1) := by decide +kernel
theorem dc_16_1 : decode (sm_cc 16) 1 = .ok (.bipush (56), 2) := by decide +kernel
theorem dc_16_3 : decode (sm_cc 16) 3 = .ok (.lushr, 1) := by decide +kernel
theorem dc_16_4 : decode (sm_cc 16) 4 = .ok (.l2i, 1) := by decide +kernel
theorem dc_16_5 : decode (sm_cc 16) 5 = .ok (.bipush (15), 2) := by decide +kernel
theorem dc_16_7 : decode (sm_cc 16) 7 = .ok (.iand, 1) := by decide +kernel
theorem dc_16_8 : decode (sm_cc 16) 8 = .ok (.istore 5, 2) := by decide +kernel
theorem ml_16 : sm_ml 16 = 6 := by decide +kernel
theorem dc_16_10 : decode (sm_cc 16) 10 = .ok (.iload 5, 2) := by decide +kernel
theorem dc_16_12 : decode (sm_cc 16) 12 = .ok (.bipush (7), 2) := by decide +kernel
theorem dc_16_14 : decode (sm_cc 16) 14 = .ok (.if_icmp .ge (7), 3) := by decide +kernel
theorem dc_16_17 : decode (sm_cc 16) 17 = .ok (.lload_n 2, 1) := by decide +kernel
theorem dc_16_18 : decode (sm_cc 16) 18 = .ok (.goto (20), 3) := by decide +kernel
theorem dc_16_38 : decode (sm_cc 16) 38 = .ok (.lreturn, 1) := by decide +kernel
theorem rt_16 : sm_rt 16 = some .long := by decide +kernel
theorem dc_16_21 : decode (sm_cc 16) 21 = .ok (.lload_n 2, 1) := by decide +kernel
theorem dc_16_22 : decode (sm_cc 16) 22 = .ok (.iload 4, 2) := by decide +kernel
theorem dc_16_24 : decode (sm_cc 16) 24 = .ok (.i2l, 1) := by decide +kernel
theorem dc_16_25 : decode (sm_cc 16) 25 = .ok (.bipush (56), 2) := by decide +kernel
theorem dc_16_27 : decode (sm_cc 16) 27 = .ok (.bipush (8), 2) := by decide +kernel
theorem dc_16_29 : decode (sm_cc 16) 29 = .ok (.iload 5, 2) := by decide +kernel
theorem dc_16_31 : decode (sm_cc 16) 31 = .ok (.bipush (7), 2) := by decide +kernel
theorem dc_16_33 : decode (sm_cc 16) 33 = .ok (.isub, 1) := by decide +kernel
theorem dc_16_34 : decode (sm_cc 16) 34 = .ok (.imul, 1) := by decide +kernel
theorem dc_16_35 : decode (sm_cc 16) 35 = .ok (.isub, 1) := by decide +kernel
theorem dc_16_36 : decode (sm_cc 16) 36 = .ok (.lshl, 1) := by decide +kernel
theorem dc_16_37 : decode (sm_cc 16) 37 = .ok (.lor, 1) := by decide +kernel
theorem dc_17_0 : decode (sm_cc 17) 0 = .ok (.lload_n 0, 1) := by decide +kernel
theorem dc_17_1 : decode (sm_cc 17) 1 = .ok (.bipush (56), 2) := by decide +kernel
theorem dc_17_3 : decode (sm_cc 17) 3 = .ok (.lushr, 1) := by decide +kernel
theorem dc_17_4 : decode (sm_cc 17) 4 = .ok (.l2i, 1) := by decide +kernel
theorem dc_17_5 : decode (sm_cc 17) 5 = .ok (.bipush (15), 2) := by decide +kernel
theorem dc_17_7 : decode (sm_cc 17) 7 = .ok (.iand, 1) := by decide +kernel
theorem dc_17_8 : decode (sm_cc 17) 8 = .ok (.istore_n 3, 1) := by decide +kernel
theorem ml_17 : sm_ml 17 = 6 := by decide +kernel
theorem dc_17_9 : decode (sm_cc 17) 9 = .ok (.lload_n 0, 1) := by decide +kernel
theorem dc_17_10 : decode (sm_cc 17) 10 = .ok (.ldc2_w 166, 3) := by decide +kernel
theorem cj_17_166 : sm_at mt_cj (sm_ow 17) 166 = some (166, (72057594037927936), 504) := by decide +kernel
theorem dc_17_13 : decode (sm_cc 17) 13 = .ok (.ladd, 1) := by decide +kernel
theorem dc_17_14 : decode (sm_cc 17) 14 = .ok (.lstore 4, 2) := by decide +kernel
theorem dc_17_16 : decode (sm_cc 17) 16 = .ok (.iload_n 3, 1) := by decide +kernel
theorem dc_17_17 : decode (sm_cc 17) 17 = .ok (.bipush (7), 2) := by decide +kernel
theorem dc_17_19 : decode (sm_cc 17) 19 = .ok (.if_icmp .ge (19), 3) := by decide +kernel
theorem dc_17_22 : decode (sm_cc 17) 22 = .ok (.lload 4, 2) := by decide +kernel
theorem dc_17_24 : decode (sm_cc 17) 24 = .ok (.iload_n 2, 1) := by decide +kernel
theorem dc_17_25 : decode (sm_cc 17) 25 = .ok (.i2l, 1) := by decide +kernel
theorem dc_17_26 : decode (sm_cc 17) 26 = .ok (.bipush (48), 2) := by decide +kernel
theorem dc_17_28 : decode (sm_cc 17) 28 = .ok (.bipush (8), 2) := by decide +kernel
theorem dc_17_30 : decode (sm_cc 17) 30 = .ok (.iload_n 3, 1) := by decide +kernel
theorem dc_17_31 : decode (sm_cc 17) 31 = .ok (.imul, 1) := by decide +kernel
theorem dc_17_32 : decode (sm_cc 17) 32 = .ok (.isub, 1) := by decide +kernel
theorem dc_17_33 : decode (sm_cc 17) 33 = .ok (.lshl, 1) := by decide +kernel
theorem dc_17_34 : decode (sm_cc 17) 34 = .ok (.lor, 1) := by decide +kernel
theorem dc_17_35 : decode (sm_cc 17) 35 = .ok (.goto (5), 3) := by decide +kernel
theorem dc_17_40 : decode (sm_cc 17) 40 = .ok (.lreturn, 1) := by decide +kernel
theorem rt_17 : sm_rt 17 = some .long := by decide +kernel
theorem dc_17_38 : decode (sm_cc 17) 38 = .ok (.lload 4, 2) := by decide +kernel
theorem dc_193_0 : decode (sm_cc 193) 0 = .ok (.iload 4, 2) := by decide +kernel
theorem dc_193_2 : decode (sm_cc 193) 2 = .ok (.bipush (7), 2) := by decide +kernel
theorem dc_193_4 : decode (sm_cc 193) 4 = .ok (.if_icmp .ge (16), 3) := by decide +kernel
theorem dc_193_7 : decode (sm_cc 193) 7 = .ok (.lload_n 0, 1) := by decide +kernel
theorem dc_193_8 : decode (sm_cc 193) 8 = .ok (.bipush (48), 2) := by decide +kernel
theorem dc_193_10 : decode (sm_cc 193) 10 = .ok (.bipush (8), 2) := by decide +kernel
theorem dc_193_12 : decode (sm_cc 193) 12 = .ok (.iload 4, 2) := by decide +kernel
theorem dc_193_14 : decode (sm_cc 193) 14 = .ok (.imul, 1) := by decide +kernel
theorem dc_193_15 : decode (sm_cc 193) 15 = .ok (.isub, 1) := by decide +kernel
theorem dc_193_16 : decode (sm_cc 193) 16 = .ok (.lushr, 1) := by decide +kernel
theorem dc_193_17 : decode (sm_cc 193) 17 = .ok (.goto (16), 3) := by decide +kernel
theorem dc_193_33 : decode (sm_cc 193) 33 = .ok (.lstore 5, 2) := by decide +kernel
theorem ml_193 : sm_ml 193 = 7 := by decide +kernel
theorem dc_193_35 : decode (sm_cc 193) 35 = .ok (.lload 5, 2) := by decide +kernel
theorem dc_193_37 : decode (sm_cc 193) 37 = .ok (.l2i, 1) := by decide +kernel
theorem dc_193_38 : decode (sm_cc 193) 38 = .ok (.sipush (255), 3) := by decide +kernel
theorem dc_193_41 : decode (sm_cc 193) 41 = .ok (.iand, 1) := by decide +kernel
theorem dc_193_42 : decode (sm_cc 193) 42 = .ok (.ireturn, 1) := by decide +kernel
theorem rt_193 : sm_rt 193 = some .int := by decide +kernel
theorem dc_193_20 : decode (sm_cc 193) 20 = .ok (.lload_n 2, 1) := by decide +kernel
theorem dc_193_21 : decode (sm_cc 193) 21 = .ok (.bipush (56), 2) := by decide +kernel
theorem dc_193_23 : decode (sm_cc 193) 23 = .ok (.bipush (8), 2) := by decide +kernel
theorem dc_193_25 : decode (sm_cc 193) 25 = .ok (.iload 4, 2) := by decide +kernel
theorem dc_193_27 : decode (sm_cc 193) 27 = .ok (.bipush (7), 2) := by decide +kernel
theorem dc_193_29 : decode (sm_cc 193) 29 = .ok (.isub, 1) := by decide +kernel
theorem dc_193_30 : decode (sm_cc 193) 30 = .ok (.imul, 1) := by decide +kernel
theorem dc_193_31 : decode (sm_cc 193) 31 = .ok (.isub, 1) := by decide +kernel
theorem dc_193_32 : decode (sm_cc 193) 32 = .ok (.lushr, 1) := by decide +kernel
theorem dc_39_0 : decode (sm_cc 39) 0 = .ok (.aload_n 0, 1) := by decide +kernel
theorem dc_39_1 : decode (sm_cc 39) 1 = .ok (.getfield 23, 3) := by decide +kernel
theorem fr_39_23 : sm_at mt_f (sm_ow 39) 23 = some (23, 3, 3, 0, 593) := by decide +kernel
theorem dc_39_4 : decode (sm_cc 39) 4 = .ok (.aload_n 0, 1) := by decide +kernel
theorem dc_39_5 : decode (sm_cc 39) 5 = .ok (.getfield 19, 3) := by decide +kernel
theorem fr_39_19 : sm_at mt_f (sm_ow 39) 19 = some (19, 3, 2, 0, 592) := by decide +kernel
theorem dc_39_8 : decode (sm_cc 39) 8 = .ok (.if_icmp .ge (29), 3) := by decide +kernel
theorem dc_39_11 : decode (sm_cc 39) 11 = .ok (.aload_n 0, 1) := by decide +kernel
theorem dc_39_12 : decode (sm_cc 39) 12 = .ok (.aload_n 0, 1) := by decide +kernel
theorem dc_39_13 : decode (sm_cc 39) 13 = .ok (.getfield 23, 3) := by decide +kernel
theorem dc_39_16 : decode (sm_cc 39) 16 = .ok (.invokevirtual 50, 3) := by decide +kernel
theorem kr_39_50 : sm_at mt_k (sm_ow 39) 50 = some (50, 0, 38, 0, 969) := by decide +kernel
theorem dc_39_19 : decode (sm_cc 39) 19 = .ok (.bipush (10), 2) := by decide +kernel
theorem dc_39_21 : decode (sm_cc 39) 21 = .ok (.if_icmp .eq (16), 3) := by decide +kernel
theorem dc_39_24 : decode (sm_cc 39) 24 = .ok (.aload_n 0, 1) := by decide +kernel
theorem dc_39_25 : decode (sm_cc 39) 25 = .ok (.dup, 1) := by decide +kernel
theorem dc_39_26 : decode (sm_cc 39) 26 = .ok (.getfield 23, 3) := by decide +kernel
theorem dc_39_29 : decode (sm_cc 39) 29 = .ok (.iconst 1, 1) := by decide +kernel
theorem dc_39_30 : decode (sm_cc 39) 30 = .ok (.iadd, 1) := by decide +kernel
theorem dc_39_31 : decode (sm_cc 39) 31 = .ok (.putfield 23, 3) := by decide +kernel
theorem dc_39_34 : decode (sm_cc 39) 34 = .ok (.goto (-34), 3) := by decide +kernel
theorem dc_39_37 : decode (sm_cc 39) 37 = .ok (.aload_n 0, 1) := by decide +kernel
theorem dc_39_38 : decode (sm_cc 39) 38 = .ok (.getfield 23, 3) := by decide +kernel
theorem dc_39_41 : decode (sm_cc 39) 41 = .ok (.aload_n 0, 1) := by decide +kernel
theorem dc_39_42 : decode (sm_cc 39) 42 = .ok (.getfield 19, 3) := by decide +kernel
theorem dc_39_45 : decode (sm_cc 39) 45 = .ok (.if_icmp .ge (23), 3) := by decide +kernel
theorem dc_39_48 : decode (sm_cc 39) 48 = .ok (.aload_n 0, 1) := by decide +kernel
theorem dc_39_49 : decode (sm_cc 39) 49 = .ok (.dup, 1) := by decide +kernel
theorem dc_39_50 : decode (sm_cc 39) 50 = .ok (.getfield 23, 3) := by decide +kernel
theorem dc_39_53 : decode (sm_cc 39) 53 = .ok (.iconst 1, 1) := by decide +kernel
theorem dc_39_54 : decode (sm_cc 39) 54 = .ok (.iadd, 1) := by decide +kernel
theorem dc_39_55 : decode (sm_cc 39) 55 = .ok (.putfield 23, 3) := by decide +kernel
theorem dc_39_58 : decode (sm_cc 39) 58 = .ok (.aload_n 0, 1) := by decide +kernel
theorem dc_39_59 : decode (sm_cc 39) 59 = .ok (.dup, 1) := by decide +kernel
theorem dc_39_60 : decode (sm_cc 39) 60 = .ok (.getfield 32, 3) := by decide +kernel
theorem fr_39_32 : sm_at mt_f (sm_ow 39) 32 = some (32, 3, 7, 0, 601) := by decide +kernel
theorem dc_39_63 : decode (sm_cc 39) 63 = .ok (.iconst 1, 1) := by decide +kernel
theorem dc_39_64 : decode (sm_cc 39) 64 = .ok (.iadd, 1) := by decide +kernel
theorem dc_39_65 : decode (sm_cc 39) 65 = .ok (.putfield 32, 3) := by decide +kernel
theorem dc_39_68 : decode (sm_cc 39) 68 = .ok (.return_, 1) := by decide +kernel
theorem rt_39 : sm_rt 39 = none := by decide +kernel
theorem ml_39 : sm_ml 39 = 1 := by decide +kernel
theorem dc_69_0 : decode (sm_cc 69) 0 = .ok (.aload_n 0, 1) := by decide +kernel
theorem dc_69_1 : decode (sm_cc 69) 1 = .ok (.getfield 44, 3) := by decide +kernel
theorem fr_69_44 : sm_at mt_f (sm_ow 69) 44 = some (44, 8, 11, 0, 661) := by decide +kernel
theorem dc_69_4 : decode (sm_cc 69) 4 = .ok (.ifCond .eq (7), 3) := by decide +kernel
theorem dc_69_7 : decode (sm_cc 69) 7 = .ok (.iconst 1, 1) := by decide +kernel
theorem dc_69_8 : decode (sm_cc 69) 8 = .ok (.goto (4), 3) := by decide +kernel
theorem dc_69_12 : decode (sm_cc 69) 12 = .ok (.ireturn, 1) := by decide +kernel
theorem rt_69 : sm_rt 69 = some .boolean := by decide +kernel
theorem ml_69 : sm_ml 69 = 1 := by decide +kernel
theorem dc_69_11 : decode (sm_cc 69) 11 = .ok (.iconst 0, 1) := by decide +kernel
theorem dc_104_0 : decode (sm_cc 104) 0 = .ok (.aload_n 0, 1) := by decide +kernel
theorem dc_104_1 : decode (sm_cc 104) 1 = .ok (.iload_n 1, 1) := by decide +kernel
theorem dc_104_2 : decode (sm_cc 104) 2 = .ok (.putfield 44, 3) := by decide +kernel
theorem fr_104_44 : sm_at mt_f (sm_ow 104) 44 = some (44, 8, 11, 0, 661) := by decide +kernel
theorem dc_104_5 : decode (sm_cc 104) 5 = .ok (.return_, 1) := by decide +kernel
theorem rt_104 : sm_rt 104 = none := by decide +kernel
theorem ml_104 : sm_ml 104 = 2 := by decide +kernel
theorem dc_99_0 : decode (sm_cc 99) 0 = .ok (.aload_n 0, 1) := by decide +kernel
theorem dc_99_1 : decode (sm_cc 99) 1 = .ok (.getfield 44, 3) := by decide +kernel
theorem fr_99_44 : sm_at mt_f (sm_ow 99) 44 = some (44, 8, 11, 0, 661) := by decide +kernel
theorem dc_99_4 : decode (sm_cc 99) 4 = .ok (.istore_n 2, 1) := by decide +kernel
theorem ml_99 : sm_ml 99 = 3 := by decide +kernel
theorem dc_99_5 : decode (sm_cc 99) 5 = .ok (.aload_n 0, 1) := by decide +kernel
theorem dc_99_6 : decode (sm_cc 99) 6 = .ok (.getfield 48, 3) := by decide +kernel
theorem fr_99_48 : sm_at mt_f (sm_ow 99) 48 = some (48, 8, 12, 0, 662) := by decide +kernel
theorem dc_99_9 : decode (sm_cc 99) 9 = .ok (.sipush (300), 3) := by decide +kernel
theorem dc_99_12 : decode (sm_cc 99) 12 = .ok (.if_icmp .lt (13), 3) := by decide +kernel
theorem dc_99_25 : decode (sm_cc 99) 25 = .ok (.aload_n 0, 1) := by decide +kernel
theorem dc_99_26 : decode (sm_cc 99) 26 = .ok (.aload_n 0, 1) := by decide +kernel
theorem dc_99_27 : decode (sm_cc 99) 27 = .ok (.getfield 48, 3) := by decide +kernel
theorem dc_99_30 : decode (sm_cc 99) 30 = .ok (.putfield 44, 3) := by decide +kernel
theorem dc_99_33 : decode (sm_cc 99) 33 = .ok (.aload_n 0, 1) := by decide +kernel
theorem dc_99_34 : decode (sm_cc 99) 34 = .ok (.dup, 1) := by decide +kernel
theorem dc_99_35 : decode (sm_cc 99) 35 = .ok (.getfield 48, 3) := by decide +kernel
theorem dc_99_38 : decode (sm_cc 99) 38 = .ok (.iconst 1, 1) := by decide +kernel
theorem dc_99_39 : decode (sm_cc 99) 39 = .ok (.iadd, 1) := by decide +kernel
theorem dc_99_40 : decode (sm_cc 99) 40 = .ok (.putfield 48, 3) := by decide +kernel
theorem dc_99_43 : decode (sm_cc 99) 43 = .ok (.aload_n 0, 1) := by decide +kernel
theorem dc_99_44 : decode (sm_cc 99) 44 = .ok (.getfield 13, 3) := by decide +kernel
theorem fr_99_13 : sm_at mt_f (sm_ow 99) 13 = some (13, 8, 1, 0, 651) := by decide +kernel
theorem dc_99_47 : decode (sm_cc 99) 47 = .ok (.aload_n 0, 1) := by decide +kernel
theorem dc_99_48 : decode (sm_cc 99) 48 = .ok (.getfield 44, 3) := by decide +kernel
theorem dc_99_51 : decode (sm_cc 99) 51 = .ok (.iload_n 2, 1) := by decide +kernel
theorem dc_99_52 : decode (sm_cc 99) 52 = .ok (.iastore, 1) := by decide +kernel
theorem dc_99_53 : decode (sm_cc 99) 53 = .ok (.aload_n 0, 1) := by decide +kernel
theorem dc_99_54 : decode (sm_cc 99) 54 = .ok (.getfield 17, 3) := by decide +kernel
theorem fr_99_17 : sm_at mt_f (sm_ow 99) 17 = some (17, 8, 2, 0, 652) := by decide +kernel
theorem dc_99_57 : decode (sm_cc 99) 57 = .ok (.aload_n 0, 1) := by decide +kernel
theorem dc_99_58 : decode (sm_cc 99) 58 = .ok (.getfield 44, 3) := by decide +kernel
theorem dc_99_61 : decode (sm_cc 99) 61 = .ok (.iload_n 1, 1) := by decide +kernel
theorem dc_99_62 : decode (sm_cc 99) 62 = .ok (.iastore, 1) := by decide +kernel
theorem dc_99_63 : decode (sm_cc 99) 63 = .ok (.aload_n 0, 1) := by decide +kernel
theorem dc_99_64 : decode (sm_cc 99) 64 = .ok (.getfield 20, 3) := by decide +kernel
theorem fr_99_20 : sm_at mt_f (sm_ow 99) 20 = some (20, 8, 3, 0, 653) := by decide +kernel
theorem dc_99_67 : decode (sm_cc 99) 67 = .ok (.aload_n 0, 1) := by decide +kernel
theorem dc_99_68 : decode (sm_cc 99) 68 = .ok (.getfield 44, 3) := by decide +kernel
theorem dc_99_71 : decode (sm_cc 99) 71 = .ok (.iconst (-1), 1) := by decide +kernel
theorem dc_99_72 : decode (sm_cc 99) 72 = .ok (.iastore, 1) := by decide +kernel
theorem dc_99_73 : decode (sm_cc 99) 73 = .ok (.iload_n 2, 1) := by decide +kernel
theorem dc_99_74 : decode (sm_cc 99) 74 = .ok (.ireturn, 1) := by decide +kernel
theorem rt_99 : sm_rt 99 = some .int := by decide +kernel
theorem dc_96_0 : decode (sm_cc 96) 0 = .ok (.aload_n 0, 1) := by decide +kernel
theorem dc_96_1 : decode (sm_cc 96) 1 = .ok (.getfield 51, 3) := by decide +kernel
theorem fr_96_51 : sm_at mt_f (sm_ow 96) 51 = some (51, 8, 13, 0, 663) := by decide +kernel
theorem dc_96_4 : decode (sm_cc 96) 4 = .ok (.sipush (1600), 3) := by decide +kernel
theorem dc_96_7 : decode (sm_cc 96) 7 = .ok (.if_icmp .ge (20), 3) := by decide +kernel
theorem dc_96_10 : decode (sm_cc 96) 10 = .ok (.aload_n 0, 1) := by decide +kernel
theorem dc_96_11 : decode (sm_cc 96) 11 = .ok (.getfield 44, 3) := by decide +kernel
theorem fr_96_44 : sm_at mt_f (sm_ow 96) 44 = some (44, 8, 11, 0, 661) := by decide +kernel
theorem dc_96_14 : decode (sm_cc 96) 14 = .ok (.ifCond .lt (13), 3) := by decide +kernel
theorem dc_96_17 : decode (sm_cc 96) 17 = .ok (.aload_n 0, 1) := by decide +kernel
theorem dc_96_18 : decode (sm_cc 96) 18 = .ok (.getfield 44, 3) := by decide +kernel
theorem dc_96_21 : decode (sm_cc 96) 21 = .ok (.sipush (300), 3) := by decide +kernel
theorem dc_96_24 : decode (sm_cc 96) 24 = .ok (.if_icmp .lt (12), 3) := by decide +kernel
theorem dc_96_36 : decode (sm_cc 96) 36 = .ok (.aload_n 0, 1) := by decide +kernel
theorem dc_96_37 : decode (sm_cc 96) 37 = .ok (.getfield 23, 3) := by decide +kernel
theorem fr_96_23 : sm_at mt_f (sm_ow 96) 23 = some (23, 8, 4, 0, 654) := by decide +kernel
theorem dc_96_40 : decode (sm_cc 96) 40 = .ok (.aload_n 0, 1) := by decide +kernel
theorem dc_96_41 : decode (sm_cc 96) 41 = .ok (.getfield 51, 3) := by decide +kernel
theorem dc_96_44 : decode (sm_cc 96) 44 = .ok (.iload_n 1, 1) := by decide +kernel
theorem dc_96_45 : decode (sm_cc 96) 45 = .ok (.iastore, 1) := by decide +kernel
theorem dc_96_46 : decode (sm_cc 96) 46 = .ok (.aload_n 0, 1) := by decide +kernel
theorem dc_96_47 : decode (sm_cc 96) 47 = .ok (.getfield 26, 3) := by decide +kernel
theorem fr_96_26 : sm_at mt_f (sm_ow 96) 26 = some (26, 8, 5, 0, 655) := by decide +kernel
theorem dc_96_50 : decode (sm_cc 96) 50 = .ok (.aload_n 0, 1) := by decide +kernel
theorem dc_96_51 : decode (sm_cc 96) 51 = .ok (.getfield 51, 3) := by decide +kernel
theorem dc_96_54 : decode (sm_cc 96) 54 = .ok (.aload_n 0, 1) := by decide +kernel
theorem dc_96_55 : decode (sm_cc 96) 55 = .ok (.getfield 44, 3) := by decide +kernel
theorem dc_96_58 : decode (sm_cc 96) 58 = .ok (.iastore, 1) := by decide +kernel
theorem dc_96_59 : decode (sm_cc 96) 59 = .ok (.aload_n 0, 1) := by decide +kernel
theorem dc_96_60 : decode (sm_cc 96) 60 = .ok (.getfield 29, 3) := by decide +kernel
theorem fr_96_29 : sm_at mt_f (sm_ow 96) 29 = some (29, 8, 6, 0, 656) := by decide +kernel
theorem dc_96_63 : decode (sm_cc 96) 63 = .ok (.aload_n 0, 1) := by decide +kernel
theorem dc_96_64 : decode (sm_cc 96) 64 = .ok (.getfield 51, 3) := by decide +kernel
theorem dc_96_67 : decode (sm_cc 96) 67 = .ok (.iload_n 2, 1) := by decide +kernel
theorem dc_96_68 : decode (sm_cc 96) 68 = .ok (.iastore, 1) := by decide +kernel
theorem dc_96_69 : decode (sm_cc 96) 69 = .ok (.aload_n 0, 1) := by decide +kernel
theorem dc_96_70 : decode (sm_cc 96) 70 = .ok (.getfield 35, 3) := by decide +kernel
theorem fr_96_35 : sm_at mt_f (sm_ow 96) 35 = some (35, 8, 8, 0, 658) := by decide +kernel
theorem dc_96_73 : decode (sm_cc 96) 73 = .ok (.aload_n 0, 1) := by decide +kernel
theorem dc_96_74 : decode (sm_cc 96) 74 = .ok (.getfield 51, 3) := by decide +kernel
theorem dc_96_77 : decode (sm_cc 96) 77 = .ok (.aload_n 0, 1) := by decide +kernel
theorem dc_96_78 : decode (sm_cc 96) 78 = .ok (.getfield 20, 3) := by decide +kernel
theorem fr_96_20 : sm_at mt_f (sm_ow 96) 20 = some (20, 8, 3, 0, 653) := by decide +kernel
theorem dc_96_81 : decode (sm_cc 96) 81 = .ok (.aload_n 0, 1) := by decide +kernel
theorem dc_96_82 : decode (sm_cc 96) 82 = .ok (.getfield 44, 3) := by decide +kernel
theorem dc_96_85 : decode (sm_cc 96) 85 = .ok (.iaload, 1) := by decide +kernel
theorem dc_96_86 : decode (sm_cc 96) 86 = .ok (.iastore, 1) := by decide +kernel
theorem dc_96_87 : decode (sm_cc 96) 87 = .ok (.aload_n 0, 1) := by decide +kernel
theorem dc_96_88 : decode (sm_cc 96) 88 = .ok (.getfield 20, 3) := by decide +kernel
theorem dc_96_91 : decode (sm_cc 96) 91 = .ok (.aload_n 0, 1) := by decide +kernel
theorem dc_96_92 : decode (sm_cc 96) 92 = .ok (.getfield 44, 3) := by decide +kernel
theorem dc_96_95 : decode (sm_cc 96) 95 = .ok (.aload_n 0, 1) := by decide +kernel
theorem dc_96_96 : decode (sm_cc 96) 96 = .ok (.getfield 51, 3) := by decide +kernel
theorem dc_96_99 : decode (sm_cc 96) 99 = .ok (.iastore, 1) := by decide +kernel
theorem dc_96_100 : decode (sm_cc 96) 100 = .ok (.aload_n 0, 1) := by decide +kernel
theorem dc_96_101 : decode (sm_cc 96) 101 = .ok (.dup, 1) := by decide +kernel
theorem dc_96_102 : decode (sm_cc 96) 102 = .ok (.getfield 51, 3) := by decide +kernel
theorem dc_96_105 : decode (sm_cc 96) 105 = .ok (.iconst 1, 1) := by decide +kernel
theorem dc_96_106 : decode (sm_cc 96) 106 = .ok (.iadd, 1) := by decide +kernel
theorem dc_96_107 : decode (sm_cc 96) 107 = .ok (.putfield 51, 3) := by decide +kernel
theorem dc_96_110 : decode (sm_cc 96) 110 = .ok (.return_, 1) := by decide +kernel
theorem rt_96 : sm_rt 96 = none := by decide +kernel
theorem ml_96 : sm_ml 96 = 3 := by decide +kernel
theorem dc_34_0 : decode (sm_cc 34) 0 = .ok (.aload_n 0, 1) := by decide +kernel
theorem dc_34_1 : decode (sm_cc 34) 1 = .ok (.iconst 0, 1) := by decide +kernel
theorem dc_34_2 : decode (sm_cc 34) 2 = .ok (.putfield 44, 3) := by decide +kernel
theorem fr_34_44 : sm_at mt_f (sm_ow 34) 44 = some (44, 8, 11, 0, 661) := by decide +kernel
theorem dc_34_5 : decode (sm_cc 34) 5 = .ok (.aload_n 0, 1) := by decide +kernel
theorem dc_34_6 : decode (sm_cc 34) 6 = .ok (.iconst 1, 1) := by decide +kernel
theorem dc_34_7 : decode (sm_cc 34) 7 = .ok (.putfield 48, 3) := by decide +kernel
theorem fr_34_48 : sm_at mt_f (sm_ow 34) 48 = some (48, 8, 12, 0, 662) := by decide +kernel
theorem dc_34_10 : decode (sm_cc 34) 10 = .ok (.aload_n 0, 1) := by decide +kernel
theorem dc_34_11 : decode (sm_cc 34) 11 = .ok (.iconst 0, 1) := by decide +kernel
theorem dc_34_12 : decode (sm_cc 34) 12 = .ok (.putfield 51, 3) := by decide +kernel
theorem fr_34_51 : sm_at mt_f (sm_ow 34) 51 = some (51, 8, 13, 0, 663) := by decide +kernel
theorem dc_34_15 : decode (sm_cc 34) 15 = .ok (.aload_n 0, 1) := by decide +kernel
theorem dc_34_16 : decode (sm_cc 34) 16 = .ok (.iconst 0, 1) := by decide +kernel
theorem dc_34_17 : decode (sm_cc 34) 17 = .ok (.putfield 54, 3) := by decide +kernel
theorem fr_34_54 : sm_at mt_f (sm_ow 34) 54 = some (54, 8, 14, 0, 664) := by decide +kernel
theorem dc_34_20 : decode (sm_cc 34) 20 = .ok (.return_, 1) := by decide +kernel
theorem rt_34 : sm_rt 34 = none := by decide +kernel
theorem ml_34 : sm_ml 34 = 1 := by decide +kernel
theorem dc_67_0 : decode (sm_cc 67) 0 = .ok (.aload_n 0, 1) := by decide +kernel
theorem dc_67_1 : decode (sm_cc 67) 1 = .ok (.getfield 7, 3) := by decide +kernel
theorem fr_67_7 : sm_at mt_f (sm_ow 67) 7 = some (7, 8, 0, 0, 650) := by decide +kernel
theorem dc_67_4 : decode (sm_cc 67) 4 = .ok (.iload_n 1, 1) := by decide +kernel
theorem dc_67_5 : decode (sm_cc 67) 5 = .ok (.iconst (-1), 1) := by decide +kernel
theorem dc_67_6 : decode (sm_cc 67) 6 = .ok (.iload_n 2, 1) := by decide +kernel
theorem dc_67_7 : decode (sm_cc 67) 7 = .ok (.invokevirtual 75, 3) := by decide +kernel
theorem ow_68 : 7 = sm_ow 68 := by decide +kernel
theorem kr_67_75 : sm_at mt_k (sm_ow 67) 75 = some (75, 1, 68, 1, 1092) := by decide +kernel
theorem np_68 : sm_np 68 = 3 := by decide +kernel
theorem dc_67_10 : decode (sm_cc 67) 10 = .ok (.istore_n 3, 1) := by decide +kernel
theorem ml_67 : sm_ml 67 = 4 := by decide +kernel
theorem dc_67_11 : decode (sm_cc 67) 11 = .ok (.aload_n 0, 1) := by decide +kernel
theorem dc_67_12 : decode (sm_cc 67) 12 = .ok (.invokevirtual 63, 3) := by decide +kernel
theorem ow_69 : 8 = sm_ow 69 := by decide +kernel
theorem cl_8 : 8 < mt_cl.length := by decide +kernel
theorem kr_67_63 : sm_at mt_k (sm_ow 67) 63 = some (63, 0, 69, 0, 1096) := by decide +kernel
theorem np_69 : sm_np 69 = 0 := by decide +kernel
theorem dc_67_15 : decode (sm_cc 67) 15 = .ok (.ifCond .ne (5), 3) := by decide +kernel
theorem dc_67_18 : decode (sm_cc 67) 18 = .ok (.iload_n 3, 1) := by decide +kernel
theorem dc_67_19 : decode (sm_cc 67) 19 = .ok (.ireturn, 1) := by decide +kernel
theorem rt_67 : sm_rt 67 = some .int := by decide +kernel
theorem dc_67_20 : decode (sm_cc 67) 20 = .ok (.aload_n 0, 1) := by decide +kernel
theorem dc_67_21 : decode (sm_cc 67) 21 = .ok (.getfield 54, 3) := by decide +kernel
theorem fr_67_54 : sm_at mt_f (sm_ow 67) 54 = some (54, 8, 14, 0, 664) := by decide +kernel
theorem dc_67_24 : decode (sm_cc 67) 24 = .ok (.sipush (1600), 3) := by decide +kernel
theorem dc_67_27 : decode (sm_cc 67) 27 = .ok (.if_icmp .ge (39), 3) := by decide +kernel
theorem dc_67_30 : decode (sm_cc 67) 30 = .ok (.aload_n 0, 1) := by decide +kernel
theorem dc_67_31 : decode (sm_cc 67) 31 = .ok (.getfield 38, 3) := by decide +kernel
theorem fr_67_38 : sm_at mt_f (sm_ow 67) 38 = some (38, 8, 9, 0, 659) := by decide +kernel
theorem dc_67_34 : decode (sm_cc 67) 34 = .ok (.aload_n 0, 1) := by decide +kernel
theorem dc_67_35 : decode (sm_cc 67) 35 = .ok (.getfield 54, 3) := by decide +kernel
theorem dc_67_38 : decode (sm_cc 67) 38 = .ok (.iload_n 3, 1) := by decide +kernel
theorem dc_67_39 : decode (sm_cc 67) 39 = .ok (.iastore, 1) := by decide +kernel
theorem dc_67_40 : decode (sm_cc 67) 40 = .ok (.aload_n 0, 1) := by decide +kernel
theorem dc_67_41 : decode (sm_cc 67) 41 = .ok (.getfield 41, 3) := by decide +kernel
theorem fr_67_41 : sm_at mt_f (sm_ow 67) 41 = some (41, 8, 10, 0, 660) := by decide +kernel
theorem dc_67_44 : decode (sm_cc 67) 44 = .ok (.aload_n 0, 1) := by decide +kernel
theorem dc_67_45 : decode (sm_cc 67) 45 = .ok (.getfield 54, 3) := by decide +kernel
theorem dc_67_48 : decode (sm_cc 67) 48 = .ok (.aload_n 0, 1) := by decide +kernel
theorem dc_67_49 : decode (sm_cc 67) 49 = .ok (.getfield 44, 3) := by decide +kernel
theorem fr_67_44 : sm_at mt_f (sm_ow 67) 44 = some (44, 8, 11, 0, 661) := by decide +kernel
theorem dc_67_52 : decode (sm_cc 67) 52 = .ok (.iastore, 1) := by decide +kernel
theorem dc_67_53 : decode (sm_cc 67) 53 = .ok (.aload_n 0, 1) := by decide +kernel
theorem dc_67_54 : decode (sm_cc 67) 54 = .ok (.dup, 1) := by decide +kernel
theorem dc_67_55 : decode (sm_cc 67) 55 = .ok (.getfield 54, 3) := by decide +kernel
theorem dc_67_58 : decode (sm_cc 67) 58 = .ok (.iconst 1, 1) := by decide +kernel
theorem dc_67_59 : decode (sm_cc 67) 59 = .ok (.iadd, 1) := by decide +kernel
theorem dc_67_60 : decode (sm_cc 67) 60 = .ok (.putfield 54, 3) := by decide +kernel
theorem dc_67_63 : decode (sm_cc 67) 63 = .ok (.goto (11), 3) := by decide +kernel
theorem dc_67_74 : decode (sm_cc 67) 74 = .ok (.iload_n 3, 1) := by decide +kernel
theorem dc_67_75 : decode (sm_cc 67) 75 = .ok (.ireturn, 1) := by decide +kernel
/-- how many bytes a string or name has -/
def c_len (hi : Int64) : Nat := ((hi.toUInt64 >>> ((nI 56).toInt64.toUInt64 &&& Int64.toUInt64 63)).toInt64.toInt32 &&& nI 15).toNatClampNeg
theorem c_len_eq (hi : Int64) : (hi.toUInt64 >>> ((nI 56).toInt64.toUInt64 &&& Int64.toUInt64 63)).toInt64.toInt32 &&& nI 15 = nI (c_len hi) ∧ c_len hi < 16 := by
  obtain ⟨q, hq, e⟩ := pk_andE (hi.toUInt64 >>> ((nI 56).toInt64.toUInt64 &&& Int64.toUInt64 63)).toInt64.toInt32 (m := nI 15) 4 (by decide)
  have e1 : c_len hi = q := by
    unfold c_len
    rw [e, nI_clamp (by omega)]
  rw [e1]
  exact ⟨e, by omega⟩
theorem lengthOf_ev {d : Nat} {S : cS} {hi : Int64} {n : Nat} (hL : c_len hi = n) : Ans (d + 1) 47 [.long hi] S (some (.int (nI n))) (S) := by
  refine Ans.of (by rw [ml_47]; exact Nat.le_of_ble_eq_true rfl) ?_
  refine Bod.go dc_47_0 rfl ?_
  refine Bod.bip 56 (by decide) dc_47_1 ?_
  refine Bod.go dc_47_3 rfl ?_
  refine Bod.go dc_47_4 rfl ?_
  refine Bod.bip 15 (by decide) dc_47_5 ?_
  refine Bod.go dc_47_7 rfl ?_
  refine Bod.eqI (nI n) (by rw [(c_len_eq hi).1, hL]) ?_
  exact Bod.retI dc_47_8 rt_47
theorem appLo_S {d : Nat} {S : cS} {hi : Int64} {lo : Int64} {b : Int32} {n : Nat} (hL : c_len hi = n) (h7 : n < 7) : Ans (d + 1) 16 [.long hi, .long lo, .int b] S (some (.long lo)) (S) := by
  refine Ans.of (by rw [ml_16]; exact Nat.le_of_ble_eq_true rfl) ?_
  refine Bod.go dc_16_0 rfl ?_
  refine Bod.bip 56 (by decide) dc_16_1 ?_
  refine Bod.go dc_16_3 rfl ?_
  refine Bod.go dc_16_4 rfl ?_
  refine Bod.bip 15 (by decide) dc_16_5 ?_
  refine Bod.go dc_16_7 rfl ?_
  refine Bod.eqI (nI n) (by rw [(c_len_eq hi).1, hL]) ?_
  refine Bod.ist dc_16_8 (by rw [ml_16]; exact Nat.le_of_ble_eq_true rfl) ?_
  refine Bod.go dc_16_10 rfl ?_
  refine Bod.bip 7 (by decide) dc_16_12 ?_
  refine Bod.icF dc_16_14 rfl (k2_ge_F n 7 rfl rfl (by omega) (by omega)) ?_
  refine Bod.go dc_16_17 rfl ?_
  refine Bod.go dc_16_18 rfl ?_
  exact Bod.retJ dc_16_38 rt_16
theorem appLo_B {d : Nat} {S : cS} {hi : Int64} {lo : Int64} {b : Int32} {n : Nat} (hL : c_len hi = n) (h7 : 7 ≤ n) (h14 : n ≤ 14) : Ans (d + 1) 16 [.long hi, .long lo, .int b] S (some (.long (lo ||| (b.toInt64 <<< ((nI (112 - (8 * n))).toInt64 &&& 63))))) (S) := by
  refine Ans.of (by rw [ml_16]; exact Nat.le_of_ble_eq_true rfl) ?_
  refine Bod.go dc_16_0 rfl ?_
  refine Bod.bip 56 (by decide) dc_16_1 ?_
  refine Bod.go dc_16_3 rfl ?_
  refine Bod.go dc_16_4 rfl ?_
  refine Bod.bip 15 (by decide) dc_16_5 ?_
  refine Bod.go dc_16_7 rfl ?_
  refine Bod.eqI (nI n) (by rw [(c_len_eq hi).1, hL]) ?_
  refine Bod.ist dc_16_8 (by rw [ml_16]; exact Nat.le_of_ble_eq_true rfl) ?_
  refine Bod.go dc_16_10 rfl ?_
  refine Bod.bip 7 (by decide) dc_16_12 ?_
  refine Bod.icT dc_16_14 rfl (k2_ge_T n 7 rfl rfl (by omega) (by omega)) ?_
  refine Bod.go dc_16_21 rfl ?_
  refine Bod.go dc_16_22 rfl ?_
  refine Bod.go dc_16_24 rfl ?_
  refine Bod.bip 56 (by decide) dc_16_25 ?_
  refine Bod.bip 8 (by decide) dc_16_27 ?_
  refine Bod.go dc_16_29 rfl ?_
  refine Bod.bip 7 (by decide) dc_16_31 ?_
  refine Bod.subN (n - 7) (by omega) (by omega) dc_16_33 ?_
  refine Bod.mulN (8 * n - 56) (by omega) dc_16_34 ?_
  refine Bod.subN (112 - (8 * n)) (by omega) (by omega) dc_16_35 ?_
  refine Bod.go dc_16_36 rfl ?_
  refine Bod.go dc_16_37 rfl ?_
  exact Bod.retJ dc_16_38 rt_16
theorem appHi_S {d : Nat} {S : cS} {hi : Int64} {b : Int32} {n : Nat} (hL : c_len hi = n) (h7 : n < 7) : Ans (d + 1) 17 [.long hi, .int b] S (some (.long ((hi + ((72057594037927936))) ||| (b.toInt64 <<< ((nI (48 - (8 * n))).toInt64 &&& 63))))) (S) := by
  refine Ans.of (by rw [ml_17]; exact Nat.le_of_ble_eq_true rfl) ?_
  refine Bod.go dc_17_0 rfl ?_
  refine Bod.bip 56 (by decide) dc_17_1 ?_
  refine Bod.go dc_17_3 rfl ?_
  refine Bod.go dc_17_4 rfl ?_
  refine Bod.bip 15 (by decide) dc_17_5 ?_
  refine Bod.go dc_17_7 rfl ?_
  refine Bod.eqI (nI n) (by rw [(c_len_eq hi).1, hL]) ?_
  refine Bod.istn dc_17_8 (by rw [ml_17]; exact Nat.le_of_ble_eq_true rfl) ?_
  refine Bod.go dc_17_9 rfl ?_
  refine Bod.ldc2 dc_17_10 cj_17_166 ?_
  refine Bod.go dc_17_13 rfl ?_
  refine Bod.lst dc_17_14 (by rw [ml_17]; exact Nat.le_of_ble_eq_true rfl) ?_
  refine Bod.go dc_17_16 rfl ?_
  refine Bod.bip 7 (by decide) dc_17_17 ?_
  refine Bod.icF dc_17_19 rfl (k2_ge_F n 7 rfl rfl (by omega) (by omega)) ?_
  refine Bod.go dc_17_22 rfl ?_
  refine Bod.go dc_17_24 rfl ?_
  refine Bod.go dc_17_25 rfl ?_
  refine Bod.bip 48 (by decide) dc_17_26 ?_
  refine Bod.bip 8 (by decide) dc_17_28 ?_
  refine Bod.go dc_17_30 rfl ?_
  refine Bod.mulN (8 * n) (by omega) dc_17_31 ?_
  refine Bod.subN (48 - (8 * n)) (by omega) (by omega) dc_17_32 ?_
  refine Bod.go dc_17_33 rfl ?_
  refine Bod.go dc_17_34 rfl ?_
  refine Bod.go dc_17_35 rfl ?_
  exact Bod.retJ dc_17_40 rt_17
theorem appHi_B {d : Nat} {S : cS} {hi : Int64} {b : Int32} {n : Nat} (hL : c_len hi = n) (h7 : 7 ≤ n) (h14 : n ≤ 14) : Ans (d + 1) 17 [.long hi, .int b] S (some (.long (hi + ((72057594037927936))))) (S) := by
  refine Ans.of (by rw [ml_17]; exact Nat.le_of_ble_eq_true rfl) ?_
  refine Bod.go dc_17_0 rfl ?_
  refine Bod.bip 56 (by decide) dc_17_1 ?_
  refine Bod.go dc_17_3 rfl ?_
  refine Bod.go dc_17_4 rfl ?_
  refine Bod.bip 15 (by decide) dc_17_5 ?_
  refine Bod.go dc_17_7 rfl ?_
  refine Bod.eqI (nI n) (by rw [(c_len_eq hi).1, hL]) ?_
  refine Bod.istn dc_17_8 (by rw [ml_17]; exact Nat.le_of_ble_eq_true rfl) ?_
  refine Bod.go dc_17_9 rfl ?_
  refine Bod.ldc2 dc_17_10 cj_17_166 ?_
  refine Bod.go dc_17_13 rfl ?_
  refine Bod.lst dc_17_14 (by rw [ml_17]; exact Nat.le_of_ble_eq_true rfl) ?_
  refine Bod.go dc_17_16 rfl ?_
  refine Bod.bip 7 (by decide) dc_17_17 ?_
  refine Bod.icT dc_17_19 rfl (k2_ge_T n 7 rfl rfl (by omega) (by omega)) ?_
  refine Bod.go dc_17_38 rfl ?_
  exact Bod.retJ dc_17_40 rt_17
/-- one byte more -/
def c_appLo (hi lo : Int64) (b : Int32) : Int64 := if c_len hi < 7 then lo else lo ||| (b.toInt64 <<< ((nI (112 - (8 * (c_len hi)))).toInt64 &&& 63))
def c_appHi (hi : Int64) (b : Int32) : Int64 := if c_len hi < 7 then (hi + ((72057594037927936))) ||| (b.toInt64 <<< ((nI (48 - (8 * (c_len hi)))).toInt64 &&& 63)) else hi + ((72057594037927936))
theorem appLo_ev {d : Nat} {S : cS} {hi lo : Int64} {b : Int32} (h : c_len hi ≤ 14) : Ans (d + 1) 16 [.long hi, .long lo, .int b] S (some (.long (c_appLo hi lo b))) S := by
  unfold c_appLo
  split
  · rename_i h7
    exact appLo_S rfl h7
  · rename_i h7
    exact appLo_B rfl (by omega) h
theorem appHi_ev {d : Nat} {S : cS} {hi : Int64} {b : Int32} (h : c_len hi ≤ 14) : Ans (d + 1) 17 [.long hi, .int b] S (some (.long (c_appHi hi b))) S := by
  unfold c_appHi
  split
  · rename_i h7
    exact appHi_S rfl h7
  · rename_i h7
    exact appHi_B rfl (by omega) h
theorem byteOf_S {d : Nat} {S : cS} {hi : Int64} {lo : Int64} {i : Nat} (h7 : i < 7) : Ans (d + 1) 193 [.long hi, .long lo, .int (nI i)] S (some (.int ((((hi.toUInt64 >>> ((nI (48 - (8 * i))).toInt64.toUInt64 &&& Int64.toUInt64 63)).toInt64).toInt32) &&& (nI 255)))) (S) := by
  refine Ans.of (by rw [ml_193]; exact Nat.le_of_ble_eq_true rfl) ?_
  refine Bod.go dc_193_0 rfl ?_
  refine Bod.bip 7 (by decide) dc_193_2 ?_
  refine Bod.icF dc_193_4 rfl (k2_ge_F i 7 rfl rfl (by omega) (by omega)) ?_
  refine Bod.go dc_193_7 rfl ?_
  refine Bod.bip 48 (by decide) dc_193_8 ?_
  refine Bod.bip 8 (by decide) dc_193_10 ?_
  refine Bod.go dc_193_12 rfl ?_
  refine Bod.mulN (8 * i) (by omega) dc_193_14 ?_
  refine Bod.subN (48 - (8 * i)) (by omega) (by omega) dc_193_15 ?_
  refine Bod.go dc_193_16 rfl ?_
  refine Bod.go dc_193_17 rfl ?_
  refine Bod.lst dc_193_33 (by rw [ml_193]; exact Nat.le_of_ble_eq_true rfl) ?_
  refine Bod.go dc_193_35 rfl ?_
  refine Bod.go dc_193_37 rfl ?_
  refine Bod.sip 255 (by decide) dc_193_38 ?_
  refine Bod.go dc_193_41 rfl ?_
  exact Bod.retI dc_193_42 rt_193
theorem byteOf_B {d : Nat} {S : cS} {hi : Int64} {lo : Int64} {i : Nat} (h7 : 7 ≤ i) (h14 : i ≤ 14) : Ans (d + 1) 193 [.long hi, .long lo, .int (nI i)] S (some (.int ((((lo.toUInt64 >>> ((nI (112 - (8 * i))).toInt64.toUInt64 &&& Int64.toUInt64 63)).toInt64).toInt32) &&& (nI 255)))) (S) := by
  refine Ans.of (by rw [ml_193]; exact Nat.le_of_ble_eq_true rfl) ?_
  refine Bod.go dc_193_0 rfl ?_
  refine Bod.bip 7 (by decide) dc_193_2 ?_
  refine Bod.icT dc_193_4 rfl (k2_ge_T i 7 rfl rfl (by omega) (by omega)) ?_
  refine Bod.go dc_193_20 rfl ?_
  refine Bod.bip 56 (by decide) dc_193_21 ?_
  refine Bod.bip 8 (by decide) dc_193_23 ?_
  refine Bod.go dc_193_25 rfl ?_
  refine Bod.bip 7 (by decide) dc_193_27 ?_
  refine Bod.subN (i - 7) (by omega) (by omega) dc_193_29 ?_
  refine Bod.mulN (8 * i - 56) (by omega) dc_193_30 ?_
  refine Bod.subN (112 - (8 * i)) (by omega) (by omega) dc_193_31 ?_
  refine Bod.go dc_193_32 rfl ?_
  refine Bod.lst dc_193_33 (by rw [ml_193]; exact Nat.le_of_ble_eq_true rfl) ?_
  refine Bod.go dc_193_35 rfl ?_
  refine Bod.go dc_193_37 rfl ?_
  refine Bod.sip 255 (by decide) dc_193_38 ?_
  refine Bod.go dc_193_41 rfl ?_
  exact Bod.retI dc_193_42 rt_193
theorem skipLine_loop {d n q : Nat} {Sf : cS} (hM : n ≤ 3000) (hq : q ≤ n) : ∀ (r i : Nat) (S : cS), i + r = q → sI S 3102 = nI n → sI S 3103 = nI i → (∀ x, i ≤ x → x < q → c_byte S x ≠ 10) → (q = n ∨ c_byte S q = 10) → Bod (d + 1) 39 37 (lv_args 0 [.ref 31]) [] (wI 3103 (nI q) S) none Sf → Bod (d + 1) 39 0 (lv_args 0 [.ref 31]) [] S none Sf := by
  intro r
  induction r with
  | zero =>
    intro i S hi hn hp _ he hB
    obtain rfl : i = q := by omega
    rw [wI_same hp] at hB
    by_cases hc : i < n
    · have hnl : c_byte S i = 10 := he.resolve_left (by omega)
      refine Bod.go dc_39_0 rfl ?_
      refine Bod.get dc_39_1 fr_39_23 (mk_31 _) rfl ?_
      refine Bod.eqI (nI i) (by first | assumption | rfl | exact congrArg nI (by omega) | (simp (disch := omega) only [rI, rIe, rA, rIA, rLA, rJA, rVI, rQI, rVA, rQA, upd_at,  rAI, rLI, rJI, nI_add, pk_sub, kc_0, kc_1, kc_2, kc_3, kc_4, kc_5, reduceIte, Nat.reduceEqDiff, Nat.add_zero, rI_hold, rI_hold, rL_hold, hn, hp]; done)) ?_
      refine Bod.go dc_39_4 rfl ?_
      refine Bod.get dc_39_5 fr_39_19 (mk_31 _) rfl ?_
      refine Bod.eqI (nI n) (by first | assumption | rfl | exact congrArg nI (by omega) | (simp (disch := omega) only [rI, rIe, rA, rIA, rLA, rJA, rVI, rQI, rVA, rQA, upd_at,  rAI, rLI, rJI, nI_add, pk_sub, kc_0, kc_1, kc_2, kc_3, kc_4, kc_5, reduceIte, Nat.reduceEqDiff, Nat.add_zero, rI_hold, rI_hold, rL_hold, hn, hp]; done)) ?_
      refine Bod.icF dc_39_8 rfl (k2_ge_F i n rfl rfl (by omega) (by omega)) ?_
      refine Bod.go dc_39_11 rfl ?_
      refine Bod.go dc_39_12 rfl ?_
      refine Bod.get dc_39_13 fr_39_23 (mk_31 _) rfl ?_
      refine Bod.eqI (nI i) (by first | assumption | rfl | exact congrArg nI (by omega) | (simp (disch := omega) only [rI, rIe, rA, rIA, rLA, rJA, rVI, rQI, rVA, rQA, upd_at,  rAI, rLI, rJI, nI_add, pk_sub, kc_0, kc_1, kc_2, kc_3, kc_4, kc_5, reduceIte, Nat.reduceEqDiff, Nat.add_zero, rI_hold, rI_hold, rL_hold, hn, hp]; done)) ?_
      refine Bod.virt (r := []) dc_39_16 kr_39_50 ⟨Or.inl rfl, ow_38, cl_3⟩ (by rw [np_38]; rfl) (by rw [np_38]; rfl) (ob_of (mk_31 _)) (Nat.le_of_ble_eq_true rfl) (byteAt_n (n := n) (q := i) (b := 10) (by first | assumption | rfl | exact congrArg nI (by omega) | (simp (disch := omega) only [rI, rIe, rA, rIA, rLA, rJA, rVI, rQI, rVA, rQA, upd_at,  rAI, rLI, rJI, nI_add, pk_sub, kc_0, kc_1, kc_2, kc_3, kc_4, kc_5, reduceIte, Nat.reduceEqDiff, Nat.add_zero, rI_hold, rI_hold, rL_hold, hn, hp]; done)) (by omega) (by omega) hnl) ?_
      show Bod _ _ _ _ [_] _ _ _
      refine Bod.bip 10 (by decide) dc_39_19 ?_
      refine Bod.icT dc_39_21 rfl (k2_eq_T (k_eq 10 10 rfl rfl (by omega))) ?_
      exact hB
    · have hc2 : n ≤ i := by omega
      refine Bod.go dc_39_0 rfl ?_
      refine Bod.get dc_39_1 fr_39_23 (mk_31 _) rfl ?_
      refine Bod.eqI (nI i) (by first | assumption | rfl | exact congrArg nI (by omega) | (simp (disch := omega) only [rI, rIe, rA, rIA, rLA, rJA, rVI, rQI, rVA, rQA, upd_at,  rAI, rLI, rJI, nI_add, pk_sub, kc_0, kc_1, kc_2, kc_3, kc_4, kc_5, reduceIte, Nat.reduceEqDiff, Nat.add_zero, rI_hold, rI_hold, rL_hold, hn, hp]; done)) ?_
      refine Bod.go dc_39_4 rfl ?_
      refine Bod.get dc_39_5 fr_39_19 (mk_31 _) rfl ?_
      refine Bod.eqI (nI n) (by first | assumption | rfl | exact congrArg nI (by omega) | (simp (disch := omega) only [rI, rIe, rA, rIA, rLA, rJA, rVI, rQI, rVA, rQA, upd_at,  rAI, rLI, rJI, nI_add, pk_sub, kc_0, kc_1, kc_2, kc_3, kc_4, kc_5, reduceIte, Nat.reduceEqDiff, Nat.add_zero, rI_hold, rI_hold, rL_hold, hn, hp]; done)) ?_
      refine Bod.icT dc_39_8 rfl (k2_ge_T i n rfl rfl (by omega) (by omega)) ?_
      exact hB
  | succ r ih =>
    intro i S hi hn hp hb0 he hB
    obtain ⟨b, hbq⟩ : ∃ b, c_byte S i = b := ⟨_, rfl⟩
    have hb2 : b < 256 := by rw [← hbq]; exact (c_byte_eq S i).2
    have hb : b ≠ 10 := by rw [← hbq]; exact hb0 i (Nat.le_refl _) (by omega)
    have hnext := ih (i + 1) (wI 3103 (nI (i + 1)) S) (by omega) hn (rIe _ _ _) (fun x h1 h2 => by rw [c_byte_I]; exact hb0 x (by omega) h2) (by rw [c_byte_I]; exact he) (by rw [wI_wI]; exact hB)
    refine Bod.go dc_39_0 rfl ?_
    refine Bod.get dc_39_1 fr_39_23 (mk_31 _) rfl ?_
    refine Bod.eqI (nI i) (by first | assumption | rfl | exact congrArg nI (by omega) | (simp (disch := omega) only [rI, rIe, rA, rIA, rLA, rJA, rVI, rQI, rVA, rQA, upd_at,  rAI, rLI, rJI, nI_add, pk_sub, kc_0, kc_1, kc_2, kc_3, kc_4, kc_5, reduceIte, Nat.reduceEqDiff, Nat.add_zero, rI_hold, rI_hold, rL_hold, hn, hp]; done)) ?_
    refine Bod.go dc_39_4 rfl ?_
    refine Bod.get dc_39_5 fr_39_19 (mk_31 _) rfl ?_
    refine Bod.eqI (nI n) (by first | assumption | rfl | exact congrArg nI (by omega) | (simp (disch := omega) only [rI, rIe, rA, rIA, rLA, rJA, rVI, rQI, rVA, rQA, upd_at,  rAI, rLI, rJI, nI_add, pk_sub, kc_0, kc_1, kc_2, kc_3, kc_4, kc_5, reduceIte, Nat.reduceEqDiff, Nat.add_zero, rI_hold, rI_hold, rL_hold, hn, hp]; done)) ?_
    refine Bod.icF dc_39_8 rfl (k2_ge_F i n rfl rfl (by omega) (by omega)) ?_
    refine Bod.go dc_39_11 rfl ?_
    refine Bod.go dc_39_12 rfl ?_
    refine Bod.get dc_39_13 fr_39_23 (mk_31 _) rfl ?_
    refine Bod.eqI (nI i) (by first | assumption | rfl | exact congrArg nI (by omega) | (simp (disch := omega) only [rI, rIe, rA, rIA, rLA, rJA, rVI, rQI, rVA, rQA, upd_at,  rAI, rLI, rJI, nI_add, pk_sub, kc_0, kc_1, kc_2, kc_3, kc_4, kc_5, reduceIte, Nat.reduceEqDiff, Nat.add_zero, rI_hold, rI_hold, rL_hold, hn, hp]; done)) ?_
    refine Bod.virt (r := []) dc_39_16 kr_39_50 ⟨Or.inl rfl, ow_38, cl_3⟩ (by rw [np_38]; rfl) (by rw [np_38]; rfl) (ob_of (mk_31 _)) (Nat.le_of_ble_eq_true rfl) (byteAt_n (n := n) (q := i) (b := b) (by first | assumption | rfl | exact congrArg nI (by omega) | (simp (disch := omega) only [rI, rIe, rA, rIA, rLA, rJA, rVI, rQI, rVA, rQA, upd_at,  rAI, rLI, rJI, nI_add, pk_sub, kc_0, kc_1, kc_2, kc_3, kc_4, kc_5, reduceIte, Nat.reduceEqDiff, Nat.add_zero, rI_hold, rI_hold, rL_hold, hn, hp]; done)) (by omega) (by omega) hbq) ?_
    show Bod _ _ _ _ [_] _ _ _
    refine Bod.bip 10 (by decide) dc_39_19 ?_
    refine Bod.icF dc_39_21 rfl (k2_eq_F (k_ne b 10 rfl rfl (by omega) (by omega) (by omega))) ?_
    refine Bod.go dc_39_24 rfl ?_
    refine Bod.go dc_39_25 rfl ?_
    refine Bod.get dc_39_26 fr_39_23 (mk_31 _) rfl ?_
    refine Bod.eqI (nI i) (by first | assumption | rfl | exact congrArg nI (by omega) | (simp (disch := omega) only [rI, rIe, rA, rIA, rLA, rJA, rVI, rQI, rVA, rQA, upd_at,  rAI, rLI, rJI, nI_add, pk_sub, kc_0, kc_1, kc_2, kc_3, kc_4, kc_5, reduceIte, Nat.reduceEqDiff, Nat.add_zero, rI_hold, rI_hold, rL_hold, hn, hp]; done)) ?_
    refine Bod.ic 1 (by decide) dc_39_29 ?_
    refine Bod.addN (i + 1) (by omega) dc_39_30 ?_
    refine Bod.put dc_39_31 fr_39_23 (mk_31 _) (Nat.le_of_ble_eq_true rfl) pf_3_3 (st_3103 _ _) (mu_I _ _ _) ?_
    refine Bod.go dc_39_34 rfl ?_
    exact hnext
theorem skipLine_nl {d n p q l : Nat} {S : cS} (hn : sI S 3102 = nI n) (hp : sI S 3103 = nI p) (hM : n ≤ 3000) (hpq : p ≤ q) (hl : sI S 3107 = nI l) (hq : q < n) (hb : ∀ x, p ≤ x → x < q → c_byte S x ≠ 10) (he : c_byte S q = 10) : Ans (d + 2) 39 [.ref 31] S none (wI 3107 (nI (l + 1)) (wI 3103 (nI (q + 1)) (wI 3103 (nI q) S))) := by
  refine Ans.of (by rw [ml_39]; exact Nat.le_of_ble_eq_true rfl) (skipLine_loop hM (by omega) (q - p) p S (by omega) hn hp hb (Or.inr he) ?_)
  refine Bod.go dc_39_37 rfl ?_
  refine Bod.get dc_39_38 fr_39_23 (mk_31 _) rfl ?_
  refine Bod.eqI (nI q) (by first | (simp (disch := omega) only [rI, rIe, rA, rIA, rLA, rJA, rVI, rQI, rVA, rQA, upd_at,  rAI, rLI, rJI, nI_add, pk_sub, kc_0, kc_1, kc_2, kc_3, kc_4, kc_5, reduceIte, Nat.reduceEqDiff, Nat.add_zero, rI_hold, rI_hold, rL_hold, hn, hl]; done) | (simp (disch := omega) only [rI, rIe, rA, rIA, rLA, rJA, rVI, rQI, rVA, rQA, upd_at,  rAI, rLI, rJI, nI_add, pk_sub, kc_0, kc_1, kc_2, kc_3, kc_4, kc_5, reduceIte, Nat.reduceEqDiff, Nat.add_zero, rI_hold, rI_hold, rL_hold, hn, hl]; exact congrArg nI (by omega))) ?_
  refine Bod.go dc_39_41 rfl ?_
  refine Bod.get dc_39_42 fr_39_19 (mk_31 _) rfl ?_
  refine Bod.eqI (nI n) (by first | (simp (disch := omega) only [rI, rIe, rA, rIA, rLA, rJA, rVI, rQI, rVA, rQA, upd_at,  rAI, rLI, rJI, nI_add, pk_sub, kc_0, kc_1, kc_2, kc_3, kc_4, kc_5, reduceIte, Nat.reduceEqDiff, Nat.add_zero, rI_hold, rI_hold, rL_hold, hn, hl]; done) | (simp (disch := omega) only [rI, rIe, rA, rIA, rLA, rJA, rVI, rQI, rVA, rQA, upd_at,  rAI, rLI, rJI, nI_add, pk_sub, kc_0, kc_1, kc_2, kc_3, kc_4, kc_5, reduceIte, Nat.reduceEqDiff, Nat.add_zero, rI_hold, rI_hold, rL_hold, hn, hl]; exact congrArg nI (by omega))) ?_
  refine Bod.icF dc_39_45 rfl (k2_ge_F q n rfl rfl (by omega) (by omega)) ?_
  refine Bod.go dc_39_48 rfl ?_
  refine Bod.go dc_39_49 rfl ?_
  refine Bod.get dc_39_50 fr_39_23 (mk_31 _) rfl ?_
  refine Bod.eqI (nI q) (by first | (simp (disch := omega) only [rI, rIe, rA, rIA, rLA, rJA, rVI, rQI, rVA, rQA, upd_at,  rAI, rLI, rJI, nI_add, pk_sub, kc_0, kc_1, kc_2, kc_3, kc_4, kc_5, reduceIte, Nat.reduceEqDiff, Nat.add_zero, rI_hold, rI_hold, rL_hold, hn, hl]; done) | (simp (disch := omega) only [rI, rIe, rA, rIA, rLA, rJA, rVI, rQI, rVA, rQA, upd_at,  rAI, rLI, rJI, nI_add, pk_sub, kc_0, kc_1, kc_2, kc_3, kc_4, kc_5, reduceIte, Nat.reduceEqDiff, Nat.add_zero, rI_hold, rI_hold, rL_hold, hn, hl]; exact congrArg nI (by omega))) ?_
  refine Bod.ic 1 (by decide) dc_39_53 ?_
  refine Bod.addN (q + 1) (by omega) dc_39_54 ?_
  refine Bod.put dc_39_55 fr_39_23 (mk_31 _) (Nat.le_of_ble_eq_true rfl) pf_3_3 (st_3103 _ _) (mu_I _ _ _) ?_
  refine Bod.go dc_39_58 rfl ?_
  refine Bod.go dc_39_59 rfl ?_
  refine Bod.get dc_39_60 fr_39_32 (mk_31 _) rfl ?_
  refine Bod.eqI (nI l) (by first | (simp (disch := omega) only [rI, rIe, rA, rIA, rLA, rJA, rVI, rQI, rVA, rQA, upd_at,  rAI, rLI, rJI, nI_add, pk_sub, kc_0, kc_1, kc_2, kc_3, kc_4, kc_5, reduceIte, Nat.reduceEqDiff, Nat.add_zero, rI_hold, rI_hold, rL_hold, hn, hl]; done) | (simp (disch := omega) only [rI, rIe, rA, rIA, rLA, rJA, rVI, rQI, rVA, rQA, upd_at,  rAI, rLI, rJI, nI_add, pk_sub, kc_0, kc_1, kc_2, kc_3, kc_4, kc_5, reduceIte, Nat.reduceEqDiff, Nat.add_zero, rI_hold, rI_hold, rL_hold, hn, hl]; exact congrArg nI (by omega))) ?_
  refine Bod.ic 1 (by decide) dc_39_63 ?_
  refine Bod.addN (l + 1) (by omega) dc_39_64 ?_
  refine Bod.put dc_39_65 fr_39_32 (mk_31 _) (Nat.le_of_ble_eq_true rfl) pf_3_7 (st_3107 _ _) (mu_I _ _ _) ?_
  exact Bod.retV dc_39_68 rt_39
theorem skipLine_end {d n p q : Nat} {S : cS} (hn : sI S 3102 = nI n) (hp : sI S 3103 = nI p) (hM : n ≤ 3000) (hpq : p ≤ q) (hq : q = n) (hb : ∀ x, p ≤ x → x < q → c_byte S x ≠ 10) : Ans (d + 2) 39 [.ref 31] S none (wI 3103 (nI q) S) := by
  refine Ans.of (by rw [ml_39]; exact Nat.le_of_ble_eq_true rfl) (skipLine_loop hM (by omega) (q - p) p S (by omega) hn hp hb (Or.inl hq) ?_)
  refine Bod.go dc_39_37 rfl ?_
  refine Bod.get dc_39_38 fr_39_23 (mk_31 _) rfl ?_
  refine Bod.eqI (nI q) (by first | (simp (disch := omega) only [rI, rIe, rA, rIA, rLA, rJA, rVI, rQI, rVA, rQA, upd_at,  rAI, rLI, rJI, nI_add, pk_sub, kc_0, kc_1, kc_2, kc_3, kc_4, kc_5, reduceIte, Nat.reduceEqDiff, Nat.add_zero, rI_hold, rI_hold, rL_hold, hn]; done) | (simp (disch := omega) only [rI, rIe, rA, rIA, rLA, rJA, rVI, rQI, rVA, rQA, upd_at,  rAI, rLI, rJI, nI_add, pk_sub, kc_0, kc_1, kc_2, kc_3, kc_4, kc_5, reduceIte, Nat.reduceEqDiff, Nat.add_zero, rI_hold, rI_hold, rL_hold, hn]; exact congrArg nI (by omega))) ?_
  refine Bod.go dc_39_41 rfl ?_
  refine Bod.get dc_39_42 fr_39_19 (mk_31 _) rfl ?_
  refine Bod.eqI (nI n) (by first | (simp (disch := omega) only [rI, rIe, rA, rIA, rLA, rJA, rVI, rQI, rVA, rQA, upd_at,  rAI, rLI, rJI, nI_add, pk_sub, kc_0, kc_1, kc_2, kc_3, kc_4, kc_5, reduceIte, Nat.reduceEqDiff, Nat.add_zero, rI_hold, rI_hold, rL_hold, hn]; done) | (simp (disch := omega) only [rI, rIe, rA, rIA, rLA, rJA, rVI, rQI, rVA, rQA, upd_at,  rAI, rLI, rJI, nI_add, pk_sub, kc_0, kc_1, kc_2, kc_3, kc_4, kc_5, reduceIte, Nat.reduceEqDiff, Nat.add_zero, rI_hold, rI_hold, rL_hold, hn]; exact congrArg nI (by omega))) ?_
  refine Bod.icT dc_39_45 rfl (k2_ge_T q n rfl rfl (by omega) (by omega)) ?_
  exact Bod.retV dc_39_68 rt_39
theorem inFunction_T {d : Nat} {S : cS} {c : Nat} (hc : sI S 3211 = nI c) (h1 : 1 ≤ c) (h2 : c < 300) : Ans (d + 1) 69 [.ref 32] S (some (.int 1)) (S) := by
  refine Ans.of (by rw [ml_69]; exact Nat.le_of_ble_eq_true rfl) ?_
  refine Bod.go dc_69_0 rfl ?_
  refine Bod.get dc_69_1 fr_69_44 (mk_32 _) rfl ?_
  refine Bod.eqI (nI c) (by first | assumption | rfl | exact congrArg nI (by omega) | (simp (disch := omega) only [rI, rIe, rA, rIA, rLA, rJA, rVI, rQI, rVA, rQA, upd_at,  rAI, rLI, rJI, nI_add, pk_sub, kc_0, kc_1, kc_2, kc_3, kc_4, kc_5, reduceIte, Nat.reduceEqDiff, Nat.add_zero, rI_hold, rI_hold, rL_hold, hc]; done)) ?_
  refine Bod.ifF dc_69_4 rfl (k1_eq_F (k_ne c 0 rfl rfl (by omega) (by omega) (by omega))) ?_
  refine Bod.ic 1 (by decide) dc_69_7 ?_
  refine Bod.go dc_69_8 rfl ?_
  exact Bod.retZ dc_69_12 rt_69 (Or.inr rfl)
theorem inFunction_F {d : Nat} {S : cS}  (hc : sI S 3211 = nI 0) : Ans (d + 1) 69 [.ref 32] S (some (.int 0)) (S) := by
  refine Ans.of (by rw [ml_69]; exact Nat.le_of_ble_eq_true rfl) ?_
  refine Bod.go dc_69_0 rfl ?_
  refine Bod.get dc_69_1 fr_69_44 (mk_32 _) rfl ?_
  refine Bod.eqI (nI 0) (by first | assumption | rfl | exact congrArg nI (by omega) | (simp (disch := omega) only [rI, rIe, rA, rIA, rLA, rJA, rVI, rQI, rVA, rQA, upd_at,  rAI, rLI, rJI, nI_add, pk_sub, kc_0, kc_1, kc_2, kc_3, kc_4, kc_5, reduceIte, Nat.reduceEqDiff, Nat.add_zero, rI_hold, rI_hold, rL_hold, hc]; done)) ?_
  refine Bod.ifT dc_69_4 rfl (k1_eq_T (k_eq 0 0 rfl rfl (by omega))) ?_
  refine Bod.ic 0 (by decide) dc_69_11 ?_
  exact Bod.retZ dc_69_12 rt_69 (Or.inl rfl)
theorem leave_ev {d : Nat} {S : cS} {x : Int32}  : Ans (d + 1) 104 [.ref 32, .int x] S (none) (wI 3211 x S) := by
  refine Ans.of (by rw [ml_104]; exact Nat.le_of_ble_eq_true rfl) ?_
  refine Bod.go dc_104_0 rfl ?_
  refine Bod.go dc_104_1 rfl ?_
  refine Bod.put dc_104_2 fr_104_44 (mk_32 _) (Nat.le_of_ble_eq_true rfl) pf_8_11 (st_3211 _ _) (mu_I _ _ _) ?_
  exact Bod.retV dc_104_5 rt_104
theorem enter_ev {d : Nat} {S : cS} {c : Nat} {s : Nat} {f : Int32} (hc : sI S 3211 = nI c) (hs : sI S 3212 = nI s) (h2 : s < 300) : Ans (d + 1) 99 [.ref 32, .int f] S (some (.int (nI c))) (wA 35 s (Int32.ofInt (-1)) (wA 34 s f (wA 33 s (nI c) (wI 3212 (nI (s + 1)) (wI 3211 (nI s) S))))) := by
  refine Ans.of (by rw [ml_99]; exact Nat.le_of_ble_eq_true rfl) ?_
  refine Bod.go dc_99_0 rfl ?_
  refine Bod.get dc_99_1 fr_99_44 (mk_32 _) rfl ?_
  refine Bod.eqI (nI c) (by first | assumption | rfl | exact congrArg nI (by omega) | (simp (disch := omega) only [rI, rIe, rA, rIA, rLA, rJA, rVI, rQI, rVA, rQA, upd_at,  rAI, rLI, rJI, nI_add, pk_sub, kc_0, kc_1, kc_2, kc_3, kc_4, kc_5, reduceIte, Nat.reduceEqDiff, Nat.add_zero, rI_hold, rI_hold, rL_hold, hc, hs]; done)) ?_
  refine Bod.istn dc_99_4 (by rw [ml_99]; exact Nat.le_of_ble_eq_true rfl) ?_
  refine Bod.go dc_99_5 rfl ?_
  refine Bod.get dc_99_6 fr_99_48 (mk_32 _) rfl ?_
  refine Bod.eqI (nI s) (by first | assumption | rfl | exact congrArg nI (by omega) | (simp (disch := omega) only [rI, rIe, rA, rIA, rLA, rJA, rVI, rQI, rVA, rQA, upd_at,  rAI, rLI, rJI, nI_add, pk_sub, kc_0, kc_1, kc_2, kc_3, kc_4, kc_5, reduceIte, Nat.reduceEqDiff, Nat.add_zero, rI_hold, rI_hold, rL_hold, hc, hs]; done)) ?_
  refine Bod.sip 300 (by decide) dc_99_9 ?_
  refine Bod.icT dc_99_12 rfl (k2_lt_T s 300 rfl rfl (by omega) (by omega)) ?_
  refine Bod.go dc_99_25 rfl ?_
  refine Bod.go dc_99_26 rfl ?_
  refine Bod.get dc_99_27 fr_99_48 (mk_32 _) rfl ?_
  refine Bod.eqI (nI s) (by first | assumption | rfl | exact congrArg nI (by omega) | (simp (disch := omega) only [rI, rIe, rA, rIA, rLA, rJA, rVI, rQI, rVA, rQA, upd_at,  rAI, rLI, rJI, nI_add, pk_sub, kc_0, kc_1, kc_2, kc_3, kc_4, kc_5, reduceIte, Nat.reduceEqDiff, Nat.add_zero, rI_hold, rI_hold, rL_hold, hc, hs]; done)) ?_
  refine Bod.put dc_99_30 fr_99_44 (mk_32 _) (Nat.le_of_ble_eq_true rfl) pf_8_11 (st_3211 _ _) (mu_I _ _ _) ?_
  refine Bod.go dc_99_33 rfl ?_
  refine Bod.go dc_99_34 rfl ?_
  refine Bod.get dc_99_35 fr_99_48 (mk_32 _) rfl ?_
  refine Bod.eqI (nI s) (by first | (simp (disch := omega) only [rI, rIe, rA, rIA, rLA, rJA, rVI, rQI, rVA, rQA, upd_at,  rAI, rLI, rJI, nI_add, pk_sub, kc_0, kc_1, kc_2, kc_3, kc_4, kc_5, reduceIte, Nat.reduceEqDiff, Nat.add_zero, rI_hold, rI_hold, rL_hold, hc, hs]; done) | (simp (disch := omega) only [rI, rIe, rA, rIA, rLA, rJA, rVI, rQI, rVA, rQA, upd_at,  rAI, rLI, rJI, nI_add, pk_sub, kc_0, kc_1, kc_2, kc_3, kc_4, kc_5, reduceIte, Nat.reduceEqDiff, Nat.add_zero, rI_hold, rI_hold, rL_hold, hc, hs]; exact congrArg nI (by omega))) ?_
  refine Bod.ic 1 (by decide) dc_99_38 ?_
  refine Bod.addN (s + 1) (by omega) dc_99_39 ?_
  refine Bod.put dc_99_40 fr_99_48 (mk_32 _) (Nat.le_of_ble_eq_true rfl) pf_8_12 (st_3212 _ _) (mu_I _ _ _) ?_
  refine Bod.go dc_99_43 rfl ?_
  refine Bod.get dc_99_44 fr_99_13 (mk_32 _) rfl ?_
  refine Bod.go dc_99_47 rfl ?_
  refine Bod.get dc_99_48 fr_99_44 (mk_32 _) rfl ?_
  refine Bod.eqI (nI s) (by first | (simp (disch := omega) only [rI, rIe, rA, rIA, rLA, rJA, rVI, rQI, rVA, rQA, upd_at,  rAI, rLI, rJI, nI_add, pk_sub, kc_0, kc_1, kc_2, kc_3, kc_4, kc_5, reduceIte, Nat.reduceEqDiff, Nat.add_zero, rI_hold, rI_hold, rL_hold, hc, hs]; done) | (simp (disch := omega) only [rI, rIe, rA, rIA, rLA, rJA, rVI, rQI, rVA, rQA, upd_at,  rAI, rLI, rJI, nI_add, pk_sub, kc_0, kc_1, kc_2, kc_3, kc_4, kc_5, reduceIte, Nat.reduceEqDiff, Nat.add_zero, rI_hold, rI_hold, rL_hold, hc, hs]; exact congrArg nI (by omega))) ?_
  refine Bod.go dc_99_51 rfl ?_
  refine Bod.iastN s rfl (by omega) (by omega) dc_99_52 (mk_33 _) (sa_33 _ _ _) (mu_A _ _ _ _) ?_
  refine Bod.go dc_99_53 rfl ?_
  refine Bod.get dc_99_54 fr_99_17 (mk_32 _) rfl ?_
  refine Bod.go dc_99_57 rfl ?_
  refine Bod.get dc_99_58 fr_99_44 (mk_32 _) rfl ?_
  refine Bod.eqI (nI s) (by first | (simp (disch := omega) only [rI, rIe, rA, rIA, rLA, rJA, rVI, rQI, rVA, rQA, upd_at,  rAI, rLI, rJI, nI_add, pk_sub, kc_0, kc_1, kc_2, kc_3, kc_4, kc_5, reduceIte, Nat.reduceEqDiff, Nat.add_zero, rI_hold, rI_hold, rL_hold, hc, hs]; done) | (simp (disch := omega) only [rI, rIe, rA, rIA, rLA, rJA, rVI, rQI, rVA, rQA, upd_at,  rAI, rLI, rJI, nI_add, pk_sub, kc_0, kc_1, kc_2, kc_3, kc_4, kc_5, reduceIte, Nat.reduceEqDiff, Nat.add_zero, rI_hold, rI_hold, rL_hold, hc, hs]; exact congrArg nI (by omega))) ?_
  refine Bod.go dc_99_61 rfl ?_
  refine Bod.iastN s rfl (by omega) (by omega) dc_99_62 (mk_34 _) (sa_34 _ _ _) (mu_A _ _ _ _) ?_
  refine Bod.go dc_99_63 rfl ?_
  refine Bod.get dc_99_64 fr_99_20 (mk_32 _) rfl ?_
  refine Bod.go dc_99_67 rfl ?_
  refine Bod.get dc_99_68 fr_99_44 (mk_32 _) rfl ?_
  refine Bod.eqI (nI s) (by first | (simp (disch := omega) only [rI, rIe, rA, rIA, rLA, rJA, rVI, rQI, rVA, rQA, upd_at,  rAI, rLI, rJI, nI_add, pk_sub, kc_0, kc_1, kc_2, kc_3, kc_4, kc_5, reduceIte, Nat.reduceEqDiff, Nat.add_zero, rI_hold, rI_hold, rL_hold, hc, hs]; done) | (simp (disch := omega) only [rI, rIe, rA, rIA, rLA, rJA, rVI, rQI, rVA, rQA, upd_at,  rAI, rLI, rJI, nI_add, pk_sub, kc_0, kc_1, kc_2, kc_3, kc_4, kc_5, reduceIte, Nat.reduceEqDiff, Nat.add_zero, rI_hold, rI_hold, rL_hold, hc, hs]; exact congrArg nI (by omega))) ?_
  refine Bod.go dc_99_71 rfl ?_
  refine Bod.iastN s rfl (by omega) (by omega) dc_99_72 (mk_35 _) (sa_35 _ _ _) (mu_A _ _ _ _) ?_
  refine Bod.go dc_99_73 rfl ?_
  exact Bod.retI dc_99_74 rt_99
theorem add_ev {d : Nat} {S : cS} {c : Nat} {e : Nat} {x : Int32} {y : Int32} (hc : sI S 3211 = nI c) (he : sI S 3213 = nI e) (h1 : e < 1600) (h2 : c < 300) : Ans (d + 1) 96 [.ref 32, .int x, .int y] S (none) (wI 3213 (nI (e + 1)) (wA 35 c (nI e) (wA 40 e (sA (wA 38 e y (wA 37 e (nI c) (wA 36 e x S))) 35 c) (wA 38 e y (wA 37 e (nI c) (wA 36 e x S)))))) := by
  refine Ans.of (by rw [ml_96]; exact Nat.le_of_ble_eq_true rfl) ?_
  refine Bod.go dc_96_0 rfl ?_
  refine Bod.get dc_96_1 fr_96_51 (mk_32 _) rfl ?_
  refine Bod.eqI (nI e) (by first | assumption | rfl | exact congrArg nI (by omega) | (simp (disch := omega) only [rI, rIe, rA, rIA, rLA, rJA, rVI, rQI, rVA, rQA, upd_at,  rAI, rLI, rJI, nI_add, pk_sub, kc_0, kc_1, kc_2, kc_3, kc_4, kc_5, reduceIte, Nat.reduceEqDiff, Nat.add_zero, rI_hold, rI_hold, rL_hold, hc, he]; done)) ?_
  refine Bod.sip 1600 (by decide) dc_96_4 ?_
  refine Bod.icF dc_96_7 rfl (k2_ge_F e 1600 rfl rfl (by omega) (by omega)) ?_
  refine Bod.go dc_96_10 rfl ?_
  refine Bod.get dc_96_11 fr_96_44 (mk_32 _) rfl ?_
  refine Bod.eqI (nI c) (by first | assumption | rfl | exact congrArg nI (by omega) | (simp (disch := omega) only [rI, rIe, rA, rIA, rLA, rJA, rVI, rQI, rVA, rQA, upd_at,  rAI, rLI, rJI, nI_add, pk_sub, kc_0, kc_1, kc_2, kc_3, kc_4, kc_5, reduceIte, Nat.reduceEqDiff, Nat.add_zero, rI_hold, rI_hold, rL_hold, hc, he]; done)) ?_
  refine Bod.ifF dc_96_14 rfl (k1_lt_F c rfl (by omega)) ?_
  refine Bod.go dc_96_17 rfl ?_
  refine Bod.get dc_96_18 fr_96_44 (mk_32 _) rfl ?_
  refine Bod.eqI (nI c) (by first | assumption | rfl | exact congrArg nI (by omega) | (simp (disch := omega) only [rI, rIe, rA, rIA, rLA, rJA, rVI, rQI, rVA, rQA, upd_at,  rAI, rLI, rJI, nI_add, pk_sub, kc_0, kc_1, kc_2, kc_3, kc_4, kc_5, reduceIte, Nat.reduceEqDiff, Nat.add_zero, rI_hold, rI_hold, rL_hold, hc, he]; done)) ?_
  refine Bod.sip 300 (by decide) dc_96_21 ?_
  refine Bod.icT dc_96_24 rfl (k2_lt_T c 300 rfl rfl (by omega) (by omega)) ?_
  refine Bod.go dc_96_36 rfl ?_
  refine Bod.get dc_96_37 fr_96_23 (mk_32 _) rfl ?_
  refine Bod.go dc_96_40 rfl ?_
  refine Bod.get dc_96_41 fr_96_51 (mk_32 _) rfl ?_
  refine Bod.eqI (nI e) (by first | assumption | rfl | exact congrArg nI (by omega) | (simp (disch := omega) only [rI, rIe, rA, rIA, rLA, rJA, rVI, rQI, rVA, rQA, upd_at,  rAI, rLI, rJI, nI_add, pk_sub, kc_0, kc_1, kc_2, kc_3, kc_4, kc_5, reduceIte, Nat.reduceEqDiff, Nat.add_zero, rI_hold, rI_hold, rL_hold, hc, he]; done)) ?_
  refine Bod.go dc_96_44 rfl ?_
  refine Bod.iastN e rfl (by omega) (by omega) dc_96_45 (mk_36 _) (sa_36 _ _ _) (mu_A _ _ _ _) ?_
  refine Bod.go dc_96_46 rfl ?_
  refine Bod.get dc_96_47 fr_96_26 (mk_32 _) rfl ?_
  refine Bod.go dc_96_50 rfl ?_
  refine Bod.get dc_96_51 fr_96_51 (mk_32 _) rfl ?_
  refine Bod.eqI (nI e) (by first | (simp (disch := omega) only [rI, rIe, rA, rIA, rLA, rJA, rVI, rQI, rVA, rQA, upd_at,  rAI, rLI, rJI, nI_add, pk_sub, kc_0, kc_1, kc_2, kc_3, kc_4, kc_5, reduceIte, Nat.reduceEqDiff, Nat.add_zero, rI_hold, rI_hold, rL_hold, hc, he]; done) | (simp (disch := omega) only [rI, rIe, rA, rIA, rLA, rJA, rVI, rQI, rVA, rQA, upd_at,  rAI, rLI, rJI, nI_add, pk_sub, kc_0, kc_1, kc_2, kc_3, kc_4, kc_5, reduceIte, Nat.reduceEqDiff, Nat.add_zero, rI_hold, rI_hold, rL_hold, hc, he]; exact congrArg nI (by omega))) ?_
  refine Bod.go dc_96_54 rfl ?_
  refine Bod.get dc_96_55 fr_96_44 (mk_32 _) rfl ?_
  refine Bod.eqI (nI c) (by first | (simp (disch := omega) only [rI, rIe, rA, rIA, rLA, rJA, rVI, rQI, rVA, rQA, upd_at,  rAI, rLI, rJI, nI_add, pk_sub, kc_0, kc_1, kc_2, kc_3, kc_4, kc_5, reduceIte, Nat.reduceEqDiff, Nat.add_zero, rI_hold, rI_hold, rL_hold, hc, he]; done) | (simp (disch := omega) only [rI, rIe, rA, rIA, rLA, rJA, rVI, rQI, rVA, rQA, upd_at,  rAI, rLI, rJI, nI_add, pk_sub, kc_0, kc_1, kc_2, kc_3, kc_4, kc_5, reduceIte, Nat.reduceEqDiff, Nat.add_zero, rI_hold, rI_hold, rL_hold, hc, he]; exact congrArg nI (by omega))) ?_
  refine Bod.iastN e rfl (by omega) (by omega) dc_96_58 (mk_37 _) (sa_37 _ _ _) (mu_A _ _ _ _) ?_
  refine Bod.go dc_96_59 rfl ?_
  refine Bod.get dc_96_60 fr_96_29 (mk_32 _) rfl ?_
  refine Bod.go dc_96_63 rfl ?_
  refine Bod.get dc_96_64 fr_96_51 (mk_32 _) rfl ?_
  refine Bod.eqI (nI e) (by first | (simp (disch := omega) only [rI, rIe, rA, rIA, rLA, rJA, rVI, rQI, rVA, rQA, upd_at,  rAI, rLI, rJI, nI_add, pk_sub, kc_0, kc_1, kc_2, kc_3, kc_4, kc_5, reduceIte, Nat.reduceEqDiff, Nat.add_zero, rI_hold, rI_hold, rL_hold, hc, he]; done) | (simp (disch := omega) only [rI, rIe, rA, rIA, rLA, rJA, rVI, rQI, rVA, rQA, upd_at,  rAI, rLI, rJI, nI_add, pk_sub, kc_0, kc_1, kc_2, kc_3, kc_4, kc_5, reduceIte, Nat.reduceEqDiff, Nat.add_zero, rI_hold, rI_hold, rL_hold, hc, he]; exact congrArg nI (by omega))) ?_
  refine Bod.go dc_96_67 rfl ?_
  refine Bod.iastN e rfl (by omega) (by omega) dc_96_68 (mk_38 _) (sa_38 _ _ _) (mu_A _ _ _ _) ?_
  refine Bod.go dc_96_69 rfl ?_
  refine Bod.get dc_96_70 fr_96_35 (mk_32 _) rfl ?_
  refine Bod.go dc_96_73 rfl ?_
  refine Bod.get dc_96_74 fr_96_51 (mk_32 _) rfl ?_
  refine Bod.eqI (nI e) (by first | (simp (disch := omega) only [rI, rIe, rA, rIA, rLA, rJA, rVI, rQI, rVA, rQA, upd_at,  rAI, rLI, rJI, nI_add, pk_sub, kc_0, kc_1, kc_2, kc_3, kc_4, kc_5, reduceIte, Nat.reduceEqDiff, Nat.add_zero, rI_hold, rI_hold, rL_hold, hc, he]; done) | (simp (disch := omega) only [rI, rIe, rA, rIA, rLA, rJA, rVI, rQI, rVA, rQA, upd_at,  rAI, rLI, rJI, nI_add, pk_sub, kc_0, kc_1, kc_2, kc_3, kc_4, kc_5, reduceIte, Nat.reduceEqDiff, Nat.add_zero, rI_hold, rI_hold, rL_hold, hc, he]; exact congrArg nI (by omega))) ?_
  refine Bod.go dc_96_77 rfl ?_
  refine Bod.get dc_96_78 fr_96_20 (mk_32 _) rfl ?_
  refine Bod.go dc_96_81 rfl ?_
  refine Bod.get dc_96_82 fr_96_44 (mk_32 _) rfl ?_
  refine Bod.eqI (nI c) (by first | (simp (disch := omega) only [rI, rIe, rA, rIA, rLA, rJA, rVI, rQI, rVA, rQA, upd_at,  rAI, rLI, rJI, nI_add, pk_sub, kc_0, kc_1, kc_2, kc_3, kc_4, kc_5, reduceIte, Nat.reduceEqDiff, Nat.add_zero, rI_hold, rI_hold, rL_hold, hc, he]; done) | (simp (disch := omega) only [rI, rIe, rA, rIA, rLA, rJA, rVI, rQI, rVA, rQA, upd_at,  rAI, rLI, rJI, nI_add, pk_sub, kc_0, kc_1, kc_2, kc_3, kc_4, kc_5, reduceIte, Nat.reduceEqDiff, Nat.add_zero, rI_hold, rI_hold, rL_hold, hc, he]; exact congrArg nI (by omega))) ?_
  refine Bod.ialdN c rfl (by omega) (by omega) dc_96_85 (mk_35 _) ?_
  refine Bod.iastN e rfl (by omega) (by omega) dc_96_86 (mk_40 _) (sa_40 _ _ _) (mu_A _ _ _ _) ?_
  refine Bod.go dc_96_87 rfl ?_
  refine Bod.get dc_96_88 fr_96_20 (mk_32 _) rfl ?_
  refine Bod.go dc_96_91 rfl ?_
  refine Bod.get dc_96_92 fr_96_44 (mk_32 _) rfl ?_
  refine Bod.eqI (nI c) (by first | (simp (disch := omega) only [rI, rIe, rA, rIA, rLA, rJA, rVI, rQI, rVA, rQA, upd_at,  rAI, rLI, rJI, nI_add, pk_sub, kc_0, kc_1, kc_2, kc_3, kc_4, kc_5, reduceIte, Nat.reduceEqDiff, Nat.add_zero, rI_hold, rI_hold, rL_hold, hc, he]; done) | (simp (disch := omega) only [rI, rIe, rA, rIA, rLA, rJA, rVI, rQI, rVA, rQA, upd_at,  rAI, rLI, rJI, nI_add, pk_sub, kc_0, kc_1, kc_2, kc_3, kc_4, kc_5, reduceIte, Nat.reduceEqDiff, Nat.add_zero, rI_hold, rI_hold, rL_hold, hc, he]; exact congrArg nI (by omega))) ?_
  refine Bod.go dc_96_95 rfl ?_
  refine Bod.get dc_96_96 fr_96_51 (mk_32 _) rfl ?_
  refine Bod.eqI (nI e) (by first | (simp (disch := omega) only [rI, rIe, rA, rIA, rLA, rJA, rVI, rQI, rVA, rQA, upd_at,  rAI, rLI, rJI, nI_add, pk_sub, kc_0, kc_1, kc_2, kc_3, kc_4, kc_5, reduceIte, Nat.reduceEqDiff, Nat.add_zero, rI_hold, rI_hold, rL_hold, hc, he]; done) | (simp (disch := omega) only [rI, rIe, rA, rIA, rLA, rJA, rVI, rQI, rVA, rQA, upd_at,  rAI, rLI, rJI, nI_add, pk_sub, kc_0, kc_1, kc_2, kc_3, kc_4, kc_5, reduceIte, Nat.reduceEqDiff, Nat.add_zero, rI_hold, rI_hold, rL_hold, hc, he]; exact congrArg nI (by omega))) ?_
  refine Bod.iastN c rfl (by omega) (by omega) dc_96_99 (mk_35 _) (sa_35 _ _ _) (mu_A _ _ _ _) ?_
  refine Bod.go dc_96_100 rfl ?_
  refine Bod.go dc_96_101 rfl ?_
  refine Bod.get dc_96_102 fr_96_51 (mk_32 _) rfl ?_
  refine Bod.eqI (nI e) (by first | (simp (disch := omega) only [rI, rIe, rA, rIA, rLA, rJA, rVI, rQI, rVA, rQA, upd_at,  rAI, rLI, rJI, nI_add, pk_sub, kc_0, kc_1, kc_2, kc_3, kc_4, kc_5, reduceIte, Nat.reduceEqDiff, Nat.add_zero, rI_hold, rI_hold, rL_hold, hc, he]; done) | (simp (disch := omega) only [rI, rIe, rA, rIA, rLA, rJA, rVI, rQI, rVA, rQA, upd_at,  rAI, rLI, rJI, nI_add, pk_sub, kc_0, kc_1, kc_2, kc_3, kc_4, kc_5, reduceIte, Nat.reduceEqDiff, Nat.add_zero, rI_hold, rI_hold, rL_hold, hc, he]; exact congrArg nI (by omega))) ?_
  refine Bod.ic 1 (by decide) dc_96_105 ?_
  refine Bod.addN (e + 1) (by omega) dc_96_106 ?_
  refine Bod.put dc_96_107 fr_96_51 (mk_32 _) (Nat.le_of_ble_eq_true rfl) pf_8_13 (st_3213 _ _) (mu_I _ _ _) ?_
  exact Bod.retV dc_96_110 rt_96
theorem scBegin_ev {d : Nat} {S : cS}   : Ans (d + 1) 34 [.ref 32] S (none) (wI 3214 (nI 0) (wI 3213 (nI 0) (wI 3212 (nI 1) (wI 3211 (nI 0) S)))) := by
  refine Ans.of (by rw [ml_34]; exact Nat.le_of_ble_eq_true rfl) ?_
  refine Bod.go dc_34_0 rfl ?_
  refine Bod.ic 0 (by decide) dc_34_1 ?_
  refine Bod.put dc_34_2 fr_34_44 (mk_32 _) (Nat.le_of_ble_eq_true rfl) pf_8_11 (st_3211 _ _) (mu_I _ _ _) ?_
  refine Bod.go dc_34_5 rfl ?_
  refine Bod.ic 1 (by decide) dc_34_6 ?_
  refine Bod.put dc_34_7 fr_34_48 (mk_32 _) (Nat.le_of_ble_eq_true rfl) pf_8_12 (st_3212 _ _) (mu_I _ _ _) ?_
  refine Bod.go dc_34_10 rfl ?_
  refine Bod.ic 0 (by decide) dc_34_11 ?_
  refine Bod.put dc_34_12 fr_34_51 (mk_32 _) (Nat.le_of_ble_eq_true rfl) pf_8_13 (st_3213 _ _) (mu_I _ _ _) ?_
  refine Bod.go dc_34_15 rfl ?_
  refine Bod.ic 0 (by decide) dc_34_16 ?_
  refine Bod.put dc_34_17 fr_34_54 (mk_32 _) (Nat.le_of_ble_eq_true rfl) pf_8_14 (st_3214 _ _) (mu_I _ _ _) ?_
  exact Bod.retV dc_34_20 rt_34
theorem scPut_out {d : Nat} {S : cS} {p : Nat} {x : Int32} {y : Int32} (hp : sI S 2307 = nI p) (hM : p + 3 ≤ 40960) (hc : sI S 3211 = nI 0) : Ans (d + 3) 67 [.ref 32, .int x, .int y] S (some (.int (nI p))) (wI 2307 (nI (p + 3)) (wA 24 (p + 2) y (wA 24 (p + 1) (Int32.ofInt (-1)) (wA 24 p x S)))) := by
  refine Ans.of (by rw [ml_67]; exact Nat.le_of_ble_eq_true rfl) ?_
  refine Bod.go dc_67_0 rfl ?_
  refine Bod.get dc_67_1 fr_67_7 (mk_32 _) rfl ?_
  refine Bod.go dc_67_4 rfl ?_
  refine Bod.go dc_67_5 rfl ?_
  refine Bod.go dc_67_6 rfl ?_
  refine Bod.virt (r := []) dc_67_7 kr_67_75 ⟨Or.inr rfl, ow_68, cl_7⟩ (by rw [np_68]; rfl) (by rw [np_68]; rfl) (ob_of (mk_23 _)) (Nat.le_of_ble_eq_true rfl) (put3_ev (p := p) (x0 := x) (x1 := Int32.ofInt (-1)) (x2 := y) (by first | assumption | rfl | exact congrArg nI (by omega) | (simp (disch := omega) only [rI, rIe, rA, rIA, rLA, rJA, rVI, rQI, rVA, rQA, upd_at,  rAI, rLI, rJI, nI_add, pk_sub, kc_0, kc_1, kc_2, kc_3, kc_4, kc_5, reduceIte, Nat.reduceEqDiff, Nat.add_zero, rI_hold, rI_hold, rL_hold, hp, hc]; done)) (by omega)) ?_
  show Bod _ _ _ _ [_] _ _ _
  refine Bod.istn dc_67_10 (by rw [ml_67]; exact Nat.le_of_ble_eq_true rfl) ?_
  refine Bod.go dc_67_11 rfl ?_
  refine Bod.virt (r := []) dc_67_12 kr_67_63 ⟨Or.inl rfl, ow_69, cl_8⟩ (by rw [np_69]; rfl) (by rw [np_69]; rfl) (ob_of (mk_32 _)) (Nat.le_of_ble_eq_true rfl) (inFunction_F  (by first | (simp (disch := omega) only [rI, rIe, rA, rIA, rLA, rJA, rVI, rQI, rVA, rQA, upd_at,  rAI, rLI, rJI, nI_add, pk_sub, kc_0, kc_1, kc_2, kc_3, kc_4, kc_5, reduceIte, Nat.reduceEqDiff, Nat.add_zero, rI_hold, rI_hold, rL_hold, hp, hc]; done) | (simp (disch := omega) only [rI, rIe, rA, rIA, rLA, rJA, rVI, rQI, rVA, rQA, upd_at,  rAI, rLI, rJI, nI_add, pk_sub, kc_0, kc_1, kc_2, kc_3, kc_4, kc_5, reduceIte, Nat.reduceEqDiff, Nat.add_zero, rI_hold, rI_hold, rL_hold, hp, hc]; exact congrArg nI (by omega)))) ?_
  show Bod _ _ _ _ [_] _ _ _
  refine Bod.ifF dc_67_15 rfl (k1_ne_F (k_eq 0 0 rfl rfl (by omega))) ?_
  refine Bod.go dc_67_18 rfl ?_
  exact Bod.retI dc_67_19 rt_67
theorem scPut_in {d : Nat} {S : cS} {p : Nat} {c : Nat} {f : Nat} {x : Int32} {y : Int32} (hp : sI S 2307 = nI p) (hM : p + 3 ≤ 40960) (hc : sI S 3211 = nI c) (h1 : 1 ≤ c) (h2 : c < 300) (hf : sI S 3214 = nI f) (h3 : f < 1600) : Ans (d + 3) 67 [.ref 32, .int x, .int y] S (some (.int (nI p))) (wI 3214 (nI (f + 1)) (wA 42 f (nI c) (wA 41 f (nI p) (wI 2307 (nI (p + 3)) (wA 24 (p + 2) y (wA 24 (p + 1) (Int32.ofInt (-1)) (wA 24 p x S))))))) := by
  refine Ans.of (by rw [ml_67]; exact Nat.le_of_ble_eq_true rfl) ?_
  refine Bod.go dc_67_0 rfl ?_
  refine Bod.get dc_67_1 fr_67_7 (mk_32 _) rfl ?_
  refine Bod.go dc_67_4 rfl ?_
  refine Bod.go dc_67_5 rfl ?_
  refine Bod.go dc_67_6 rfl ?_
  refine Bod.virt (r := []) dc_67_7 kr_67_75 ⟨Or.inr rfl, ow_68, cl_7⟩ (by rw [np_68]; rfl) (by rw [np_68]; rfl) (ob_of (mk_23 _)) (Nat.le_of_ble_eq_true rfl) (put3_ev (p := p) (x0 := x) (x1 := Int32.ofInt (-1)) (x2 := y) (by first | assumption | rfl | exact congrArg nI (by omega) | (simp (disch := omega) only [rI, rIe, rA, rIA, rLA, rJA, rVI, rQI, rVA, rQA, upd_at,  rAI, rLI, rJI, nI_add, pk_sub, kc_0, kc_1, kc_2, kc_3, kc_4, kc_5, reduceIte, Nat.reduceEqDiff, Nat.add_zero, rI_hold, rI_hold, rL_hold, hp, hc, hf]; done)) (by omega)) ?_
  show Bod _ _ _ _ [_] _ _ _
  refine Bod.istn dc_67_10 (by rw [ml_67]; exact Nat.le_of_ble_eq_true rfl) ?_
  refine Bod.go dc_67_11 rfl ?_
  refine Bod.virt (r := []) dc_67_12 kr_67_63 ⟨Or.inl rfl, ow_69, cl_8⟩ (by rw [np_69]; rfl) (by rw [np_69]; rfl) (ob_of (mk_32 _)) (Nat.le_of_ble_eq_true rfl) (inFunction_T (c := c) (by first | (simp (disch := omega) only [rI, rIe, rA, rIA, rLA, rJA, rVI, rQI, rVA, rQA, upd_at,  rAI, rLI, rJI, nI_add, pk_sub, kc_0, kc_1, kc_2, kc_3, kc_4, kc_5, reduceIte, Nat.reduceEqDiff, Nat.add_zero, rI_hold, rI_hold, rL_hold, hp, hc, hf]; done) | (simp (disch := omega) only [rI, rIe, rA, rIA, rLA, rJA, rVI, rQI, rVA, rQA, upd_at,  rAI, rLI, rJI, nI_add, pk_sub, kc_0, kc_1, kc_2, kc_3, kc_4, kc_5, reduceIte, Nat.reduceEqDiff, Nat.add_zero, rI_hold, rI_hold, rL_hold, hp, hc, hf]; exact congrArg nI (by omega))) (by omega) (by omega)) ?_
  show Bod _ _ _ _ [_] _ _ _
  refine Bod.ifT dc_67_15 rfl (k1_ne_T (k_ne 1 0 rfl rfl (by omega) (by omega) (by omega))) ?_
  refine Bod.go dc_67_20 rfl ?_
  refine Bod.get dc_67_21 fr_67_54 (mk_32 _) rfl ?_
  refine Bod.eqI (nI f) (by first | (simp (disch := omega) only [rI, rIe, rA, rIA, rLA, rJA, rVI, rQI, rVA, rQA, upd_at,  rAI, rLI, rJI, nI_add, pk_sub, kc_0, kc_1, kc_2, kc_3, kc_4, kc_5, reduceIte, Nat.reduceEqDiff, Nat.add_zero, rI_hold, rI_hold, rL_hold, hp, hc, hf]; done) | (simp (disch := omega) only [rI, rIe, rA, rIA, rLA, rJA, rVI, rQI, rVA, rQA, upd_at,  rAI, rLI, rJI, nI_add, pk_sub, kc_0, kc_1, kc_2, kc_3, kc_4, kc_5, reduceIte, Nat.reduceEqDiff, Nat.add_zero, rI_hold, rI_hold, rL_hold, hp, hc, hf]; exact congrArg nI (by omega))) ?_
  refine Bod.sip 1600 (by decide) dc_67_24 ?_
  refine Bod.icF dc_67_27 rfl (k2_ge_F f 1600 rfl rfl (by omega) (by omega)) ?_
  refine Bod.go dc_67_30 rfl ?_
  refine Bod.get dc_67_31 fr_67_38 (mk_32 _) rfl ?_
  refine Bod.go dc_67_34 rfl ?_
  refine Bod.get dc_67_35 fr_67_54 (mk_32 _) rfl ?_
  refine Bod.eqI (nI f) (by first | (simp (disch := omega) only [rI, rIe, rA, rIA, rLA, rJA, rVI, rQI, rVA, rQA, upd_at,  rAI, rLI, rJI, nI_add, pk_sub, kc_0, kc_1, kc_2, kc_3, kc_4, kc_5, reduceIte, Nat.reduceEqDiff, Nat.add_zero, rI_hold, rI_hold, rL_hold, hp, hc, hf]; done) | (simp (disch := omega) only [rI, rIe, rA, rIA, rLA, rJA, rVI, rQI, rVA, rQA, upd_at,  rAI, rLI, rJI, nI_add, pk_sub, kc_0, kc_1, kc_2, kc_3, kc_4, kc_5, reduceIte, Nat.reduceEqDiff, Nat.add_zero, rI_hold, rI_hold, rL_hold, hp, hc, hf]; exact congrArg nI (by omega))) ?_
  refine Bod.go dc_67_38 rfl ?_
  refine Bod.iastN f rfl (by omega) (by omega) dc_67_39 (mk_41 _) (sa_41 _ _ _) (mu_A _ _ _ _) ?_
  refine Bod.go dc_67_40 rfl ?_
  refine Bod.get dc_67_41 fr_67_41 (mk_32 _) rfl ?_
  refine Bod.go dc_67_44 rfl ?_
  refine Bod.get dc_67_45 fr_67_54 (mk_32 _) rfl ?_
  refine Bod.eqI (nI f) (by first | (simp (disch := omega) only [rI, rIe, rA, rIA, rLA, rJA, rVI, rQI, rVA, rQA, upd_at,  rAI, rLI, rJI, nI_add, pk_sub, kc_0, kc_1, kc_2, kc_3, kc_4, kc_5, reduceIte, Nat.reduceEqDiff, Nat.add_zero, rI_hold, rI_hold, rL_hold, hp, hc, hf]; done) | (simp (disch := omega) only [rI, rIe, rA, rIA, rLA, rJA, rVI, rQI, rVA, rQA, upd_at,  rAI, rLI, rJI, nI_add, pk_sub, kc_0, kc_1, kc_2, kc_3, kc_4, kc_5, reduceIte, Nat.reduceEqDiff, Nat.add_zero, rI_hold, rI_hold, rL_hold, hp, hc, hf]; exact congrArg nI (by omega))) ?_
  refine Bod.go dc_67_48 rfl ?_
  refine Bod.get dc_67_49 fr_67_44 (mk_32 _) rfl ?_
  refine Bod.eqI (nI c) (by first | (simp (disch := omega) only [rI, rIe, rA, rIA, rLA, rJA, rVI, rQI, rVA, rQA, upd_at,  rAI, rLI, rJI, nI_add, pk_sub, kc_0, kc_1, kc_2, kc_3, kc_4, kc_5, reduceIte, Nat.reduceEqDiff, Nat.add_zero, rI_hold, rI_hold, rL_hold, hp, hc, hf]; done) | (simp (disch := omega) only [rI, rIe, rA, rIA, rLA, rJA, rVI, rQI, rVA, rQA, upd_at,  rAI, rLI, rJI, nI_add, pk_sub, kc_0, kc_1, kc_2, kc_3, kc_4, kc_5, reduceIte, Nat.reduceEqDiff, Nat.add_zero, rI_hold, rI_hold, rL_hold, hp, hc, hf]; exact congrArg nI (by omega))) ?_
  refine Bod.iastN f rfl (by omega) (by omega) dc_67_52 (mk_42 _) (sa_42 _ _ _) (mu_A _ _ _ _) ?_
  refine Bod.go dc_67_53 rfl ?_
  refine Bod.go dc_67_54 rfl ?_
  refine Bod.get dc_67_55 fr_67_54 (mk_32 _) rfl ?_
  refine Bod.eqI (nI f) (by first | (simp (disch := omega) only [rI, rIe, rA, rIA, rLA, rJA, rVI, rQI, rVA, rQA, upd_at,  rAI, rLI, rJI, nI_add, pk_sub, kc_0, kc_1, kc_2, kc_3, kc_4, kc_5, reduceIte, Nat.reduceEqDiff, Nat.add_zero, rI_hold, rI_hold, rL_hold, hp, hc, hf]; done) | (simp (disch := omega) only [rI, rIe, rA, rIA, rLA, rJA, rVI, rQI, rVA, rQA, upd_at,  rAI, rLI, rJI, nI_add, pk_sub, kc_0, kc_1, kc_2, kc_3, kc_4, kc_5, reduceIte, Nat.reduceEqDiff, Nat.add_zero, rI_hold, rI_hold, rL_hold, hp, hc, hf]; exact congrArg nI (by omega))) ?_
  refine Bod.ic 1 (by decide) dc_67_58 ?_
  refine Bod.addN (f + 1) (by omega) dc_67_59 ?_
  refine Bod.put dc_67_60 fr_67_54 (mk_32 _) (Nat.le_of_ble_eq_true rfl) pf_8_14 (st_3214 _ _) (mu_I _ _ _) ?_
  refine Bod.go dc_67_63 rfl ?_
  refine Bod.go dc_67_74 rfl ?_
  exact Bod.retI dc_67_75 rt_67
