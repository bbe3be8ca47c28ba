/-! each instruction's row of the table (by program, wip/p43/gen14.py) -/
/-- RefusedOnce.<init>()V -/
theorem rm_0 : (ro_m 0).2.2.1 = 2 ∧ (ro_m 0).2.2.2.1 = none ∧ (ro_m 0).2.2.2.2.1 = 11 ∧ (ro_m 0).2.2.2.2.2.1 = 0 := ⟨rfl, rfl, rfl, rfl⟩
theorem ri_0_0 : ro_ix 0 0 = some (0, .aload_n 0, 0, 0) := by decide +kernel
theorem ri_0_1 : ro_ix 0 1 = some (1, .invokespecial 1, 0, 2) := by decide +kernel
theorem ri_0_4 : ro_ix 0 4 = some (4, .aload_n 0, 0, 0) := by decide +kernel
theorem ri_0_5 : ro_ix 0 5 = some (5, .new 7, 4, 0) := by decide +kernel
theorem ri_0_8 : ro_ix 0 8 = some (8, .dup, 0, 0) := by decide +kernel
theorem ri_0_9 : ro_ix 0 9 = some (9, .invokespecial 9, 1, 1) := by decide +kernel
theorem ri_0_12 : ro_ix 0 12 = some (12, .putfield 10, 11, 0) := by decide +kernel
theorem ri_0_15 : ro_ix 0 15 = some (15, .aload_n 0, 0, 0) := by decide +kernel
theorem ri_0_16 : ro_ix 0 16 = some (16, .new 16, 5, 0) := by decide +kernel
theorem ri_0_19 : ro_ix 0 19 = some (19, .dup, 0, 0) := by decide +kernel
theorem ri_0_20 : ro_ix 0 20 = some (20, .invokespecial 18, 3, 1) := by decide +kernel
theorem ri_0_23 : ro_ix 0 23 = some (23, .putfield 19, 11, 1) := by decide +kernel
theorem ri_0_26 : ro_ix 0 26 = some (26, .aload_n 0, 0, 0) := by decide +kernel
theorem ri_0_27 : ro_ix 0 27 = some (27, .bipush 6, 0, 0) := by decide +kernel
theorem ri_0_29 : ro_ix 0 29 = some (29, .anewarray 23, 0, 0) := by decide +kernel
theorem ri_0_32 : ro_ix 0 32 = some (32, .putfield 25, 11, 2) := by decide +kernel
theorem ri_0_35 : ro_ix 0 35 = some (35, .iconst 0, 0, 0) := by decide +kernel
theorem ri_0_36 : ro_ix 0 36 = some (36, .istore_n 1, 0, 0) := by decide +kernel
theorem ri_0_37 : ro_ix 0 37 = some (37, .iload_n 1, 0, 0) := by decide +kernel
theorem ri_0_38 : ro_ix 0 38 = some (38, .bipush 6, 0, 0) := by decide +kernel
theorem ri_0_40 : ro_ix 0 40 = some (40, .if_icmp .ge 22, 0, 0) := by decide +kernel
theorem ri_0_43 : ro_ix 0 43 = some (43, .aload_n 0, 0, 0) := by decide +kernel
theorem ri_0_44 : ro_ix 0 44 = some (44, .getfield 25, 11, 2) := by decide +kernel
theorem ri_0_47 : ro_ix 0 47 = some (47, .iload_n 1, 0, 0) := by decide +kernel
theorem ri_0_48 : ro_ix 0 48 = some (48, .new 23, 9, 0) := by decide +kernel
theorem ri_0_51 : ro_ix 0 51 = some (51, .dup, 0, 0) := by decide +kernel
theorem ri_0_52 : ro_ix 0 52 = some (52, .invokespecial 29, 4, 1) := by decide +kernel
theorem ri_0_55 : ro_ix 0 55 = some (55, .aastore, 0, 0) := by decide +kernel
theorem ri_0_56 : ro_ix 0 56 = some (56, .iinc 1 1, 0, 0) := by decide +kernel
theorem ri_0_59 : ro_ix 0 59 = some (59, .goto (-22), 0, 0) := by decide +kernel
theorem ri_0_62 : ro_ix 0 62 = some (62, .aload_n 0, 0, 0) := by decide +kernel
theorem ri_0_63 : ro_ix 0 63 = some (63, .new 30, 3, 0) := by decide +kernel
theorem ri_0_66 : ro_ix 0 66 = some (66, .dup, 0, 0) := by decide +kernel
theorem ri_0_67 : ro_ix 0 67 = some (67, .aload_n 0, 0, 0) := by decide +kernel
theorem ri_0_68 : ro_ix 0 68 = some (68, .getfield 10, 11, 0) := by decide +kernel
theorem ri_0_71 : ro_ix 0 71 = some (71, .aload_n 0, 0, 0) := by decide +kernel
theorem ri_0_72 : ro_ix 0 72 = some (72, .getfield 19, 11, 1) := by decide +kernel
theorem ri_0_75 : ro_ix 0 75 = some (75, .invokespecial 32, 5, 0) := by decide +kernel
theorem ri_0_78 : ro_ix 0 78 = some (78, .putfield 35, 11, 3) := by decide +kernel
theorem ri_0_81 : ro_ix 0 81 = some (81, .aload_n 0, 0, 0) := by decide +kernel
theorem ri_0_82 : ro_ix 0 82 = some (82, .new 39, 7, 0) := by decide +kernel
theorem ri_0_85 : ro_ix 0 85 = some (85, .dup, 0, 0) := by decide +kernel
theorem ri_0_86 : ro_ix 0 86 = some (86, .aload_n 0, 0, 0) := by decide +kernel
theorem ri_0_87 : ro_ix 0 87 = some (87, .getfield 10, 11, 0) := by decide +kernel
theorem ri_0_90 : ro_ix 0 90 = some (90, .aload_n 0, 0, 0) := by decide +kernel
theorem ri_0_91 : ro_ix 0 91 = some (91, .getfield 19, 11, 1) := by decide +kernel
theorem ri_0_94 : ro_ix 0 94 = some (94, .invokespecial 41, 6, 0) := by decide +kernel
theorem ri_0_97 : ro_ix 0 97 = some (97, .putfield 42, 11, 4) := by decide +kernel
theorem ri_0_100 : ro_ix 0 100 = some (100, .aload_n 0, 0, 0) := by decide +kernel
theorem ri_0_101 : ro_ix 0 101 = some (101, .new 46, 1, 0) := by decide +kernel
theorem ri_0_104 : ro_ix 0 104 = some (104, .dup, 0, 0) := by decide +kernel
theorem ri_0_105 : ro_ix 0 105 = some (105, .aload_n 0, 0, 0) := by decide +kernel
theorem ri_0_106 : ro_ix 0 106 = some (106, .getfield 10, 11, 0) := by decide +kernel
theorem ri_0_109 : ro_ix 0 109 = some (109, .aload_n 0, 0, 0) := by decide +kernel
theorem ri_0_110 : ro_ix 0 110 = some (110, .getfield 19, 11, 1) := by decide +kernel
theorem ri_0_113 : ro_ix 0 113 = some (113, .invokespecial 48, 7, 0) := by decide +kernel
theorem ri_0_116 : ro_ix 0 116 = some (116, .putfield 49, 11, 5) := by decide +kernel
theorem ri_0_119 : ro_ix 0 119 = some (119, .aload_n 0, 0, 0) := by decide +kernel
theorem ri_0_120 : ro_ix 0 120 = some (120, .new 53, 2, 0) := by decide +kernel
theorem ri_0_123 : ro_ix 0 123 = some (123, .dup, 0, 0) := by decide +kernel
theorem ri_0_124 : ro_ix 0 124 = some (124, .invokespecial 55, 8, 1) := by decide +kernel
theorem ri_0_127 : ro_ix 0 127 = some (127, .putfield 56, 11, 6) := by decide +kernel
theorem ri_0_130 : ro_ix 0 130 = some (130, .aload_n 0, 0, 0) := by decide +kernel
theorem ri_0_131 : ro_ix 0 131 = some (131, .new 60, 0, 0) := by decide +kernel
theorem ri_0_134 : ro_ix 0 134 = some (134, .dup, 0, 0) := by decide +kernel
theorem ri_0_135 : ro_ix 0 135 = some (135, .invokespecial 62, 9, 1) := by decide +kernel
theorem ri_0_138 : ro_ix 0 138 = some (138, .putfield 63, 11, 7) := by decide +kernel
theorem ri_0_141 : ro_ix 0 141 = some (141, .aload_n 0, 0, 0) := by decide +kernel
theorem ri_0_142 : ro_ix 0 142 = some (142, .new 67, 10, 0) := by decide +kernel
theorem ri_0_145 : ro_ix 0 145 = some (145, .dup, 0, 0) := by decide +kernel
theorem ri_0_146 : ro_ix 0 146 = some (146, .aload_n 0, 0, 0) := by decide +kernel
theorem ri_0_147 : ro_ix 0 147 = some (147, .getfield 10, 11, 0) := by decide +kernel
theorem ri_0_150 : ro_ix 0 150 = some (150, .aload_n 0, 0, 0) := by decide +kernel
theorem ri_0_151 : ro_ix 0 151 = some (151, .getfield 35, 11, 3) := by decide +kernel
theorem ri_0_154 : ro_ix 0 154 = some (154, .invokespecial 69, 10, 0) := by decide +kernel
theorem ri_0_157 : ro_ix 0 157 = some (157, .putfield 72, 11, 8) := by decide +kernel
theorem ri_0_160 : ro_ix 0 160 = some (160, .return_, 0, 0) := by decide +kernel
/-- RefusedOnce$Land.<init>()V -/
theorem rm_1 : (ro_m 1).2.2.1 = 1 ∧ (ro_m 1).2.2.2.1 = none ∧ (ro_m 1).2.2.2.2.1 = 4 ∧ (ro_m 1).2.2.2.2.2.1 = 0 := ⟨rfl, rfl, rfl, rfl⟩
theorem ri_1_0 : ro_ix 1 0 = some (0, .aload_n 0, 0, 0) := by decide +kernel
theorem ri_1_1 : ro_ix 1 1 = some (1, .invokespecial 3, 0, 2) := by decide +kernel
theorem ri_1_4 : ro_ix 1 4 = some (4, .aload_n 0, 0, 0) := by decide +kernel
theorem ri_1_5 : ro_ix 1 5 = some (5, .new 9, 8, 0) := by decide +kernel
theorem ri_1_8 : ro_ix 1 8 = some (8, .dup, 0, 0) := by decide +kernel
theorem ri_1_9 : ro_ix 1 9 = some (9, .invokespecial 11, 2, 1) := by decide +kernel
theorem ri_1_12 : ro_ix 1 12 = some (12, .putfield 12, 4, 0) := by decide +kernel
theorem ri_1_15 : ro_ix 1 15 = some (15, .aload_n 0, 0, 0) := by decide +kernel
theorem ri_1_16 : ro_ix 1 16 = some (16, .bipush 6, 0, 0) := by decide +kernel
theorem ri_1_18 : ro_ix 1 18 = some (18, .newarray .int, 0, 0) := by decide +kernel
theorem ri_1_20 : ro_ix 1 20 = some (20, .putfield 18, 4, 1) := by decide +kernel
theorem ri_1_23 : ro_ix 1 23 = some (23, .aload_n 0, 0, 0) := by decide +kernel
theorem ri_1_24 : ro_ix 1 24 = some (24, .bipush 6, 0, 0) := by decide +kernel
theorem ri_1_26 : ro_ix 1 26 = some (26, .newarray .int, 0, 0) := by decide +kernel
theorem ri_1_28 : ro_ix 1 28 = some (28, .putfield 22, 4, 2) := by decide +kernel
theorem ri_1_31 : ro_ix 1 31 = some (31, .aload_n 0, 0, 0) := by decide +kernel
theorem ri_1_32 : ro_ix 1 32 = some (32, .iconst 4, 0, 0) := by decide +kernel
theorem ri_1_33 : ro_ix 1 33 = some (33, .newarray .int, 0, 0) := by decide +kernel
theorem ri_1_35 : ro_ix 1 35 = some (35, .putfield 25, 4, 3) := by decide +kernel
theorem ri_1_38 : ro_ix 1 38 = some (38, .aload_n 0, 0, 0) := by decide +kernel
theorem ri_1_39 : ro_ix 1 39 = some (39, .iconst 3, 0, 0) := by decide +kernel
theorem ri_1_40 : ro_ix 1 40 = some (40, .putfield 28, 4, 5) := by decide +kernel
theorem ri_1_43 : ro_ix 1 43 = some (43, .aload_n 0, 0, 0) := by decide +kernel
theorem ri_1_44 : ro_ix 1 44 = some (44, .iconst 0, 0, 0) := by decide +kernel
theorem ri_1_45 : ro_ix 1 45 = some (45, .putfield 32, 4, 6) := by decide +kernel
theorem ri_1_48 : ro_ix 1 48 = some (48, .aload_n 0, 0, 0) := by decide +kernel
theorem ri_1_49 : ro_ix 1 49 = some (49, .bipush 6, 0, 0) := by decide +kernel
theorem ri_1_51 : ro_ix 1 51 = some (51, .putfield 35, 4, 7) := by decide +kernel
theorem ri_1_54 : ro_ix 1 54 = some (54, .aload_n 0, 0, 0) := by decide +kernel
theorem ri_1_55 : ro_ix 1 55 = some (55, .new 9, 8, 0) := by decide +kernel
theorem ri_1_58 : ro_ix 1 58 = some (58, .dup, 0, 0) := by decide +kernel
theorem ri_1_59 : ro_ix 1 59 = some (59, .invokespecial 11, 2, 1) := by decide +kernel
theorem ri_1_62 : ro_ix 1 62 = some (62, .putfield 38, 4, 8) := by decide +kernel
theorem ri_1_65 : ro_ix 1 65 = some (65, .aload_n 0, 0, 0) := by decide +kernel
theorem ri_1_66 : ro_ix 1 66 = some (66, .iconst 4, 0, 0) := by decide +kernel
theorem ri_1_67 : ro_ix 1 67 = some (67, .newarray .int, 0, 0) := by decide +kernel
theorem ri_1_69 : ro_ix 1 69 = some (69, .putfield 41, 4, 9) := by decide +kernel
theorem ri_1_72 : ro_ix 1 72 = some (72, .return_, 0, 0) := by decide +kernel
/-- RefusedOnce$Purses.<init>()V -/
theorem rm_2 : (ro_m 2).2.2.1 = 1 ∧ (ro_m 2).2.2.2.1 = none ∧ (ro_m 2).2.2.2.2.1 = 8 ∧ (ro_m 2).2.2.2.2.2.1 = 0 := ⟨rfl, rfl, rfl, rfl⟩
theorem ri_2_0 : ro_ix 2 0 = some (0, .aload_n 0, 0, 0) := by decide +kernel
theorem ri_2_1 : ro_ix 2 1 = some (1, .invokespecial 3, 0, 2) := by decide +kernel
theorem ri_2_4 : ro_ix 2 4 = some (4, .aload_n 0, 0, 0) := by decide +kernel
theorem ri_2_5 : ro_ix 2 5 = some (5, .bipush 6, 0, 0) := by decide +kernel
theorem ri_2_7 : ro_ix 2 7 = some (7, .newarray .int, 0, 0) := by decide +kernel
theorem ri_2_9 : ro_ix 2 9 = some (9, .putfield 9, 8, 0) := by decide +kernel
theorem ri_2_12 : ro_ix 2 12 = some (12, .aload_n 0, 0, 0) := by decide +kernel
theorem ri_2_13 : ro_ix 2 13 = some (13, .bipush 6, 0, 0) := by decide +kernel
theorem ri_2_15 : ro_ix 2 15 = some (15, .newarray .int, 0, 0) := by decide +kernel
theorem ri_2_17 : ro_ix 2 17 = some (17, .putfield 15, 8, 1) := by decide +kernel
theorem ri_2_20 : ro_ix 2 20 = some (20, .return_, 0, 0) := by decide +kernel
/-- RefusedOnce$Law.<init>()V -/
theorem rm_3 : (ro_m 3).2.2.1 = 1 ∧ (ro_m 3).2.2.2.1 = none ∧ (ro_m 3).2.2.2.2.1 = 5 ∧ (ro_m 3).2.2.2.2.2.1 = 0 := ⟨rfl, rfl, rfl, rfl⟩
theorem ri_3_0 : ro_ix 3 0 = some (0, .aload_n 0, 0, 0) := by decide +kernel
theorem ri_3_1 : ro_ix 3 1 = some (1, .invokespecial 5, 0, 2) := by decide +kernel
theorem ri_3_4 : ro_ix 3 4 = some (4, .aload_n 0, 0, 0) := by decide +kernel
theorem ri_3_5 : ro_ix 3 5 = some (5, .bipush 120, 0, 0) := by decide +kernel
theorem ri_3_7 : ro_ix 3 7 = some (7, .newarray .int, 0, 0) := by decide +kernel
theorem ri_3_9 : ro_ix 3 9 = some (9, .putfield 11, 5, 0) := by decide +kernel
theorem ri_3_12 : ro_ix 3 12 = some (12, .aload_n 0, 0, 0) := by decide +kernel
theorem ri_3_13 : ro_ix 3 13 = some (13, .bipush 121, 0, 0) := by decide +kernel
theorem ri_3_15 : ro_ix 3 15 = some (15, .newarray .int, 0, 0) := by decide +kernel
theorem ri_3_17 : ro_ix 3 17 = some (17, .putfield 15, 5, 1) := by decide +kernel
theorem ri_3_20 : ro_ix 3 20 = some (20, .aload_n 0, 0, 0) := by decide +kernel
theorem ri_3_21 : ro_ix 3 21 = some (21, .bipush 121, 0, 0) := by decide +kernel
theorem ri_3_23 : ro_ix 3 23 = some (23, .newarray .int, 0, 0) := by decide +kernel
theorem ri_3_25 : ro_ix 3 25 = some (25, .putfield 18, 5, 2) := by decide +kernel
theorem ri_3_28 : ro_ix 3 28 = some (28, .aload_n 0, 0, 0) := by decide +kernel
theorem ri_3_29 : ro_ix 3 29 = some (29, .bipush 121, 0, 0) := by decide +kernel
theorem ri_3_31 : ro_ix 3 31 = some (31, .newarray .int, 0, 0) := by decide +kernel
theorem ri_3_33 : ro_ix 3 33 = some (33, .putfield 21, 5, 3) := by decide +kernel
theorem ri_3_36 : ro_ix 3 36 = some (36, .aload_n 0, 0, 0) := by decide +kernel
theorem ri_3_37 : ro_ix 3 37 = some (37, .bipush 6, 0, 0) := by decide +kernel
theorem ri_3_39 : ro_ix 3 39 = some (39, .newarray .int, 0, 0) := by decide +kernel
theorem ri_3_41 : ro_ix 3 41 = some (41, .putfield 24, 5, 4) := by decide +kernel
theorem ri_3_44 : ro_ix 3 44 = some (44, .return_, 0, 0) := by decide +kernel
/-- RefusedOnce$Shelf.<init>()V -/
theorem rm_4 : (ro_m 4).2.2.1 = 1 ∧ (ro_m 4).2.2.2.1 = none ∧ (ro_m 4).2.2.2.2.1 = 9 ∧ (ro_m 4).2.2.2.2.2.1 = 0 := ⟨rfl, rfl, rfl, rfl⟩
theorem ri_4_0 : ro_ix 4 0 = some (0, .aload_n 0, 0, 0) := by decide +kernel
theorem ri_4_1 : ro_ix 4 1 = some (1, .invokespecial 3, 0, 2) := by decide +kernel
theorem ri_4_4 : ro_ix 4 4 = some (4, .aload_n 0, 0, 0) := by decide +kernel
theorem ri_4_5 : ro_ix 4 5 = some (5, .bipush 60, 0, 0) := by decide +kernel
theorem ri_4_7 : ro_ix 4 7 = some (7, .newarray .long, 0, 0) := by decide +kernel
theorem ri_4_9 : ro_ix 4 9 = some (9, .putfield 11, 9, 0) := by decide +kernel
theorem ri_4_12 : ro_ix 4 12 = some (12, .aload_n 0, 0, 0) := by decide +kernel
theorem ri_4_13 : ro_ix 4 13 = some (13, .bipush (-2), 0, 0) := by decide +kernel
theorem ri_4_15 : ro_ix 4 15 = some (15, .putfield 15, 9, 1) := by decide +kernel
theorem ri_4_18 : ro_ix 4 18 = some (18, .return_, 0, 0) := by decide +kernel
/-- RefusedOnce$Evening.<init>(LRefusedOnce$Land;LRefusedOnce$Law;)V -/
theorem rm_5 : (ro_m 5).2.2.1 = 3 ∧ (ro_m 5).2.2.2.1 = none ∧ (ro_m 5).2.2.2.2.1 = 3 ∧ (ro_m 5).2.2.2.2.2.1 = 2 := ⟨rfl, rfl, rfl, rfl⟩
theorem ri_5_0 : ro_ix 5 0 = some (0, .aload_n 0, 0, 0) := by decide +kernel
theorem ri_5_1 : ro_ix 5 1 = some (1, .invokespecial 3, 0, 2) := by decide +kernel
theorem ri_5_4 : ro_ix 5 4 = some (4, .aload_n 0, 0, 0) := by decide +kernel
theorem ri_5_5 : ro_ix 5 5 = some (5, .new 9, 8, 0) := by decide +kernel
theorem ri_5_8 : ro_ix 5 8 = some (8, .dup, 0, 0) := by decide +kernel
theorem ri_5_9 : ro_ix 5 9 = some (9, .invokespecial 11, 2, 1) := by decide +kernel
theorem ri_5_12 : ro_ix 5 12 = some (12, .putfield 12, 3, 2) := by decide +kernel
theorem ri_5_15 : ro_ix 5 15 = some (15, .aload_n 0, 0, 0) := by decide +kernel
theorem ri_5_16 : ro_ix 5 16 = some (16, .bipush 20, 0, 0) := by decide +kernel
theorem ri_5_18 : ro_ix 5 18 = some (18, .newarray .int, 0, 0) := by decide +kernel
theorem ri_5_20 : ro_ix 5 20 = some (20, .putfield 18, 3, 3) := by decide +kernel
theorem ri_5_23 : ro_ix 5 23 = some (23, .aload_n 0, 0, 0) := by decide +kernel
theorem ri_5_24 : ro_ix 5 24 = some (24, .bipush 20, 0, 0) := by decide +kernel
theorem ri_5_26 : ro_ix 5 26 = some (26, .newarray .int, 0, 0) := by decide +kernel
theorem ri_5_28 : ro_ix 5 28 = some (28, .putfield 22, 3, 4) := by decide +kernel
theorem ri_5_31 : ro_ix 5 31 = some (31, .aload_n 0, 0, 0) := by decide +kernel
theorem ri_5_32 : ro_ix 5 32 = some (32, .bipush 20, 0, 0) := by decide +kernel
theorem ri_5_34 : ro_ix 5 34 = some (34, .newarray .int, 0, 0) := by decide +kernel
theorem ri_5_36 : ro_ix 5 36 = some (36, .putfield 25, 3, 5) := by decide +kernel
theorem ri_5_39 : ro_ix 5 39 = some (39, .aload_n 0, 0, 0) := by decide +kernel
theorem ri_5_40 : ro_ix 5 40 = some (40, .aload_n 1, 0, 0) := by decide +kernel
theorem ri_5_41 : ro_ix 5 41 = some (41, .putfield 28, 3, 0) := by decide +kernel
theorem ri_5_44 : ro_ix 5 44 = some (44, .aload_n 0, 0, 0) := by decide +kernel
theorem ri_5_45 : ro_ix 5 45 = some (45, .aload_n 2, 0, 0) := by decide +kernel
theorem ri_5_46 : ro_ix 5 46 = some (46, .putfield 32, 3, 1) := by decide +kernel
theorem ri_5_49 : ro_ix 5 49 = some (49, .return_, 0, 0) := by decide +kernel
/-- RefusedOnce$Payings.<init>(LRefusedOnce$Land;LRefusedOnce$Law;)V -/
theorem rm_6 : (ro_m 6).2.2.1 = 3 ∧ (ro_m 6).2.2.2.1 = none ∧ (ro_m 6).2.2.2.2.1 = 7 ∧ (ro_m 6).2.2.2.2.2.1 = 2 := ⟨rfl, rfl, rfl, rfl⟩
theorem ri_6_0 : ro_ix 6 0 = some (0, .aload_n 0, 0, 0) := by decide +kernel
theorem ri_6_1 : ro_ix 6 1 = some (1, .invokespecial 3, 0, 2) := by decide +kernel
theorem ri_6_4 : ro_ix 6 4 = some (4, .aload_n 0, 0, 0) := by decide +kernel
theorem ri_6_5 : ro_ix 6 5 = some (5, .new 9, 8, 0) := by decide +kernel
theorem ri_6_8 : ro_ix 6 8 = some (8, .dup, 0, 0) := by decide +kernel
theorem ri_6_9 : ro_ix 6 9 = some (9, .invokespecial 11, 2, 1) := by decide +kernel
theorem ri_6_12 : ro_ix 6 12 = some (12, .putfield 12, 7, 2) := by decide +kernel
theorem ri_6_15 : ro_ix 6 15 = some (15, .aload_n 0, 0, 0) := by decide +kernel
theorem ri_6_16 : ro_ix 6 16 = some (16, .bipush 10, 0, 0) := by decide +kernel
theorem ri_6_18 : ro_ix 6 18 = some (18, .newarray .int, 0, 0) := by decide +kernel
theorem ri_6_20 : ro_ix 6 20 = some (20, .putfield 18, 7, 3) := by decide +kernel
theorem ri_6_23 : ro_ix 6 23 = some (23, .aload_n 0, 0, 0) := by decide +kernel
theorem ri_6_24 : ro_ix 6 24 = some (24, .bipush 10, 0, 0) := by decide +kernel
theorem ri_6_26 : ro_ix 6 26 = some (26, .newarray .int, 0, 0) := by decide +kernel
theorem ri_6_28 : ro_ix 6 28 = some (28, .putfield 22, 7, 4) := by decide +kernel
theorem ri_6_31 : ro_ix 6 31 = some (31, .aload_n 0, 0, 0) := by decide +kernel
theorem ri_6_32 : ro_ix 6 32 = some (32, .aload_n 1, 0, 0) := by decide +kernel
theorem ri_6_33 : ro_ix 6 33 = some (33, .putfield 25, 7, 0) := by decide +kernel
theorem ri_6_36 : ro_ix 6 36 = some (36, .aload_n 0, 0, 0) := by decide +kernel
theorem ri_6_37 : ro_ix 6 37 = some (37, .aload_n 2, 0, 0) := by decide +kernel
theorem ri_6_38 : ro_ix 6 38 = some (38, .putfield 29, 7, 1) := by decide +kernel
theorem ri_6_41 : ro_ix 6 41 = some (41, .return_, 0, 0) := by decide +kernel
/-- RefusedOnce$Chances.<init>(LRefusedOnce$Land;LRefusedOnce$Law;)V -/
theorem rm_7 : (ro_m 7).2.2.1 = 3 ∧ (ro_m 7).2.2.2.1 = none ∧ (ro_m 7).2.2.2.2.1 = 1 ∧ (ro_m 7).2.2.2.2.2.1 = 2 := ⟨rfl, rfl, rfl, rfl⟩
theorem ri_7_0 : ro_ix 7 0 = some (0, .aload_n 0, 0, 0) := by decide +kernel
theorem ri_7_1 : ro_ix 7 1 = some (1, .invokespecial 3, 0, 2) := by decide +kernel
theorem ri_7_4 : ro_ix 7 4 = some (4, .aload_n 0, 0, 0) := by decide +kernel
theorem ri_7_5 : ro_ix 7 5 = some (5, .new 9, 8, 0) := by decide +kernel
theorem ri_7_8 : ro_ix 7 8 = some (8, .dup, 0, 0) := by decide +kernel
theorem ri_7_9 : ro_ix 7 9 = some (9, .invokespecial 11, 2, 1) := by decide +kernel
theorem ri_7_12 : ro_ix 7 12 = some (12, .putfield 12, 1, 2) := by decide +kernel
theorem ri_7_15 : ro_ix 7 15 = some (15, .aload_n 0, 0, 0) := by decide +kernel
theorem ri_7_16 : ro_ix 7 16 = some (16, .bipush 9, 0, 0) := by decide +kernel
theorem ri_7_18 : ro_ix 7 18 = some (18, .newarray .long, 0, 0) := by decide +kernel
theorem ri_7_20 : ro_ix 7 20 = some (20, .putfield 18, 1, 3) := by decide +kernel
theorem ri_7_23 : ro_ix 7 23 = some (23, .aload_n 0, 0, 0) := by decide +kernel
theorem ri_7_24 : ro_ix 7 24 = some (24, .bipush 9, 0, 0) := by decide +kernel
theorem ri_7_26 : ro_ix 7 26 = some (26, .newarray .long, 0, 0) := by decide +kernel
theorem ri_7_28 : ro_ix 7 28 = some (28, .putfield 22, 1, 4) := by decide +kernel
theorem ri_7_31 : ro_ix 7 31 = some (31, .aload_n 0, 0, 0) := by decide +kernel
theorem ri_7_32 : ro_ix 7 32 = some (32, .lconst 1, 0, 0) := by decide +kernel
theorem ri_7_33 : ro_ix 7 33 = some (33, .putfield 25, 1, 6) := by decide +kernel
theorem ri_7_36 : ro_ix 7 36 = some (36, .aload_n 0, 0, 0) := by decide +kernel
theorem ri_7_37 : ro_ix 7 37 = some (37, .aload_n 1, 0, 0) := by decide +kernel
theorem ri_7_38 : ro_ix 7 38 = some (38, .putfield 29, 1, 0) := by decide +kernel
theorem ri_7_41 : ro_ix 7 41 = some (41, .aload_n 0, 0, 0) := by decide +kernel
theorem ri_7_42 : ro_ix 7 42 = some (42, .aload_n 2, 0, 0) := by decide +kernel
theorem ri_7_43 : ro_ix 7 43 = some (43, .putfield 33, 1, 1) := by decide +kernel
theorem ri_7_46 : ro_ix 7 46 = some (46, .return_, 0, 0) := by decide +kernel
/-- RefusedOnce$Changes.<init>()V -/
theorem rm_8 : (ro_m 8).2.2.1 = 1 ∧ (ro_m 8).2.2.2.1 = none ∧ (ro_m 8).2.2.2.2.1 = 2 ∧ (ro_m 8).2.2.2.2.2.1 = 0 := ⟨rfl, rfl, rfl, rfl⟩
theorem ri_8_0 : ro_ix 8 0 = some (0, .aload_n 0, 0, 0) := by decide +kernel
theorem ri_8_1 : ro_ix 8 1 = some (1, .invokespecial 1, 0, 2) := by decide +kernel
theorem ri_8_4 : ro_ix 8 4 = some (4, .aload_n 0, 0, 0) := by decide +kernel
theorem ri_8_5 : ro_ix 8 5 = some (5, .bipush 40, 0, 0) := by decide +kernel
theorem ri_8_7 : ro_ix 8 7 = some (7, .newarray .int, 0, 0) := by decide +kernel
theorem ri_8_9 : ro_ix 8 9 = some (9, .putfield 9, 2, 0) := by decide +kernel
theorem ri_8_12 : ro_ix 8 12 = some (12, .aload_n 0, 0, 0) := by decide +kernel
theorem ri_8_13 : ro_ix 8 13 = some (13, .bipush 40, 0, 0) := by decide +kernel
theorem ri_8_15 : ro_ix 8 15 = some (15, .newarray .int, 0, 0) := by decide +kernel
theorem ri_8_17 : ro_ix 8 17 = some (17, .putfield 13, 2, 1) := by decide +kernel
theorem ri_8_20 : ro_ix 8 20 = some (20, .aload_n 0, 0, 0) := by decide +kernel
theorem ri_8_21 : ro_ix 8 21 = some (21, .bipush 40, 0, 0) := by decide +kernel
theorem ri_8_23 : ro_ix 8 23 = some (23, .newarray .int, 0, 0) := by decide +kernel
theorem ri_8_25 : ro_ix 8 25 = some (25, .putfield 16, 2, 2) := by decide +kernel
theorem ri_8_28 : ro_ix 8 28 = some (28, .aload_n 0, 0, 0) := by decide +kernel
theorem ri_8_29 : ro_ix 8 29 = some (29, .bipush 40, 0, 0) := by decide +kernel
theorem ri_8_31 : ro_ix 8 31 = some (31, .newarray .int, 0, 0) := by decide +kernel
theorem ri_8_33 : ro_ix 8 33 = some (33, .putfield 19, 2, 3) := by decide +kernel
theorem ri_8_36 : ro_ix 8 36 = some (36, .return_, 0, 0) := by decide +kernel
/-- RefusedOnce$Bodies.<init>()V -/
theorem rm_9 : (ro_m 9).2.2.1 = 1 ∧ (ro_m 9).2.2.2.1 = none ∧ (ro_m 9).2.2.2.2.1 = 0 ∧ (ro_m 9).2.2.2.2.2.1 = 0 := ⟨rfl, rfl, rfl, rfl⟩
theorem ri_9_0 : ro_ix 9 0 = some (0, .aload_n 0, 0, 0) := by decide +kernel
theorem ri_9_1 : ro_ix 9 1 = some (1, .invokespecial 3, 0, 2) := by decide +kernel
theorem ri_9_4 : ro_ix 9 4 = some (4, .aload_n 0, 0, 0) := by decide +kernel
theorem ri_9_5 : ro_ix 9 5 = some (5, .bipush 50, 0, 0) := by decide +kernel
theorem ri_9_7 : ro_ix 9 7 = some (7, .newarray .int, 0, 0) := by decide +kernel
theorem ri_9_9 : ro_ix 9 9 = some (9, .putfield 11, 0, 0) := by decide +kernel
theorem ri_9_12 : ro_ix 9 12 = some (12, .aload_n 0, 0, 0) := by decide +kernel
theorem ri_9_13 : ro_ix 9 13 = some (13, .bipush 24, 0, 0) := by decide +kernel
theorem ri_9_15 : ro_ix 9 15 = some (15, .newarray .int, 0, 0) := by decide +kernel
theorem ri_9_17 : ro_ix 9 17 = some (17, .putfield 15, 0, 1) := by decide +kernel
theorem ri_9_20 : ro_ix 9 20 = some (20, .return_, 0, 0) := by decide +kernel
/-- RefusedOnce$Ways.<init>(LRefusedOnce$Land;LRefusedOnce$Evening;)V -/
theorem rm_10 : (ro_m 10).2.2.1 = 3 ∧ (ro_m 10).2.2.2.1 = none ∧ (ro_m 10).2.2.2.2.1 = 10 ∧ (ro_m 10).2.2.2.2.2.1 = 2 := ⟨rfl, rfl, rfl, rfl⟩
theorem ri_10_0 : ro_ix 10 0 = some (0, .aload_n 0, 0, 0) := by decide +kernel
theorem ri_10_1 : ro_ix 10 1 = some (1, .invokespecial 3, 0, 2) := by decide +kernel
theorem ri_10_4 : ro_ix 10 4 = some (4, .aload_n 0, 0, 0) := by decide +kernel
theorem ri_10_5 : ro_ix 10 5 = some (5, .bipush 21, 0, 0) := by decide +kernel
theorem ri_10_7 : ro_ix 10 7 = some (7, .bipush 12, 0, 0) := by decide +kernel
theorem ri_10_9 : ro_ix 10 9 = some (9, .multianewarray 11 2, 0, 0) := by decide +kernel
theorem ri_10_13 : ro_ix 10 13 = some (13, .putfield 13, 10, 2) := by decide +kernel
theorem ri_10_16 : ro_ix 10 16 = some (16, .aload_n 0, 0, 0) := by decide +kernel
theorem ri_10_17 : ro_ix 10 17 = some (17, .bipush 21, 0, 0) := by decide +kernel
theorem ri_10_19 : ro_ix 10 19 = some (19, .bipush 12, 0, 0) := by decide +kernel
theorem ri_10_21 : ro_ix 10 21 = some (21, .multianewarray 11 2, 0, 0) := by decide +kernel
theorem ri_10_25 : ro_ix 10 25 = some (25, .putfield 16, 10, 3) := by decide +kernel
theorem ri_10_28 : ro_ix 10 28 = some (28, .aload_n 0, 0, 0) := by decide +kernel
theorem ri_10_29 : ro_ix 10 29 = some (29, .bipush 21, 0, 0) := by decide +kernel
theorem ri_10_31 : ro_ix 10 31 = some (31, .bipush 12, 0, 0) := by decide +kernel
theorem ri_10_33 : ro_ix 10 33 = some (33, .multianewarray 11 2, 0, 0) := by decide +kernel
theorem ri_10_37 : ro_ix 10 37 = some (37, .putfield 19, 10, 4) := by decide +kernel
theorem ri_10_40 : ro_ix 10 40 = some (40, .aload_n 0, 0, 0) := by decide +kernel
theorem ri_10_41 : ro_ix 10 41 = some (41, .bipush 21, 0, 0) := by decide +kernel
theorem ri_10_43 : ro_ix 10 43 = some (43, .bipush 12, 0, 0) := by decide +kernel
theorem ri_10_45 : ro_ix 10 45 = some (45, .multianewarray 11 2, 0, 0) := by decide +kernel
theorem ri_10_49 : ro_ix 10 49 = some (49, .putfield 22, 10, 5) := by decide +kernel
theorem ri_10_52 : ro_ix 10 52 = some (52, .aload_n 0, 0, 0) := by decide +kernel
theorem ri_10_53 : ro_ix 10 53 = some (53, .sipush 1024, 0, 0) := by decide +kernel
theorem ri_10_56 : ro_ix 10 56 = some (56, .newarray .int, 0, 0) := by decide +kernel
theorem ri_10_58 : ro_ix 10 58 = some (58, .putfield 25, 10, 6) := by decide +kernel
theorem ri_10_61 : ro_ix 10 61 = some (61, .aload_n 0, 0, 0) := by decide +kernel
theorem ri_10_62 : ro_ix 10 62 = some (62, .sipush 8192, 0, 0) := by decide +kernel
theorem ri_10_65 : ro_ix 10 65 = some (65, .newarray .int, 0, 0) := by decide +kernel
theorem ri_10_67 : ro_ix 10 67 = some (67, .putfield 29, 10, 7) := by decide +kernel
theorem ri_10_70 : ro_ix 10 70 = some (70, .aload_n 0, 0, 0) := by decide +kernel
theorem ri_10_71 : ro_ix 10 71 = some (71, .new 32, 6, 0) := by decide +kernel
theorem ri_10_74 : ro_ix 10 74 = some (74, .dup, 0, 0) := by decide +kernel
theorem ri_10_75 : ro_ix 10 75 = some (75, .invokespecial 34, 11, 1) := by decide +kernel
theorem ri_10_78 : ro_ix 10 78 = some (78, .putfield 35, 10, 8) := by decide +kernel
theorem ri_10_81 : ro_ix 10 81 = some (81, .aload_n 0, 0, 0) := by decide +kernel
theorem ri_10_82 : ro_ix 10 82 = some (82, .new 32, 6, 0) := by decide +kernel
theorem ri_10_85 : ro_ix 10 85 = some (85, .dup, 0, 0) := by decide +kernel
theorem ri_10_86 : ro_ix 10 86 = some (86, .invokespecial 34, 11, 1) := by decide +kernel
theorem ri_10_89 : ro_ix 10 89 = some (89, .putfield 39, 10, 9) := by decide +kernel
theorem ri_10_92 : ro_ix 10 92 = some (92, .aload_n 0, 0, 0) := by decide +kernel
theorem ri_10_93 : ro_ix 10 93 = some (93, .aload_n 1, 0, 0) := by decide +kernel
theorem ri_10_94 : ro_ix 10 94 = some (94, .putfield 42, 10, 0) := by decide +kernel
theorem ri_10_97 : ro_ix 10 97 = some (97, .aload_n 0, 0, 0) := by decide +kernel
theorem ri_10_98 : ro_ix 10 98 = some (98, .aload_n 2, 0, 0) := by decide +kernel
theorem ri_10_99 : ro_ix 10 99 = some (99, .putfield 46, 10, 1) := by decide +kernel
theorem ri_10_102 : ro_ix 10 102 = some (102, .return_, 0, 0) := by decide +kernel
/-- RefusedOnce$Level.<init>()V -/
theorem rm_11 : (ro_m 11).2.2.1 = 1 ∧ (ro_m 11).2.2.2.1 = none ∧ (ro_m 11).2.2.2.2.1 = 6 ∧ (ro_m 11).2.2.2.2.2.1 = 0 := ⟨rfl, rfl, rfl, rfl⟩
theorem ri_11_0 : ro_ix 11 0 = some (0, .aload_n 0, 0, 0) := by decide +kernel
theorem ri_11_1 : ro_ix 11 1 = some (1, .invokespecial 1, 0, 2) := by decide +kernel
theorem ri_11_4 : ro_ix 11 4 = some (4, .aload_n 0, 0, 0) := by decide +kernel
theorem ri_11_5 : ro_ix 11 5 = some (5, .sipush 8192, 0, 0) := by decide +kernel
theorem ri_11_8 : ro_ix 11 8 = some (8, .newarray .long, 0, 0) := by decide +kernel
theorem ri_11_10 : ro_ix 11 10 = some (10, .putfield 9, 6, 0) := by decide +kernel
theorem ri_11_13 : ro_ix 11 13 = some (13, .aload_n 0, 0, 0) := by decide +kernel
theorem ri_11_14 : ro_ix 11 14 = some (14, .sipush 8192, 0, 0) := by decide +kernel
theorem ri_11_17 : ro_ix 11 17 = some (17, .newarray .int, 0, 0) := by decide +kernel
theorem ri_11_19 : ro_ix 11 19 = some (19, .putfield 15, 6, 1) := by decide +kernel
theorem ri_11_22 : ro_ix 11 22 = some (22, .aload_n 0, 0, 0) := by decide +kernel
theorem ri_11_23 : ro_ix 11 23 = some (23, .sipush 8192, 0, 0) := by decide +kernel
theorem ri_11_26 : ro_ix 11 26 = some (26, .newarray .int, 0, 0) := by decide +kernel
theorem ri_11_28 : ro_ix 11 28 = some (28, .putfield 19, 6, 2) := by decide +kernel
theorem ri_11_31 : ro_ix 11 31 = some (31, .aload_n 0, 0, 0) := by decide +kernel
theorem ri_11_32 : ro_ix 11 32 = some (32, .sipush 8192, 0, 0) := by decide +kernel
theorem ri_11_35 : ro_ix 11 35 = some (35, .newarray .int, 0, 0) := by decide +kernel
theorem ri_11_37 : ro_ix 11 37 = some (37, .putfield 22, 6, 3) := by decide +kernel
theorem ri_11_40 : ro_ix 11 40 = some (40, .return_, 0, 0) := by decide +kernel
/-- RefusedOnce.person(I)I -/
theorem rm_12 : (ro_m 12).2.2.1 = 2 ∧ (ro_m 12).2.2.2.1 = (some .int) ∧ (ro_m 12).2.2.2.2.1 = 11 ∧ (ro_m 12).2.2.2.2.2.1 = 1 := ⟨rfl, rfl, rfl, rfl⟩
theorem ri_12_0 : ro_ix 12 0 = some (0, .iload_n 1, 0, 0) := by decide +kernel
theorem ri_12_1 : ro_ix 12 1 = some (1, .iconst 0, 0, 0) := by decide +kernel
theorem ri_12_2 : ro_ix 12 2 = some (2, .bipush 20, 0, 0) := by decide +kernel
theorem ri_12_4 : ro_ix 12 4 = some (4, .invokestatic 76, 13, 0) := by decide +kernel
theorem ri_12_7 : ro_ix 12 7 = some (7, .ifCond .ne 5, 0, 0) := by decide +kernel
theorem ri_12_10 : ro_ix 12 10 = some (10, .iconst (-1), 0, 0) := by decide +kernel
theorem ri_12_11 : ro_ix 12 11 = some (11, .ireturn, 0, 0) := by decide +kernel
theorem ri_12_12 : ro_ix 12 12 = some (12, .aload_n 0, 0, 0) := by decide +kernel
theorem ri_12_13 : ro_ix 12 13 = some (13, .getfield 10, 11, 0) := by decide +kernel
theorem ri_12_16 : ro_ix 12 16 = some (16, .iload_n 1, 0, 0) := by decide +kernel
theorem ri_12_17 : ro_ix 12 17 = some (17, .iconst 0, 0, 0) := by decide +kernel
theorem ri_12_18 : ro_ix 12 18 = some (18, .iconst 3, 0, 0) := by decide +kernel
theorem ri_12_19 : ro_ix 12 19 = some (19, .invokevirtual 80, 14, 0) := by decide +kernel
theorem ri_12_22 : ro_ix 12 22 = some (22, .ifCond .eq 15, 0, 0) := by decide +kernel
theorem ri_12_25 : ro_ix 12 25 = some (25, .aload_n 0, 0, 0) := by decide +kernel
theorem ri_12_26 : ro_ix 12 26 = some (26, .getfield 10, 11, 0) := by decide +kernel
theorem ri_12_29 : ro_ix 12 29 = some (29, .invokevirtual 83, 18, 0) := by decide +kernel
theorem ri_12_32 : ro_ix 12 32 = some (32, .iconst 1, 0, 0) := by decide +kernel
theorem ri_12_33 : ro_ix 12 33 = some (33, .isub, 0, 0) := by decide +kernel
theorem ri_12_34 : ro_ix 12 34 = some (34, .goto 5, 0, 0) := by decide +kernel
theorem ri_12_37 : ro_ix 12 37 = some (37, .bipush (-3), 0, 0) := by decide +kernel
theorem ri_12_39 : ro_ix 12 39 = some (39, .ireturn, 0, 0) := by decide +kernel
/-- RefusedOnce.within(III)Z -/
theorem rm_13 : (ro_m 13).2.2.1 = 3 ∧ (ro_m 13).2.2.2.1 = (some .boolean) ∧ (ro_m 13).2.2.2.2.1 = 11 ∧ (ro_m 13).2.2.2.2.2.1 = 3 := ⟨rfl, rfl, rfl, rfl⟩
theorem ri_13_0 : ro_ix 13 0 = some (0, .iload_n 0, 0, 0) := by decide +kernel
theorem ri_13_1 : ro_ix 13 1 = some (1, .iload_n 1, 0, 0) := by decide +kernel
theorem ri_13_2 : ro_ix 13 2 = some (2, .if_icmp .lt 12, 0, 0) := by decide +kernel
theorem ri_13_5 : ro_ix 13 5 = some (5, .iload_n 0, 0, 0) := by decide +kernel
theorem ri_13_6 : ro_ix 13 6 = some (6, .iload_n 2, 0, 0) := by decide +kernel
theorem ri_13_7 : ro_ix 13 7 = some (7, .if_icmp .gt 7, 0, 0) := by decide +kernel
theorem ri_13_10 : ro_ix 13 10 = some (10, .iconst 1, 0, 0) := by decide +kernel
theorem ri_13_11 : ro_ix 13 11 = some (11, .goto 4, 0, 0) := by decide +kernel
theorem ri_13_14 : ro_ix 13 14 = some (14, .iconst 0, 0, 0) := by decide +kernel
theorem ri_13_15 : ro_ix 13 15 = some (15, .ireturn, 0, 0) := by decide +kernel
/-- RefusedOnce$Land.comes(III)Z -/
theorem rm_14 : (ro_m 14).2.2.1 = 5 ∧ (ro_m 14).2.2.2.1 = (some .boolean) ∧ (ro_m 14).2.2.2.2.1 = 4 ∧ (ro_m 14).2.2.2.2.2.1 = 3 := ⟨rfl, rfl, rfl, rfl⟩
theorem ri_14_0 : ro_ix 14 0 = some (0, .iconst 0, 0, 0) := by decide +kernel
theorem ri_14_1 : ro_ix 14 1 = some (1, .iload_n 1, 0, 0) := by decide +kernel
theorem ri_14_2 : ro_ix 14 2 = some (2, .invokestatic 54, 15, 0) := by decide +kernel
theorem ri_14_5 : ro_ix 14 5 = some (5, .ifCond .eq 23, 0, 0) := by decide +kernel
theorem ri_14_8 : ro_ix 14 8 = some (8, .iconst 1, 0, 0) := by decide +kernel
theorem ri_14_9 : ro_ix 14 9 = some (9, .iload_n 2, 0, 0) := by decide +kernel
theorem ri_14_10 : ro_ix 14 10 = some (10, .invokestatic 54, 15, 0) := by decide +kernel
theorem ri_14_13 : ro_ix 14 13 = some (13, .ifCond .eq 15, 0, 0) := by decide +kernel
theorem ri_14_16 : ro_ix 14 16 = some (16, .iconst 2, 0, 0) := by decide +kernel
theorem ri_14_17 : ro_ix 14 17 = some (17, .iload_n 3, 0, 0) := by decide +kernel
theorem ri_14_18 : ro_ix 14 18 = some (18, .invokestatic 54, 15, 0) := by decide +kernel
theorem ri_14_21 : ro_ix 14 21 = some (21, .ifCond .eq 7, 0, 0) := by decide +kernel
theorem ri_14_24 : ro_ix 14 24 = some (24, .iconst 1, 0, 0) := by decide +kernel
theorem ri_14_25 : ro_ix 14 25 = some (25, .goto 4, 0, 0) := by decide +kernel
theorem ri_14_28 : ro_ix 14 28 = some (28, .iconst 0, 0, 0) := by decide +kernel
theorem ri_14_29 : ro_ix 14 29 = some (29, .istore 4, 0, 0) := by decide +kernel
theorem ri_14_31 : ro_ix 14 31 = some (31, .iload 4, 0, 0) := by decide +kernel
theorem ri_14_33 : ro_ix 14 33 = some (33, .ifCond .eq 19, 0, 0) := by decide +kernel
theorem ri_14_36 : ro_ix 14 36 = some (36, .aload_n 0, 0, 0) := by decide +kernel
theorem ri_14_37 : ro_ix 14 37 = some (37, .getfield 44, 4, 4) := by decide +kernel
theorem ri_14_40 : ro_ix 14 40 = some (40, .ifCond .lt 12, 0, 0) := by decide +kernel
theorem ri_14_43 : ro_ix 14 43 = some (43, .aload_n 0, 0, 0) := by decide +kernel
theorem ri_14_44 : ro_ix 14 44 = some (44, .getfield 44, 4, 4) := by decide +kernel
theorem ri_14_47 : ro_ix 14 47 = some (47, .bipush 6, 0, 0) := by decide +kernel
theorem ri_14_49 : ro_ix 14 49 = some (49, .if_icmp .lt 5, 0, 0) := by decide +kernel
theorem ri_14_52 : ro_ix 14 52 = some (52, .iconst 0, 0, 0) := by decide +kernel
theorem ri_14_53 : ro_ix 14 53 = some (53, .ireturn, 0, 0) := by decide +kernel
theorem ri_14_54 : ro_ix 14 54 = some (54, .aload_n 0, 0, 0) := by decide +kernel
theorem ri_14_55 : ro_ix 14 55 = some (55, .getfield 12, 4, 0) := by decide +kernel
theorem ri_14_58 : ro_ix 14 58 = some (58, .aload_n 0, 0, 0) := by decide +kernel
theorem ri_14_59 : ro_ix 14 59 = some (59, .getfield 44, 4, 4) := by decide +kernel
theorem ri_14_62 : ro_ix 14 62 = some (62, .iload_n 1, 0, 0) := by decide +kernel
theorem ri_14_63 : ro_ix 14 63 = some (63, .invokevirtual 58, 16, 0) := by decide +kernel
theorem ri_14_66 : ro_ix 14 66 = some (66, .aload_n 0, 0, 0) := by decide +kernel
theorem ri_14_67 : ro_ix 14 67 = some (67, .getfield 12, 4, 0) := by decide +kernel
theorem ri_14_70 : ro_ix 14 70 = some (70, .aload_n 0, 0, 0) := by decide +kernel
theorem ri_14_71 : ro_ix 14 71 = some (71, .getfield 44, 4, 4) := by decide +kernel
theorem ri_14_74 : ro_ix 14 74 = some (74, .iload_n 2, 0, 0) := by decide +kernel
theorem ri_14_75 : ro_ix 14 75 = some (75, .invokevirtual 62, 17, 0) := by decide +kernel
theorem ri_14_78 : ro_ix 14 78 = some (78, .aload_n 0, 0, 0) := by decide +kernel
theorem ri_14_79 : ro_ix 14 79 = some (79, .getfield 18, 4, 1) := by decide +kernel
theorem ri_14_82 : ro_ix 14 82 = some (82, .aload_n 0, 0, 0) := by decide +kernel
theorem ri_14_83 : ro_ix 14 83 = some (83, .getfield 44, 4, 4) := by decide +kernel
theorem ri_14_86 : ro_ix 14 86 = some (86, .iload_n 3, 0, 0) := by decide +kernel
theorem ri_14_87 : ro_ix 14 87 = some (87, .iastore, 0, 0) := by decide +kernel
theorem ri_14_88 : ro_ix 14 88 = some (88, .aload_n 0, 0, 0) := by decide +kernel
theorem ri_14_89 : ro_ix 14 89 = some (89, .getfield 22, 4, 2) := by decide +kernel
theorem ri_14_92 : ro_ix 14 92 = some (92, .aload_n 0, 0, 0) := by decide +kernel
theorem ri_14_93 : ro_ix 14 93 = some (93, .getfield 44, 4, 4) := by decide +kernel
theorem ri_14_96 : ro_ix 14 96 = some (96, .iconst 0, 0, 0) := by decide +kernel
theorem ri_14_97 : ro_ix 14 97 = some (97, .iastore, 0, 0) := by decide +kernel
theorem ri_14_98 : ro_ix 14 98 = some (98, .aload_n 0, 0, 0) := by decide +kernel
theorem ri_14_99 : ro_ix 14 99 = some (99, .dup, 0, 0) := by decide +kernel
theorem ri_14_100 : ro_ix 14 100 = some (100, .getfield 44, 4, 4) := by decide +kernel
theorem ri_14_103 : ro_ix 14 103 = some (103, .iconst 1, 0, 0) := by decide +kernel
theorem ri_14_104 : ro_ix 14 104 = some (104, .iadd, 0, 0) := by decide +kernel
theorem ri_14_105 : ro_ix 14 105 = some (105, .putfield 44, 4, 4) := by decide +kernel
theorem ri_14_108 : ro_ix 14 108 = some (108, .iconst 1, 0, 0) := by decide +kernel
theorem ri_14_109 : ro_ix 14 109 = some (109, .ireturn, 0, 0) := by decide +kernel
/-- RefusedOnce$Land.allows(II)Z -/
theorem rm_15 : (ro_m 15).2.2.1 = 2 ∧ (ro_m 15).2.2.2.1 = (some .boolean) ∧ (ro_m 15).2.2.2.2.1 = 4 ∧ (ro_m 15).2.2.2.2.2.1 = 2 := ⟨rfl, rfl, rfl, rfl⟩
theorem ri_15_0 : ro_ix 15 0 = some (0, .iload_n 0, 0, 0) := by decide +kernel
theorem ri_15_1 : ro_ix 15 1 = some (1, .ifCond .lt 28, 0, 0) := by decide +kernel
theorem ri_15_4 : ro_ix 15 4 = some (4, .iload_n 0, 0, 0) := by decide +kernel
theorem ri_15_5 : ro_ix 15 5 = some (5, .getstatic 51, 1, 0) := by decide +kernel
theorem ri_15_8 : ro_ix 15 8 = some (8, .arraylength, 0, 0) := by decide +kernel
theorem ri_15_9 : ro_ix 15 9 = some (9, .if_icmp .ge 20, 0, 0) := by decide +kernel
theorem ri_15_12 : ro_ix 15 12 = some (12, .iload_n 1, 0, 0) := by decide +kernel
theorem ri_15_13 : ro_ix 15 13 = some (13, .ifCond .lt 16, 0, 0) := by decide +kernel
theorem ri_15_16 : ro_ix 15 16 = some (16, .iload_n 1, 0, 0) := by decide +kernel
theorem ri_15_17 : ro_ix 15 17 = some (17, .getstatic 51, 1, 0) := by decide +kernel
theorem ri_15_20 : ro_ix 15 20 = some (20, .iload_n 0, 0, 0) := by decide +kernel
theorem ri_15_21 : ro_ix 15 21 = some (21, .iaload, 0, 0) := by decide +kernel
theorem ri_15_22 : ro_ix 15 22 = some (22, .if_icmp .gt 7, 0, 0) := by decide +kernel
theorem ri_15_25 : ro_ix 15 25 = some (25, .iconst 1, 0, 0) := by decide +kernel
theorem ri_15_26 : ro_ix 15 26 = some (26, .goto 4, 0, 0) := by decide +kernel
theorem ri_15_29 : ro_ix 15 29 = some (29, .iconst 0, 0, 0) := by decide +kernel
theorem ri_15_30 : ro_ix 15 30 = some (30, .ireturn, 0, 0) := by decide +kernel
/-- RefusedOnce$Purses.setWhole(II)V -/
theorem rm_16 : (ro_m 16).2.2.1 = 3 ∧ (ro_m 16).2.2.2.1 = none ∧ (ro_m 16).2.2.2.2.1 = 8 ∧ (ro_m 16).2.2.2.2.2.1 = 2 := ⟨rfl, rfl, rfl, rfl⟩
theorem ri_16_0 : ro_ix 16 0 = some (0, .iload_n 1, 0, 0) := by decide +kernel
theorem ri_16_1 : ro_ix 16 1 = some (1, .ifCond .lt 19, 0, 0) := by decide +kernel
theorem ri_16_4 : ro_ix 16 4 = some (4, .iload_n 1, 0, 0) := by decide +kernel
theorem ri_16_5 : ro_ix 16 5 = some (5, .aload_n 0, 0, 0) := by decide +kernel
theorem ri_16_6 : ro_ix 16 6 = some (6, .getfield 9, 8, 0) := by decide +kernel
theorem ri_16_9 : ro_ix 16 9 = some (9, .arraylength, 0, 0) := by decide +kernel
theorem ri_16_10 : ro_ix 16 10 = some (10, .if_icmp .ge 10, 0, 0) := by decide +kernel
theorem ri_16_13 : ro_ix 16 13 = some (13, .aload_n 0, 0, 0) := by decide +kernel
theorem ri_16_14 : ro_ix 16 14 = some (14, .getfield 9, 8, 0) := by decide +kernel
theorem ri_16_17 : ro_ix 16 17 = some (17, .iload_n 1, 0, 0) := by decide +kernel
theorem ri_16_18 : ro_ix 16 18 = some (18, .iload_n 2, 0, 0) := by decide +kernel
theorem ri_16_19 : ro_ix 16 19 = some (19, .iastore, 0, 0) := by decide +kernel
theorem ri_16_20 : ro_ix 16 20 = some (20, .return_, 0, 0) := by decide +kernel
/-- RefusedOnce$Purses.setCut(II)V -/
theorem rm_17 : (ro_m 17).2.2.1 = 3 ∧ (ro_m 17).2.2.2.1 = none ∧ (ro_m 17).2.2.2.2.1 = 8 ∧ (ro_m 17).2.2.2.2.2.1 = 2 := ⟨rfl, rfl, rfl, rfl⟩
theorem ri_17_0 : ro_ix 17 0 = some (0, .iload_n 1, 0, 0) := by decide +kernel
theorem ri_17_1 : ro_ix 17 1 = some (1, .ifCond .lt 19, 0, 0) := by decide +kernel
theorem ri_17_4 : ro_ix 17 4 = some (4, .iload_n 1, 0, 0) := by decide +kernel
theorem ri_17_5 : ro_ix 17 5 = some (5, .aload_n 0, 0, 0) := by decide +kernel
theorem ri_17_6 : ro_ix 17 6 = some (6, .getfield 15, 8, 1) := by decide +kernel
theorem ri_17_9 : ro_ix 17 9 = some (9, .arraylength, 0, 0) := by decide +kernel
theorem ri_17_10 : ro_ix 17 10 = some (10, .if_icmp .ge 10, 0, 0) := by decide +kernel
theorem ri_17_13 : ro_ix 17 13 = some (13, .aload_n 0, 0, 0) := by decide +kernel
theorem ri_17_14 : ro_ix 17 14 = some (14, .getfield 15, 8, 1) := by decide +kernel
theorem ri_17_17 : ro_ix 17 17 = some (17, .iload_n 1, 0, 0) := by decide +kernel
theorem ri_17_18 : ro_ix 17 18 = some (18, .iload_n 2, 0, 0) := by decide +kernel
theorem ri_17_19 : ro_ix 17 19 = some (19, .iastore, 0, 0) := by decide +kernel
theorem ri_17_20 : ro_ix 17 20 = some (20, .return_, 0, 0) := by decide +kernel
/-- RefusedOnce$Land.howMany()I -/
theorem rm_18 : (ro_m 18).2.2.1 = 1 ∧ (ro_m 18).2.2.2.1 = (some .int) ∧ (ro_m 18).2.2.2.2.1 = 4 ∧ (ro_m 18).2.2.2.2.2.1 = 0 := ⟨rfl, rfl, rfl, rfl⟩
theorem ri_18_0 : ro_ix 18 0 = some (0, .aload_n 0, 0, 0) := by decide +kernel
theorem ri_18_1 : ro_ix 18 1 = some (1, .getfield 44, 4, 4) := by decide +kernel
theorem ri_18_4 : ro_ix 18 4 = some (4, .ireturn, 0, 0) := by decide +kernel
/-- RefusedOnce.shelfAt(I)LRefusedOnce$Shelf; -/
theorem rm_20 : (ro_m 20).2.2.1 = 2 ∧ (ro_m 20).2.2.2.1 = (some (.object "RefusedOnce$Shelf")) ∧ (ro_m 20).2.2.2.2.1 = 11 ∧ (ro_m 20).2.2.2.2.2.1 = 1 := ⟨rfl, rfl, rfl, rfl⟩
theorem ri_20_0 : ro_ix 20 0 = some (0, .iload_n 1, 0, 0) := by decide +kernel
theorem ri_20_1 : ro_ix 20 1 = some (1, .ifCond .lt 21, 0, 0) := by decide +kernel
theorem ri_20_4 : ro_ix 20 4 = some (4, .iload_n 1, 0, 0) := by decide +kernel
theorem ri_20_5 : ro_ix 20 5 = some (5, .aload_n 0, 0, 0) := by decide +kernel
theorem ri_20_6 : ro_ix 20 6 = some (6, .getfield 25, 11, 2) := by decide +kernel
theorem ri_20_9 : ro_ix 20 9 = some (9, .arraylength, 0, 0) := by decide +kernel
theorem ri_20_10 : ro_ix 20 10 = some (10, .if_icmp .ge 12, 0, 0) := by decide +kernel
theorem ri_20_13 : ro_ix 20 13 = some (13, .aload_n 0, 0, 0) := by decide +kernel
theorem ri_20_14 : ro_ix 20 14 = some (14, .getfield 25, 11, 2) := by decide +kernel
theorem ri_20_17 : ro_ix 20 17 = some (17, .iload_n 1, 0, 0) := by decide +kernel
theorem ri_20_18 : ro_ix 20 18 = some (18, .aaload, 0, 0) := by decide +kernel
theorem ri_20_19 : ro_ix 20 19 = some (19, .goto 4, 0, 0) := by decide +kernel
theorem ri_20_22 : ro_ix 20 22 = some (22, .aconst_null, 0, 0) := by decide +kernel
theorem ri_20_23 : ro_ix 20 23 = some (23, .areturn, 0, 0) := by decide +kernel
/-- RefusedOnce$Shelf.isEmpty()Z -/
theorem rm_21 : (ro_m 21).2.2.1 = 1 ∧ (ro_m 21).2.2.2.1 = (some .boolean) ∧ (ro_m 21).2.2.2.2.1 = 9 ∧ (ro_m 21).2.2.2.2.2.1 = 0 := ⟨rfl, rfl, rfl, rfl⟩
theorem ri_21_0 : ro_ix 21 0 = some (0, .aload_n 0, 0, 0) := by decide +kernel
theorem ri_21_1 : ro_ix 21 1 = some (1, .getfield 15, 9, 1) := by decide +kernel
theorem ri_21_4 : ro_ix 21 4 = some (4, .bipush (-2), 0, 0) := by decide +kernel
theorem ri_21_6 : ro_ix 21 6 = some (6, .if_icmp .ne 7, 0, 0) := by decide +kernel
theorem ri_21_9 : ro_ix 21 9 = some (9, .iconst 1, 0, 0) := by decide +kernel
theorem ri_21_10 : ro_ix 21 10 = some (10, .goto 4, 0, 0) := by decide +kernel
theorem ri_21_13 : ro_ix 21 13 = some (13, .iconst 0, 0, 0) := by decide +kernel
theorem ri_21_14 : ro_ix 21 14 = some (14, .ireturn, 0, 0) := by decide +kernel
/-- RefusedOnce$Shelf.holdsBytes()Z -/
theorem rm_22 : (ro_m 22).2.2.1 = 1 ∧ (ro_m 22).2.2.2.1 = (some .boolean) ∧ (ro_m 22).2.2.2.2.1 = 9 ∧ (ro_m 22).2.2.2.2.2.1 = 0 := ⟨rfl, rfl, rfl, rfl⟩
theorem ri_22_0 : ro_ix 22 0 = some (0, .aload_n 0, 0, 0) := by decide +kernel
theorem ri_22_1 : ro_ix 22 1 = some (1, .getfield 15, 9, 1) := by decide +kernel
theorem ri_22_4 : ro_ix 22 4 = some (4, .ifCond .ne 7, 0, 0) := by decide +kernel
theorem ri_22_7 : ro_ix 22 7 = some (7, .iconst 1, 0, 0) := by decide +kernel
theorem ri_22_8 : ro_ix 22 8 = some (8, .goto 4, 0, 0) := by decide +kernel
theorem ri_22_11 : ro_ix 22 11 = some (11, .iconst 0, 0, 0) := by decide +kernel
theorem ri_22_12 : ro_ix 22 12 = some (12, .ireturn, 0, 0) := by decide +kernel
/-- RefusedOnce$Shelf.length()I -/
theorem rm_24 : (ro_m 24).2.2.1 = 1 ∧ (ro_m 24).2.2.2.1 = (some .int) ∧ (ro_m 24).2.2.2.2.1 = 9 ∧ (ro_m 24).2.2.2.2.2.1 = 0 := ⟨rfl, rfl, rfl, rfl⟩
theorem ri_24_0 : ro_ix 24 0 = some (0, .aload_n 0, 0, 0) := by decide +kernel
theorem ri_24_1 : ro_ix 24 1 = some (1, .getfield 29, 9, 2) := by decide +kernel
theorem ri_24_4 : ro_ix 24 4 = some (4, .ireturn, 0, 0) := by decide +kernel
/-- RefusedOnce$Shelf.byteAt(I)I -/
theorem rm_25 : (ro_m 25).2.2.1 = 2 ∧ (ro_m 25).2.2.2.1 = (some .int) ∧ (ro_m 25).2.2.2.2.1 = 9 ∧ (ro_m 25).2.2.2.2.2.1 = 1 := ⟨rfl, rfl, rfl, rfl⟩
theorem ri_25_0 : ro_ix 25 0 = some (0, .aload_n 0, 0, 0) := by decide +kernel
theorem ri_25_1 : ro_ix 25 1 = some (1, .iload_n 1, 0, 0) := by decide +kernel
theorem ri_25_2 : ro_ix 25 2 = some (2, .invokevirtual 32, 26, 0) := by decide +kernel
theorem ri_25_5 : ro_ix 25 5 = some (5, .l2i, 0, 0) := by decide +kernel
theorem ri_25_6 : ro_ix 25 6 = some (6, .ireturn, 0, 0) := by decide +kernel
/-- RefusedOnce$Shelf.longAt(I)J -/
theorem rm_26 : (ro_m 26).2.2.1 = 2 ∧ (ro_m 26).2.2.2.1 = (some .long) ∧ (ro_m 26).2.2.2.2.1 = 9 ∧ (ro_m 26).2.2.2.2.2.1 = 1 := ⟨rfl, rfl, rfl, rfl⟩
theorem ri_26_0 : ro_ix 26 0 = some (0, .iload_n 1, 0, 0) := by decide +kernel
theorem ri_26_1 : ro_ix 26 1 = some (1, .ifCond .lt 29, 0, 0) := by decide +kernel
theorem ri_26_4 : ro_ix 26 4 = some (4, .iload_n 1, 0, 0) := by decide +kernel
theorem ri_26_5 : ro_ix 26 5 = some (5, .aload_n 0, 0, 0) := by decide +kernel
theorem ri_26_6 : ro_ix 26 6 = some (6, .getfield 29, 9, 2) := by decide +kernel
theorem ri_26_9 : ro_ix 26 9 = some (9, .if_icmp .ge 21, 0, 0) := by decide +kernel
theorem ri_26_12 : ro_ix 26 12 = some (12, .iload_n 1, 0, 0) := by decide +kernel
theorem ri_26_13 : ro_ix 26 13 = some (13, .aload_n 0, 0, 0) := by decide +kernel
theorem ri_26_14 : ro_ix 26 14 = some (14, .getfield 11, 9, 0) := by decide +kernel
theorem ri_26_17 : ro_ix 26 17 = some (17, .arraylength, 0, 0) := by decide +kernel
theorem ri_26_18 : ro_ix 26 18 = some (18, .if_icmp .ge 12, 0, 0) := by decide +kernel
theorem ri_26_21 : ro_ix 26 21 = some (21, .aload_n 0, 0, 0) := by decide +kernel
theorem ri_26_22 : ro_ix 26 22 = some (22, .getfield 11, 9, 0) := by decide +kernel
theorem ri_26_25 : ro_ix 26 25 = some (25, .iload_n 1, 0, 0) := by decide +kernel
theorem ri_26_26 : ro_ix 26 26 = some (26, .laload, 0, 0) := by decide +kernel
theorem ri_26_27 : ro_ix 26 27 = some (27, .goto 4, 0, 0) := by decide +kernel
theorem ri_26_30 : ro_ix 26 30 = some (30, .lconst 0, 0, 0) := by decide +kernel
theorem ri_26_31 : ro_ix 26 31 = some (31, .lreturn, 0, 0) := by decide +kernel
/-- RefusedOnce.mend(III)I -/
theorem rm_27 : (ro_m 27).2.2.1 = 5 ∧ (ro_m 27).2.2.2.1 = (some .int) ∧ (ro_m 27).2.2.2.2.1 = 11 ∧ (ro_m 27).2.2.2.2.2.1 = 3 := ⟨rfl, rfl, rfl, rfl⟩
theorem ri_27_0 : ro_ix 27 0 = some (0, .aload_n 0, 0, 0) := by decide +kernel
theorem ri_27_1 : ro_ix 27 1 = some (1, .getfield 10, 11, 0) := by decide +kernel
theorem ri_27_4 : ro_ix 27 4 = some (4, .iload_n 1, 0, 0) := by decide +kernel
theorem ri_27_5 : ro_ix 27 5 = some (5, .iload_n 2, 0, 0) := by decide +kernel
theorem ri_27_6 : ro_ix 27 6 = some (6, .invokevirtual 109, 28, 0) := by decide +kernel
theorem ri_27_9 : ro_ix 27 9 = some (9, .ifCond .eq 11, 0, 0) := by decide +kernel
theorem ri_27_12 : ro_ix 27 12 = some (12, .iload_n 2, 0, 0) := by decide +kernel
theorem ri_27_13 : ro_ix 27 13 = some (13, .iload_n 3, 0, 0) := by decide +kernel
theorem ri_27_14 : ro_ix 27 14 = some (14, .invokestatic 113, 15, 0) := by decide +kernel
theorem ri_27_17 : ro_ix 27 17 = some (17, .ifCond .ne 5, 0, 0) := by decide +kernel
theorem ri_27_20 : ro_ix 27 20 = some (20, .iconst (-1), 0, 0) := by decide +kernel
theorem ri_27_21 : ro_ix 27 21 = some (21, .ireturn, 0, 0) := by decide +kernel
theorem ri_27_22 : ro_ix 27 22 = some (22, .aload_n 0, 0, 0) := by decide +kernel
theorem ri_27_23 : ro_ix 27 23 = some (23, .getfield 10, 11, 0) := by decide +kernel
theorem ri_27_26 : ro_ix 27 26 = some (26, .iload_n 1, 0, 0) := by decide +kernel
theorem ri_27_27 : ro_ix 27 27 = some (27, .iload_n 2, 0, 0) := by decide +kernel
theorem ri_27_28 : ro_ix 27 28 = some (28, .invokevirtual 116, 30, 0) := by decide +kernel
theorem ri_27_31 : ro_ix 27 31 = some (31, .istore 4, 0, 0) := by decide +kernel
theorem ri_27_33 : ro_ix 27 33 = some (33, .iload 4, 0, 0) := by decide +kernel
theorem ri_27_35 : ro_ix 27 35 = some (35, .iload_n 3, 0, 0) := by decide +kernel
theorem ri_27_36 : ro_ix 27 36 = some (36, .if_icmp .eq 25, 0, 0) := by decide +kernel
theorem ri_27_39 : ro_ix 27 39 = some (39, .aload_n 0, 0, 0) := by decide +kernel
theorem ri_27_40 : ro_ix 27 40 = some (40, .getfield 10, 11, 0) := by decide +kernel
theorem ri_27_43 : ro_ix 27 43 = some (43, .iload_n 1, 0, 0) := by decide +kernel
theorem ri_27_44 : ro_ix 27 44 = some (44, .iload_n 2, 0, 0) := by decide +kernel
theorem ri_27_45 : ro_ix 27 45 = some (45, .iload_n 3, 0, 0) := by decide +kernel
theorem ri_27_46 : ro_ix 27 46 = some (46, .invokevirtual 120, 33, 0) := by decide +kernel
theorem ri_27_49 : ro_ix 27 49 = some (49, .aload_n 0, 0, 0) := by decide +kernel
theorem ri_27_50 : ro_ix 27 50 = some (50, .getfield 56, 11, 6) := by decide +kernel
theorem ri_27_53 : ro_ix 27 53 = some (53, .iload_n 1, 0, 0) := by decide +kernel
theorem ri_27_54 : ro_ix 27 54 = some (54, .iload_n 2, 0, 0) := by decide +kernel
theorem ri_27_55 : ro_ix 27 55 = some (55, .iload 4, 0, 0) := by decide +kernel
theorem ri_27_57 : ro_ix 27 57 = some (57, .iload_n 3, 0, 0) := by decide +kernel
theorem ri_27_58 : ro_ix 27 58 = some (58, .invokevirtual 124, 34, 0) := by decide +kernel
theorem ri_27_61 : ro_ix 27 61 = some (61, .iload 4, 0, 0) := by decide +kernel
theorem ri_27_63 : ro_ix 27 63 = some (63, .ireturn, 0, 0) := by decide +kernel
/-- RefusedOnce$Land.has(II)Z -/
theorem rm_28 : (ro_m 28).2.2.1 = 3 ∧ (ro_m 28).2.2.2.1 = (some .boolean) ∧ (ro_m 28).2.2.2.2.1 = 4 ∧ (ro_m 28).2.2.2.2.2.1 = 2 := ⟨rfl, rfl, rfl, rfl⟩
theorem ri_28_0 : ro_ix 28 0 = some (0, .iload_n 2, 0, 0) := by decide +kernel
theorem ri_28_1 : ro_ix 28 1 = some (1, .ifCond .lt 14, 0, 0) := by decide +kernel
theorem ri_28_4 : ro_ix 28 4 = some (4, .iload_n 2, 0, 0) := by decide +kernel
theorem ri_28_5 : ro_ix 28 5 = some (5, .iconst 3, 0, 0) := by decide +kernel
theorem ri_28_6 : ro_ix 28 6 = some (6, .if_icmp .gt 9, 0, 0) := by decide +kernel
theorem ri_28_9 : ro_ix 28 9 = some (9, .aload_n 0, 0, 0) := by decide +kernel
theorem ri_28_10 : ro_ix 28 10 = some (10, .iload_n 1, 0, 0) := by decide +kernel
theorem ri_28_11 : ro_ix 28 11 = some (11, .invokevirtual 47, 29, 0) := by decide +kernel
theorem ri_28_14 : ro_ix 28 14 = some (14, .ireturn, 0, 0) := by decide +kernel
theorem ri_28_15 : ro_ix 28 15 = some (15, .iload_n 2, 0, 0) := by decide +kernel
theorem ri_28_16 : ro_ix 28 16 = some (16, .iconst 4, 0, 0) := by decide +kernel
theorem ri_28_17 : ro_ix 28 17 = some (17, .if_icmp .lt 17, 0, 0) := by decide +kernel
theorem ri_28_20 : ro_ix 28 20 = some (20, .iload_n 2, 0, 0) := by decide +kernel
theorem ri_28_21 : ro_ix 28 21 = some (21, .bipush 6, 0, 0) := by decide +kernel
theorem ri_28_23 : ro_ix 28 23 = some (23, .if_icmp .gt 11, 0, 0) := by decide +kernel
theorem ri_28_26 : ro_ix 28 26 = some (26, .iload_n 1, 0, 0) := by decide +kernel
theorem ri_28_27 : ro_ix 28 27 = some (27, .ifCond .ne 7, 0, 0) := by decide +kernel
theorem ri_28_30 : ro_ix 28 30 = some (30, .iconst 1, 0, 0) := by decide +kernel
theorem ri_28_31 : ro_ix 28 31 = some (31, .goto 4, 0, 0) := by decide +kernel
theorem ri_28_34 : ro_ix 28 34 = some (34, .iconst 0, 0, 0) := by decide +kernel
theorem ri_28_35 : ro_ix 28 35 = some (35, .ireturn, 0, 0) := by decide +kernel
/-- RefusedOnce$Land.isPerson(I)Z -/
theorem rm_29 : (ro_m 29).2.2.1 = 2 ∧ (ro_m 29).2.2.2.1 = (some .boolean) ∧ (ro_m 29).2.2.2.2.1 = 4 ∧ (ro_m 29).2.2.2.2.2.1 = 1 := ⟨rfl, rfl, rfl, rfl⟩
theorem ri_29_0 : ro_ix 29 0 = some (0, .iload_n 1, 0, 0) := by decide +kernel
theorem ri_29_1 : ro_ix 29 1 = some (1, .ifCond .lt 21, 0, 0) := by decide +kernel
theorem ri_29_4 : ro_ix 29 4 = some (4, .iload_n 1, 0, 0) := by decide +kernel
theorem ri_29_5 : ro_ix 29 5 = some (5, .aload_n 0, 0, 0) := by decide +kernel
theorem ri_29_6 : ro_ix 29 6 = some (6, .getfield 44, 4, 4) := by decide +kernel
theorem ri_29_9 : ro_ix 29 9 = some (9, .if_icmp .ge 13, 0, 0) := by decide +kernel
theorem ri_29_12 : ro_ix 29 12 = some (12, .iload_n 1, 0, 0) := by decide +kernel
theorem ri_29_13 : ro_ix 29 13 = some (13, .bipush 6, 0, 0) := by decide +kernel
theorem ri_29_15 : ro_ix 29 15 = some (15, .if_icmp .ge 7, 0, 0) := by decide +kernel
theorem ri_29_18 : ro_ix 29 18 = some (18, .iconst 1, 0, 0) := by decide +kernel
theorem ri_29_19 : ro_ix 29 19 = some (19, .goto 4, 0, 0) := by decide +kernel
theorem ri_29_22 : ro_ix 29 22 = some (22, .iconst 0, 0, 0) := by decide +kernel
theorem ri_29_23 : ro_ix 29 23 = some (23, .ireturn, 0, 0) := by decide +kernel
/-- RefusedOnce$Land.told(II)I -/
theorem rm_30 : (ro_m 30).2.2.1 = 3 ∧ (ro_m 30).2.2.2.1 = (some .int) ∧ (ro_m 30).2.2.2.2.1 = 4 ∧ (ro_m 30).2.2.2.2.2.1 = 2 := ⟨rfl, rfl, rfl, rfl⟩
theorem ri_30_0 : ro_ix 30 0 = some (0, .iload_n 2, 0, 0) := by decide +kernel
theorem ri_30_1 : ro_ix 30 1 = some (1, .tableswitch 124 0 6 #[43, 52, 61, 85, 109, 114, 119], 0, 0) := by decide +kernel
theorem ri_30_44 : ro_ix 30 44 = some (44, .aload_n 0, 0, 0) := by decide +kernel
theorem ri_30_45 : ro_ix 30 45 = some (45, .getfield 12, 4, 0) := by decide +kernel
theorem ri_30_48 : ro_ix 30 48 = some (48, .iload_n 1, 0, 0) := by decide +kernel
theorem ri_30_49 : ro_ix 30 49 = some (49, .invokevirtual 65, 31, 0) := by decide +kernel
theorem ri_30_52 : ro_ix 30 52 = some (52, .ireturn, 0, 0) := by decide +kernel
theorem ri_30_53 : ro_ix 30 53 = some (53, .aload_n 0, 0, 0) := by decide +kernel
theorem ri_30_54 : ro_ix 30 54 = some (54, .getfield 12, 4, 0) := by decide +kernel
theorem ri_30_57 : ro_ix 30 57 = some (57, .iload_n 1, 0, 0) := by decide +kernel
theorem ri_30_58 : ro_ix 30 58 = some (58, .invokevirtual 69, 32, 0) := by decide +kernel
theorem ri_30_61 : ro_ix 30 61 = some (61, .ireturn, 0, 0) := by decide +kernel
theorem ri_30_62 : ro_ix 30 62 = some (62, .iload_n 1, 0, 0) := by decide +kernel
theorem ri_30_63 : ro_ix 30 63 = some (63, .ifCond .lt 21, 0, 0) := by decide +kernel
theorem ri_30_66 : ro_ix 30 66 = some (66, .iload_n 1, 0, 0) := by decide +kernel
theorem ri_30_67 : ro_ix 30 67 = some (67, .aload_n 0, 0, 0) := by decide +kernel
theorem ri_30_68 : ro_ix 30 68 = some (68, .getfield 18, 4, 1) := by decide +kernel
theorem ri_30_71 : ro_ix 30 71 = some (71, .arraylength, 0, 0) := by decide +kernel
theorem ri_30_72 : ro_ix 30 72 = some (72, .if_icmp .ge 12, 0, 0) := by decide +kernel
theorem ri_30_75 : ro_ix 30 75 = some (75, .aload_n 0, 0, 0) := by decide +kernel
theorem ri_30_76 : ro_ix 30 76 = some (76, .getfield 18, 4, 1) := by decide +kernel
theorem ri_30_79 : ro_ix 30 79 = some (79, .iload_n 1, 0, 0) := by decide +kernel
theorem ri_30_80 : ro_ix 30 80 = some (80, .iaload, 0, 0) := by decide +kernel
theorem ri_30_81 : ro_ix 30 81 = some (81, .goto 4, 0, 0) := by decide +kernel
theorem ri_30_84 : ro_ix 30 84 = some (84, .iconst 0, 0, 0) := by decide +kernel
theorem ri_30_85 : ro_ix 30 85 = some (85, .ireturn, 0, 0) := by decide +kernel
theorem ri_30_86 : ro_ix 30 86 = some (86, .iload_n 1, 0, 0) := by decide +kernel
theorem ri_30_87 : ro_ix 30 87 = some (87, .ifCond .lt 21, 0, 0) := by decide +kernel
theorem ri_30_90 : ro_ix 30 90 = some (90, .iload_n 1, 0, 0) := by decide +kernel
theorem ri_30_91 : ro_ix 30 91 = some (91, .aload_n 0, 0, 0) := by decide +kernel
theorem ri_30_92 : ro_ix 30 92 = some (92, .getfield 22, 4, 2) := by decide +kernel
theorem ri_30_95 : ro_ix 30 95 = some (95, .arraylength, 0, 0) := by decide +kernel
theorem ri_30_96 : ro_ix 30 96 = some (96, .if_icmp .ge 12, 0, 0) := by decide +kernel
theorem ri_30_99 : ro_ix 30 99 = some (99, .aload_n 0, 0, 0) := by decide +kernel
theorem ri_30_100 : ro_ix 30 100 = some (100, .getfield 22, 4, 2) := by decide +kernel
theorem ri_30_103 : ro_ix 30 103 = some (103, .iload_n 1, 0, 0) := by decide +kernel
theorem ri_30_104 : ro_ix 30 104 = some (104, .iaload, 0, 0) := by decide +kernel
theorem ri_30_105 : ro_ix 30 105 = some (105, .goto 4, 0, 0) := by decide +kernel
theorem ri_30_108 : ro_ix 30 108 = some (108, .iconst 0, 0, 0) := by decide +kernel
theorem ri_30_109 : ro_ix 30 109 = some (109, .ireturn, 0, 0) := by decide +kernel
theorem ri_30_110 : ro_ix 30 110 = some (110, .aload_n 0, 0, 0) := by decide +kernel
theorem ri_30_111 : ro_ix 30 111 = some (111, .getfield 28, 4, 5) := by decide +kernel
theorem ri_30_114 : ro_ix 30 114 = some (114, .ireturn, 0, 0) := by decide +kernel
theorem ri_30_115 : ro_ix 30 115 = some (115, .aload_n 0, 0, 0) := by decide +kernel
theorem ri_30_116 : ro_ix 30 116 = some (116, .getfield 32, 4, 6) := by decide +kernel
theorem ri_30_119 : ro_ix 30 119 = some (119, .ireturn, 0, 0) := by decide +kernel
theorem ri_30_120 : ro_ix 30 120 = some (120, .aload_n 0, 0, 0) := by decide +kernel
theorem ri_30_121 : ro_ix 30 121 = some (121, .getfield 35, 4, 7) := by decide +kernel
theorem ri_30_124 : ro_ix 30 124 = some (124, .ireturn, 0, 0) := by decide +kernel
theorem ri_30_125 : ro_ix 30 125 = some (125, .iconst 0, 0, 0) := by decide +kernel
theorem ri_30_126 : ro_ix 30 126 = some (126, .ireturn, 0, 0) := by decide +kernel
/-- RefusedOnce$Purses.wholeOf(I)I -/
theorem rm_31 : (ro_m 31).2.2.1 = 2 ∧ (ro_m 31).2.2.2.1 = (some .int) ∧ (ro_m 31).2.2.2.2.1 = 8 ∧ (ro_m 31).2.2.2.2.2.1 = 1 := ⟨rfl, rfl, rfl, rfl⟩
theorem ri_31_0 : ro_ix 31 0 = some (0, .iload_n 1, 0, 0) := by decide +kernel
theorem ri_31_1 : ro_ix 31 1 = some (1, .ifCond .lt 21, 0, 0) := by decide +kernel
theorem ri_31_4 : ro_ix 31 4 = some (4, .iload_n 1, 0, 0) := by decide +kernel
theorem ri_31_5 : ro_ix 31 5 = some (5, .aload_n 0, 0, 0) := by decide +kernel
theorem ri_31_6 : ro_ix 31 6 = some (6, .getfield 9, 8, 0) := by decide +kernel
theorem ri_31_9 : ro_ix 31 9 = some (9, .arraylength, 0, 0) := by decide +kernel
theorem ri_31_10 : ro_ix 31 10 = some (10, .if_icmp .ge 12, 0, 0) := by decide +kernel
theorem ri_31_13 : ro_ix 31 13 = some (13, .aload_n 0, 0, 0) := by decide +kernel
theorem ri_31_14 : ro_ix 31 14 = some (14, .getfield 9, 8, 0) := by decide +kernel
theorem ri_31_17 : ro_ix 31 17 = some (17, .iload_n 1, 0, 0) := by decide +kernel
theorem ri_31_18 : ro_ix 31 18 = some (18, .iaload, 0, 0) := by decide +kernel
theorem ri_31_19 : ro_ix 31 19 = some (19, .goto 4, 0, 0) := by decide +kernel
theorem ri_31_22 : ro_ix 31 22 = some (22, .iconst 0, 0, 0) := by decide +kernel
theorem ri_31_23 : ro_ix 31 23 = some (23, .ireturn, 0, 0) := by decide +kernel
/-- RefusedOnce$Purses.cutOf(I)I -/
theorem rm_32 : (ro_m 32).2.2.1 = 2 ∧ (ro_m 32).2.2.2.1 = (some .int) ∧ (ro_m 32).2.2.2.2.1 = 8 ∧ (ro_m 32).2.2.2.2.2.1 = 1 := ⟨rfl, rfl, rfl, rfl⟩
theorem ri_32_0 : ro_ix 32 0 = some (0, .iload_n 1, 0, 0) := by decide +kernel
theorem ri_32_1 : ro_ix 32 1 = some (1, .ifCond .lt 21, 0, 0) := by decide +kernel
theorem ri_32_4 : ro_ix 32 4 = some (4, .iload_n 1, 0, 0) := by decide +kernel
theorem ri_32_5 : ro_ix 32 5 = some (5, .aload_n 0, 0, 0) := by decide +kernel
theorem ri_32_6 : ro_ix 32 6 = some (6, .getfield 15, 8, 1) := by decide +kernel
theorem ri_32_9 : ro_ix 32 9 = some (9, .arraylength, 0, 0) := by decide +kernel
theorem ri_32_10 : ro_ix 32 10 = some (10, .if_icmp .ge 12, 0, 0) := by decide +kernel
theorem ri_32_13 : ro_ix 32 13 = some (13, .aload_n 0, 0, 0) := by decide +kernel
theorem ri_32_14 : ro_ix 32 14 = some (14, .getfield 15, 8, 1) := by decide +kernel
theorem ri_32_17 : ro_ix 32 17 = some (17, .iload_n 1, 0, 0) := by decide +kernel
theorem ri_32_18 : ro_ix 32 18 = some (18, .iaload, 0, 0) := by decide +kernel
theorem ri_32_19 : ro_ix 32 19 = some (19, .goto 4, 0, 0) := by decide +kernel
theorem ri_32_22 : ro_ix 32 22 = some (22, .iconst 0, 0, 0) := by decide +kernel
theorem ri_32_23 : ro_ix 32 23 = some (23, .ireturn, 0, 0) := by decide +kernel
/-- RefusedOnce$Land.tell(III)V -/
theorem rm_33 : (ro_m 33).2.2.1 = 4 ∧ (ro_m 33).2.2.2.1 = none ∧ (ro_m 33).2.2.2.2.1 = 4 ∧ (ro_m 33).2.2.2.2.2.1 = 3 := ⟨rfl, rfl, rfl, rfl⟩
theorem ri_33_0 : ro_ix 33 0 = some (0, .iload_n 2, 0, 0) := by decide +kernel
theorem ri_33_1 : ro_ix 33 1 = some (1, .tableswitch 137 0 6 #[43, 55, 67, 90, 113, 121, 129], 0, 0) := by decide +kernel
theorem ri_33_44 : ro_ix 33 44 = some (44, .aload_n 0, 0, 0) := by decide +kernel
theorem ri_33_45 : ro_ix 33 45 = some (45, .getfield 12, 4, 0) := by decide +kernel
theorem ri_33_48 : ro_ix 33 48 = some (48, .iload_n 1, 0, 0) := by decide +kernel
theorem ri_33_49 : ro_ix 33 49 = some (49, .iload_n 3, 0, 0) := by decide +kernel
theorem ri_33_50 : ro_ix 33 50 = some (50, .invokevirtual 58, 16, 0) := by decide +kernel
theorem ri_33_53 : ro_ix 33 53 = some (53, .goto 85, 0, 0) := by decide +kernel
theorem ri_33_56 : ro_ix 33 56 = some (56, .aload_n 0, 0, 0) := by decide +kernel
theorem ri_33_57 : ro_ix 33 57 = some (57, .getfield 12, 4, 0) := by decide +kernel
theorem ri_33_60 : ro_ix 33 60 = some (60, .iload_n 1, 0, 0) := by decide +kernel
theorem ri_33_61 : ro_ix 33 61 = some (61, .iload_n 3, 0, 0) := by decide +kernel
theorem ri_33_62 : ro_ix 33 62 = some (62, .invokevirtual 62, 17, 0) := by decide +kernel
theorem ri_33_65 : ro_ix 33 65 = some (65, .goto 73, 0, 0) := by decide +kernel
theorem ri_33_68 : ro_ix 33 68 = some (68, .iload_n 1, 0, 0) := by decide +kernel
theorem ri_33_69 : ro_ix 33 69 = some (69, .ifCond .lt 69, 0, 0) := by decide +kernel
theorem ri_33_72 : ro_ix 33 72 = some (72, .iload_n 1, 0, 0) := by decide +kernel
theorem ri_33_73 : ro_ix 33 73 = some (73, .aload_n 0, 0, 0) := by decide +kernel
theorem ri_33_74 : ro_ix 33 74 = some (74, .getfield 18, 4, 1) := by decide +kernel
theorem ri_33_77 : ro_ix 33 77 = some (77, .arraylength, 0, 0) := by decide +kernel
theorem ri_33_78 : ro_ix 33 78 = some (78, .if_icmp .ge 60, 0, 0) := by decide +kernel
theorem ri_33_81 : ro_ix 33 81 = some (81, .aload_n 0, 0, 0) := by decide +kernel
theorem ri_33_82 : ro_ix 33 82 = some (82, .getfield 18, 4, 1) := by decide +kernel
theorem ri_33_85 : ro_ix 33 85 = some (85, .iload_n 1, 0, 0) := by decide +kernel
theorem ri_33_86 : ro_ix 33 86 = some (86, .iload_n 3, 0, 0) := by decide +kernel
theorem ri_33_87 : ro_ix 33 87 = some (87, .iastore, 0, 0) := by decide +kernel
theorem ri_33_88 : ro_ix 33 88 = some (88, .goto 50, 0, 0) := by decide +kernel
theorem ri_33_91 : ro_ix 33 91 = some (91, .iload_n 1, 0, 0) := by decide +kernel
theorem ri_33_92 : ro_ix 33 92 = some (92, .ifCond .lt 46, 0, 0) := by decide +kernel
theorem ri_33_95 : ro_ix 33 95 = some (95, .iload_n 1, 0, 0) := by decide +kernel
theorem ri_33_96 : ro_ix 33 96 = some (96, .aload_n 0, 0, 0) := by decide +kernel
theorem ri_33_97 : ro_ix 33 97 = some (97, .getfield 22, 4, 2) := by decide +kernel
theorem ri_33_100 : ro_ix 33 100 = some (100, .arraylength, 0, 0) := by decide +kernel
theorem ri_33_101 : ro_ix 33 101 = some (101, .if_icmp .ge 37, 0, 0) := by decide +kernel
theorem ri_33_104 : ro_ix 33 104 = some (104, .aload_n 0, 0, 0) := by decide +kernel
theorem ri_33_105 : ro_ix 33 105 = some (105, .getfield 22, 4, 2) := by decide +kernel
theorem ri_33_108 : ro_ix 33 108 = some (108, .iload_n 1, 0, 0) := by decide +kernel
theorem ri_33_109 : ro_ix 33 109 = some (109, .iload_n 3, 0, 0) := by decide +kernel
theorem ri_33_110 : ro_ix 33 110 = some (110, .iastore, 0, 0) := by decide +kernel
theorem ri_33_111 : ro_ix 33 111 = some (111, .goto 27, 0, 0) := by decide +kernel
theorem ri_33_114 : ro_ix 33 114 = some (114, .aload_n 0, 0, 0) := by decide +kernel
theorem ri_33_115 : ro_ix 33 115 = some (115, .iload_n 3, 0, 0) := by decide +kernel
theorem ri_33_116 : ro_ix 33 116 = some (116, .putfield 28, 4, 5) := by decide +kernel
theorem ri_33_119 : ro_ix 33 119 = some (119, .goto 19, 0, 0) := by decide +kernel
theorem ri_33_122 : ro_ix 33 122 = some (122, .aload_n 0, 0, 0) := by decide +kernel
theorem ri_33_123 : ro_ix 33 123 = some (123, .iload_n 3, 0, 0) := by decide +kernel
theorem ri_33_124 : ro_ix 33 124 = some (124, .putfield 32, 4, 6) := by decide +kernel
theorem ri_33_127 : ro_ix 33 127 = some (127, .goto 11, 0, 0) := by decide +kernel
theorem ri_33_130 : ro_ix 33 130 = some (130, .aload_n 0, 0, 0) := by decide +kernel
theorem ri_33_131 : ro_ix 33 131 = some (131, .iload_n 3, 0, 0) := by decide +kernel
theorem ri_33_132 : ro_ix 33 132 = some (132, .putfield 35, 4, 7) := by decide +kernel
theorem ri_33_135 : ro_ix 33 135 = some (135, .goto 3, 0, 0) := by decide +kernel
theorem ri_33_138 : ro_ix 33 138 = some (138, .return_, 0, 0) := by decide +kernel
/-- RefusedOnce$Changes.note(IIII)V -/
theorem rm_34 : (ro_m 34).2.2.1 = 5 ∧ (ro_m 34).2.2.2.1 = none ∧ (ro_m 34).2.2.2.2.1 = 2 ∧ (ro_m 34).2.2.2.2.2.1 = 4 := ⟨rfl, rfl, rfl, rfl⟩
theorem ri_34_0 : ro_ix 34 0 = some (0, .aload_n 0, 0, 0) := by decide +kernel
theorem ri_34_1 : ro_ix 34 1 = some (1, .getfield 22, 2, 4) := by decide +kernel
theorem ri_34_4 : ro_ix 34 4 = some (4, .bipush 40, 0, 0) := by decide +kernel
theorem ri_34_6 : ro_ix 34 6 = some (6, .if_icmp .lt 7, 0, 0) := by decide +kernel
theorem ri_34_9 : ro_ix 34 9 = some (9, .aload_n 0, 0, 0) := by decide +kernel
theorem ri_34_10 : ro_ix 34 10 = some (10, .invokevirtual 26, 35, 0) := by decide +kernel
theorem ri_34_13 : ro_ix 34 13 = some (13, .aload_n 0, 0, 0) := by decide +kernel
theorem ri_34_14 : ro_ix 34 14 = some (14, .getfield 22, 2, 4) := by decide +kernel
theorem ri_34_17 : ro_ix 34 17 = some (17, .ifCond .lt 63, 0, 0) := by decide +kernel
theorem ri_34_20 : ro_ix 34 20 = some (20, .aload_n 0, 0, 0) := by decide +kernel
theorem ri_34_21 : ro_ix 34 21 = some (21, .getfield 22, 2, 4) := by decide +kernel
theorem ri_34_24 : ro_ix 34 24 = some (24, .bipush 40, 0, 0) := by decide +kernel
theorem ri_34_26 : ro_ix 34 26 = some (26, .if_icmp .ge 54, 0, 0) := by decide +kernel
theorem ri_34_29 : ro_ix 34 29 = some (29, .aload_n 0, 0, 0) := by decide +kernel
theorem ri_34_30 : ro_ix 34 30 = some (30, .getfield 9, 2, 0) := by decide +kernel
theorem ri_34_33 : ro_ix 34 33 = some (33, .aload_n 0, 0, 0) := by decide +kernel
theorem ri_34_34 : ro_ix 34 34 = some (34, .getfield 22, 2, 4) := by decide +kernel
theorem ri_34_37 : ro_ix 34 37 = some (37, .iload_n 1, 0, 0) := by decide +kernel
theorem ri_34_38 : ro_ix 34 38 = some (38, .iastore, 0, 0) := by decide +kernel
theorem ri_34_39 : ro_ix 34 39 = some (39, .aload_n 0, 0, 0) := by decide +kernel
theorem ri_34_40 : ro_ix 34 40 = some (40, .getfield 13, 2, 1) := by decide +kernel
theorem ri_34_43 : ro_ix 34 43 = some (43, .aload_n 0, 0, 0) := by decide +kernel
theorem ri_34_44 : ro_ix 34 44 = some (44, .getfield 22, 2, 4) := by decide +kernel
theorem ri_34_47 : ro_ix 34 47 = some (47, .iload_n 2, 0, 0) := by decide +kernel
theorem ri_34_48 : ro_ix 34 48 = some (48, .iastore, 0, 0) := by decide +kernel
theorem ri_34_49 : ro_ix 34 49 = some (49, .aload_n 0, 0, 0) := by decide +kernel
theorem ri_34_50 : ro_ix 34 50 = some (50, .getfield 16, 2, 2) := by decide +kernel
theorem ri_34_53 : ro_ix 34 53 = some (53, .aload_n 0, 0, 0) := by decide +kernel
theorem ri_34_54 : ro_ix 34 54 = some (54, .getfield 22, 2, 4) := by decide +kernel
theorem ri_34_57 : ro_ix 34 57 = some (57, .iload_n 3, 0, 0) := by decide +kernel
theorem ri_34_58 : ro_ix 34 58 = some (58, .iastore, 0, 0) := by decide +kernel
theorem ri_34_59 : ro_ix 34 59 = some (59, .aload_n 0, 0, 0) := by decide +kernel
theorem ri_34_60 : ro_ix 34 60 = some (60, .getfield 19, 2, 3) := by decide +kernel
theorem ri_34_63 : ro_ix 34 63 = some (63, .aload_n 0, 0, 0) := by decide +kernel
theorem ri_34_64 : ro_ix 34 64 = some (64, .getfield 22, 2, 4) := by decide +kernel
theorem ri_34_67 : ro_ix 34 67 = some (67, .iload 4, 0, 0) := by decide +kernel
theorem ri_34_69 : ro_ix 34 69 = some (69, .iastore, 0, 0) := by decide +kernel
theorem ri_34_70 : ro_ix 34 70 = some (70, .aload_n 0, 0, 0) := by decide +kernel
theorem ri_34_71 : ro_ix 34 71 = some (71, .dup, 0, 0) := by decide +kernel
theorem ri_34_72 : ro_ix 34 72 = some (72, .getfield 22, 2, 4) := by decide +kernel
theorem ri_34_75 : ro_ix 34 75 = some (75, .iconst 1, 0, 0) := by decide +kernel
theorem ri_34_76 : ro_ix 34 76 = some (76, .iadd, 0, 0) := by decide +kernel
theorem ri_34_77 : ro_ix 34 77 = some (77, .putfield 22, 2, 4) := by decide +kernel
theorem ri_34_80 : ro_ix 34 80 = some (80, .aload_n 0, 0, 0) := by decide +kernel
theorem ri_34_81 : ro_ix 34 81 = some (81, .iconst 0, 0, 0) := by decide +kernel
theorem ri_34_82 : ro_ix 34 82 = some (82, .putfield 29, 2, 5) := by decide +kernel
theorem ri_34_85 : ro_ix 34 85 = some (85, .return_, 0, 0) := by decide +kernel
/-- RefusedOnce$Changes.forgetOldest()V -/
theorem rm_35 : (ro_m 35).2.2.1 = 1 ∧ (ro_m 35).2.2.2.1 = none ∧ (ro_m 35).2.2.2.2.1 = 2 ∧ (ro_m 35).2.2.2.2.2.1 = 0 := ⟨rfl, rfl, rfl, rfl⟩
theorem ri_35_0 : ro_ix 35 0 = some (0, .aload_n 0, 0, 0) := by decide +kernel
theorem ri_35_1 : ro_ix 35 1 = some (1, .bipush 39, 0, 0) := by decide +kernel
theorem ri_35_3 : ro_ix 35 3 = some (3, .putfield 22, 2, 4) := by decide +kernel
theorem ri_35_6 : ro_ix 35 6 = some (6, .aload_n 0, 0, 0) := by decide +kernel
theorem ri_35_7 : ro_ix 35 7 = some (7, .getfield 9, 2, 0) := by decide +kernel
theorem ri_35_10 : ro_ix 35 10 = some (10, .iconst 1, 0, 0) := by decide +kernel
theorem ri_35_11 : ro_ix 35 11 = some (11, .aload_n 0, 0, 0) := by decide +kernel
theorem ri_35_12 : ro_ix 35 12 = some (12, .getfield 9, 2, 0) := by decide +kernel
theorem ri_35_15 : ro_ix 35 15 = some (15, .iconst 0, 0, 0) := by decide +kernel
theorem ri_35_16 : ro_ix 35 16 = some (16, .bipush 39, 0, 0) := by decide +kernel
theorem ri_35_18 : ro_ix 35 18 = some (18, .invokestatic 32, 0, 4) := by decide +kernel
theorem ri_35_21 : ro_ix 35 21 = some (21, .aload_n 0, 0, 0) := by decide +kernel
theorem ri_35_22 : ro_ix 35 22 = some (22, .getfield 13, 2, 1) := by decide +kernel
theorem ri_35_25 : ro_ix 35 25 = some (25, .iconst 1, 0, 0) := by decide +kernel
theorem ri_35_26 : ro_ix 35 26 = some (26, .aload_n 0, 0, 0) := by decide +kernel
theorem ri_35_27 : ro_ix 35 27 = some (27, .getfield 13, 2, 1) := by decide +kernel
theorem ri_35_30 : ro_ix 35 30 = some (30, .iconst 0, 0, 0) := by decide +kernel
theorem ri_35_31 : ro_ix 35 31 = some (31, .bipush 39, 0, 0) := by decide +kernel
theorem ri_35_33 : ro_ix 35 33 = some (33, .invokestatic 32, 0, 4) := by decide +kernel
theorem ri_35_36 : ro_ix 35 36 = some (36, .aload_n 0, 0, 0) := by decide +kernel
theorem ri_35_37 : ro_ix 35 37 = some (37, .getfield 16, 2, 2) := by decide +kernel
theorem ri_35_40 : ro_ix 35 40 = some (40, .iconst 1, 0, 0) := by decide +kernel
theorem ri_35_41 : ro_ix 35 41 = some (41, .aload_n 0, 0, 0) := by decide +kernel
theorem ri_35_42 : ro_ix 35 42 = some (42, .getfield 16, 2, 2) := by decide +kernel
theorem ri_35_45 : ro_ix 35 45 = some (45, .iconst 0, 0, 0) := by decide +kernel
theorem ri_35_46 : ro_ix 35 46 = some (46, .bipush 39, 0, 0) := by decide +kernel
theorem ri_35_48 : ro_ix 35 48 = some (48, .invokestatic 32, 0, 4) := by decide +kernel
theorem ri_35_51 : ro_ix 35 51 = some (51, .aload_n 0, 0, 0) := by decide +kernel
theorem ri_35_52 : ro_ix 35 52 = some (52, .getfield 19, 2, 3) := by decide +kernel
theorem ri_35_55 : ro_ix 35 55 = some (55, .iconst 1, 0, 0) := by decide +kernel
theorem ri_35_56 : ro_ix 35 56 = some (56, .aload_n 0, 0, 0) := by decide +kernel
theorem ri_35_57 : ro_ix 35 57 = some (57, .getfield 19, 2, 3) := by decide +kernel
theorem ri_35_60 : ro_ix 35 60 = some (60, .iconst 0, 0, 0) := by decide +kernel
theorem ri_35_61 : ro_ix 35 61 = some (61, .bipush 39, 0, 0) := by decide +kernel
theorem ri_35_63 : ro_ix 35 63 = some (63, .invokestatic 32, 0, 4) := by decide +kernel
theorem ri_35_66 : ro_ix 35 66 = some (66, .return_, 0, 0) := by decide +kernel
/-- RefusedOnce.of(II)I -/
theorem rm_36 : (ro_m 36).2.2.1 = 3 ∧ (ro_m 36).2.2.2.1 = (some .int) ∧ (ro_m 36).2.2.2.2.1 = 11 ∧ (ro_m 36).2.2.2.2.2.1 = 2 := ⟨rfl, rfl, rfl, rfl⟩
theorem ri_36_0 : ro_ix 36 0 = some (0, .aload_n 0, 0, 0) := by decide +kernel
theorem ri_36_1 : ro_ix 36 1 = some (1, .getfield 10, 11, 0) := by decide +kernel
theorem ri_36_4 : ro_ix 36 4 = some (4, .iload_n 1, 0, 0) := by decide +kernel
theorem ri_36_5 : ro_ix 36 5 = some (5, .iload_n 2, 0, 0) := by decide +kernel
theorem ri_36_6 : ro_ix 36 6 = some (6, .invokevirtual 109, 28, 0) := by decide +kernel
theorem ri_36_9 : ro_ix 36 9 = some (9, .ifCond .eq 13, 0, 0) := by decide +kernel
theorem ri_36_12 : ro_ix 36 12 = some (12, .aload_n 0, 0, 0) := by decide +kernel
theorem ri_36_13 : ro_ix 36 13 = some (13, .getfield 10, 11, 0) := by decide +kernel
theorem ri_36_16 : ro_ix 36 16 = some (16, .iload_n 1, 0, 0) := by decide +kernel
theorem ri_36_17 : ro_ix 36 17 = some (17, .iload_n 2, 0, 0) := by decide +kernel
theorem ri_36_18 : ro_ix 36 18 = some (18, .invokevirtual 116, 30, 0) := by decide +kernel
theorem ri_36_21 : ro_ix 36 21 = some (21, .ireturn, 0, 0) := by decide +kernel
theorem ri_36_22 : ro_ix 36 22 = some (22, .aload_n 0, 0, 0) := by decide +kernel
theorem ri_36_23 : ro_ix 36 23 = some (23, .getfield 10, 11, 0) := by decide +kernel
theorem ri_36_26 : ro_ix 36 26 = some (26, .iload_n 1, 0, 0) := by decide +kernel
theorem ri_36_27 : ro_ix 36 27 = some (27, .invokevirtual 128, 29, 0) := by decide +kernel
theorem ri_36_30 : ro_ix 36 30 = some (30, .ifCond .ne 5, 0, 0) := by decide +kernel
theorem ri_36_33 : ro_ix 36 33 = some (33, .iconst (-1), 0, 0) := by decide +kernel
theorem ri_36_34 : ro_ix 36 34 = some (34, .ireturn, 0, 0) := by decide +kernel
theorem ri_36_35 : ro_ix 36 35 = some (35, .iload_n 2, 0, 0) := by decide +kernel
theorem ri_36_36 : ro_ix 36 36 = some (36, .bipush 7, 0, 0) := by decide +kernel
theorem ri_36_38 : ro_ix 36 38 = some (38, .if_icmp .ne 19, 0, 0) := by decide +kernel
theorem ri_36_41 : ro_ix 36 41 = some (41, .aload_n 0, 0, 0) := by decide +kernel
theorem ri_36_42 : ro_ix 36 42 = some (42, .getfield 10, 11, 0) := by decide +kernel
theorem ri_36_45 : ro_ix 36 45 = some (45, .aload_n 0, 0, 0) := by decide +kernel
theorem ri_36_46 : ro_ix 36 46 = some (46, .getfield 10, 11, 0) := by decide +kernel
theorem ri_36_49 : ro_ix 36 49 = some (49, .getfield 132, 4, 0) := by decide +kernel
theorem ri_36_52 : ro_ix 36 52 = some (52, .iload_n 1, 0, 0) := by decide +kernel
theorem ri_36_53 : ro_ix 36 53 = some (53, .invokevirtual 136, 37, 0) := by decide +kernel
theorem ri_36_56 : ro_ix 36 56 = some (56, .ireturn, 0, 0) := by decide +kernel
theorem ri_36_57 : ro_ix 36 57 = some (57, .iload_n 2, 0, 0) := by decide +kernel
theorem ri_36_58 : ro_ix 36 58 = some (58, .bipush 8, 0, 0) := by decide +kernel
theorem ri_36_60 : ro_ix 36 60 = some (60, .if_icmp .ne 14, 0, 0) := by decide +kernel
theorem ri_36_63 : ro_ix 36 63 = some (63, .aload_n 0, 0, 0) := by decide +kernel
theorem ri_36_64 : ro_ix 36 64 = some (64, .getfield 10, 11, 0) := by decide +kernel
theorem ri_36_67 : ro_ix 36 67 = some (67, .iload_n 1, 0, 0) := by decide +kernel
theorem ri_36_68 : ro_ix 36 68 = some (68, .invokevirtual 140, 39, 0) := by decide +kernel
theorem ri_36_71 : ro_ix 36 71 = some (71, .goto 4, 0, 0) := by decide +kernel
theorem ri_36_74 : ro_ix 36 74 = some (74, .iconst (-1), 0, 0) := by decide +kernel
theorem ri_36_75 : ro_ix 36 75 = some (75, .ireturn, 0, 0) := by decide +kernel
/-- RefusedOnce$Land.farthings(LRefusedOnce$Purses;I)I -/
theorem rm_37 : (ro_m 37).2.2.1 = 3 ∧ (ro_m 37).2.2.2.1 = (some .int) ∧ (ro_m 37).2.2.2.2.1 = 4 ∧ (ro_m 37).2.2.2.2.2.1 = 2 := ⟨rfl, rfl, rfl, rfl⟩
theorem ri_37_0 : ro_ix 37 0 = some (0, .aload_n 1, 0, 0) := by decide +kernel
theorem ri_37_1 : ro_ix 37 1 = some (1, .iload_n 2, 0, 0) := by decide +kernel
theorem ri_37_2 : ro_ix 37 2 = some (2, .aload_n 0, 0, 0) := by decide +kernel
theorem ri_37_3 : ro_ix 37 3 = some (3, .getfield 28, 4, 5) := by decide +kernel
theorem ri_37_6 : ro_ix 37 6 = some (6, .invokestatic 81, 38, 0) := by decide +kernel
theorem ri_37_9 : ro_ix 37 9 = some (9, .ireturn, 0, 0) := by decide +kernel
/-- RefusedOnce$Land.farthingsBy(LRefusedOnce$Purses;II)I -/
theorem rm_38 : (ro_m 38).2.2.1 = 3 ∧ (ro_m 38).2.2.2.1 = (some .int) ∧ (ro_m 38).2.2.2.2.1 = 4 ∧ (ro_m 38).2.2.2.2.2.1 = 3 := ⟨rfl, rfl, rfl, rfl⟩
theorem ri_38_0 : ro_ix 38 0 = some (0, .iconst 4, 0, 0) := by decide +kernel
theorem ri_38_1 : ro_ix 38 1 = some (1, .aload_n 0, 0, 0) := by decide +kernel
theorem ri_38_2 : ro_ix 38 2 = some (2, .iload_n 1, 0, 0) := by decide +kernel
theorem ri_38_3 : ro_ix 38 3 = some (3, .invokevirtual 65, 31, 0) := by decide +kernel
theorem ri_38_6 : ro_ix 38 6 = some (6, .imul, 0, 0) := by decide +kernel
theorem ri_38_7 : ro_ix 38 7 = some (7, .iload_n 2, 0, 0) := by decide +kernel
theorem ri_38_8 : ro_ix 38 8 = some (8, .aload_n 0, 0, 0) := by decide +kernel
theorem ri_38_9 : ro_ix 38 9 = some (9, .iload_n 1, 0, 0) := by decide +kernel
theorem ri_38_10 : ro_ix 38 10 = some (10, .invokevirtual 69, 32, 0) := by decide +kernel
theorem ri_38_13 : ro_ix 38 13 = some (13, .imul, 0, 0) := by decide +kernel
theorem ri_38_14 : ro_ix 38 14 = some (14, .iadd, 0, 0) := by decide +kernel
theorem ri_38_15 : ro_ix 38 15 = some (15, .ireturn, 0, 0) := by decide +kernel
/-- RefusedOnce$Land.forgedThatCount(I)I -/
theorem rm_39 : (ro_m 39).2.2.1 = 2 ∧ (ro_m 39).2.2.2.1 = (some .int) ∧ (ro_m 39).2.2.2.2.1 = 4 ∧ (ro_m 39).2.2.2.2.2.1 = 1 := ⟨rfl, rfl, rfl, rfl⟩
theorem ri_39_0 : ro_ix 39 0 = some (0, .aload_n 0, 0, 0) := by decide +kernel
theorem ri_39_1 : ro_ix 39 1 = some (1, .iload_n 1, 0, 0) := by decide +kernel
theorem ri_39_2 : ro_ix 39 2 = some (2, .iconst 3, 0, 0) := by decide +kernel
theorem ri_39_3 : ro_ix 39 3 = some (3, .invokevirtual 72, 30, 0) := by decide +kernel
theorem ri_39_6 : ro_ix 39 6 = some (6, .aload_n 0, 0, 0) := by decide +kernel
theorem ri_39_7 : ro_ix 39 7 = some (7, .getfield 12, 4, 0) := by decide +kernel
theorem ri_39_10 : ro_ix 39 10 = some (10, .iload_n 1, 0, 0) := by decide +kernel
theorem ri_39_11 : ro_ix 39 11 = some (11, .invokevirtual 69, 32, 0) := by decide +kernel
theorem ri_39_14 : ro_ix 39 14 = some (14, .invokestatic 76, 1, 3) := by decide +kernel
theorem ri_39_17 : ro_ix 39 17 = some (17, .ireturn, 0, 0) := by decide +kernel
/-- RefusedOnce.feed(I)I -/
theorem rm_40 : (ro_m 40).2.2.1 = 2 ∧ (ro_m 40).2.2.2.1 = (some .int) ∧ (ro_m 40).2.2.2.2.1 = 11 ∧ (ro_m 40).2.2.2.2.2.1 = 1 := ⟨rfl, rfl, rfl, rfl⟩
theorem ri_40_0 : ro_ix 40 0 = some (0, .iload_n 1, 0, 0) := by decide +kernel
theorem ri_40_1 : ro_ix 40 1 = some (1, .iconst 0, 0, 0) := by decide +kernel
theorem ri_40_2 : ro_ix 40 2 = some (2, .sipush 255, 0, 0) := by decide +kernel
theorem ri_40_5 : ro_ix 40 5 = some (5, .invokestatic 76, 13, 0) := by decide +kernel
theorem ri_40_8 : ro_ix 40 8 = some (8, .ifCond .ne 5, 0, 0) := by decide +kernel
theorem ri_40_11 : ro_ix 40 11 = some (11, .iconst (-1), 0, 0) := by decide +kernel
theorem ri_40_12 : ro_ix 40 12 = some (12, .ireturn, 0, 0) := by decide +kernel
theorem ri_40_13 : ro_ix 40 13 = some (13, .aload_n 0, 0, 0) := by decide +kernel
theorem ri_40_14 : ro_ix 40 14 = some (14, .getfield 19, 11, 1) := by decide +kernel
theorem ri_40_17 : ro_ix 40 17 = some (17, .iload_n 1, 0, 0) := by decide +kernel
theorem ri_40_18 : ro_ix 40 18 = some (18, .invokevirtual 143, 41, 0) := by decide +kernel
theorem ri_40_21 : ro_ix 40 21 = some (21, .ifCond .eq 13, 0, 0) := by decide +kernel
theorem ri_40_24 : ro_ix 40 24 = some (24, .aload_n 0, 0, 0) := by decide +kernel
theorem ri_40_25 : ro_ix 40 25 = some (25, .getfield 19, 11, 1) := by decide +kernel
theorem ri_40_28 : ro_ix 40 28 = some (28, .invokevirtual 146, 42, 0) := by decide +kernel
theorem ri_40_31 : ro_ix 40 31 = some (31, .goto 5, 0, 0) := by decide +kernel
theorem ri_40_34 : ro_ix 40 34 = some (34, .bipush (-3), 0, 0) := by decide +kernel
theorem ri_40_36 : ro_ix 40 36 = some (36, .ireturn, 0, 0) := by decide +kernel
/-- RefusedOnce$Law.takesByte(I)Z -/
theorem rm_41 : (ro_m 41).2.2.1 = 2 ∧ (ro_m 41).2.2.2.1 = (some .boolean) ∧ (ro_m 41).2.2.2.2.1 = 5 ∧ (ro_m 41).2.2.2.2.2.1 = 1 := ⟨rfl, rfl, rfl, rfl⟩
theorem ri_41_0 : ro_ix 41 0 = some (0, .aload_n 0, 0, 0) := by decide +kernel
theorem ri_41_1 : ro_ix 41 1 = some (1, .getfield 27, 5, 5) := by decide +kernel
theorem ri_41_4 : ro_ix 41 4 = some (4, .ifCond .lt 15, 0, 0) := by decide +kernel
theorem ri_41_7 : ro_ix 41 7 = some (7, .aload_n 0, 0, 0) := by decide +kernel
theorem ri_41_8 : ro_ix 41 8 = some (8, .getfield 27, 5, 5) := by decide +kernel
theorem ri_41_11 : ro_ix 41 11 = some (11, .aload_n 0, 0, 0) := by decide +kernel
theorem ri_41_12 : ro_ix 41 12 = some (12, .getfield 11, 5, 0) := by decide +kernel
theorem ri_41_15 : ro_ix 41 15 = some (15, .arraylength, 0, 0) := by decide +kernel
theorem ri_41_16 : ro_ix 41 16 = some (16, .if_icmp .lt 5, 0, 0) := by decide +kernel
theorem ri_41_19 : ro_ix 41 19 = some (19, .iconst 0, 0, 0) := by decide +kernel
theorem ri_41_20 : ro_ix 41 20 = some (20, .ireturn, 0, 0) := by decide +kernel
theorem ri_41_21 : ro_ix 41 21 = some (21, .aload_n 0, 0, 0) := by decide +kernel
theorem ri_41_22 : ro_ix 41 22 = some (22, .getfield 11, 5, 0) := by decide +kernel
theorem ri_41_25 : ro_ix 41 25 = some (25, .aload_n 0, 0, 0) := by decide +kernel
theorem ri_41_26 : ro_ix 41 26 = some (26, .getfield 27, 5, 5) := by decide +kernel
theorem ri_41_29 : ro_ix 41 29 = some (29, .iload_n 1, 0, 0) := by decide +kernel
theorem ri_41_30 : ro_ix 41 30 = some (30, .iastore, 0, 0) := by decide +kernel
theorem ri_41_31 : ro_ix 41 31 = some (31, .aload_n 0, 0, 0) := by decide +kernel
theorem ri_41_32 : ro_ix 41 32 = some (32, .dup, 0, 0) := by decide +kernel
theorem ri_41_33 : ro_ix 41 33 = some (33, .getfield 27, 5, 5) := by decide +kernel
theorem ri_41_36 : ro_ix 41 36 = some (36, .iconst 1, 0, 0) := by decide +kernel
theorem ri_41_37 : ro_ix 41 37 = some (37, .iadd, 0, 0) := by decide +kernel
theorem ri_41_38 : ro_ix 41 38 = some (38, .putfield 27, 5, 5) := by decide +kernel
theorem ri_41_41 : ro_ix 41 41 = some (41, .iconst 1, 0, 0) := by decide +kernel
theorem ri_41_42 : ro_ix 41 42 = some (42, .ireturn, 0, 0) := by decide +kernel
/-- RefusedOnce$Law.fedBytes()I -/
theorem rm_42 : (ro_m 42).2.2.1 = 1 ∧ (ro_m 42).2.2.2.1 = (some .int) ∧ (ro_m 42).2.2.2.2.1 = 5 ∧ (ro_m 42).2.2.2.2.2.1 = 0 := ⟨rfl, rfl, rfl, rfl⟩
theorem ri_42_0 : ro_ix 42 0 = some (0, .aload_n 0, 0, 0) := by decide +kernel
theorem ri_42_1 : ro_ix 42 1 = some (1, .getfield 27, 5, 5) := by decide +kernel
theorem ri_42_4 : ro_ix 42 4 = some (4, .ireturn, 0, 0) := by decide +kernel
/-- RefusedOnce.law()I -/
theorem rm_43 : (ro_m 43).2.2.1 = 2 ∧ (ro_m 43).2.2.2.1 = (some .int) ∧ (ro_m 43).2.2.2.2.1 = 11 ∧ (ro_m 43).2.2.2.2.2.1 = 0 := ⟨rfl, rfl, rfl, rfl⟩
theorem ri_43_0 : ro_ix 43 0 = some (0, .aload_n 0, 0, 0) := by decide +kernel
theorem ri_43_1 : ro_ix 43 1 = some (1, .getfield 19, 11, 1) := by decide +kernel
theorem ri_43_4 : ro_ix 43 4 = some (4, .invokevirtual 149, 44, 0) := by decide +kernel
theorem ri_43_7 : ro_ix 43 7 = some (7, .istore_n 1, 0, 0) := by decide +kernel
theorem ri_43_8 : ro_ix 43 8 = some (8, .iload_n 1, 0, 0) := by decide +kernel
theorem ri_43_9 : ro_ix 43 9 = some (9, .ifCond .ge 7, 0, 0) := by decide +kernel
theorem ri_43_12 : ro_ix 43 12 = some (12, .iconst 1, 0, 0) := by decide +kernel
theorem ri_43_13 : ro_ix 43 13 = some (13, .goto 7, 0, 0) := by decide +kernel
theorem ri_43_16 : ro_ix 43 16 = some (16, .bipush (-100), 0, 0) := by decide +kernel
theorem ri_43_18 : ro_ix 43 18 = some (18, .iload_n 1, 0, 0) := by decide +kernel
theorem ri_43_19 : ro_ix 43 19 = some (19, .isub, 0, 0) := by decide +kernel
theorem ri_43_20 : ro_ix 43 20 = some (20, .ireturn, 0, 0) := by decide +kernel
/-- RefusedOnce$Law.read()I -/
theorem rm_44 : (ro_m 44).2.2.1 = 3 ∧ (ro_m 44).2.2.2.1 = (some .int) ∧ (ro_m 44).2.2.2.2.1 = 5 ∧ (ro_m 44).2.2.2.2.2.1 = 0 := ⟨rfl, rfl, rfl, rfl⟩
theorem ri_44_0 : ro_ix 44 0 = some (0, .aload_n 0, 0, 0) := by decide +kernel
theorem ri_44_1 : ro_ix 44 1 = some (1, .iconst 0, 0, 0) := by decide +kernel
theorem ri_44_2 : ro_ix 44 2 = some (2, .putfield 31, 5, 6) := by decide +kernel
theorem ri_44_5 : ro_ix 44 5 = some (5, .aload_n 0, 0, 0) := by decide +kernel
theorem ri_44_6 : ro_ix 44 6 = some (6, .iconst 0, 0, 0) := by decide +kernel
theorem ri_44_7 : ro_ix 44 7 = some (7, .putfield 34, 5, 7) := by decide +kernel
theorem ri_44_10 : ro_ix 44 10 = some (10, .aload_n 0, 0, 0) := by decide +kernel
theorem ri_44_11 : ro_ix 44 11 = some (11, .invokevirtual 37, 45, 0) := by decide +kernel
theorem ri_44_14 : ro_ix 44 14 = some (14, .istore_n 1, 0, 0) := by decide +kernel
theorem ri_44_15 : ro_ix 44 15 = some (15, .aload_n 0, 0, 0) := by decide +kernel
theorem ri_44_16 : ro_ix 44 16 = some (16, .iconst 0, 0, 0) := by decide +kernel
theorem ri_44_17 : ro_ix 44 17 = some (17, .putfield 27, 5, 5) := by decide +kernel
theorem ri_44_20 : ro_ix 44 20 = some (20, .iload_n 1, 0, 0) := by decide +kernel
theorem ri_44_21 : ro_ix 44 21 = some (21, .ifCond .ne 8, 0, 0) := by decide +kernel
theorem ri_44_24 : ro_ix 44 24 = some (24, .aload_n 0, 0, 0) := by decide +kernel
theorem ri_44_25 : ro_ix 44 25 = some (25, .getfield 31, 5, 6) := by decide +kernel
theorem ri_44_28 : ro_ix 44 28 = some (28, .ireturn, 0, 0) := by decide +kernel
theorem ri_44_29 : ro_ix 44 29 = some (29, .iconst 0, 0, 0) := by decide +kernel
theorem ri_44_30 : ro_ix 44 30 = some (30, .istore_n 2, 0, 0) := by decide +kernel
theorem ri_44_31 : ro_ix 44 31 = some (31, .iload_n 2, 0, 0) := by decide +kernel
theorem ri_44_32 : ro_ix 44 32 = some (32, .aload_n 0, 0, 0) := by decide +kernel
theorem ri_44_33 : ro_ix 44 33 = some (33, .getfield 34, 5, 7) := by decide +kernel
theorem ri_44_36 : ro_ix 44 36 = some (36, .if_icmp .ge 27, 0, 0) := by decide +kernel
theorem ri_44_39 : ro_ix 44 39 = some (39, .iload_n 2, 0, 0) := by decide +kernel
theorem ri_44_40 : ro_ix 44 40 = some (40, .bipush 121, 0, 0) := by decide +kernel
theorem ri_44_42 : ro_ix 44 42 = some (42, .if_icmp .ge 21, 0, 0) := by decide +kernel
theorem ri_44_45 : ro_ix 44 45 = some (45, .aload_n 0, 0, 0) := by decide +kernel
theorem ri_44_46 : ro_ix 44 46 = some (46, .getfield 18, 5, 2) := by decide +kernel
theorem ri_44_49 : ro_ix 44 49 = some (49, .iload_n 2, 0, 0) := by decide +kernel
theorem ri_44_50 : ro_ix 44 50 = some (50, .aload_n 0, 0, 0) := by decide +kernel
theorem ri_44_51 : ro_ix 44 51 = some (51, .getfield 15, 5, 1) := by decide +kernel
theorem ri_44_54 : ro_ix 44 54 = some (54, .iload_n 2, 0, 0) := by decide +kernel
theorem ri_44_55 : ro_ix 44 55 = some (55, .iaload, 0, 0) := by decide +kernel
theorem ri_44_56 : ro_ix 44 56 = some (56, .iastore, 0, 0) := by decide +kernel
theorem ri_44_57 : ro_ix 44 57 = some (57, .iinc 2 1, 0, 0) := by decide +kernel
theorem ri_44_60 : ro_ix 44 60 = some (60, .goto (-29), 0, 0) := by decide +kernel
theorem ri_44_63 : ro_ix 44 63 = some (63, .aload_n 0, 0, 0) := by decide +kernel
theorem ri_44_64 : ro_ix 44 64 = some (64, .aload_n 0, 0, 0) := by decide +kernel
theorem ri_44_65 : ro_ix 44 65 = some (65, .getfield 34, 5, 7) := by decide +kernel
theorem ri_44_68 : ro_ix 44 68 = some (68, .putfield 41, 5, 8) := by decide +kernel
theorem ri_44_71 : ro_ix 44 71 = some (71, .iconst (-1), 0, 0) := by decide +kernel
theorem ri_44_72 : ro_ix 44 72 = some (72, .ireturn, 0, 0) := by decide +kernel
/-- RefusedOnce$Law.lines()Z -/
theorem rm_45 : (ro_m 45).2.2.1 = 3 ∧ (ro_m 45).2.2.2.1 = (some .boolean) ∧ (ro_m 45).2.2.2.2.1 = 5 ∧ (ro_m 45).2.2.2.2.2.1 = 0 := ⟨rfl, rfl, rfl, rfl⟩
theorem ri_45_0 : ro_ix 45 0 = some (0, .iconst 0, 0, 0) := by decide +kernel
theorem ri_45_1 : ro_ix 45 1 = some (1, .istore_n 1, 0, 0) := by decide +kernel
theorem ri_45_2 : ro_ix 45 2 = some (2, .iload_n 1, 0, 0) := by decide +kernel
theorem ri_45_3 : ro_ix 45 3 = some (3, .bipush 120, 0, 0) := by decide +kernel
theorem ri_45_5 : ro_ix 45 5 = some (5, .if_icmp .gt 97, 0, 0) := by decide +kernel
theorem ri_45_8 : ro_ix 45 8 = some (8, .bipush (-59), 0, 0) := by decide +kernel
theorem ri_45_10 : ro_ix 45 10 = some (10, .istore_n 2, 0, 0) := by decide +kernel
theorem ri_45_11 : ro_ix 45 11 = some (11, .aload_n 0, 0, 0) := by decide +kernel
theorem ri_45_12 : ro_ix 45 12 = some (12, .iconst 0, 0, 0) := by decide +kernel
theorem ri_45_13 : ro_ix 45 13 = some (13, .iconst 0, 0, 0) := by decide +kernel
theorem ri_45_14 : ro_ix 45 14 = some (14, .invokevirtual 44, 46, 0) := by decide +kernel
theorem ri_45_17 : ro_ix 45 17 = some (17, .ifCond .ne 5, 0, 0) := by decide +kernel
theorem ri_45_20 : ro_ix 45 20 = some (20, .iconst 0, 0, 0) := by decide +kernel
theorem ri_45_21 : ro_ix 45 21 = some (21, .ireturn, 0, 0) := by decide +kernel
theorem ri_45_22 : ro_ix 45 22 = some (22, .aload_n 0, 0, 0) := by decide +kernel
theorem ri_45_23 : ro_ix 45 23 = some (23, .invokevirtual 48, 48, 0) := by decide +kernel
theorem ri_45_26 : ro_ix 45 26 = some (26, .bipush 63, 0, 0) := by decide +kernel
theorem ri_45_28 : ro_ix 45 28 = some (28, .if_icmp .ne 27, 0, 0) := by decide +kernel
theorem ri_45_31 : ro_ix 45 31 = some (31, .aload_n 0, 0, 0) := by decide +kernel
theorem ri_45_32 : ro_ix 45 32 = some (32, .dup, 0, 0) := by decide +kernel
theorem ri_45_33 : ro_ix 45 33 = some (33, .getfield 31, 5, 6) := by decide +kernel
theorem ri_45_36 : ro_ix 45 36 = some (36, .iconst 1, 0, 0) := by decide +kernel
theorem ri_45_37 : ro_ix 45 37 = some (37, .iadd, 0, 0) := by decide +kernel
theorem ri_45_38 : ro_ix 45 38 = some (38, .putfield 31, 5, 6) := by decide +kernel
theorem ri_45_41 : ro_ix 45 41 = some (41, .bipush (-63), 0, 0) := by decide +kernel
theorem ri_45_43 : ro_ix 45 43 = some (43, .istore_n 2, 0, 0) := by decide +kernel
theorem ri_45_44 : ro_ix 45 44 = some (44, .aload_n 0, 0, 0) := by decide +kernel
theorem ri_45_45 : ro_ix 45 45 = some (45, .iconst 0, 0, 0) := by decide +kernel
theorem ri_45_46 : ro_ix 45 46 = some (46, .iconst 0, 0, 0) := by decide +kernel
theorem ri_45_47 : ro_ix 45 47 = some (47, .invokevirtual 44, 46, 0) := by decide +kernel
theorem ri_45_50 : ro_ix 45 50 = some (50, .ifCond .ne 5, 0, 0) := by decide +kernel
theorem ri_45_53 : ro_ix 45 53 = some (53, .iconst 0, 0, 0) := by decide +kernel
theorem ri_45_54 : ro_ix 45 54 = some (54, .ireturn, 0, 0) := by decide +kernel
theorem ri_45_55 : ro_ix 45 55 = some (55, .aload_n 0, 0, 0) := by decide +kernel
theorem ri_45_56 : ro_ix 45 56 = some (56, .iload_n 2, 0, 0) := by decide +kernel
theorem ri_45_57 : ro_ix 45 57 = some (57, .invokevirtual 52, 51, 0) := by decide +kernel
theorem ri_45_60 : ro_ix 45 60 = some (60, .aload_n 0, 0, 0) := by decide +kernel
theorem ri_45_61 : ro_ix 45 61 = some (61, .invokevirtual 48, 48, 0) := by decide +kernel
theorem ri_45_64 : ro_ix 45 64 = some (64, .bipush 59, 0, 0) := by decide +kernel
theorem ri_45_66 : ro_ix 45 66 = some (66, .if_icmp .eq 20, 0, 0) := by decide +kernel
theorem ri_45_69 : ro_ix 45 69 = some (69, .aload_n 0, 0, 0) := by decide +kernel
theorem ri_45_70 : ro_ix 45 70 = some (70, .getfield 31, 5, 6) := by decide +kernel
theorem ri_45_73 : ro_ix 45 73 = some (73, .aload_n 0, 0, 0) := by decide +kernel
theorem ri_45_74 : ro_ix 45 74 = some (74, .getfield 27, 5, 5) := by decide +kernel
theorem ri_45_77 : ro_ix 45 77 = some (77, .if_icmp .ne 7, 0, 0) := by decide +kernel
theorem ri_45_80 : ro_ix 45 80 = some (80, .iconst 1, 0, 0) := by decide +kernel
theorem ri_45_81 : ro_ix 45 81 = some (81, .goto 4, 0, 0) := by decide +kernel
theorem ri_45_84 : ro_ix 45 84 = some (84, .iconst 0, 0, 0) := by decide +kernel
theorem ri_45_85 : ro_ix 45 85 = some (85, .ireturn, 0, 0) := by decide +kernel
theorem ri_45_86 : ro_ix 45 86 = some (86, .aload_n 0, 0, 0) := by decide +kernel
theorem ri_45_87 : ro_ix 45 87 = some (87, .dup, 0, 0) := by decide +kernel
theorem ri_45_88 : ro_ix 45 88 = some (88, .getfield 31, 5, 6) := by decide +kernel
theorem ri_45_91 : ro_ix 45 91 = some (91, .iconst 1, 0, 0) := by decide +kernel
theorem ri_45_92 : ro_ix 45 92 = some (92, .iadd, 0, 0) := by decide +kernel
theorem ri_45_93 : ro_ix 45 93 = some (93, .putfield 31, 5, 6) := by decide +kernel
theorem ri_45_96 : ro_ix 45 96 = some (96, .iinc 1 1, 0, 0) := by decide +kernel
theorem ri_45_99 : ro_ix 45 99 = some (99, .goto (-97), 0, 0) := by decide +kernel
theorem ri_45_102 : ro_ix 45 102 = some (102, .iconst 0, 0, 0) := by decide +kernel
theorem ri_45_103 : ro_ix 45 103 = some (103, .ireturn, 0, 0) := by decide +kernel
/-- RefusedOnce$Law.joined(II)Z -/
theorem rm_46 : (ro_m 46).2.2.1 = 5 ∧ (ro_m 46).2.2.2.1 = (some .boolean) ∧ (ro_m 46).2.2.2.2.1 = 5 ∧ (ro_m 46).2.2.2.2.2.1 = 2 := ⟨rfl, rfl, rfl, rfl⟩
theorem ri_46_0 : ro_ix 46 0 = some (0, .iload_n 1, 0, 0) := by decide +kernel
theorem ri_46_1 : ro_ix 46 1 = some (1, .iconst 4, 0, 0) := by decide +kernel
theorem ri_46_2 : ro_ix 46 2 = some (2, .if_icmp .le 9, 0, 0) := by decide +kernel
theorem ri_46_5 : ro_ix 46 5 = some (5, .aload_n 0, 0, 0) := by decide +kernel
theorem ri_46_6 : ro_ix 46 6 = some (6, .iload_n 2, 0, 0) := by decide +kernel
theorem ri_46_7 : ro_ix 46 7 = some (7, .invokevirtual 56, 47, 0) := by decide +kernel
theorem ri_46_10 : ro_ix 46 10 = some (10, .ireturn, 0, 0) := by decide +kernel
theorem ri_46_11 : ro_ix 46 11 = some (11, .aload_n 0, 0, 0) := by decide +kernel
theorem ri_46_12 : ro_ix 46 12 = some (12, .iload_n 1, 0, 0) := by decide +kernel
theorem ri_46_13 : ro_ix 46 13 = some (13, .iconst 1, 0, 0) := by decide +kernel
theorem ri_46_14 : ro_ix 46 14 = some (14, .iadd, 0, 0) := by decide +kernel
theorem ri_46_15 : ro_ix 46 15 = some (15, .iload_n 2, 0, 0) := by decide +kernel
theorem ri_46_16 : ro_ix 46 16 = some (16, .invokevirtual 44, 46, 0) := by decide +kernel
theorem ri_46_19 : ro_ix 46 19 = some (19, .ifCond .ne 5, 0, 0) := by decide +kernel
theorem ri_46_22 : ro_ix 46 22 = some (22, .iconst 0, 0, 0) := by decide +kernel
theorem ri_46_23 : ro_ix 46 23 = some (23, .ireturn, 0, 0) := by decide +kernel
theorem ri_46_24 : ro_ix 46 24 = some (24, .iconst 0, 0, 0) := by decide +kernel
theorem ri_46_25 : ro_ix 46 25 = some (25, .istore_n 3, 0, 0) := by decide +kernel
theorem ri_46_26 : ro_ix 46 26 = some (26, .iload_n 3, 0, 0) := by decide +kernel
theorem ri_46_27 : ro_ix 46 27 = some (27, .bipush 120, 0, 0) := by decide +kernel
theorem ri_46_29 : ro_ix 46 29 = some (29, .if_icmp .ge 63, 0, 0) := by decide +kernel
theorem ri_46_32 : ro_ix 46 32 = some (32, .iload_n 1, 0, 0) := by decide +kernel
theorem ri_46_33 : ro_ix 46 33 = some (33, .aload_n 0, 0, 0) := by decide +kernel
theorem ri_46_34 : ro_ix 46 34 = some (34, .invokevirtual 48, 48, 0) := by decide +kernel
theorem ri_46_37 : ro_ix 46 37 = some (37, .invokestatic 60, 54, 0) := by decide +kernel
theorem ri_46_40 : ro_ix 46 40 = some (40, .ifCond .eq 52, 0, 0) := by decide +kernel
theorem ri_46_43 : ro_ix 46 43 = some (43, .aload_n 0, 0, 0) := by decide +kernel
theorem ri_46_44 : ro_ix 46 44 = some (44, .invokevirtual 48, 48, 0) := by decide +kernel
theorem ri_46_47 : ro_ix 46 47 = some (47, .istore 4, 0, 0) := by decide +kernel
theorem ri_46_49 : ro_ix 46 49 = some (49, .aload_n 0, 0, 0) := by decide +kernel
theorem ri_46_50 : ro_ix 46 50 = some (50, .dup, 0, 0) := by decide +kernel
theorem ri_46_51 : ro_ix 46 51 = some (51, .getfield 31, 5, 6) := by decide +kernel
theorem ri_46_54 : ro_ix 46 54 = some (54, .iconst 1, 0, 0) := by decide +kernel
theorem ri_46_55 : ro_ix 46 55 = some (55, .iadd, 0, 0) := by decide +kernel
theorem ri_46_56 : ro_ix 46 56 = some (56, .putfield 31, 5, 6) := by decide +kernel
theorem ri_46_59 : ro_ix 46 59 = some (59, .aload_n 0, 0, 0) := by decide +kernel
theorem ri_46_60 : ro_ix 46 60 = some (60, .iload_n 1, 0, 0) := by decide +kernel
theorem ri_46_61 : ro_ix 46 61 = some (61, .iconst 1, 0, 0) := by decide +kernel
theorem ri_46_62 : ro_ix 46 62 = some (62, .iadd, 0, 0) := by decide +kernel
theorem ri_46_63 : ro_ix 46 63 = some (63, .iload_n 2, 0, 0) := by decide +kernel
theorem ri_46_64 : ro_ix 46 64 = some (64, .invokevirtual 44, 46, 0) := by decide +kernel
theorem ri_46_67 : ro_ix 46 67 = some (67, .ifCond .ne 5, 0, 0) := by decide +kernel
theorem ri_46_70 : ro_ix 46 70 = some (70, .iconst 0, 0, 0) := by decide +kernel
theorem ri_46_71 : ro_ix 46 71 = some (71, .ireturn, 0, 0) := by decide +kernel
theorem ri_46_72 : ro_ix 46 72 = some (72, .aload_n 0, 0, 0) := by decide +kernel
theorem ri_46_73 : ro_ix 46 73 = some (73, .iload 4, 0, 0) := by decide +kernel
theorem ri_46_75 : ro_ix 46 75 = some (75, .ineg, 0, 0) := by decide +kernel
theorem ri_46_76 : ro_ix 46 76 = some (76, .invokevirtual 52, 51, 0) := by decide +kernel
theorem ri_46_79 : ro_ix 46 79 = some (79, .iload_n 1, 0, 0) := by decide +kernel
theorem ri_46_80 : ro_ix 46 80 = some (80, .iconst 2, 0, 0) := by decide +kernel
theorem ri_46_81 : ro_ix 46 81 = some (81, .if_icmp .ne 5, 0, 0) := by decide +kernel
theorem ri_46_84 : ro_ix 46 84 = some (84, .iconst 1, 0, 0) := by decide +kernel
theorem ri_46_85 : ro_ix 46 85 = some (85, .ireturn, 0, 0) := by decide +kernel
theorem ri_46_86 : ro_ix 46 86 = some (86, .iinc 3 1, 0, 0) := by decide +kernel
theorem ri_46_89 : ro_ix 46 89 = some (89, .goto (-63), 0, 0) := by decide +kernel
theorem ri_46_92 : ro_ix 46 92 = some (92, .iconst 1, 0, 0) := by decide +kernel
theorem ri_46_93 : ro_ix 46 93 = some (93, .ireturn, 0, 0) := by decide +kernel
/-- RefusedOnce$Law.operand(I)Z -/
theorem rm_47 : (ro_m 47).2.2.1 = 3 ∧ (ro_m 47).2.2.2.1 = (some .boolean) ∧ (ro_m 47).2.2.2.2.1 = 5 ∧ (ro_m 47).2.2.2.2.2.1 = 1 := ⟨rfl, rfl, rfl, rfl⟩
theorem ri_47_0 : ro_ix 47 0 = some (0, .aload_n 0, 0, 0) := by decide +kernel
theorem ri_47_1 : ro_ix 47 1 = some (1, .invokevirtual 48, 48, 0) := by decide +kernel
theorem ri_47_4 : ro_ix 47 4 = some (4, .istore_n 2, 0, 0) := by decide +kernel
theorem ri_47_5 : ro_ix 47 5 = some (5, .iload_n 2, 0, 0) := by decide +kernel
theorem ri_47_6 : ro_ix 47 6 = some (6, .invokestatic 63, 49, 0) := by decide +kernel
theorem ri_47_9 : ro_ix 47 9 = some (9, .ifCond .eq 9, 0, 0) := by decide +kernel
theorem ri_47_12 : ro_ix 47 12 = some (12, .aload_n 0, 0, 0) := by decide +kernel
theorem ri_47_13 : ro_ix 47 13 = some (13, .invokevirtual 66, 50, 0) := by decide +kernel
theorem ri_47_16 : ro_ix 47 16 = some (16, .iconst 1, 0, 0) := by decide +kernel
theorem ri_47_17 : ro_ix 47 17 = some (17, .ireturn, 0, 0) := by decide +kernel
theorem ri_47_18 : ro_ix 47 18 = some (18, .iload_n 2, 0, 0) := by decide +kernel
theorem ri_47_19 : ro_ix 47 19 = some (19, .invokestatic 69, 52, 0) := by decide +kernel
theorem ri_47_22 : ro_ix 47 22 = some (22, .ifCond .lt 21, 0, 0) := by decide +kernel
theorem ri_47_25 : ro_ix 47 25 = some (25, .aload_n 0, 0, 0) := by decide +kernel
theorem ri_47_26 : ro_ix 47 26 = some (26, .dup, 0, 0) := by decide +kernel
theorem ri_47_27 : ro_ix 47 27 = some (27, .getfield 31, 5, 6) := by decide +kernel
theorem ri_47_30 : ro_ix 47 30 = some (30, .iconst 1, 0, 0) := by decide +kernel
theorem ri_47_31 : ro_ix 47 31 = some (31, .iadd, 0, 0) := by decide +kernel
theorem ri_47_32 : ro_ix 47 32 = some (32, .putfield 31, 5, 6) := by decide +kernel
theorem ri_47_35 : ro_ix 47 35 = some (35, .aload_n 0, 0, 0) := by decide +kernel
theorem ri_47_36 : ro_ix 47 36 = some (36, .iload_n 2, 0, 0) := by decide +kernel
theorem ri_47_37 : ro_ix 47 37 = some (37, .ineg, 0, 0) := by decide +kernel
theorem ri_47_38 : ro_ix 47 38 = some (38, .invokevirtual 52, 51, 0) := by decide +kernel
theorem ri_47_41 : ro_ix 47 41 = some (41, .iconst 1, 0, 0) := by decide +kernel
theorem ri_47_42 : ro_ix 47 42 = some (42, .ireturn, 0, 0) := by decide +kernel
theorem ri_47_43 : ro_ix 47 43 = some (43, .iload_n 1, 0, 0) := by decide +kernel
theorem ri_47_44 : ro_ix 47 44 = some (44, .bipush 6, 0, 0) := by decide +kernel
theorem ri_47_46 : ro_ix 47 46 = some (46, .if_icmp .lt 5, 0, 0) := by decide +kernel
theorem ri_47_49 : ro_ix 47 49 = some (49, .iconst 0, 0, 0) := by decide +kernel
theorem ri_47_50 : ro_ix 47 50 = some (50, .ireturn, 0, 0) := by decide +kernel
theorem ri_47_51 : ro_ix 47 51 = some (51, .iload_n 2, 0, 0) := by decide +kernel
theorem ri_47_52 : ro_ix 47 52 = some (52, .bipush 40, 0, 0) := by decide +kernel
theorem ri_47_54 : ro_ix 47 54 = some (54, .if_icmp .ne 11, 0, 0) := by decide +kernel
theorem ri_47_57 : ro_ix 47 57 = some (57, .aload_n 0, 0, 0) := by decide +kernel
theorem ri_47_58 : ro_ix 47 58 = some (58, .iload_n 1, 0, 0) := by decide +kernel
theorem ri_47_59 : ro_ix 47 59 = some (59, .iconst 1, 0, 0) := by decide +kernel
theorem ri_47_60 : ro_ix 47 60 = some (60, .iadd, 0, 0) := by decide +kernel
theorem ri_47_61 : ro_ix 47 61 = some (61, .invokevirtual 73, 53, 0) := by decide +kernel
theorem ri_47_64 : ro_ix 47 64 = some (64, .ireturn, 0, 0) := by decide +kernel
theorem ri_47_65 : ro_ix 47 65 = some (65, .iload_n 2, 0, 0) := by decide +kernel
theorem ri_47_66 : ro_ix 47 66 = some (66, .bipush 33, 0, 0) := by decide +kernel
theorem ri_47_68 : ro_ix 47 68 = some (68, .if_icmp .eq 11, 0, 0) := by decide +kernel
theorem ri_47_71 : ro_ix 47 71 = some (71, .iload_n 2, 0, 0) := by decide +kernel
theorem ri_47_72 : ro_ix 47 72 = some (72, .bipush 45, 0, 0) := by decide +kernel
theorem ri_47_74 : ro_ix 47 74 = some (74, .if_icmp .eq 5, 0, 0) := by decide +kernel
theorem ri_47_77 : ro_ix 47 77 = some (77, .iconst 0, 0, 0) := by decide +kernel
theorem ri_47_78 : ro_ix 47 78 = some (78, .ireturn, 0, 0) := by decide +kernel
theorem ri_47_79 : ro_ix 47 79 = some (79, .aload_n 0, 0, 0) := by decide +kernel
theorem ri_47_80 : ro_ix 47 80 = some (80, .dup, 0, 0) := by decide +kernel
theorem ri_47_81 : ro_ix 47 81 = some (81, .getfield 31, 5, 6) := by decide +kernel
theorem ri_47_84 : ro_ix 47 84 = some (84, .iconst 1, 0, 0) := by decide +kernel
theorem ri_47_85 : ro_ix 47 85 = some (85, .iadd, 0, 0) := by decide +kernel
theorem ri_47_86 : ro_ix 47 86 = some (86, .putfield 31, 5, 6) := by decide +kernel
theorem ri_47_89 : ro_ix 47 89 = some (89, .aload_n 0, 0, 0) := by decide +kernel
theorem ri_47_90 : ro_ix 47 90 = some (90, .iload_n 1, 0, 0) := by decide +kernel
theorem ri_47_91 : ro_ix 47 91 = some (91, .iconst 1, 0, 0) := by decide +kernel
theorem ri_47_92 : ro_ix 47 92 = some (92, .iadd, 0, 0) := by decide +kernel
theorem ri_47_93 : ro_ix 47 93 = some (93, .invokevirtual 56, 47, 0) := by decide +kernel
theorem ri_47_96 : ro_ix 47 96 = some (96, .ifCond .ne 5, 0, 0) := by decide +kernel
theorem ri_47_99 : ro_ix 47 99 = some (99, .iconst 0, 0, 0) := by decide +kernel
theorem ri_47_100 : ro_ix 47 100 = some (100, .ireturn, 0, 0) := by decide +kernel
theorem ri_47_101 : ro_ix 47 101 = some (101, .aload_n 0, 0, 0) := by decide +kernel
theorem ri_47_102 : ro_ix 47 102 = some (102, .iload_n 2, 0, 0) := by decide +kernel
theorem ri_47_103 : ro_ix 47 103 = some (103, .bipush 33, 0, 0) := by decide +kernel
theorem ri_47_105 : ro_ix 47 105 = some (105, .if_icmp .ne 8, 0, 0) := by decide +kernel
theorem ri_47_108 : ro_ix 47 108 = some (108, .bipush (-33), 0, 0) := by decide +kernel
theorem ri_47_110 : ro_ix 47 110 = some (110, .goto 5, 0, 0) := by decide +kernel
theorem ri_47_113 : ro_ix 47 113 = some (113, .bipush (-126), 0, 0) := by decide +kernel
theorem ri_47_115 : ro_ix 47 115 = some (115, .invokevirtual 52, 51, 0) := by decide +kernel
theorem ri_47_118 : ro_ix 47 118 = some (118, .iconst 1, 0, 0) := by decide +kernel
theorem ri_47_119 : ro_ix 47 119 = some (119, .ireturn, 0, 0) := by decide +kernel
/-- RefusedOnce$Law.next()I -/
theorem rm_48 : (ro_m 48).2.2.1 = 1 ∧ (ro_m 48).2.2.2.1 = (some .int) ∧ (ro_m 48).2.2.2.2.1 = 5 ∧ (ro_m 48).2.2.2.2.2.1 = 0 := ⟨rfl, rfl, rfl, rfl⟩
theorem ri_48_0 : ro_ix 48 0 = some (0, .aload_n 0, 0, 0) := by decide +kernel
theorem ri_48_1 : ro_ix 48 1 = some (1, .getfield 31, 5, 6) := by decide +kernel
theorem ri_48_4 : ro_ix 48 4 = some (4, .ifCond .lt 38, 0, 0) := by decide +kernel
theorem ri_48_7 : ro_ix 48 7 = some (7, .aload_n 0, 0, 0) := by decide +kernel
theorem ri_48_8 : ro_ix 48 8 = some (8, .getfield 31, 5, 6) := by decide +kernel
theorem ri_48_11 : ro_ix 48 11 = some (11, .aload_n 0, 0, 0) := by decide +kernel
theorem ri_48_12 : ro_ix 48 12 = some (12, .getfield 27, 5, 5) := by decide +kernel
theorem ri_48_15 : ro_ix 48 15 = some (15, .if_icmp .ge 27, 0, 0) := by decide +kernel
theorem ri_48_18 : ro_ix 48 18 = some (18, .aload_n 0, 0, 0) := by decide +kernel
theorem ri_48_19 : ro_ix 48 19 = some (19, .getfield 31, 5, 6) := by decide +kernel
theorem ri_48_22 : ro_ix 48 22 = some (22, .aload_n 0, 0, 0) := by decide +kernel
theorem ri_48_23 : ro_ix 48 23 = some (23, .getfield 11, 5, 0) := by decide +kernel
theorem ri_48_26 : ro_ix 48 26 = some (26, .arraylength, 0, 0) := by decide +kernel
theorem ri_48_27 : ro_ix 48 27 = some (27, .if_icmp .ge 15, 0, 0) := by decide +kernel
theorem ri_48_30 : ro_ix 48 30 = some (30, .aload_n 0, 0, 0) := by decide +kernel
theorem ri_48_31 : ro_ix 48 31 = some (31, .getfield 11, 5, 0) := by decide +kernel
theorem ri_48_34 : ro_ix 48 34 = some (34, .aload_n 0, 0, 0) := by decide +kernel
theorem ri_48_35 : ro_ix 48 35 = some (35, .getfield 31, 5, 6) := by decide +kernel
theorem ri_48_38 : ro_ix 48 38 = some (38, .iaload, 0, 0) := by decide +kernel
theorem ri_48_39 : ro_ix 48 39 = some (39, .goto 4, 0, 0) := by decide +kernel
theorem ri_48_42 : ro_ix 48 42 = some (42, .iconst (-1), 0, 0) := by decide +kernel
theorem ri_48_43 : ro_ix 48 43 = some (43, .ireturn, 0, 0) := by decide +kernel
/-- RefusedOnce$Law.isDigit(I)Z -/
theorem rm_49 : (ro_m 49).2.2.1 = 1 ∧ (ro_m 49).2.2.2.1 = (some .boolean) ∧ (ro_m 49).2.2.2.2.1 = 5 ∧ (ro_m 49).2.2.2.2.2.1 = 1 := ⟨rfl, rfl, rfl, rfl⟩
theorem ri_49_0 : ro_ix 49 0 = some (0, .iload_n 0, 0, 0) := by decide +kernel
theorem ri_49_1 : ro_ix 49 1 = some (1, .bipush 48, 0, 0) := by decide +kernel
theorem ri_49_3 : ro_ix 49 3 = some (3, .if_icmp .lt 13, 0, 0) := by decide +kernel
theorem ri_49_6 : ro_ix 49 6 = some (6, .iload_n 0, 0, 0) := by decide +kernel
theorem ri_49_7 : ro_ix 49 7 = some (7, .bipush 57, 0, 0) := by decide +kernel
theorem ri_49_9 : ro_ix 49 9 = some (9, .if_icmp .gt 7, 0, 0) := by decide +kernel
theorem ri_49_12 : ro_ix 49 12 = some (12, .iconst 1, 0, 0) := by decide +kernel
theorem ri_49_13 : ro_ix 49 13 = some (13, .goto 4, 0, 0) := by decide +kernel
theorem ri_49_16 : ro_ix 49 16 = some (16, .iconst 0, 0, 0) := by decide +kernel
theorem ri_49_17 : ro_ix 49 17 = some (17, .ireturn, 0, 0) := by decide +kernel
/-- RefusedOnce$Law.number()V -/
theorem rm_50 : (ro_m 50).2.2.1 = 3 ∧ (ro_m 50).2.2.2.1 = none ∧ (ro_m 50).2.2.2.2.1 = 5 ∧ (ro_m 50).2.2.2.2.2.1 = 0 := ⟨rfl, rfl, rfl, rfl⟩
theorem ri_50_0 : ro_ix 50 0 = some (0, .iconst 0, 0, 0) := by decide +kernel
theorem ri_50_1 : ro_ix 50 1 = some (1, .istore_n 1, 0, 0) := by decide +kernel
theorem ri_50_2 : ro_ix 50 2 = some (2, .iconst 0, 0, 0) := by decide +kernel
theorem ri_50_3 : ro_ix 50 3 = some (3, .istore_n 2, 0, 0) := by decide +kernel
theorem ri_50_4 : ro_ix 50 4 = some (4, .iload_n 2, 0, 0) := by decide +kernel
theorem ri_50_5 : ro_ix 50 5 = some (5, .iconst 4, 0, 0) := by decide +kernel
theorem ri_50_6 : ro_ix 50 6 = some (6, .if_icmp .ge 42, 0, 0) := by decide +kernel
theorem ri_50_9 : ro_ix 50 9 = some (9, .aload_n 0, 0, 0) := by decide +kernel
theorem ri_50_10 : ro_ix 50 10 = some (10, .invokevirtual 48, 48, 0) := by decide +kernel
theorem ri_50_13 : ro_ix 50 13 = some (13, .invokestatic 63, 49, 0) := by decide +kernel
theorem ri_50_16 : ro_ix 50 16 = some (16, .ifCond .eq 32, 0, 0) := by decide +kernel
theorem ri_50_19 : ro_ix 50 19 = some (19, .iload_n 1, 0, 0) := by decide +kernel
theorem ri_50_20 : ro_ix 50 20 = some (20, .bipush 10, 0, 0) := by decide +kernel
theorem ri_50_22 : ro_ix 50 22 = some (22, .imul, 0, 0) := by decide +kernel
theorem ri_50_23 : ro_ix 50 23 = some (23, .aload_n 0, 0, 0) := by decide +kernel
theorem ri_50_24 : ro_ix 50 24 = some (24, .invokevirtual 48, 48, 0) := by decide +kernel
theorem ri_50_27 : ro_ix 50 27 = some (27, .iadd, 0, 0) := by decide +kernel
theorem ri_50_28 : ro_ix 50 28 = some (28, .bipush 48, 0, 0) := by decide +kernel
theorem ri_50_30 : ro_ix 50 30 = some (30, .isub, 0, 0) := by decide +kernel
theorem ri_50_31 : ro_ix 50 31 = some (31, .istore_n 1, 0, 0) := by decide +kernel
theorem ri_50_32 : ro_ix 50 32 = some (32, .aload_n 0, 0, 0) := by decide +kernel
theorem ri_50_33 : ro_ix 50 33 = some (33, .dup, 0, 0) := by decide +kernel
theorem ri_50_34 : ro_ix 50 34 = some (34, .getfield 31, 5, 6) := by decide +kernel
theorem ri_50_37 : ro_ix 50 37 = some (37, .iconst 1, 0, 0) := by decide +kernel
theorem ri_50_38 : ro_ix 50 38 = some (38, .iadd, 0, 0) := by decide +kernel
theorem ri_50_39 : ro_ix 50 39 = some (39, .putfield 31, 5, 6) := by decide +kernel
theorem ri_50_42 : ro_ix 50 42 = some (42, .iinc 2 1, 0, 0) := by decide +kernel
theorem ri_50_45 : ro_ix 50 45 = some (45, .goto (-41), 0, 0) := by decide +kernel
theorem ri_50_48 : ro_ix 50 48 = some (48, .aload_n 0, 0, 0) := by decide +kernel
theorem ri_50_49 : ro_ix 50 49 = some (49, .iload_n 1, 0, 0) := by decide +kernel
theorem ri_50_50 : ro_ix 50 50 = some (50, .invokevirtual 52, 51, 0) := by decide +kernel
theorem ri_50_53 : ro_ix 50 53 = some (53, .return_, 0, 0) := by decide +kernel
/-- RefusedOnce$Law.write(I)V -/
theorem rm_51 : (ro_m 51).2.2.1 = 2 ∧ (ro_m 51).2.2.2.1 = none ∧ (ro_m 51).2.2.2.2.1 = 5 ∧ (ro_m 51).2.2.2.2.2.1 = 1 := ⟨rfl, rfl, rfl, rfl⟩
theorem ri_51_0 : ro_ix 51 0 = some (0, .aload_n 0, 0, 0) := by decide +kernel
theorem ri_51_1 : ro_ix 51 1 = some (1, .getfield 34, 5, 7) := by decide +kernel
theorem ri_51_4 : ro_ix 51 4 = some (4, .ifCond .lt 35, 0, 0) := by decide +kernel
theorem ri_51_7 : ro_ix 51 7 = some (7, .aload_n 0, 0, 0) := by decide +kernel
theorem ri_51_8 : ro_ix 51 8 = some (8, .getfield 34, 5, 7) := by decide +kernel
theorem ri_51_11 : ro_ix 51 11 = some (11, .aload_n 0, 0, 0) := by decide +kernel
theorem ri_51_12 : ro_ix 51 12 = some (12, .getfield 15, 5, 1) := by decide +kernel
theorem ri_51_15 : ro_ix 51 15 = some (15, .arraylength, 0, 0) := by decide +kernel
theorem ri_51_16 : ro_ix 51 16 = some (16, .if_icmp .ge 23, 0, 0) := by decide +kernel
theorem ri_51_19 : ro_ix 51 19 = some (19, .aload_n 0, 0, 0) := by decide +kernel
theorem ri_51_20 : ro_ix 51 20 = some (20, .getfield 15, 5, 1) := by decide +kernel
theorem ri_51_23 : ro_ix 51 23 = some (23, .aload_n 0, 0, 0) := by decide +kernel
theorem ri_51_24 : ro_ix 51 24 = some (24, .getfield 34, 5, 7) := by decide +kernel
theorem ri_51_27 : ro_ix 51 27 = some (27, .iload_n 1, 0, 0) := by decide +kernel
theorem ri_51_28 : ro_ix 51 28 = some (28, .iastore, 0, 0) := by decide +kernel
theorem ri_51_29 : ro_ix 51 29 = some (29, .aload_n 0, 0, 0) := by decide +kernel
theorem ri_51_30 : ro_ix 51 30 = some (30, .dup, 0, 0) := by decide +kernel
theorem ri_51_31 : ro_ix 51 31 = some (31, .getfield 34, 5, 7) := by decide +kernel
theorem ri_51_34 : ro_ix 51 34 = some (34, .iconst 1, 0, 0) := by decide +kernel
theorem ri_51_35 : ro_ix 51 35 = some (35, .iadd, 0, 0) := by decide +kernel
theorem ri_51_36 : ro_ix 51 36 = some (36, .putfield 34, 5, 7) := by decide +kernel
theorem ri_51_39 : ro_ix 51 39 = some (39, .return_, 0, 0) := by decide +kernel
/-- RefusedOnce$Law.nameOf(I)I -/
theorem rm_52 : (ro_m 52).2.2.1 = 1 ∧ (ro_m 52).2.2.2.1 = (some .int) ∧ (ro_m 52).2.2.2.2.1 = 5 ∧ (ro_m 52).2.2.2.2.2.1 = 1 := ⟨rfl, rfl, rfl, rfl⟩
theorem ri_52_0 : ro_ix 52 0 = some (0, .iload_n 0, 0, 0) := by decide +kernel
theorem ri_52_1 : ro_ix 52 1 = some (1, .lookupswitch 71 #[(98, 61), (99, 65), (104, 67), (110, 69), (112, 59), (119, 63)], 0, 0) := by decide +kernel
theorem ri_52_60 : ro_ix 52 60 = some (60, .iconst 0, 0, 0) := by decide +kernel
theorem ri_52_61 : ro_ix 52 61 = some (61, .ireturn, 0, 0) := by decide +kernel
theorem ri_52_62 : ro_ix 52 62 = some (62, .iconst 1, 0, 0) := by decide +kernel
theorem ri_52_63 : ro_ix 52 63 = some (63, .ireturn, 0, 0) := by decide +kernel
theorem ri_52_64 : ro_ix 52 64 = some (64, .iconst 2, 0, 0) := by decide +kernel
theorem ri_52_65 : ro_ix 52 65 = some (65, .ireturn, 0, 0) := by decide +kernel
theorem ri_52_66 : ro_ix 52 66 = some (66, .iconst 3, 0, 0) := by decide +kernel
theorem ri_52_67 : ro_ix 52 67 = some (67, .ireturn, 0, 0) := by decide +kernel
theorem ri_52_68 : ro_ix 52 68 = some (68, .iconst 4, 0, 0) := by decide +kernel
theorem ri_52_69 : ro_ix 52 69 = some (69, .ireturn, 0, 0) := by decide +kernel
theorem ri_52_70 : ro_ix 52 70 = some (70, .iconst 5, 0, 0) := by decide +kernel
theorem ri_52_71 : ro_ix 52 71 = some (71, .ireturn, 0, 0) := by decide +kernel
theorem ri_52_72 : ro_ix 52 72 = some (72, .iconst (-1), 0, 0) := by decide +kernel
theorem ri_52_73 : ro_ix 52 73 = some (73, .ireturn, 0, 0) := by decide +kernel
/-- RefusedOnce$Law.inner(I)Z -/
theorem rm_53 : (ro_m 53).2.2.1 = 2 ∧ (ro_m 53).2.2.2.1 = (some .boolean) ∧ (ro_m 53).2.2.2.2.1 = 5 ∧ (ro_m 53).2.2.2.2.2.1 = 1 := ⟨rfl, rfl, rfl, rfl⟩
theorem ri_53_0 : ro_ix 53 0 = some (0, .aload_n 0, 0, 0) := by decide +kernel
theorem ri_53_1 : ro_ix 53 1 = some (1, .dup, 0, 0) := by decide +kernel
theorem ri_53_2 : ro_ix 53 2 = some (2, .getfield 31, 5, 6) := by decide +kernel
theorem ri_53_5 : ro_ix 53 5 = some (5, .iconst 1, 0, 0) := by decide +kernel
theorem ri_53_6 : ro_ix 53 6 = some (6, .iadd, 0, 0) := by decide +kernel
theorem ri_53_7 : ro_ix 53 7 = some (7, .putfield 31, 5, 6) := by decide +kernel
theorem ri_53_10 : ro_ix 53 10 = some (10, .aload_n 0, 0, 0) := by decide +kernel
theorem ri_53_11 : ro_ix 53 11 = some (11, .iconst 0, 0, 0) := by decide +kernel
theorem ri_53_12 : ro_ix 53 12 = some (12, .iload_n 1, 0, 0) := by decide +kernel
theorem ri_53_13 : ro_ix 53 13 = some (13, .invokevirtual 44, 46, 0) := by decide +kernel
theorem ri_53_16 : ro_ix 53 16 = some (16, .ifCond .eq 12, 0, 0) := by decide +kernel
theorem ri_53_19 : ro_ix 53 19 = some (19, .aload_n 0, 0, 0) := by decide +kernel
theorem ri_53_20 : ro_ix 53 20 = some (20, .invokevirtual 48, 48, 0) := by decide +kernel
theorem ri_53_23 : ro_ix 53 23 = some (23, .bipush 41, 0, 0) := by decide +kernel
theorem ri_53_25 : ro_ix 53 25 = some (25, .if_icmp .eq 5, 0, 0) := by decide +kernel
theorem ri_53_28 : ro_ix 53 28 = some (28, .iconst 0, 0, 0) := by decide +kernel
theorem ri_53_29 : ro_ix 53 29 = some (29, .ireturn, 0, 0) := by decide +kernel
theorem ri_53_30 : ro_ix 53 30 = some (30, .aload_n 0, 0, 0) := by decide +kernel
theorem ri_53_31 : ro_ix 53 31 = some (31, .dup, 0, 0) := by decide +kernel
theorem ri_53_32 : ro_ix 53 32 = some (32, .getfield 31, 5, 6) := by decide +kernel
theorem ri_53_35 : ro_ix 53 35 = some (35, .iconst 1, 0, 0) := by decide +kernel
theorem ri_53_36 : ro_ix 53 36 = some (36, .iadd, 0, 0) := by decide +kernel
theorem ri_53_37 : ro_ix 53 37 = some (37, .putfield 31, 5, 6) := by decide +kernel
theorem ri_53_40 : ro_ix 53 40 = some (40, .iconst 1, 0, 0) := by decide +kernel
theorem ri_53_41 : ro_ix 53 41 = some (41, .ireturn, 0, 0) := by decide +kernel
/-- RefusedOnce$Law.joins(II)Z -/
theorem rm_54 : (ro_m 54).2.2.1 = 2 ∧ (ro_m 54).2.2.2.1 = (some .boolean) ∧ (ro_m 54).2.2.2.2.1 = 5 ∧ (ro_m 54).2.2.2.2.2.1 = 2 := ⟨rfl, rfl, rfl, rfl⟩
theorem ri_54_0 : ro_ix 54 0 = some (0, .iload_n 1, 0, 0) := by decide +kernel
theorem ri_54_1 : ro_ix 54 1 = some (1, .lookupswitch 145 #[(37, 134), (38, 101), (42, 134), (43, 123), (45, 123), (47, 134), (60, 112), (61, 112), (62, 112), (124, 91)], 0, 0) := by decide +kernel
theorem ri_54_92 : ro_ix 54 92 = some (92, .iload_n 0, 0, 0) := by decide +kernel
theorem ri_54_93 : ro_ix 54 93 = some (93, .ifCond .ne 7, 0, 0) := by decide +kernel
theorem ri_54_96 : ro_ix 54 96 = some (96, .iconst 1, 0, 0) := by decide +kernel
theorem ri_54_97 : ro_ix 54 97 = some (97, .goto 4, 0, 0) := by decide +kernel
theorem ri_54_100 : ro_ix 54 100 = some (100, .iconst 0, 0, 0) := by decide +kernel
theorem ri_54_101 : ro_ix 54 101 = some (101, .ireturn, 0, 0) := by decide +kernel
theorem ri_54_102 : ro_ix 54 102 = some (102, .iload_n 0, 0, 0) := by decide +kernel
theorem ri_54_103 : ro_ix 54 103 = some (103, .iconst 1, 0, 0) := by decide +kernel
theorem ri_54_104 : ro_ix 54 104 = some (104, .if_icmp .ne 7, 0, 0) := by decide +kernel
theorem ri_54_107 : ro_ix 54 107 = some (107, .iconst 1, 0, 0) := by decide +kernel
theorem ri_54_108 : ro_ix 54 108 = some (108, .goto 4, 0, 0) := by decide +kernel
theorem ri_54_111 : ro_ix 54 111 = some (111, .iconst 0, 0, 0) := by decide +kernel
theorem ri_54_112 : ro_ix 54 112 = some (112, .ireturn, 0, 0) := by decide +kernel
theorem ri_54_113 : ro_ix 54 113 = some (113, .iload_n 0, 0, 0) := by decide +kernel
theorem ri_54_114 : ro_ix 54 114 = some (114, .iconst 2, 0, 0) := by decide +kernel
theorem ri_54_115 : ro_ix 54 115 = some (115, .if_icmp .ne 7, 0, 0) := by decide +kernel
theorem ri_54_118 : ro_ix 54 118 = some (118, .iconst 1, 0, 0) := by decide +kernel
theorem ri_54_119 : ro_ix 54 119 = some (119, .goto 4, 0, 0) := by decide +kernel
theorem ri_54_122 : ro_ix 54 122 = some (122, .iconst 0, 0, 0) := by decide +kernel
theorem ri_54_123 : ro_ix 54 123 = some (123, .ireturn, 0, 0) := by decide +kernel
theorem ri_54_124 : ro_ix 54 124 = some (124, .iload_n 0, 0, 0) := by decide +kernel
theorem ri_54_125 : ro_ix 54 125 = some (125, .iconst 3, 0, 0) := by decide +kernel
theorem ri_54_126 : ro_ix 54 126 = some (126, .if_icmp .ne 7, 0, 0) := by decide +kernel
theorem ri_54_129 : ro_ix 54 129 = some (129, .iconst 1, 0, 0) := by decide +kernel
theorem ri_54_130 : ro_ix 54 130 = some (130, .goto 4, 0, 0) := by decide +kernel
theorem ri_54_133 : ro_ix 54 133 = some (133, .iconst 0, 0, 0) := by decide +kernel
theorem ri_54_134 : ro_ix 54 134 = some (134, .ireturn, 0, 0) := by decide +kernel
theorem ri_54_135 : ro_ix 54 135 = some (135, .iload_n 0, 0, 0) := by decide +kernel
theorem ri_54_136 : ro_ix 54 136 = some (136, .iconst 4, 0, 0) := by decide +kernel
theorem ri_54_137 : ro_ix 54 137 = some (137, .if_icmp .ne 7, 0, 0) := by decide +kernel
theorem ri_54_140 : ro_ix 54 140 = some (140, .iconst 1, 0, 0) := by decide +kernel
theorem ri_54_141 : ro_ix 54 141 = some (141, .goto 4, 0, 0) := by decide +kernel
theorem ri_54_144 : ro_ix 54 144 = some (144, .iconst 0, 0, 0) := by decide +kernel
theorem ri_54_145 : ro_ix 54 145 = some (145, .ireturn, 0, 0) := by decide +kernel
theorem ri_54_146 : ro_ix 54 146 = some (146, .iconst 0, 0, 0) := by decide +kernel
theorem ri_54_147 : ro_ix 54 147 = some (147, .ireturn, 0, 0) := by decide +kernel
/-- RefusedOnce.odds(I)I -/
theorem rm_55 : (ro_m 55).2.2.1 = 2 ∧ (ro_m 55).2.2.2.1 = (some .int) ∧ (ro_m 55).2.2.2.2.1 = 11 ∧ (ro_m 55).2.2.2.2.2.1 = 1 := ⟨rfl, rfl, rfl, rfl⟩
theorem ri_55_0 : ro_ix 55 0 = some (0, .aload_n 0, 0, 0) := by decide +kernel
theorem ri_55_1 : ro_ix 55 1 = some (1, .iload_n 1, 0, 0) := by decide +kernel
theorem ri_55_2 : ro_ix 55 2 = some (2, .invokevirtual 152, 56, 0) := by decide +kernel
theorem ri_55_5 : ro_ix 55 5 = some (5, .ifCond .eq 32, 0, 0) := by decide +kernel
theorem ri_55_8 : ro_ix 55 8 = some (8, .aload_n 0, 0, 0) := by decide +kernel
theorem ri_55_9 : ro_ix 55 9 = some (9, .getfield 19, 11, 1) := by decide +kernel
theorem ri_55_12 : ro_ix 55 12 = some (12, .aload_n 0, 0, 0) := by decide +kernel
theorem ri_55_13 : ro_ix 55 13 = some (13, .getfield 10, 11, 0) := by decide +kernel
theorem ri_55_16 : ro_ix 55 16 = some (16, .aload_n 0, 0, 0) := by decide +kernel
theorem ri_55_17 : ro_ix 55 17 = some (17, .getfield 10, 11, 0) := by decide +kernel
theorem ri_55_20 : ro_ix 55 20 = some (20, .getfield 132, 4, 0) := by decide +kernel
theorem ri_55_23 : ro_ix 55 23 = some (23, .iload_n 1, 0, 0) := by decide +kernel
theorem ri_55_24 : ro_ix 55 24 = some (24, .bipush 10, 0, 0) := by decide +kernel
theorem ri_55_26 : ro_ix 55 26 = some (26, .idiv, 0, 0) := by decide +kernel
theorem ri_55_27 : ro_ix 55 27 = some (27, .iload_n 1, 0, 0) := by decide +kernel
theorem ri_55_28 : ro_ix 55 28 = some (28, .bipush 10, 0, 0) := by decide +kernel
theorem ri_55_30 : ro_ix 55 30 = some (30, .irem, 0, 0) := by decide +kernel
theorem ri_55_31 : ro_ix 55 31 = some (31, .invokevirtual 155, 58, 0) := by decide +kernel
theorem ri_55_34 : ro_ix 55 34 = some (34, .goto 4, 0, 0) := by decide +kernel
theorem ri_55_37 : ro_ix 55 37 = some (37, .iconst (-1), 0, 0) := by decide +kernel
theorem ri_55_38 : ro_ix 55 38 = some (38, .ireturn, 0, 0) := by decide +kernel
/-- RefusedOnce.areTwo(I)Z -/
theorem rm_56 : (ro_m 56).2.2.1 = 2 ∧ (ro_m 56).2.2.2.1 = (some .boolean) ∧ (ro_m 56).2.2.2.2.1 = 11 ∧ (ro_m 56).2.2.2.2.2.1 = 1 := ⟨rfl, rfl, rfl, rfl⟩
theorem ri_56_0 : ro_ix 56 0 = some (0, .iload_n 1, 0, 0) := by decide +kernel
theorem ri_56_1 : ro_ix 56 1 = some (1, .ifCond .lt 25, 0, 0) := by decide +kernel
theorem ri_56_4 : ro_ix 56 4 = some (4, .aload_n 0, 0, 0) := by decide +kernel
theorem ri_56_5 : ro_ix 56 5 = some (5, .getfield 10, 11, 0) := by decide +kernel
theorem ri_56_8 : ro_ix 56 8 = some (8, .iload_n 1, 0, 0) := by decide +kernel
theorem ri_56_9 : ro_ix 56 9 = some (9, .bipush 10, 0, 0) := by decide +kernel
theorem ri_56_11 : ro_ix 56 11 = some (11, .idiv, 0, 0) := by decide +kernel
theorem ri_56_12 : ro_ix 56 12 = some (12, .iload_n 1, 0, 0) := by decide +kernel
theorem ri_56_13 : ro_ix 56 13 = some (13, .bipush 10, 0, 0) := by decide +kernel
theorem ri_56_15 : ro_ix 56 15 = some (15, .irem, 0, 0) := by decide +kernel
theorem ri_56_16 : ro_ix 56 16 = some (16, .invokevirtual 348, 57, 0) := by decide +kernel
theorem ri_56_19 : ro_ix 56 19 = some (19, .ifCond .eq 7, 0, 0) := by decide +kernel
theorem ri_56_22 : ro_ix 56 22 = some (22, .iconst 1, 0, 0) := by decide +kernel
theorem ri_56_23 : ro_ix 56 23 = some (23, .goto 4, 0, 0) := by decide +kernel
theorem ri_56_26 : ro_ix 56 26 = some (26, .iconst 0, 0, 0) := by decide +kernel
theorem ri_56_27 : ro_ix 56 27 = some (27, .ireturn, 0, 0) := by decide +kernel
/-- RefusedOnce$Land.areTwo(II)Z -/
theorem rm_57 : (ro_m 57).2.2.1 = 3 ∧ (ro_m 57).2.2.2.1 = (some .boolean) ∧ (ro_m 57).2.2.2.2.1 = 4 ∧ (ro_m 57).2.2.2.2.2.1 = 2 := ⟨rfl, rfl, rfl, rfl⟩
theorem ri_57_0 : ro_ix 57 0 = some (0, .iload_n 1, 0, 0) := by decide +kernel
theorem ri_57_1 : ro_ix 57 1 = some (1, .iload_n 2, 0, 0) := by decide +kernel
theorem ri_57_2 : ro_ix 57 2 = some (2, .if_icmp .eq 23, 0, 0) := by decide +kernel
theorem ri_57_5 : ro_ix 57 5 = some (5, .aload_n 0, 0, 0) := by decide +kernel
theorem ri_57_6 : ro_ix 57 6 = some (6, .iload_n 1, 0, 0) := by decide +kernel
theorem ri_57_7 : ro_ix 57 7 = some (7, .invokevirtual 47, 29, 0) := by decide +kernel
theorem ri_57_10 : ro_ix 57 10 = some (10, .ifCond .eq 15, 0, 0) := by decide +kernel
theorem ri_57_13 : ro_ix 57 13 = some (13, .aload_n 0, 0, 0) := by decide +kernel
theorem ri_57_14 : ro_ix 57 14 = some (14, .iload_n 2, 0, 0) := by decide +kernel
theorem ri_57_15 : ro_ix 57 15 = some (15, .invokevirtual 47, 29, 0) := by decide +kernel
theorem ri_57_18 : ro_ix 57 18 = some (18, .ifCond .eq 7, 0, 0) := by decide +kernel
theorem ri_57_21 : ro_ix 57 21 = some (21, .iconst 1, 0, 0) := by decide +kernel
theorem ri_57_22 : ro_ix 57 22 = some (22, .goto 4, 0, 0) := by decide +kernel
theorem ri_57_25 : ro_ix 57 25 = some (25, .iconst 0, 0, 0) := by decide +kernel
theorem ri_57_26 : ro_ix 57 26 = some (26, .ireturn, 0, 0) := by decide +kernel
/-- RefusedOnce$Law.twelfths(LRefusedOnce$Land;LRefusedOnce$Purses;II)I -/
theorem rm_58 : (ro_m 58).2.2.1 = 8 ∧ (ro_m 58).2.2.2.1 = (some .int) ∧ (ro_m 58).2.2.2.2.1 = 5 ∧ (ro_m 58).2.2.2.2.2.1 = 4 := ⟨rfl, rfl, rfl, rfl⟩
theorem ri_58_0 : ro_ix 58 0 = some (0, .aload_n 1, 0, 0) := by decide +kernel
theorem ri_58_1 : ro_ix 58 1 = some (1, .iload 4, 0, 0) := by decide +kernel
theorem ri_58_3 : ro_ix 58 3 = some (3, .iconst 2, 0, 0) := by decide +kernel
theorem ri_58_4 : ro_ix 58 4 = some (4, .invokevirtual 76, 30, 0) := by decide +kernel
theorem ri_58_7 : ro_ix 58 7 = some (7, .istore 5, 0, 0) := by decide +kernel
theorem ri_58_9 : ro_ix 58 9 = some (9, .aload_n 1, 0, 0) := by decide +kernel
theorem ri_58_10 : ro_ix 58 10 = some (10, .iload_n 3, 0, 0) := by decide +kernel
theorem ri_58_11 : ro_ix 58 11 = some (11, .iconst 2, 0, 0) := by decide +kernel
theorem ri_58_12 : ro_ix 58 12 = some (12, .invokevirtual 76, 30, 0) := by decide +kernel
theorem ri_58_15 : ro_ix 58 15 = some (15, .istore 6, 0, 0) := by decide +kernel
theorem ri_58_17 : ro_ix 58 17 = some (17, .aload_n 1, 0, 0) := by decide +kernel
theorem ri_58_18 : ro_ix 58 18 = some (18, .iconst 0, 0, 0) := by decide +kernel
theorem ri_58_19 : ro_ix 58 19 = some (19, .iconst 5, 0, 0) := by decide +kernel
theorem ri_58_20 : ro_ix 58 20 = some (20, .invokevirtual 76, 30, 0) := by decide +kernel
theorem ri_58_23 : ro_ix 58 23 = some (23, .istore 7, 0, 0) := by decide +kernel
theorem ri_58_25 : ro_ix 58 25 = some (25, .aload_n 0, 0, 0) := by decide +kernel
theorem ri_58_26 : ro_ix 58 26 = some (26, .getfield 41, 5, 8) := by decide +kernel
theorem ri_58_29 : ro_ix 58 29 = some (29, .ifCond .gt 19, 0, 0) := by decide +kernel
theorem ri_58_32 : ro_ix 58 32 = some (32, .iload 5, 0, 0) := by decide +kernel
theorem ri_58_34 : ro_ix 58 34 = some (34, .iload 7, 0, 0) := by decide +kernel
theorem ri_58_36 : ro_ix 58 36 = some (36, .iconst 3, 0, 0) := by decide +kernel
theorem ri_58_37 : ro_ix 58 37 = some (37, .idiv, 0, 0) := by decide +kernel
theorem ri_58_38 : ro_ix 58 38 = some (38, .iadd, 0, 0) := by decide +kernel
theorem ri_58_39 : ro_ix 58 39 = some (39, .iload 6, 0, 0) := by decide +kernel
theorem ri_58_41 : ro_ix 58 41 = some (41, .iconst 4, 0, 0) := by decide +kernel
theorem ri_58_42 : ro_ix 58 42 = some (42, .idiv, 0, 0) := by decide +kernel
theorem ri_58_43 : ro_ix 58 43 = some (43, .isub, 0, 0) := by decide +kernel
theorem ri_58_44 : ro_ix 58 44 = some (44, .invokestatic 82, 59, 0) := by decide +kernel
theorem ri_58_47 : ro_ix 58 47 = some (47, .ireturn, 0, 0) := by decide +kernel
theorem ri_58_48 : ro_ix 58 48 = some (48, .aload_n 0, 0, 0) := by decide +kernel
theorem ri_58_49 : ro_ix 58 49 = some (49, .getfield 24, 5, 4) := by decide +kernel
theorem ri_58_52 : ro_ix 58 52 = some (52, .iconst 0, 0, 0) := by decide +kernel
theorem ri_58_53 : ro_ix 58 53 = some (53, .iload 5, 0, 0) := by decide +kernel
theorem ri_58_55 : ro_ix 58 55 = some (55, .iastore, 0, 0) := by decide +kernel
theorem ri_58_56 : ro_ix 58 56 = some (56, .aload_n 0, 0, 0) := by decide +kernel
theorem ri_58_57 : ro_ix 58 57 = some (57, .getfield 24, 5, 4) := by decide +kernel
theorem ri_58_60 : ro_ix 58 60 = some (60, .iconst 1, 0, 0) := by decide +kernel
theorem ri_58_61 : ro_ix 58 61 = some (61, .iload 6, 0, 0) := by decide +kernel
theorem ri_58_63 : ro_ix 58 63 = some (63, .iastore, 0, 0) := by decide +kernel
theorem ri_58_64 : ro_ix 58 64 = some (64, .aload_n 0, 0, 0) := by decide +kernel
theorem ri_58_65 : ro_ix 58 65 = some (65, .getfield 24, 5, 4) := by decide +kernel
theorem ri_58_68 : ro_ix 58 68 = some (68, .iconst 2, 0, 0) := by decide +kernel
theorem ri_58_69 : ro_ix 58 69 = some (69, .aload_n 2, 0, 0) := by decide +kernel
theorem ri_58_70 : ro_ix 58 70 = some (70, .iload 4, 0, 0) := by decide +kernel
theorem ri_58_72 : ro_ix 58 72 = some (72, .invokevirtual 85, 31, 0) := by decide +kernel
theorem ri_58_75 : ro_ix 58 75 = some (75, .iastore, 0, 0) := by decide +kernel
theorem ri_58_76 : ro_ix 58 76 = some (76, .aload_n 0, 0, 0) := by decide +kernel
theorem ri_58_77 : ro_ix 58 77 = some (77, .getfield 24, 5, 4) := by decide +kernel
theorem ri_58_80 : ro_ix 58 80 = some (80, .iconst 3, 0, 0) := by decide +kernel
theorem ri_58_81 : ro_ix 58 81 = some (81, .aload_n 2, 0, 0) := by decide +kernel
theorem ri_58_82 : ro_ix 58 82 = some (82, .iload 4, 0, 0) := by decide +kernel
theorem ri_58_84 : ro_ix 58 84 = some (84, .invokevirtual 90, 32, 0) := by decide +kernel
theorem ri_58_87 : ro_ix 58 87 = some (87, .iastore, 0, 0) := by decide +kernel
theorem ri_58_88 : ro_ix 58 88 = some (88, .aload_n 0, 0, 0) := by decide +kernel
theorem ri_58_89 : ro_ix 58 89 = some (89, .getfield 24, 5, 4) := by decide +kernel
theorem ri_58_92 : ro_ix 58 92 = some (92, .iconst 4, 0, 0) := by decide +kernel
theorem ri_58_93 : ro_ix 58 93 = some (93, .iload 7, 0, 0) := by decide +kernel
theorem ri_58_95 : ro_ix 58 95 = some (95, .iastore, 0, 0) := by decide +kernel
theorem ri_58_96 : ro_ix 58 96 = some (96, .aload_n 0, 0, 0) := by decide +kernel
theorem ri_58_97 : ro_ix 58 97 = some (97, .getfield 24, 5, 4) := by decide +kernel
theorem ri_58_100 : ro_ix 58 100 = some (100, .iconst 5, 0, 0) := by decide +kernel
theorem ri_58_101 : ro_ix 58 101 = some (101, .aload_n 1, 0, 0) := by decide +kernel
theorem ri_58_102 : ro_ix 58 102 = some (102, .iconst 0, 0, 0) := by decide +kernel
theorem ri_58_103 : ro_ix 58 103 = some (103, .iconst 4, 0, 0) := by decide +kernel
theorem ri_58_104 : ro_ix 58 104 = some (104, .invokevirtual 76, 30, 0) := by decide +kernel
theorem ri_58_107 : ro_ix 58 107 = some (107, .iastore, 0, 0) := by decide +kernel
theorem ri_58_108 : ro_ix 58 108 = some (108, .aload_n 0, 0, 0) := by decide +kernel
theorem ri_58_109 : ro_ix 58 109 = some (109, .invokevirtual 93, 60, 0) := by decide +kernel
theorem ri_58_112 : ro_ix 58 112 = some (112, .invokestatic 82, 59, 0) := by decide +kernel
theorem ri_58_115 : ro_ix 58 115 = some (115, .ireturn, 0, 0) := by decide +kernel
/-- RefusedOnce$Law.held(I)I -/
theorem rm_59 : (ro_m 59).2.2.1 = 1 ∧ (ro_m 59).2.2.2.1 = (some .int) ∧ (ro_m 59).2.2.2.2.1 = 5 ∧ (ro_m 59).2.2.2.2.2.1 = 1 := ⟨rfl, rfl, rfl, rfl⟩
theorem ri_59_0 : ro_ix 59 0 = some (0, .iconst 0, 0, 0) := by decide +kernel
theorem ri_59_1 : ro_ix 59 1 = some (1, .bipush 12, 0, 0) := by decide +kernel
theorem ri_59_3 : ro_ix 59 3 = some (3, .iload_n 0, 0, 0) := by decide +kernel
theorem ri_59_4 : ro_ix 59 4 = some (4, .invokestatic 96, 1, 3) := by decide +kernel
theorem ri_59_7 : ro_ix 59 7 = some (7, .invokestatic 101, 0, 3) := by decide +kernel
theorem ri_59_10 : ro_ix 59 10 = some (10, .ireturn, 0, 0) := by decide +kernel
/-- RefusedOnce$Law.worked()I -/
theorem rm_60 : (ro_m 60).2.2.1 = 5 ∧ (ro_m 60).2.2.2.1 = (some .int) ∧ (ro_m 60).2.2.2.2.1 = 5 ∧ (ro_m 60).2.2.2.2.2.1 = 0 := ⟨rfl, rfl, rfl, rfl⟩
theorem ri_60_0 : ro_ix 60 0 = some (0, .aload_n 0, 0, 0) := by decide +kernel
theorem ri_60_1 : ro_ix 60 1 = some (1, .iconst 0, 0, 0) := by decide +kernel
theorem ri_60_2 : ro_ix 60 2 = some (2, .putfield 104, 5, 9) := by decide +kernel
theorem ri_60_5 : ro_ix 60 5 = some (5, .iconst 0, 0, 0) := by decide +kernel
theorem ri_60_6 : ro_ix 60 6 = some (6, .istore_n 1, 0, 0) := by decide +kernel
theorem ri_60_7 : ro_ix 60 7 = some (7, .iload_n 1, 0, 0) := by decide +kernel
theorem ri_60_8 : ro_ix 60 8 = some (8, .aload_n 0, 0, 0) := by decide +kernel
theorem ri_60_9 : ro_ix 60 9 = some (9, .getfield 41, 5, 8) := by decide +kernel
theorem ri_60_12 : ro_ix 60 12 = some (12, .if_icmp .ge 169, 0, 0) := by decide +kernel
theorem ri_60_15 : ro_ix 60 15 = some (15, .iload_n 1, 0, 0) := by decide +kernel
theorem ri_60_16 : ro_ix 60 16 = some (16, .aload_n 0, 0, 0) := by decide +kernel
theorem ri_60_17 : ro_ix 60 17 = some (17, .getfield 18, 5, 2) := by decide +kernel
theorem ri_60_20 : ro_ix 60 20 = some (20, .arraylength, 0, 0) := by decide +kernel
theorem ri_60_21 : ro_ix 60 21 = some (21, .if_icmp .ge 160, 0, 0) := by decide +kernel
theorem ri_60_24 : ro_ix 60 24 = some (24, .aload_n 0, 0, 0) := by decide +kernel
theorem ri_60_25 : ro_ix 60 25 = some (25, .getfield 18, 5, 2) := by decide +kernel
theorem ri_60_28 : ro_ix 60 28 = some (28, .iload_n 1, 0, 0) := by decide +kernel
theorem ri_60_29 : ro_ix 60 29 = some (29, .iaload, 0, 0) := by decide +kernel
theorem ri_60_30 : ro_ix 60 30 = some (30, .istore_n 2, 0, 0) := by decide +kernel
theorem ri_60_31 : ro_ix 60 31 = some (31, .iload_n 2, 0, 0) := by decide +kernel
theorem ri_60_32 : ro_ix 60 32 = some (32, .ineg, 0, 0) := by decide +kernel
theorem ri_60_33 : ro_ix 60 33 = some (33, .invokestatic 69, 52, 0) := by decide +kernel
theorem ri_60_36 : ro_ix 60 36 = some (36, .istore_n 3, 0, 0) := by decide +kernel
theorem ri_60_37 : ro_ix 60 37 = some (37, .iload_n 2, 0, 0) := by decide +kernel
theorem ri_60_38 : ro_ix 60 38 = some (38, .bipush (-59), 0, 0) := by decide +kernel
theorem ri_60_40 : ro_ix 60 40 = some (40, .if_icmp .ne 8, 0, 0) := by decide +kernel
theorem ri_60_43 : ro_ix 60 43 = some (43, .aload_n 0, 0, 0) := by decide +kernel
theorem ri_60_44 : ro_ix 60 44 = some (44, .invokevirtual 107, 61, 0) := by decide +kernel
theorem ri_60_47 : ro_ix 60 47 = some (47, .ireturn, 0, 0) := by decide +kernel
theorem ri_60_48 : ro_ix 60 48 = some (48, .iload_n 2, 0, 0) := by decide +kernel
theorem ri_60_49 : ro_ix 60 49 = some (49, .bipush (-63), 0, 0) := by decide +kernel
theorem ri_60_51 : ro_ix 60 51 = some (51, .if_icmp .ne 22, 0, 0) := by decide +kernel
theorem ri_60_54 : ro_ix 60 54 = some (54, .aload_n 0, 0, 0) := by decide +kernel
theorem ri_60_55 : ro_ix 60 55 = some (55, .invokevirtual 107, 61, 0) := by decide +kernel
theorem ri_60_58 : ro_ix 60 58 = some (58, .istore 4, 0, 0) := by decide +kernel
theorem ri_60_60 : ro_ix 60 60 = some (60, .aload_n 0, 0, 0) := by decide +kernel
theorem ri_60_61 : ro_ix 60 61 = some (61, .invokevirtual 107, 61, 0) := by decide +kernel
theorem ri_60_64 : ro_ix 60 64 = some (64, .ifCond .eq 6, 0, 0) := by decide +kernel
theorem ri_60_67 : ro_ix 60 67 = some (67, .iload 4, 0, 0) := by decide +kernel
theorem ri_60_69 : ro_ix 60 69 = some (69, .ireturn, 0, 0) := by decide +kernel
theorem ri_60_70 : ro_ix 60 70 = some (70, .goto 105, 0, 0) := by decide +kernel
theorem ri_60_73 : ro_ix 60 73 = some (73, .iload_n 2, 0, 0) := by decide +kernel
theorem ri_60_74 : ro_ix 60 74 = some (74, .ifCond .lt 11, 0, 0) := by decide +kernel
theorem ri_60_77 : ro_ix 60 77 = some (77, .aload_n 0, 0, 0) := by decide +kernel
theorem ri_60_78 : ro_ix 60 78 = some (78, .iload_n 2, 0, 0) := by decide +kernel
theorem ri_60_79 : ro_ix 60 79 = some (79, .invokevirtual 110, 62, 0) := by decide +kernel
theorem ri_60_82 : ro_ix 60 82 = some (82, .goto 93, 0, 0) := by decide +kernel
theorem ri_60_85 : ro_ix 60 85 = some (85, .iload_n 3, 0, 0) := by decide +kernel
theorem ri_60_86 : ro_ix 60 86 = some (86, .ifCond .lt 25, 0, 0) := by decide +kernel
theorem ri_60_89 : ro_ix 60 89 = some (89, .iload_n 3, 0, 0) := by decide +kernel
theorem ri_60_90 : ro_ix 60 90 = some (90, .aload_n 0, 0, 0) := by decide +kernel
theorem ri_60_91 : ro_ix 60 91 = some (91, .getfield 24, 5, 4) := by decide +kernel
theorem ri_60_94 : ro_ix 60 94 = some (94, .arraylength, 0, 0) := by decide +kernel
theorem ri_60_95 : ro_ix 60 95 = some (95, .if_icmp .ge 16, 0, 0) := by decide +kernel
theorem ri_60_98 : ro_ix 60 98 = some (98, .aload_n 0, 0, 0) := by decide +kernel
theorem ri_60_99 : ro_ix 60 99 = some (99, .aload_n 0, 0, 0) := by decide +kernel
theorem ri_60_100 : ro_ix 60 100 = some (100, .getfield 24, 5, 4) := by decide +kernel
theorem ri_60_103 : ro_ix 60 103 = some (103, .iload_n 3, 0, 0) := by decide +kernel
theorem ri_60_104 : ro_ix 60 104 = some (104, .iaload, 0, 0) := by decide +kernel
theorem ri_60_105 : ro_ix 60 105 = some (105, .invokevirtual 110, 62, 0) := by decide +kernel
theorem ri_60_108 : ro_ix 60 108 = some (108, .goto 67, 0, 0) := by decide +kernel
theorem ri_60_111 : ro_ix 60 111 = some (111, .iload_n 2, 0, 0) := by decide +kernel
theorem ri_60_112 : ro_ix 60 112 = some (112, .bipush (-33), 0, 0) := by decide +kernel
theorem ri_60_114 : ro_ix 60 114 = some (114, .if_icmp .ne 22, 0, 0) := by decide +kernel
theorem ri_60_117 : ro_ix 60 117 = some (117, .aload_n 0, 0, 0) := by decide +kernel
theorem ri_60_118 : ro_ix 60 118 = some (118, .aload_n 0, 0, 0) := by decide +kernel
theorem ri_60_119 : ro_ix 60 119 = some (119, .invokevirtual 107, 61, 0) := by decide +kernel
theorem ri_60_122 : ro_ix 60 122 = some (122, .ifCond .ne 7, 0, 0) := by decide +kernel
theorem ri_60_125 : ro_ix 60 125 = some (125, .iconst 1, 0, 0) := by decide +kernel
theorem ri_60_126 : ro_ix 60 126 = some (126, .goto 4, 0, 0) := by decide +kernel
theorem ri_60_129 : ro_ix 60 129 = some (129, .iconst 0, 0, 0) := by decide +kernel
theorem ri_60_130 : ro_ix 60 130 = some (130, .invokevirtual 110, 62, 0) := by decide +kernel
theorem ri_60_133 : ro_ix 60 133 = some (133, .goto 42, 0, 0) := by decide +kernel
theorem ri_60_136 : ro_ix 60 136 = some (136, .iload_n 2, 0, 0) := by decide +kernel
theorem ri_60_137 : ro_ix 60 137 = some (137, .bipush (-126), 0, 0) := by decide +kernel
theorem ri_60_139 : ro_ix 60 139 = some (139, .if_icmp .ne 15, 0, 0) := by decide +kernel
theorem ri_60_142 : ro_ix 60 142 = some (142, .aload_n 0, 0, 0) := by decide +kernel
theorem ri_60_143 : ro_ix 60 143 = some (143, .aload_n 0, 0, 0) := by decide +kernel
theorem ri_60_144 : ro_ix 60 144 = some (144, .invokevirtual 107, 61, 0) := by decide +kernel
theorem ri_60_147 : ro_ix 60 147 = some (147, .ineg, 0, 0) := by decide +kernel
theorem ri_60_148 : ro_ix 60 148 = some (148, .invokevirtual 110, 62, 0) := by decide +kernel
theorem ri_60_151 : ro_ix 60 151 = some (151, .goto 24, 0, 0) := by decide +kernel
theorem ri_60_154 : ro_ix 60 154 = some (154, .aload_n 0, 0, 0) := by decide +kernel
theorem ri_60_155 : ro_ix 60 155 = some (155, .invokevirtual 107, 61, 0) := by decide +kernel
theorem ri_60_158 : ro_ix 60 158 = some (158, .istore 4, 0, 0) := by decide +kernel
theorem ri_60_160 : ro_ix 60 160 = some (160, .aload_n 0, 0, 0) := by decide +kernel
theorem ri_60_161 : ro_ix 60 161 = some (161, .iload_n 2, 0, 0) := by decide +kernel
theorem ri_60_162 : ro_ix 60 162 = some (162, .ineg, 0, 0) := by decide +kernel
theorem ri_60_163 : ro_ix 60 163 = some (163, .aload_n 0, 0, 0) := by decide +kernel
theorem ri_60_164 : ro_ix 60 164 = some (164, .invokevirtual 107, 61, 0) := by decide +kernel
theorem ri_60_167 : ro_ix 60 167 = some (167, .iload 4, 0, 0) := by decide +kernel
theorem ri_60_169 : ro_ix 60 169 = some (169, .invokestatic 113, 63, 0) := by decide +kernel
theorem ri_60_172 : ro_ix 60 172 = some (172, .invokevirtual 110, 62, 0) := by decide +kernel
theorem ri_60_175 : ro_ix 60 175 = some (175, .iinc 1 1, 0, 0) := by decide +kernel
theorem ri_60_178 : ro_ix 60 178 = some (178, .goto (-171), 0, 0) := by decide +kernel
theorem ri_60_181 : ro_ix 60 181 = some (181, .iconst 0, 0, 0) := by decide +kernel
theorem ri_60_182 : ro_ix 60 182 = some (182, .ireturn, 0, 0) := by decide +kernel
/-- RefusedOnce$Law.pop()I -/
theorem rm_61 : (ro_m 61).2.2.1 = 1 ∧ (ro_m 61).2.2.2.1 = (some .int) ∧ (ro_m 61).2.2.2.2.1 = 5 ∧ (ro_m 61).2.2.2.2.2.1 = 0 := ⟨rfl, rfl, rfl, rfl⟩
theorem ri_61_0 : ro_ix 61 0 = some (0, .aload_n 0, 0, 0) := by decide +kernel
theorem ri_61_1 : ro_ix 61 1 = some (1, .getfield 104, 5, 9) := by decide +kernel
theorem ri_61_4 : ro_ix 61 4 = some (4, .ifCond .le 15, 0, 0) := by decide +kernel
theorem ri_61_7 : ro_ix 61 7 = some (7, .aload_n 0, 0, 0) := by decide +kernel
theorem ri_61_8 : ro_ix 61 8 = some (8, .getfield 104, 5, 9) := by decide +kernel
theorem ri_61_11 : ro_ix 61 11 = some (11, .aload_n 0, 0, 0) := by decide +kernel
theorem ri_61_12 : ro_ix 61 12 = some (12, .getfield 21, 5, 3) := by decide +kernel
theorem ri_61_15 : ro_ix 61 15 = some (15, .arraylength, 0, 0) := by decide +kernel
theorem ri_61_16 : ro_ix 61 16 = some (16, .if_icmp .le 5, 0, 0) := by decide +kernel
theorem ri_61_19 : ro_ix 61 19 = some (19, .iconst 0, 0, 0) := by decide +kernel
theorem ri_61_20 : ro_ix 61 20 = some (20, .ireturn, 0, 0) := by decide +kernel
theorem ri_61_21 : ro_ix 61 21 = some (21, .aload_n 0, 0, 0) := by decide +kernel
theorem ri_61_22 : ro_ix 61 22 = some (22, .dup, 0, 0) := by decide +kernel
theorem ri_61_23 : ro_ix 61 23 = some (23, .getfield 104, 5, 9) := by decide +kernel
theorem ri_61_26 : ro_ix 61 26 = some (26, .iconst 1, 0, 0) := by decide +kernel
theorem ri_61_27 : ro_ix 61 27 = some (27, .isub, 0, 0) := by decide +kernel
theorem ri_61_28 : ro_ix 61 28 = some (28, .putfield 104, 5, 9) := by decide +kernel
theorem ri_61_31 : ro_ix 61 31 = some (31, .aload_n 0, 0, 0) := by decide +kernel
theorem ri_61_32 : ro_ix 61 32 = some (32, .getfield 21, 5, 3) := by decide +kernel
theorem ri_61_35 : ro_ix 61 35 = some (35, .aload_n 0, 0, 0) := by decide +kernel
theorem ri_61_36 : ro_ix 61 36 = some (36, .getfield 104, 5, 9) := by decide +kernel
theorem ri_61_39 : ro_ix 61 39 = some (39, .iaload, 0, 0) := by decide +kernel
theorem ri_61_40 : ro_ix 61 40 = some (40, .ireturn, 0, 0) := by decide +kernel
/-- RefusedOnce$Law.push(I)V -/
theorem rm_62 : (ro_m 62).2.2.1 = 2 ∧ (ro_m 62).2.2.2.1 = none ∧ (ro_m 62).2.2.2.2.1 = 5 ∧ (ro_m 62).2.2.2.2.2.1 = 1 := ⟨rfl, rfl, rfl, rfl⟩
theorem ri_62_0 : ro_ix 62 0 = some (0, .aload_n 0, 0, 0) := by decide +kernel
theorem ri_62_1 : ro_ix 62 1 = some (1, .getfield 104, 5, 9) := by decide +kernel
theorem ri_62_4 : ro_ix 62 4 = some (4, .ifCond .lt 35, 0, 0) := by decide +kernel
theorem ri_62_7 : ro_ix 62 7 = some (7, .aload_n 0, 0, 0) := by decide +kernel
theorem ri_62_8 : ro_ix 62 8 = some (8, .getfield 104, 5, 9) := by decide +kernel
theorem ri_62_11 : ro_ix 62 11 = some (11, .aload_n 0, 0, 0) := by decide +kernel
theorem ri_62_12 : ro_ix 62 12 = some (12, .getfield 21, 5, 3) := by decide +kernel
theorem ri_62_15 : ro_ix 62 15 = some (15, .arraylength, 0, 0) := by decide +kernel
theorem ri_62_16 : ro_ix 62 16 = some (16, .if_icmp .ge 23, 0, 0) := by decide +kernel
theorem ri_62_19 : ro_ix 62 19 = some (19, .aload_n 0, 0, 0) := by decide +kernel
theorem ri_62_20 : ro_ix 62 20 = some (20, .getfield 21, 5, 3) := by decide +kernel
theorem ri_62_23 : ro_ix 62 23 = some (23, .aload_n 0, 0, 0) := by decide +kernel
theorem ri_62_24 : ro_ix 62 24 = some (24, .getfield 104, 5, 9) := by decide +kernel
theorem ri_62_27 : ro_ix 62 27 = some (27, .iload_n 1, 0, 0) := by decide +kernel
theorem ri_62_28 : ro_ix 62 28 = some (28, .iastore, 0, 0) := by decide +kernel
theorem ri_62_29 : ro_ix 62 29 = some (29, .aload_n 0, 0, 0) := by decide +kernel
theorem ri_62_30 : ro_ix 62 30 = some (30, .dup, 0, 0) := by decide +kernel
theorem ri_62_31 : ro_ix 62 31 = some (31, .getfield 104, 5, 9) := by decide +kernel
theorem ri_62_34 : ro_ix 62 34 = some (34, .iconst 1, 0, 0) := by decide +kernel
theorem ri_62_35 : ro_ix 62 35 = some (35, .iadd, 0, 0) := by decide +kernel
theorem ri_62_36 : ro_ix 62 36 = some (36, .putfield 104, 5, 9) := by decide +kernel
theorem ri_62_39 : ro_ix 62 39 = some (39, .return_, 0, 0) := by decide +kernel
/-- RefusedOnce$Law.both(III)I -/
theorem rm_63 : (ro_m 63).2.2.1 = 3 ∧ (ro_m 63).2.2.2.1 = (some .int) ∧ (ro_m 63).2.2.2.2.1 = 5 ∧ (ro_m 63).2.2.2.2.2.1 = 3 := ⟨rfl, rfl, rfl, rfl⟩
theorem ri_63_0 : ro_ix 63 0 = some (0, .iload_n 0, 0, 0) := by decide +kernel
theorem ri_63_1 : ro_ix 63 1 = some (1, .lookupswitch 168 #[(38, 97), (42, 152), (43, 144), (45, 148), (47, 156), (60, 111), (61, 122), (62, 133), (124, 83)], 0, 0) := by decide +kernel
theorem ri_63_84 : ro_ix 63 84 = some (84, .iload_n 1, 0, 0) := by decide +kernel
theorem ri_63_85 : ro_ix 63 85 = some (85, .ifCond .ne 7, 0, 0) := by decide +kernel
theorem ri_63_88 : ro_ix 63 88 = some (88, .iload_n 2, 0, 0) := by decide +kernel
theorem ri_63_89 : ro_ix 63 89 = some (89, .ifCond .eq 7, 0, 0) := by decide +kernel
theorem ri_63_92 : ro_ix 63 92 = some (92, .iconst 1, 0, 0) := by decide +kernel
theorem ri_63_93 : ro_ix 63 93 = some (93, .goto 4, 0, 0) := by decide +kernel
theorem ri_63_96 : ro_ix 63 96 = some (96, .iconst 0, 0, 0) := by decide +kernel
theorem ri_63_97 : ro_ix 63 97 = some (97, .ireturn, 0, 0) := by decide +kernel
theorem ri_63_98 : ro_ix 63 98 = some (98, .iload_n 1, 0, 0) := by decide +kernel
theorem ri_63_99 : ro_ix 63 99 = some (99, .ifCond .eq 11, 0, 0) := by decide +kernel
theorem ri_63_102 : ro_ix 63 102 = some (102, .iload_n 2, 0, 0) := by decide +kernel
theorem ri_63_103 : ro_ix 63 103 = some (103, .ifCond .eq 7, 0, 0) := by decide +kernel
theorem ri_63_106 : ro_ix 63 106 = some (106, .iconst 1, 0, 0) := by decide +kernel
theorem ri_63_107 : ro_ix 63 107 = some (107, .goto 4, 0, 0) := by decide +kernel
theorem ri_63_110 : ro_ix 63 110 = some (110, .iconst 0, 0, 0) := by decide +kernel
theorem ri_63_111 : ro_ix 63 111 = some (111, .ireturn, 0, 0) := by decide +kernel
theorem ri_63_112 : ro_ix 63 112 = some (112, .iload_n 1, 0, 0) := by decide +kernel
theorem ri_63_113 : ro_ix 63 113 = some (113, .iload_n 2, 0, 0) := by decide +kernel
theorem ri_63_114 : ro_ix 63 114 = some (114, .if_icmp .ge 7, 0, 0) := by decide +kernel
theorem ri_63_117 : ro_ix 63 117 = some (117, .iconst 1, 0, 0) := by decide +kernel
theorem ri_63_118 : ro_ix 63 118 = some (118, .goto 4, 0, 0) := by decide +kernel
theorem ri_63_121 : ro_ix 63 121 = some (121, .iconst 0, 0, 0) := by decide +kernel
theorem ri_63_122 : ro_ix 63 122 = some (122, .ireturn, 0, 0) := by decide +kernel
theorem ri_63_123 : ro_ix 63 123 = some (123, .iload_n 1, 0, 0) := by decide +kernel
theorem ri_63_124 : ro_ix 63 124 = some (124, .iload_n 2, 0, 0) := by decide +kernel
theorem ri_63_125 : ro_ix 63 125 = some (125, .if_icmp .ne 7, 0, 0) := by decide +kernel
theorem ri_63_128 : ro_ix 63 128 = some (128, .iconst 1, 0, 0) := by decide +kernel
theorem ri_63_129 : ro_ix 63 129 = some (129, .goto 4, 0, 0) := by decide +kernel
theorem ri_63_132 : ro_ix 63 132 = some (132, .iconst 0, 0, 0) := by decide +kernel
theorem ri_63_133 : ro_ix 63 133 = some (133, .ireturn, 0, 0) := by decide +kernel
theorem ri_63_134 : ro_ix 63 134 = some (134, .iload_n 1, 0, 0) := by decide +kernel
theorem ri_63_135 : ro_ix 63 135 = some (135, .iload_n 2, 0, 0) := by decide +kernel
theorem ri_63_136 : ro_ix 63 136 = some (136, .if_icmp .le 7, 0, 0) := by decide +kernel
theorem ri_63_139 : ro_ix 63 139 = some (139, .iconst 1, 0, 0) := by decide +kernel
theorem ri_63_140 : ro_ix 63 140 = some (140, .goto 4, 0, 0) := by decide +kernel
theorem ri_63_143 : ro_ix 63 143 = some (143, .iconst 0, 0, 0) := by decide +kernel
theorem ri_63_144 : ro_ix 63 144 = some (144, .ireturn, 0, 0) := by decide +kernel
theorem ri_63_145 : ro_ix 63 145 = some (145, .iload_n 1, 0, 0) := by decide +kernel
theorem ri_63_146 : ro_ix 63 146 = some (146, .iload_n 2, 0, 0) := by decide +kernel
theorem ri_63_147 : ro_ix 63 147 = some (147, .iadd, 0, 0) := by decide +kernel
theorem ri_63_148 : ro_ix 63 148 = some (148, .ireturn, 0, 0) := by decide +kernel
theorem ri_63_149 : ro_ix 63 149 = some (149, .iload_n 1, 0, 0) := by decide +kernel
theorem ri_63_150 : ro_ix 63 150 = some (150, .iload_n 2, 0, 0) := by decide +kernel
theorem ri_63_151 : ro_ix 63 151 = some (151, .isub, 0, 0) := by decide +kernel
theorem ri_63_152 : ro_ix 63 152 = some (152, .ireturn, 0, 0) := by decide +kernel
theorem ri_63_153 : ro_ix 63 153 = some (153, .iload_n 1, 0, 0) := by decide +kernel
theorem ri_63_154 : ro_ix 63 154 = some (154, .iload_n 2, 0, 0) := by decide +kernel
theorem ri_63_155 : ro_ix 63 155 = some (155, .imul, 0, 0) := by decide +kernel
theorem ri_63_156 : ro_ix 63 156 = some (156, .ireturn, 0, 0) := by decide +kernel
theorem ri_63_157 : ro_ix 63 157 = some (157, .iload_n 2, 0, 0) := by decide +kernel
theorem ri_63_158 : ro_ix 63 158 = some (158, .ifCond .ne 7, 0, 0) := by decide +kernel
theorem ri_63_161 : ro_ix 63 161 = some (161, .iconst 0, 0, 0) := by decide +kernel
theorem ri_63_162 : ro_ix 63 162 = some (162, .goto 6, 0, 0) := by decide +kernel
theorem ri_63_165 : ro_ix 63 165 = some (165, .iload_n 1, 0, 0) := by decide +kernel
theorem ri_63_166 : ro_ix 63 166 = some (166, .iload_n 2, 0, 0) := by decide +kernel
theorem ri_63_167 : ro_ix 63 167 = some (167, .idiv, 0, 0) := by decide +kernel
theorem ri_63_168 : ro_ix 63 168 = some (168, .ireturn, 0, 0) := by decide +kernel
theorem ri_63_169 : ro_ix 63 169 = some (169, .iload_n 2, 0, 0) := by decide +kernel
theorem ri_63_170 : ro_ix 63 170 = some (170, .ifCond .ne 7, 0, 0) := by decide +kernel
theorem ri_63_173 : ro_ix 63 173 = some (173, .iconst 0, 0, 0) := by decide +kernel
theorem ri_63_174 : ro_ix 63 174 = some (174, .goto 6, 0, 0) := by decide +kernel
theorem ri_63_177 : ro_ix 63 177 = some (177, .iload_n 1, 0, 0) := by decide +kernel
theorem ri_63_178 : ro_ix 63 178 = some (178, .iload_n 2, 0, 0) := by decide +kernel
theorem ri_63_179 : ro_ix 63 179 = some (179, .irem, 0, 0) := by decide +kernel
theorem ri_63_180 : ro_ix 63 180 = some (180, .ireturn, 0, 0) := by decide +kernel
/-- RefusedOnce.later(IIII)I -/
theorem rm_64 : (ro_m 64).2.2.1 = 6 ∧ (ro_m 64).2.2.2.1 = (some .int) ∧ (ro_m 64).2.2.2.2.1 = 11 ∧ (ro_m 64).2.2.2.2.2.1 = 4 := ⟨rfl, rfl, rfl, rfl⟩
theorem ri_64_0 : ro_ix 64 0 = some (0, .aload_n 0, 0, 0) := by decide +kernel
theorem ri_64_1 : ro_ix 64 1 = some (1, .iload_n 1, 0, 0) := by decide +kernel
theorem ri_64_2 : ro_ix 64 2 = some (2, .invokevirtual 87, 20, 0) := by decide +kernel
theorem ri_64_5 : ro_ix 64 5 = some (5, .astore 5, 0, 0) := by decide +kernel
theorem ri_64_7 : ro_ix 64 7 = some (7, .aload 5, 0, 0) := by decide +kernel
theorem ri_64_9 : ro_ix 64 9 = some (9, .ifnull 34, 0, 0) := by decide +kernel
theorem ri_64_12 : ro_ix 64 12 = some (12, .iload_n 2, 0, 0) := by decide +kernel
theorem ri_64_13 : ro_ix 64 13 = some (13, .iconst 0, 0, 0) := by decide +kernel
theorem ri_64_14 : ro_ix 64 14 = some (14, .bipush 20, 0, 0) := by decide +kernel
theorem ri_64_16 : ro_ix 64 16 = some (16, .invokestatic 76, 13, 0) := by decide +kernel
theorem ri_64_19 : ro_ix 64 19 = some (19, .ifCond .eq 24, 0, 0) := by decide +kernel
theorem ri_64_22 : ro_ix 64 22 = some (22, .aload_n 0, 0, 0) := by decide +kernel
theorem ri_64_23 : ro_ix 64 23 = some (23, .getfield 10, 11, 0) := by decide +kernel
theorem ri_64_26 : ro_ix 64 26 = some (26, .iload_n 3, 0, 0) := by decide +kernel
theorem ri_64_27 : ro_ix 64 27 = some (27, .invokevirtual 128, 29, 0) := by decide +kernel
theorem ri_64_30 : ro_ix 64 30 = some (30, .ifCond .eq 13, 0, 0) := by decide +kernel
theorem ri_64_33 : ro_ix 64 33 = some (33, .iload 4, 0, 0) := by decide +kernel
theorem ri_64_35 : ro_ix 64 35 = some (35, .iconst 0, 0, 0) := by decide +kernel
theorem ri_64_36 : ro_ix 64 36 = some (36, .iconst 2, 0, 0) := by decide +kernel
theorem ri_64_37 : ro_ix 64 37 = some (37, .invokestatic 76, 13, 0) := by decide +kernel
theorem ri_64_40 : ro_ix 64 40 = some (40, .ifCond .ne 5, 0, 0) := by decide +kernel
theorem ri_64_43 : ro_ix 64 43 = some (43, .iconst (-1), 0, 0) := by decide +kernel
theorem ri_64_44 : ro_ix 64 44 = some (44, .ireturn, 0, 0) := by decide +kernel
theorem ri_64_45 : ro_ix 64 45 = some (45, .aload 5, 0, 0) := by decide +kernel
theorem ri_64_47 : ro_ix 64 47 = some (47, .invokevirtual 95, 22, 0) := by decide +kernel
theorem ri_64_50 : ro_ix 64 50 = some (50, .ifCond .ne 9, 0, 0) := by decide +kernel
theorem ri_64_53 : ro_ix 64 53 = some (53, .aload 5, 0, 0) := by decide +kernel
theorem ri_64_55 : ro_ix 64 55 = some (55, .invokevirtual 159, 65, 0) := by decide +kernel
theorem ri_64_58 : ro_ix 64 58 = some (58, .ireturn, 0, 0) := by decide +kernel
theorem ri_64_59 : ro_ix 64 59 = some (59, .aload_n 0, 0, 0) := by decide +kernel
theorem ri_64_60 : ro_ix 64 60 = some (60, .getfield 35, 11, 3) := by decide +kernel
theorem ri_64_63 : ro_ix 64 63 = some (63, .aload 5, 0, 0) := by decide +kernel
theorem ri_64_65 : ro_ix 64 65 = some (65, .invokevirtual 162, 66, 0) := by decide +kernel
theorem ri_64_68 : ro_ix 64 68 = some (68, .aload_n 0, 0, 0) := by decide +kernel
theorem ri_64_69 : ro_ix 64 69 = some (69, .getfield 35, 11, 3) := by decide +kernel
theorem ri_64_72 : ro_ix 64 72 = some (72, .iload_n 2, 0, 0) := by decide +kernel
theorem ri_64_73 : ro_ix 64 73 = some (73, .invokevirtual 165, 67, 0) := by decide +kernel
theorem ri_64_76 : ro_ix 64 76 = some (76, .iload 4, 0, 0) := by decide +kernel
theorem ri_64_78 : ro_ix 64 78 = some (78, .iconst 2, 0, 0) := by decide +kernel
theorem ri_64_79 : ro_ix 64 79 = some (79, .if_icmp .ne 19, 0, 0) := by decide +kernel
theorem ri_64_82 : ro_ix 64 82 = some (82, .aload_n 0, 0, 0) := by decide +kernel
theorem ri_64_83 : ro_ix 64 83 = some (83, .getfield 10, 11, 0) := by decide +kernel
theorem ri_64_86 : ro_ix 64 86 = some (86, .aload_n 0, 0, 0) := by decide +kernel
theorem ri_64_87 : ro_ix 64 87 = some (87, .getfield 35, 11, 3) := by decide +kernel
theorem ri_64_90 : ro_ix 64 90 = some (90, .getfield 169, 3, 2) := by decide +kernel
theorem ri_64_93 : ro_ix 64 93 = some (93, .iload_n 3, 0, 0) := by decide +kernel
theorem ri_64_94 : ro_ix 64 94 = some (94, .invokevirtual 136, 37, 0) := by decide +kernel
theorem ri_64_97 : ro_ix 64 97 = some (97, .ireturn, 0, 0) := by decide +kernel
theorem ri_64_98 : ro_ix 64 98 = some (98, .iload 4, 0, 0) := by decide +kernel
theorem ri_64_100 : ro_ix 64 100 = some (100, .ifCond .ne 17, 0, 0) := by decide +kernel
theorem ri_64_103 : ro_ix 64 103 = some (103, .aload_n 0, 0, 0) := by decide +kernel
theorem ri_64_104 : ro_ix 64 104 = some (104, .getfield 35, 11, 3) := by decide +kernel
theorem ri_64_107 : ro_ix 64 107 = some (107, .getfield 169, 3, 2) := by decide +kernel
theorem ri_64_110 : ro_ix 64 110 = some (110, .iload_n 3, 0, 0) := by decide +kernel
theorem ri_64_111 : ro_ix 64 111 = some (111, .invokevirtual 172, 31, 0) := by decide +kernel
theorem ri_64_114 : ro_ix 64 114 = some (114, .goto 14, 0, 0) := by decide +kernel
theorem ri_64_117 : ro_ix 64 117 = some (117, .aload_n 0, 0, 0) := by decide +kernel
theorem ri_64_118 : ro_ix 64 118 = some (118, .getfield 35, 11, 3) := by decide +kernel
theorem ri_64_121 : ro_ix 64 121 = some (121, .getfield 169, 3, 2) := by decide +kernel
theorem ri_64_124 : ro_ix 64 124 = some (124, .iload_n 3, 0, 0) := by decide +kernel
theorem ri_64_125 : ro_ix 64 125 = some (125, .invokevirtual 177, 32, 0) := by decide +kernel
theorem ri_64_128 : ro_ix 64 128 = some (128, .ireturn, 0, 0) := by decide +kernel
/-- RefusedOnce$Shelf.refusal()I -/
theorem rm_65 : (ro_m 65).2.2.1 = 1 ∧ (ro_m 65).2.2.2.1 = (some .int) ∧ (ro_m 65).2.2.2.2.1 = 9 ∧ (ro_m 65).2.2.2.2.2.1 = 0 := ⟨rfl, rfl, rfl, rfl⟩
theorem ri_65_0 : ro_ix 65 0 = some (0, .aload_n 0, 0, 0) := by decide +kernel
theorem ri_65_1 : ro_ix 65 1 = some (1, .invokevirtual 23, 21, 0) := by decide +kernel
theorem ri_65_4 : ro_ix 65 4 = some (4, .ifCond .eq 8, 0, 0) := by decide +kernel
theorem ri_65_7 : ro_ix 65 7 = some (7, .bipush (-11), 0, 0) := by decide +kernel
theorem ri_65_9 : ro_ix 65 9 = some (9, .goto 5, 0, 0) := by decide +kernel
theorem ri_65_12 : ro_ix 65 12 = some (12, .bipush (-12), 0, 0) := by decide +kernel
theorem ri_65_14 : ro_ix 65 14 = some (14, .ireturn, 0, 0) := by decide +kernel
/-- RefusedOnce$Evening.read(LRefusedOnce$Shelf;)V -/
theorem rm_66 : (ro_m 66).2.2.1 = 3 ∧ (ro_m 66).2.2.2.1 = none ∧ (ro_m 66).2.2.2.2.1 = 3 ∧ (ro_m 66).2.2.2.2.2.1 = 1 := ⟨rfl, rfl, rfl, rfl⟩
theorem ri_66_0 : ro_ix 66 0 = some (0, .aload_n 0, 0, 0) := by decide +kernel
theorem ri_66_1 : ro_ix 66 1 = some (1, .iconst 0, 0, 0) := by decide +kernel
theorem ri_66_2 : ro_ix 66 2 = some (2, .putfield 36, 3, 6) := by decide +kernel
theorem ri_66_5 : ro_ix 66 5 = some (5, .aload_n 0, 0, 0) := by decide +kernel
theorem ri_66_6 : ro_ix 66 6 = some (6, .getfield 36, 3, 6) := by decide +kernel
theorem ri_66_9 : ro_ix 66 9 = some (9, .bipush 20, 0, 0) := by decide +kernel
theorem ri_66_11 : ro_ix 66 11 = some (11, .if_icmp .ge 101, 0, 0) := by decide +kernel
theorem ri_66_14 : ro_ix 66 14 = some (14, .aload_n 0, 0, 0) := by decide +kernel
theorem ri_66_15 : ro_ix 66 15 = some (15, .getfield 36, 3, 6) := by decide +kernel
theorem ri_66_18 : ro_ix 66 18 = some (18, .aload_n 1, 0, 0) := by decide +kernel
theorem ri_66_19 : ro_ix 66 19 = some (19, .invokevirtual 40, 24, 0) := by decide +kernel
theorem ri_66_22 : ro_ix 66 22 = some (22, .if_icmp .ge 90, 0, 0) := by decide +kernel
theorem ri_66_25 : ro_ix 66 25 = some (25, .aload_n 1, 0, 0) := by decide +kernel
theorem ri_66_26 : ro_ix 66 26 = some (26, .aload_n 0, 0, 0) := by decide +kernel
theorem ri_66_27 : ro_ix 66 27 = some (27, .getfield 36, 3, 6) := by decide +kernel
theorem ri_66_30 : ro_ix 66 30 = some (30, .invokevirtual 45, 25, 0) := by decide +kernel
theorem ri_66_33 : ro_ix 66 33 = some (33, .istore_n 2, 0, 0) := by decide +kernel
theorem ri_66_34 : ro_ix 66 34 = some (34, .iload_n 2, 0, 0) := by decide +kernel
theorem ri_66_35 : ro_ix 66 35 = some (35, .ifCond .lt 23, 0, 0) := by decide +kernel
theorem ri_66_38 : ro_ix 66 38 = some (38, .aload_n 0, 0, 0) := by decide +kernel
theorem ri_66_39 : ro_ix 66 39 = some (39, .getfield 28, 3, 0) := by decide +kernel
theorem ri_66_42 : ro_ix 66 42 = some (42, .iload_n 2, 0, 0) := by decide +kernel
theorem ri_66_43 : ro_ix 66 43 = some (43, .bipush 20, 0, 0) := by decide +kernel
theorem ri_66_45 : ro_ix 66 45 = some (45, .idiv, 0, 0) := by decide +kernel
theorem ri_66_46 : ro_ix 66 46 = some (46, .iload_n 2, 0, 0) := by decide +kernel
theorem ri_66_47 : ro_ix 66 47 = some (47, .bipush 20, 0, 0) := by decide +kernel
theorem ri_66_49 : ro_ix 66 49 = some (49, .irem, 0, 0) := by decide +kernel
theorem ri_66_50 : ro_ix 66 50 = some (50, .iconst 2, 0, 0) := by decide +kernel
theorem ri_66_51 : ro_ix 66 51 = some (51, .idiv, 0, 0) := by decide +kernel
theorem ri_66_52 : ro_ix 66 52 = some (52, .invokevirtual 49, 57, 0) := by decide +kernel
theorem ri_66_55 : ro_ix 66 55 = some (55, .ifCond .ne 4, 0, 0) := by decide +kernel
theorem ri_66_58 : ro_ix 66 58 = some (58, .return_, 0, 0) := by decide +kernel
theorem ri_66_59 : ro_ix 66 59 = some (59, .aload_n 0, 0, 0) := by decide +kernel
theorem ri_66_60 : ro_ix 66 60 = some (60, .getfield 18, 3, 3) := by decide +kernel
theorem ri_66_63 : ro_ix 66 63 = some (63, .aload_n 0, 0, 0) := by decide +kernel
theorem ri_66_64 : ro_ix 66 64 = some (64, .getfield 36, 3, 6) := by decide +kernel
theorem ri_66_67 : ro_ix 66 67 = some (67, .iload_n 2, 0, 0) := by decide +kernel
theorem ri_66_68 : ro_ix 66 68 = some (68, .bipush 20, 0, 0) := by decide +kernel
theorem ri_66_70 : ro_ix 66 70 = some (70, .idiv, 0, 0) := by decide +kernel
theorem ri_66_71 : ro_ix 66 71 = some (71, .iastore, 0, 0) := by decide +kernel
theorem ri_66_72 : ro_ix 66 72 = some (72, .aload_n 0, 0, 0) := by decide +kernel
theorem ri_66_73 : ro_ix 66 73 = some (73, .getfield 22, 3, 4) := by decide +kernel
theorem ri_66_76 : ro_ix 66 76 = some (76, .aload_n 0, 0, 0) := by decide +kernel
theorem ri_66_77 : ro_ix 66 77 = some (77, .getfield 36, 3, 6) := by decide +kernel
theorem ri_66_80 : ro_ix 66 80 = some (80, .iload_n 2, 0, 0) := by decide +kernel
theorem ri_66_81 : ro_ix 66 81 = some (81, .bipush 20, 0, 0) := by decide +kernel
theorem ri_66_83 : ro_ix 66 83 = some (83, .irem, 0, 0) := by decide +kernel
theorem ri_66_84 : ro_ix 66 84 = some (84, .iconst 2, 0, 0) := by decide +kernel
theorem ri_66_85 : ro_ix 66 85 = some (85, .idiv, 0, 0) := by decide +kernel
theorem ri_66_86 : ro_ix 66 86 = some (86, .iastore, 0, 0) := by decide +kernel
theorem ri_66_87 : ro_ix 66 87 = some (87, .aload_n 0, 0, 0) := by decide +kernel
theorem ri_66_88 : ro_ix 66 88 = some (88, .getfield 25, 3, 5) := by decide +kernel
theorem ri_66_91 : ro_ix 66 91 = some (91, .aload_n 0, 0, 0) := by decide +kernel
theorem ri_66_92 : ro_ix 66 92 = some (92, .getfield 36, 3, 6) := by decide +kernel
theorem ri_66_95 : ro_ix 66 95 = some (95, .iload_n 2, 0, 0) := by decide +kernel
theorem ri_66_96 : ro_ix 66 96 = some (96, .iconst 2, 0, 0) := by decide +kernel
theorem ri_66_97 : ro_ix 66 97 = some (97, .irem, 0, 0) := by decide +kernel
theorem ri_66_98 : ro_ix 66 98 = some (98, .iastore, 0, 0) := by decide +kernel
theorem ri_66_99 : ro_ix 66 99 = some (99, .aload_n 0, 0, 0) := by decide +kernel
theorem ri_66_100 : ro_ix 66 100 = some (100, .dup, 0, 0) := by decide +kernel
theorem ri_66_101 : ro_ix 66 101 = some (101, .getfield 36, 3, 6) := by decide +kernel
theorem ri_66_104 : ro_ix 66 104 = some (104, .iconst 1, 0, 0) := by decide +kernel
theorem ri_66_105 : ro_ix 66 105 = some (105, .iadd, 0, 0) := by decide +kernel
theorem ri_66_106 : ro_ix 66 106 = some (106, .putfield 36, 3, 6) := by decide +kernel
theorem ri_66_109 : ro_ix 66 109 = some (109, .goto (-104), 0, 0) := by decide +kernel
theorem ri_66_112 : ro_ix 66 112 = some (112, .return_, 0, 0) := by decide +kernel
/-- RefusedOnce$Evening.play(I)V -/
theorem rm_67 : (ro_m 67).2.2.1 = 3 ∧ (ro_m 67).2.2.2.1 = none ∧ (ro_m 67).2.2.2.2.1 = 3 ∧ (ro_m 67).2.2.2.2.2.1 = 1 := ⟨rfl, rfl, rfl, rfl⟩
theorem ri_67_0 : ro_ix 67 0 = some (0, .aload_n 0, 0, 0) := by decide +kernel
theorem ri_67_1 : ro_ix 67 1 = some (1, .getfield 12, 3, 2) := by decide +kernel
theorem ri_67_4 : ro_ix 67 4 = some (4, .aload_n 0, 0, 0) := by decide +kernel
theorem ri_67_5 : ro_ix 67 5 = some (5, .getfield 28, 3, 0) := by decide +kernel
theorem ri_67_8 : ro_ix 67 8 = some (8, .getfield 55, 4, 0) := by decide +kernel
theorem ri_67_11 : ro_ix 67 11 = some (11, .aload_n 0, 0, 0) := by decide +kernel
theorem ri_67_12 : ro_ix 67 12 = some (12, .getfield 28, 3, 0) := by decide +kernel
theorem ri_67_15 : ro_ix 67 15 = some (15, .invokevirtual 58, 18, 0) := by decide +kernel
theorem ri_67_18 : ro_ix 67 18 = some (18, .invokevirtual 61, 68, 0) := by decide +kernel
theorem ri_67_21 : ro_ix 67 21 = some (21, .aload_n 0, 0, 0) := by decide +kernel
theorem ri_67_22 : ro_ix 67 22 = some (22, .iconst 0, 0, 0) := by decide +kernel
theorem ri_67_23 : ro_ix 67 23 = some (23, .putfield 65, 3, 7) := by decide +kernel
theorem ri_67_26 : ro_ix 67 26 = some (26, .aload_n 0, 0, 0) := by decide +kernel
theorem ri_67_27 : ro_ix 67 27 = some (27, .bipush (-2), 0, 0) := by decide +kernel
theorem ri_67_29 : ro_ix 67 29 = some (29, .putfield 68, 3, 8) := by decide +kernel
theorem ri_67_32 : ro_ix 67 32 = some (32, .aload_n 0, 0, 0) := by decide +kernel
theorem ri_67_33 : ro_ix 67 33 = some (33, .iconst 0, 0, 0) := by decide +kernel
theorem ri_67_34 : ro_ix 67 34 = some (34, .putfield 71, 3, 9) := by decide +kernel
theorem ri_67_37 : ro_ix 67 37 = some (37, .iconst 0, 0, 0) := by decide +kernel
theorem ri_67_38 : ro_ix 67 38 = some (38, .istore_n 2, 0, 0) := by decide +kernel
theorem ri_67_39 : ro_ix 67 39 = some (39, .iload_n 2, 0, 0) := by decide +kernel
theorem ri_67_40 : ro_ix 67 40 = some (40, .iload_n 1, 0, 0) := by decide +kernel
theorem ri_67_41 : ro_ix 67 41 = some (41, .if_icmp .ge 53, 0, 0) := by decide +kernel
theorem ri_67_44 : ro_ix 67 44 = some (44, .iload_n 2, 0, 0) := by decide +kernel
theorem ri_67_45 : ro_ix 67 45 = some (45, .aload_n 0, 0, 0) := by decide +kernel
theorem ri_67_46 : ro_ix 67 46 = some (46, .getfield 36, 3, 6) := by decide +kernel
theorem ri_67_49 : ro_ix 67 49 = some (49, .if_icmp .ge 45, 0, 0) := by decide +kernel
theorem ri_67_52 : ro_ix 67 52 = some (52, .aload_n 0, 0, 0) := by decide +kernel
theorem ri_67_53 : ro_ix 67 53 = some (53, .aload_n 0, 0, 0) := by decide +kernel
theorem ri_67_54 : ro_ix 67 54 = some (54, .iload_n 2, 0, 0) := by decide +kernel
theorem ri_67_55 : ro_ix 67 55 = some (55, .invokevirtual 74, 69, 0) := by decide +kernel
theorem ri_67_58 : ro_ix 67 58 = some (58, .aload_n 0, 0, 0) := by decide +kernel
theorem ri_67_59 : ro_ix 67 59 = some (59, .iload_n 2, 0, 0) := by decide +kernel
theorem ri_67_60 : ro_ix 67 60 = some (60, .invokevirtual 77, 70, 0) := by decide +kernel
theorem ri_67_63 : ro_ix 67 63 = some (63, .aload_n 0, 0, 0) := by decide +kernel
theorem ri_67_64 : ro_ix 67 64 = some (64, .iload_n 2, 0, 0) := by decide +kernel
theorem ri_67_65 : ro_ix 67 65 = some (65, .invokevirtual 80, 71, 0) := by decide +kernel
theorem ri_67_68 : ro_ix 67 68 = some (68, .invokevirtual 84, 72, 0) := by decide +kernel
theorem ri_67_71 : ro_ix 67 71 = some (71, .ifCond .ne 17, 0, 0) := by decide +kernel
theorem ri_67_74 : ro_ix 67 74 = some (74, .aload_n 0, 0, 0) := by decide +kernel
theorem ri_67_75 : ro_ix 67 75 = some (75, .getfield 68, 3, 8) := by decide +kernel
theorem ri_67_78 : ro_ix 67 78 = some (78, .bipush (-2), 0, 0) := by decide +kernel
theorem ri_67_80 : ro_ix 67 80 = some (80, .if_icmp .ne 8, 0, 0) := by decide +kernel
theorem ri_67_83 : ro_ix 67 83 = some (83, .aload_n 0, 0, 0) := by decide +kernel
theorem ri_67_84 : ro_ix 67 84 = some (84, .iload_n 2, 0, 0) := by decide +kernel
theorem ri_67_85 : ro_ix 67 85 = some (85, .putfield 68, 3, 8) := by decide +kernel
theorem ri_67_88 : ro_ix 67 88 = some (88, .iinc 2 1, 0, 0) := by decide +kernel
theorem ri_67_91 : ro_ix 67 91 = some (91, .goto (-52), 0, 0) := by decide +kernel
theorem ri_67_94 : ro_ix 67 94 = some (94, .return_, 0, 0) := by decide +kernel
/-- RefusedOnce$Purses.copyFirst(LRefusedOnce$Purses;I)V -/
theorem rm_68 : (ro_m 68).2.2.1 = 4 ∧ (ro_m 68).2.2.2.1 = none ∧ (ro_m 68).2.2.2.2.1 = 8 ∧ (ro_m 68).2.2.2.2.2.1 = 2 := ⟨rfl, rfl, rfl, rfl⟩
theorem ri_68_0 : ro_ix 68 0 = some (0, .iconst 0, 0, 0) := by decide +kernel
theorem ri_68_1 : ro_ix 68 1 = some (1, .istore_n 3, 0, 0) := by decide +kernel
theorem ri_68_2 : ro_ix 68 2 = some (2, .iload_n 3, 0, 0) := by decide +kernel
theorem ri_68_3 : ro_ix 68 3 = some (3, .iload_n 2, 0, 0) := by decide +kernel
theorem ri_68_4 : ro_ix 68 4 = some (4, .if_icmp .ge 35, 0, 0) := by decide +kernel
theorem ri_68_7 : ro_ix 68 7 = some (7, .iload_n 3, 0, 0) := by decide +kernel
theorem ri_68_8 : ro_ix 68 8 = some (8, .bipush 6, 0, 0) := by decide +kernel
theorem ri_68_10 : ro_ix 68 10 = some (10, .if_icmp .ge 29, 0, 0) := by decide +kernel
theorem ri_68_13 : ro_ix 68 13 = some (13, .aload_n 0, 0, 0) := by decide +kernel
theorem ri_68_14 : ro_ix 68 14 = some (14, .iload_n 3, 0, 0) := by decide +kernel
theorem ri_68_15 : ro_ix 68 15 = some (15, .aload_n 1, 0, 0) := by decide +kernel
theorem ri_68_16 : ro_ix 68 16 = some (16, .iload_n 3, 0, 0) := by decide +kernel
theorem ri_68_17 : ro_ix 68 17 = some (17, .invokevirtual 18, 31, 0) := by decide +kernel
theorem ri_68_20 : ro_ix 68 20 = some (20, .invokevirtual 22, 16, 0) := by decide +kernel
theorem ri_68_23 : ro_ix 68 23 = some (23, .aload_n 0, 0, 0) := by decide +kernel
theorem ri_68_24 : ro_ix 68 24 = some (24, .iload_n 3, 0, 0) := by decide +kernel
theorem ri_68_25 : ro_ix 68 25 = some (25, .aload_n 1, 0, 0) := by decide +kernel
theorem ri_68_26 : ro_ix 68 26 = some (26, .iload_n 3, 0, 0) := by decide +kernel
theorem ri_68_27 : ro_ix 68 27 = some (27, .invokevirtual 26, 32, 0) := by decide +kernel
theorem ri_68_30 : ro_ix 68 30 = some (30, .invokevirtual 29, 17, 0) := by decide +kernel
theorem ri_68_33 : ro_ix 68 33 = some (33, .iinc 3 1, 0, 0) := by decide +kernel
theorem ri_68_36 : ro_ix 68 36 = some (36, .goto (-34), 0, 0) := by decide +kernel
theorem ri_68_39 : ro_ix 68 39 = some (39, .return_, 0, 0) := by decide +kernel
/-- RefusedOnce$Evening.byAt(I)I -/
theorem rm_69 : (ro_m 69).2.2.1 = 2 ∧ (ro_m 69).2.2.2.1 = (some .int) ∧ (ro_m 69).2.2.2.2.1 = 3 ∧ (ro_m 69).2.2.2.2.2.1 = 1 := ⟨rfl, rfl, rfl, rfl⟩
theorem ri_69_0 : ro_ix 69 0 = some (0, .iload_n 1, 0, 0) := by decide +kernel
theorem ri_69_1 : ro_ix 69 1 = some (1, .ifCond .lt 21, 0, 0) := by decide +kernel
theorem ri_69_4 : ro_ix 69 4 = some (4, .iload_n 1, 0, 0) := by decide +kernel
theorem ri_69_5 : ro_ix 69 5 = some (5, .aload_n 0, 0, 0) := by decide +kernel
theorem ri_69_6 : ro_ix 69 6 = some (6, .getfield 18, 3, 3) := by decide +kernel
theorem ri_69_9 : ro_ix 69 9 = some (9, .arraylength, 0, 0) := by decide +kernel
theorem ri_69_10 : ro_ix 69 10 = some (10, .if_icmp .ge 12, 0, 0) := by decide +kernel
theorem ri_69_13 : ro_ix 69 13 = some (13, .aload_n 0, 0, 0) := by decide +kernel
theorem ri_69_14 : ro_ix 69 14 = some (14, .getfield 18, 3, 3) := by decide +kernel
theorem ri_69_17 : ro_ix 69 17 = some (17, .iload_n 1, 0, 0) := by decide +kernel
theorem ri_69_18 : ro_ix 69 18 = some (18, .iaload, 0, 0) := by decide +kernel
theorem ri_69_19 : ro_ix 69 19 = some (19, .goto 4, 0, 0) := by decide +kernel
theorem ri_69_22 : ro_ix 69 22 = some (22, .iconst 0, 0, 0) := by decide +kernel
theorem ri_69_23 : ro_ix 69 23 = some (23, .ireturn, 0, 0) := by decide +kernel
/-- RefusedOnce$Evening.toAt(I)I -/
theorem rm_70 : (ro_m 70).2.2.1 = 2 ∧ (ro_m 70).2.2.2.1 = (some .int) ∧ (ro_m 70).2.2.2.2.1 = 3 ∧ (ro_m 70).2.2.2.2.2.1 = 1 := ⟨rfl, rfl, rfl, rfl⟩
theorem ri_70_0 : ro_ix 70 0 = some (0, .iload_n 1, 0, 0) := by decide +kernel
theorem ri_70_1 : ro_ix 70 1 = some (1, .ifCond .lt 21, 0, 0) := by decide +kernel
theorem ri_70_4 : ro_ix 70 4 = some (4, .iload_n 1, 0, 0) := by decide +kernel
theorem ri_70_5 : ro_ix 70 5 = some (5, .aload_n 0, 0, 0) := by decide +kernel
theorem ri_70_6 : ro_ix 70 6 = some (6, .getfield 22, 3, 4) := by decide +kernel
theorem ri_70_9 : ro_ix 70 9 = some (9, .arraylength, 0, 0) := by decide +kernel
theorem ri_70_10 : ro_ix 70 10 = some (10, .if_icmp .ge 12, 0, 0) := by decide +kernel
theorem ri_70_13 : ro_ix 70 13 = some (13, .aload_n 0, 0, 0) := by decide +kernel
theorem ri_70_14 : ro_ix 70 14 = some (14, .getfield 22, 3, 4) := by decide +kernel
theorem ri_70_17 : ro_ix 70 17 = some (17, .iload_n 1, 0, 0) := by decide +kernel
theorem ri_70_18 : ro_ix 70 18 = some (18, .iaload, 0, 0) := by decide +kernel
theorem ri_70_19 : ro_ix 70 19 = some (19, .goto 4, 0, 0) := by decide +kernel
theorem ri_70_22 : ro_ix 70 22 = some (22, .iconst 0, 0, 0) := by decide +kernel
theorem ri_70_23 : ro_ix 70 23 = some (23, .ireturn, 0, 0) := by decide +kernel
/-- RefusedOnce$Evening.isWholeAt(I)Z -/
theorem rm_71 : (ro_m 71).2.2.1 = 2 ∧ (ro_m 71).2.2.2.1 = (some .boolean) ∧ (ro_m 71).2.2.2.2.1 = 3 ∧ (ro_m 71).2.2.2.2.2.1 = 1 := ⟨rfl, rfl, rfl, rfl⟩
theorem ri_71_0 : ro_ix 71 0 = some (0, .iload_n 1, 0, 0) := by decide +kernel
theorem ri_71_1 : ro_ix 71 1 = some (1, .ifCond .lt 25, 0, 0) := by decide +kernel
theorem ri_71_4 : ro_ix 71 4 = some (4, .iload_n 1, 0, 0) := by decide +kernel
theorem ri_71_5 : ro_ix 71 5 = some (5, .aload_n 0, 0, 0) := by decide +kernel
theorem ri_71_6 : ro_ix 71 6 = some (6, .getfield 25, 3, 5) := by decide +kernel
theorem ri_71_9 : ro_ix 71 9 = some (9, .arraylength, 0, 0) := by decide +kernel
theorem ri_71_10 : ro_ix 71 10 = some (10, .if_icmp .ge 16, 0, 0) := by decide +kernel
theorem ri_71_13 : ro_ix 71 13 = some (13, .aload_n 0, 0, 0) := by decide +kernel
theorem ri_71_14 : ro_ix 71 14 = some (14, .getfield 25, 3, 5) := by decide +kernel
theorem ri_71_17 : ro_ix 71 17 = some (17, .iload_n 1, 0, 0) := by decide +kernel
theorem ri_71_18 : ro_ix 71 18 = some (18, .iaload, 0, 0) := by decide +kernel
theorem ri_71_19 : ro_ix 71 19 = some (19, .ifCond .ne 7, 0, 0) := by decide +kernel
theorem ri_71_22 : ro_ix 71 22 = some (22, .iconst 1, 0, 0) := by decide +kernel
theorem ri_71_23 : ro_ix 71 23 = some (23, .goto 4, 0, 0) := by decide +kernel
theorem ri_71_26 : ro_ix 71 26 = some (26, .iconst 0, 0, 0) := by decide +kernel
theorem ri_71_27 : ro_ix 71 27 = some (27, .ireturn, 0, 0) := by decide +kernel
/-- RefusedOnce$Evening.isOffered(IIZ)Z -/
theorem rm_72 : (ro_m 72).2.2.1 = 5 ∧ (ro_m 72).2.2.2.1 = (some .boolean) ∧ (ro_m 72).2.2.2.2.1 = 3 ∧ (ro_m 72).2.2.2.2.2.1 = 3 := ⟨rfl, rfl, rfl, rfl⟩
theorem ri_72_0 : ro_ix 72 0 = some (0, .iload_n 3, 0, 0) := by decide +kernel
theorem ri_72_1 : ro_ix 72 1 = some (1, .ifCond .ne 31, 0, 0) := by decide +kernel
theorem ri_72_4 : ro_ix 72 4 = some (4, .aload_n 0, 0, 0) := by decide +kernel
theorem ri_72_5 : ro_ix 72 5 = some (5, .getfield 12, 3, 2) := by decide +kernel
theorem ri_72_8 : ro_ix 72 8 = some (8, .iload_n 1, 0, 0) := by decide +kernel
theorem ri_72_9 : ro_ix 72 9 = some (9, .iload_n 2, 0, 0) := by decide +kernel
theorem ri_72_10 : ro_ix 72 10 = some (10, .invokevirtual 88, 73, 0) := by decide +kernel
theorem ri_72_13 : ro_ix 72 13 = some (13, .istore 4, 0, 0) := by decide +kernel
theorem ri_72_15 : ro_ix 72 15 = some (15, .iload 4, 0, 0) := by decide +kernel
theorem ri_72_17 : ro_ix 72 17 = some (17, .ifCond .eq 12, 0, 0) := by decide +kernel
theorem ri_72_20 : ro_ix 72 20 = some (20, .aload_n 0, 0, 0) := by decide +kernel
theorem ri_72_21 : ro_ix 72 21 = some (21, .getfield 12, 3, 2) := by decide +kernel
theorem ri_72_24 : ro_ix 72 24 = some (24, .iload_n 1, 0, 0) := by decide +kernel
theorem ri_72_25 : ro_ix 72 25 = some (25, .iload_n 2, 0, 0) := by decide +kernel
theorem ri_72_26 : ro_ix 72 26 = some (26, .invokevirtual 91, 74, 0) := by decide +kernel
theorem ri_72_29 : ro_ix 72 29 = some (29, .iload 4, 0, 0) := by decide +kernel
theorem ri_72_31 : ro_ix 72 31 = some (31, .ireturn, 0, 0) := by decide +kernel
theorem ri_72_32 : ro_ix 72 32 = some (32, .aload_n 0, 0, 0) := by decide +kernel
theorem ri_72_33 : ro_ix 72 33 = some (33, .getfield 12, 3, 2) := by decide +kernel
theorem ri_72_36 : ro_ix 72 36 = some (36, .iload_n 1, 0, 0) := by decide +kernel
theorem ri_72_37 : ro_ix 72 37 = some (37, .iload_n 2, 0, 0) := by decide +kernel
theorem ri_72_38 : ro_ix 72 38 = some (38, .invokevirtual 95, 75, 0) := by decide +kernel
theorem ri_72_41 : ro_ix 72 41 = some (41, .ifCond .ne 5, 0, 0) := by decide +kernel
theorem ri_72_44 : ro_ix 72 44 = some (44, .iconst 0, 0, 0) := by decide +kernel
theorem ri_72_45 : ro_ix 72 45 = some (45, .ireturn, 0, 0) := by decide +kernel
theorem ri_72_46 : ro_ix 72 46 = some (46, .aload_n 0, 0, 0) := by decide +kernel
theorem ri_72_47 : ro_ix 72 47 = some (47, .iload_n 1, 0, 0) := by decide +kernel
theorem ri_72_48 : ro_ix 72 48 = some (48, .iload_n 2, 0, 0) := by decide +kernel
theorem ri_72_49 : ro_ix 72 49 = some (49, .aload_n 0, 0, 0) := by decide +kernel
theorem ri_72_50 : ro_ix 72 50 = some (50, .getfield 32, 3, 1) := by decide +kernel
theorem ri_72_53 : ro_ix 72 53 = some (53, .aload_n 0, 0, 0) := by decide +kernel
theorem ri_72_54 : ro_ix 72 54 = some (54, .getfield 28, 3, 0) := by decide +kernel
theorem ri_72_57 : ro_ix 72 57 = some (57, .aload_n 0, 0, 0) := by decide +kernel
theorem ri_72_58 : ro_ix 72 58 = some (58, .getfield 12, 3, 2) := by decide +kernel
theorem ri_72_61 : ro_ix 72 61 = some (61, .iload_n 1, 0, 0) := by decide +kernel
theorem ri_72_62 : ro_ix 72 62 = some (62, .iload_n 2, 0, 0) := by decide +kernel
theorem ri_72_63 : ro_ix 72 63 = some (63, .invokevirtual 98, 58, 0) := by decide +kernel
theorem ri_72_66 : ro_ix 72 66 = some (66, .aload_n 0, 0, 0) := by decide +kernel
theorem ri_72_67 : ro_ix 72 67 = some (67, .getfield 28, 3, 0) := by decide +kernel
theorem ri_72_70 : ro_ix 72 70 = some (70, .iconst 0, 0, 0) := by decide +kernel
theorem ri_72_71 : ro_ix 72 71 = some (71, .bipush 6, 0, 0) := by decide +kernel
theorem ri_72_73 : ro_ix 72 73 = some (73, .invokevirtual 104, 30, 0) := by decide +kernel
theorem ri_72_76 : ro_ix 72 76 = some (76, .if_icmp .lt 7, 0, 0) := by decide +kernel
theorem ri_72_79 : ro_ix 72 79 = some (79, .iconst 1, 0, 0) := by decide +kernel
theorem ri_72_80 : ro_ix 72 80 = some (80, .goto 4, 0, 0) := by decide +kernel
theorem ri_72_83 : ro_ix 72 83 = some (83, .iconst 0, 0, 0) := by decide +kernel
theorem ri_72_84 : ro_ix 72 84 = some (84, .invokevirtual 108, 76, 0) := by decide +kernel
theorem ri_72_87 : ro_ix 72 87 = some (87, .iconst 1, 0, 0) := by decide +kernel
theorem ri_72_88 : ro_ix 72 88 = some (88, .ireturn, 0, 0) := by decide +kernel
/-- RefusedOnce$Purses.mayOfferCut(II)Z -/
theorem rm_73 : (ro_m 73).2.2.1 = 3 ∧ (ro_m 73).2.2.2.1 = (some .boolean) ∧ (ro_m 73).2.2.2.2.1 = 8 ∧ (ro_m 73).2.2.2.2.2.1 = 2 := ⟨rfl, rfl, rfl, rfl⟩
theorem ri_73_0 : ro_ix 73 0 = some (0, .aload_n 0, 0, 0) := by decide +kernel
theorem ri_73_1 : ro_ix 73 1 = some (1, .iload_n 1, 0, 0) := by decide +kernel
theorem ri_73_2 : ro_ix 73 2 = some (2, .invokevirtual 26, 32, 0) := by decide +kernel
theorem ri_73_5 : ro_ix 73 5 = some (5, .ifCond .le 17, 0, 0) := by decide +kernel
theorem ri_73_8 : ro_ix 73 8 = some (8, .aload_n 0, 0, 0) := by decide +kernel
theorem ri_73_9 : ro_ix 73 9 = some (9, .iload_n 2, 0, 0) := by decide +kernel
theorem ri_73_10 : ro_ix 73 10 = some (10, .invokevirtual 26, 32, 0) := by decide +kernel
theorem ri_73_13 : ro_ix 73 13 = some (13, .bipush 20, 0, 0) := by decide +kernel
theorem ri_73_15 : ro_ix 73 15 = some (15, .if_icmp .ge 7, 0, 0) := by decide +kernel
theorem ri_73_18 : ro_ix 73 18 = some (18, .iconst 1, 0, 0) := by decide +kernel
theorem ri_73_19 : ro_ix 73 19 = some (19, .goto 4, 0, 0) := by decide +kernel
theorem ri_73_22 : ro_ix 73 22 = some (22, .iconst 0, 0, 0) := by decide +kernel
theorem ri_73_23 : ro_ix 73 23 = some (23, .ireturn, 0, 0) := by decide +kernel
/-- RefusedOnce$Purses.giveCut(II)V -/
theorem rm_74 : (ro_m 74).2.2.1 = 3 ∧ (ro_m 74).2.2.2.1 = none ∧ (ro_m 74).2.2.2.2.1 = 8 ∧ (ro_m 74).2.2.2.2.2.1 = 2 := ⟨rfl, rfl, rfl, rfl⟩
theorem ri_74_0 : ro_ix 74 0 = some (0, .aload_n 0, 0, 0) := by decide +kernel
theorem ri_74_1 : ro_ix 74 1 = some (1, .iload_n 1, 0, 0) := by decide +kernel
theorem ri_74_2 : ro_ix 74 2 = some (2, .aload_n 0, 0, 0) := by decide +kernel
theorem ri_74_3 : ro_ix 74 3 = some (3, .iload_n 1, 0, 0) := by decide +kernel
theorem ri_74_4 : ro_ix 74 4 = some (4, .invokevirtual 26, 32, 0) := by decide +kernel
theorem ri_74_7 : ro_ix 74 7 = some (7, .iconst 1, 0, 0) := by decide +kernel
theorem ri_74_8 : ro_ix 74 8 = some (8, .isub, 0, 0) := by decide +kernel
theorem ri_74_9 : ro_ix 74 9 = some (9, .invokevirtual 29, 17, 0) := by decide +kernel
theorem ri_74_12 : ro_ix 74 12 = some (12, .aload_n 0, 0, 0) := by decide +kernel
theorem ri_74_13 : ro_ix 74 13 = some (13, .iload_n 2, 0, 0) := by decide +kernel
theorem ri_74_14 : ro_ix 74 14 = some (14, .aload_n 0, 0, 0) := by decide +kernel
theorem ri_74_15 : ro_ix 74 15 = some (15, .iload_n 2, 0, 0) := by decide +kernel
theorem ri_74_16 : ro_ix 74 16 = some (16, .invokevirtual 26, 32, 0) := by decide +kernel
theorem ri_74_19 : ro_ix 74 19 = some (19, .iconst 1, 0, 0) := by decide +kernel
theorem ri_74_20 : ro_ix 74 20 = some (20, .iadd, 0, 0) := by decide +kernel
theorem ri_74_21 : ro_ix 74 21 = some (21, .invokevirtual 29, 17, 0) := by decide +kernel
theorem ri_74_24 : ro_ix 74 24 = some (24, .return_, 0, 0) := by decide +kernel
/-- RefusedOnce$Purses.mayOfferWhole(II)Z -/
theorem rm_75 : (ro_m 75).2.2.1 = 3 ∧ (ro_m 75).2.2.2.1 = (some .boolean) ∧ (ro_m 75).2.2.2.2.1 = 8 ∧ (ro_m 75).2.2.2.2.2.1 = 2 := ⟨rfl, rfl, rfl, rfl⟩
theorem ri_75_0 : ro_ix 75 0 = some (0, .aload_n 0, 0, 0) := by decide +kernel
theorem ri_75_1 : ro_ix 75 1 = some (1, .iload_n 1, 0, 0) := by decide +kernel
theorem ri_75_2 : ro_ix 75 2 = some (2, .invokevirtual 18, 31, 0) := by decide +kernel
theorem ri_75_5 : ro_ix 75 5 = some (5, .ifCond .le 27, 0, 0) := by decide +kernel
theorem ri_75_8 : ro_ix 75 8 = some (8, .aload_n 0, 0, 0) := by decide +kernel
theorem ri_75_9 : ro_ix 75 9 = some (9, .iload_n 2, 0, 0) := by decide +kernel
theorem ri_75_10 : ro_ix 75 10 = some (10, .invokevirtual 18, 31, 0) := by decide +kernel
theorem ri_75_13 : ro_ix 75 13 = some (13, .bipush 20, 0, 0) := by decide +kernel
theorem ri_75_15 : ro_ix 75 15 = some (15, .if_icmp .ge 17, 0, 0) := by decide +kernel
theorem ri_75_18 : ro_ix 75 18 = some (18, .aload_n 0, 0, 0) := by decide +kernel
theorem ri_75_19 : ro_ix 75 19 = some (19, .iload_n 1, 0, 0) := by decide +kernel
theorem ri_75_20 : ro_ix 75 20 = some (20, .invokevirtual 26, 32, 0) := by decide +kernel
theorem ri_75_23 : ro_ix 75 23 = some (23, .bipush 20, 0, 0) := by decide +kernel
theorem ri_75_25 : ro_ix 75 25 = some (25, .if_icmp .ge 7, 0, 0) := by decide +kernel
theorem ri_75_28 : ro_ix 75 28 = some (28, .iconst 1, 0, 0) := by decide +kernel
theorem ri_75_29 : ro_ix 75 29 = some (29, .goto 4, 0, 0) := by decide +kernel
theorem ri_75_32 : ro_ix 75 32 = some (32, .iconst 0, 0, 0) := by decide +kernel
theorem ri_75_33 : ro_ix 75 33 = some (33, .ireturn, 0, 0) := by decide +kernel
/-- RefusedOnce$Evening.answer(IIZ)V -/
theorem rm_76 : (ro_m 76).2.2.1 = 4 ∧ (ro_m 76).2.2.2.1 = none ∧ (ro_m 76).2.2.2.2.1 = 3 ∧ (ro_m 76).2.2.2.2.2.1 = 3 := ⟨rfl, rfl, rfl, rfl⟩
theorem ri_76_0 : ro_ix 76 0 = some (0, .iload_n 3, 0, 0) := by decide +kernel
theorem ri_76_1 : ro_ix 76 1 = some (1, .ifCond .eq 36, 0, 0) := by decide +kernel
theorem ri_76_4 : ro_ix 76 4 = some (4, .aload_n 0, 0, 0) := by decide +kernel
theorem ri_76_5 : ro_ix 76 5 = some (5, .getfield 12, 3, 2) := by decide +kernel
theorem ri_76_8 : ro_ix 76 8 = some (8, .iload_n 1, 0, 0) := by decide +kernel
theorem ri_76_9 : ro_ix 76 9 = some (9, .invokevirtual 112, 77, 0) := by decide +kernel
theorem ri_76_12 : ro_ix 76 12 = some (12, .aload_n 0, 0, 0) := by decide +kernel
theorem ri_76_13 : ro_ix 76 13 = some (13, .dup, 0, 0) := by decide +kernel
theorem ri_76_14 : ro_ix 76 14 = some (14, .getfield 65, 3, 7) := by decide +kernel
theorem ri_76_17 : ro_ix 76 17 = some (17, .iconst 1, 0, 0) := by decide +kernel
theorem ri_76_18 : ro_ix 76 18 = some (18, .iadd, 0, 0) := by decide +kernel
theorem ri_76_19 : ro_ix 76 19 = some (19, .putfield 65, 3, 7) := by decide +kernel
theorem ri_76_22 : ro_ix 76 22 = some (22, .aload_n 0, 0, 0) := by decide +kernel
theorem ri_76_23 : ro_ix 76 23 = some (23, .dup, 0, 0) := by decide +kernel
theorem ri_76_24 : ro_ix 76 24 = some (24, .getfield 71, 3, 9) := by decide +kernel
theorem ri_76_27 : ro_ix 76 27 = some (27, .iconst 1, 0, 0) := by decide +kernel
theorem ri_76_28 : ro_ix 76 28 = some (28, .iload_n 2, 0, 0) := by decide +kernel
theorem ri_76_29 : ro_ix 76 29 = some (29, .ishl, 0, 0) := by decide +kernel
theorem ri_76_30 : ro_ix 76 30 = some (30, .ior, 0, 0) := by decide +kernel
theorem ri_76_31 : ro_ix 76 31 = some (31, .putfield 71, 3, 9) := by decide +kernel
theorem ri_76_34 : ro_ix 76 34 = some (34, .goto 12, 0, 0) := by decide +kernel
theorem ri_76_37 : ro_ix 76 37 = some (37, .aload_n 0, 0, 0) := by decide +kernel
theorem ri_76_38 : ro_ix 76 38 = some (38, .getfield 12, 3, 2) := by decide +kernel
theorem ri_76_41 : ro_ix 76 41 = some (41, .iload_n 1, 0, 0) := by decide +kernel
theorem ri_76_42 : ro_ix 76 42 = some (42, .iload_n 2, 0, 0) := by decide +kernel
theorem ri_76_43 : ro_ix 76 43 = some (43, .invokevirtual 116, 78, 0) := by decide +kernel
theorem ri_76_46 : ro_ix 76 46 = some (46, .return_, 0, 0) := by decide +kernel
/-- RefusedOnce$Purses.refuse(I)V -/
theorem rm_77 : (ro_m 77).2.2.1 = 2 ∧ (ro_m 77).2.2.2.1 = none ∧ (ro_m 77).2.2.2.2.1 = 8 ∧ (ro_m 77).2.2.2.2.2.1 = 1 := ⟨rfl, rfl, rfl, rfl⟩
theorem ri_77_0 : ro_ix 77 0 = some (0, .aload_n 0, 0, 0) := by decide +kernel
theorem ri_77_1 : ro_ix 77 1 = some (1, .iload_n 1, 0, 0) := by decide +kernel
theorem ri_77_2 : ro_ix 77 2 = some (2, .aload_n 0, 0, 0) := by decide +kernel
theorem ri_77_3 : ro_ix 77 3 = some (3, .iload_n 1, 0, 0) := by decide +kernel
theorem ri_77_4 : ro_ix 77 4 = some (4, .invokevirtual 18, 31, 0) := by decide +kernel
theorem ri_77_7 : ro_ix 77 7 = some (7, .iconst 1, 0, 0) := by decide +kernel
theorem ri_77_8 : ro_ix 77 8 = some (8, .isub, 0, 0) := by decide +kernel
theorem ri_77_9 : ro_ix 77 9 = some (9, .invokevirtual 22, 16, 0) := by decide +kernel
theorem ri_77_12 : ro_ix 77 12 = some (12, .aload_n 0, 0, 0) := by decide +kernel
theorem ri_77_13 : ro_ix 77 13 = some (13, .iload_n 1, 0, 0) := by decide +kernel
theorem ri_77_14 : ro_ix 77 14 = some (14, .aload_n 0, 0, 0) := by decide +kernel
theorem ri_77_15 : ro_ix 77 15 = some (15, .iload_n 1, 0, 0) := by decide +kernel
theorem ri_77_16 : ro_ix 77 16 = some (16, .invokevirtual 26, 32, 0) := by decide +kernel
theorem ri_77_19 : ro_ix 77 19 = some (19, .iconst 1, 0, 0) := by decide +kernel
theorem ri_77_20 : ro_ix 77 20 = some (20, .iadd, 0, 0) := by decide +kernel
theorem ri_77_21 : ro_ix 77 21 = some (21, .invokevirtual 29, 17, 0) := by decide +kernel
theorem ri_77_24 : ro_ix 77 24 = some (24, .return_, 0, 0) := by decide +kernel
/-- RefusedOnce$Purses.giveWhole(II)V -/
theorem rm_78 : (ro_m 78).2.2.1 = 3 ∧ (ro_m 78).2.2.2.1 = none ∧ (ro_m 78).2.2.2.2.1 = 8 ∧ (ro_m 78).2.2.2.2.2.1 = 2 := ⟨rfl, rfl, rfl, rfl⟩
theorem ri_78_0 : ro_ix 78 0 = some (0, .aload_n 0, 0, 0) := by decide +kernel
theorem ri_78_1 : ro_ix 78 1 = some (1, .iload_n 1, 0, 0) := by decide +kernel
theorem ri_78_2 : ro_ix 78 2 = some (2, .aload_n 0, 0, 0) := by decide +kernel
theorem ri_78_3 : ro_ix 78 3 = some (3, .iload_n 1, 0, 0) := by decide +kernel
theorem ri_78_4 : ro_ix 78 4 = some (4, .invokevirtual 18, 31, 0) := by decide +kernel
theorem ri_78_7 : ro_ix 78 7 = some (7, .iconst 1, 0, 0) := by decide +kernel
theorem ri_78_8 : ro_ix 78 8 = some (8, .isub, 0, 0) := by decide +kernel
theorem ri_78_9 : ro_ix 78 9 = some (9, .invokevirtual 22, 16, 0) := by decide +kernel
theorem ri_78_12 : ro_ix 78 12 = some (12, .aload_n 0, 0, 0) := by decide +kernel
theorem ri_78_13 : ro_ix 78 13 = some (13, .iload_n 2, 0, 0) := by decide +kernel
theorem ri_78_14 : ro_ix 78 14 = some (14, .aload_n 0, 0, 0) := by decide +kernel
theorem ri_78_15 : ro_ix 78 15 = some (15, .iload_n 2, 0, 0) := by decide +kernel
theorem ri_78_16 : ro_ix 78 16 = some (16, .invokevirtual 18, 31, 0) := by decide +kernel
theorem ri_78_19 : ro_ix 78 19 = some (19, .iconst 1, 0, 0) := by decide +kernel
theorem ri_78_20 : ro_ix 78 20 = some (20, .iadd, 0, 0) := by decide +kernel
theorem ri_78_21 : ro_ix 78 21 = some (21, .invokevirtual 22, 16, 0) := by decide +kernel
theorem ri_78_24 : ro_ix 78 24 = some (24, .return_, 0, 0) := by decide +kernel
/-- RefusedOnce.evening(III)I -/
theorem rm_79 : (ro_m 79).2.2.1 = 5 ∧ (ro_m 79).2.2.2.1 = (some .int) ∧ (ro_m 79).2.2.2.2.1 = 11 ∧ (ro_m 79).2.2.2.2.2.1 = 3 := ⟨rfl, rfl, rfl, rfl⟩
theorem ri_79_0 : ro_ix 79 0 = some (0, .aload_n 0, 0, 0) := by decide +kernel
theorem ri_79_1 : ro_ix 79 1 = some (1, .iload_n 1, 0, 0) := by decide +kernel
theorem ri_79_2 : ro_ix 79 2 = some (2, .invokevirtual 87, 20, 0) := by decide +kernel
theorem ri_79_5 : ro_ix 79 5 = some (5, .astore 4, 0, 0) := by decide +kernel
theorem ri_79_7 : ro_ix 79 7 = some (7, .aload 4, 0, 0) := by decide +kernel
theorem ri_79_9 : ro_ix 79 9 = some (9, .ifnull 22, 0, 0) := by decide +kernel
theorem ri_79_12 : ro_ix 79 12 = some (12, .iload_n 2, 0, 0) := by decide +kernel
theorem ri_79_13 : ro_ix 79 13 = some (13, .iconst 0, 0, 0) := by decide +kernel
theorem ri_79_14 : ro_ix 79 14 = some (14, .bipush 20, 0, 0) := by decide +kernel
theorem ri_79_16 : ro_ix 79 16 = some (16, .invokestatic 76, 13, 0) := by decide +kernel
theorem ri_79_19 : ro_ix 79 19 = some (19, .ifCond .eq 12, 0, 0) := by decide +kernel
theorem ri_79_22 : ro_ix 79 22 = some (22, .iload_n 3, 0, 0) := by decide +kernel
theorem ri_79_23 : ro_ix 79 23 = some (23, .iconst 0, 0, 0) := by decide +kernel
theorem ri_79_24 : ro_ix 79 24 = some (24, .iconst 2, 0, 0) := by decide +kernel
theorem ri_79_25 : ro_ix 79 25 = some (25, .invokestatic 76, 13, 0) := by decide +kernel
theorem ri_79_28 : ro_ix 79 28 = some (28, .ifCond .ne 5, 0, 0) := by decide +kernel
theorem ri_79_31 : ro_ix 79 31 = some (31, .iconst (-1), 0, 0) := by decide +kernel
theorem ri_79_32 : ro_ix 79 32 = some (32, .ireturn, 0, 0) := by decide +kernel
theorem ri_79_33 : ro_ix 79 33 = some (33, .aload 4, 0, 0) := by decide +kernel
theorem ri_79_35 : ro_ix 79 35 = some (35, .invokevirtual 95, 22, 0) := by decide +kernel
theorem ri_79_38 : ro_ix 79 38 = some (38, .ifCond .ne 9, 0, 0) := by decide +kernel
theorem ri_79_41 : ro_ix 79 41 = some (41, .aload 4, 0, 0) := by decide +kernel
theorem ri_79_43 : ro_ix 79 43 = some (43, .invokevirtual 159, 65, 0) := by decide +kernel
theorem ri_79_46 : ro_ix 79 46 = some (46, .ireturn, 0, 0) := by decide +kernel
theorem ri_79_47 : ro_ix 79 47 = some (47, .aload_n 0, 0, 0) := by decide +kernel
theorem ri_79_48 : ro_ix 79 48 = some (48, .getfield 35, 11, 3) := by decide +kernel
theorem ri_79_51 : ro_ix 79 51 = some (51, .aload 4, 0, 0) := by decide +kernel
theorem ri_79_53 : ro_ix 79 53 = some (53, .invokevirtual 162, 66, 0) := by decide +kernel
theorem ri_79_56 : ro_ix 79 56 = some (56, .aload_n 0, 0, 0) := by decide +kernel
theorem ri_79_57 : ro_ix 79 57 = some (57, .getfield 35, 11, 3) := by decide +kernel
theorem ri_79_60 : ro_ix 79 60 = some (60, .iload_n 2, 0, 0) := by decide +kernel
theorem ri_79_61 : ro_ix 79 61 = some (61, .invokevirtual 165, 67, 0) := by decide +kernel
theorem ri_79_64 : ro_ix 79 64 = some (64, .iload_n 3, 0, 0) := by decide +kernel
theorem ri_79_65 : ro_ix 79 65 = some (65, .ifCond .ne 11, 0, 0) := by decide +kernel
theorem ri_79_68 : ro_ix 79 68 = some (68, .aload_n 0, 0, 0) := by decide +kernel
theorem ri_79_69 : ro_ix 79 69 = some (69, .getfield 35, 11, 3) := by decide +kernel
theorem ri_79_72 : ro_ix 79 72 = some (72, .invokevirtual 180, 80, 0) := by decide +kernel
theorem ri_79_75 : ro_ix 79 75 = some (75, .ireturn, 0, 0) := by decide +kernel
theorem ri_79_76 : ro_ix 79 76 = some (76, .iload_n 3, 0, 0) := by decide +kernel
theorem ri_79_77 : ro_ix 79 77 = some (77, .iconst 1, 0, 0) := by decide +kernel
theorem ri_79_78 : ro_ix 79 78 = some (78, .if_icmp .ne 13, 0, 0) := by decide +kernel
theorem ri_79_81 : ro_ix 79 81 = some (81, .aload_n 0, 0, 0) := by decide +kernel
theorem ri_79_82 : ro_ix 79 82 = some (82, .getfield 35, 11, 3) := by decide +kernel
theorem ri_79_85 : ro_ix 79 85 = some (85, .invokevirtual 183, 81, 0) := by decide +kernel
theorem ri_79_88 : ro_ix 79 88 = some (88, .goto 10, 0, 0) := by decide +kernel
theorem ri_79_91 : ro_ix 79 91 = some (91, .aload_n 0, 0, 0) := by decide +kernel
theorem ri_79_92 : ro_ix 79 92 = some (92, .getfield 35, 11, 3) := by decide +kernel
theorem ri_79_95 : ro_ix 79 95 = some (95, .invokevirtual 186, 82, 0) := by decide +kernel
theorem ri_79_98 : ro_ix 79 98 = some (98, .ireturn, 0, 0) := by decide +kernel
/-- RefusedOnce$Evening.refusals()I -/
theorem rm_80 : (ro_m 80).2.2.1 = 1 ∧ (ro_m 80).2.2.2.1 = (some .int) ∧ (ro_m 80).2.2.2.2.1 = 3 ∧ (ro_m 80).2.2.2.2.2.1 = 0 := ⟨rfl, rfl, rfl, rfl⟩
theorem ri_80_0 : ro_ix 80 0 = some (0, .aload_n 0, 0, 0) := by decide +kernel
theorem ri_80_1 : ro_ix 80 1 = some (1, .getfield 65, 3, 7) := by decide +kernel
theorem ri_80_4 : ro_ix 80 4 = some (4, .ireturn, 0, 0) := by decide +kernel
/-- RefusedOnce$Evening.firstThatCannotBe()I -/
theorem rm_81 : (ro_m 81).2.2.1 = 1 ∧ (ro_m 81).2.2.2.1 = (some .int) ∧ (ro_m 81).2.2.2.2.1 = 3 ∧ (ro_m 81).2.2.2.2.2.1 = 0 := ⟨rfl, rfl, rfl, rfl⟩
theorem ri_81_0 : ro_ix 81 0 = some (0, .aload_n 0, 0, 0) := by decide +kernel
theorem ri_81_1 : ro_ix 81 1 = some (1, .getfield 68, 3, 8) := by decide +kernel
theorem ri_81_4 : ro_ix 81 4 = some (4, .ireturn, 0, 0) := by decide +kernel
/-- RefusedOnce$Evening.whoRefused()I -/
theorem rm_82 : (ro_m 82).2.2.1 = 1 ∧ (ro_m 82).2.2.2.1 = (some .int) ∧ (ro_m 82).2.2.2.2.1 = 3 ∧ (ro_m 82).2.2.2.2.2.1 = 0 := ⟨rfl, rfl, rfl, rfl⟩
theorem ri_82_0 : ro_ix 82 0 = some (0, .aload_n 0, 0, 0) := by decide +kernel
theorem ri_82_1 : ro_ix 82 1 = some (1, .getfield 71, 3, 9) := by decide +kernel
theorem ri_82_4 : ro_ix 82 4 = some (4, .ireturn, 0, 0) := by decide +kernel
/-- RefusedOnce.round(II)I -/
theorem rm_83 : (ro_m 83).2.2.1 = 4 ∧ (ro_m 83).2.2.2.1 = (some .int) ∧ (ro_m 83).2.2.2.2.1 = 11 ∧ (ro_m 83).2.2.2.2.2.1 = 2 := ⟨rfl, rfl, rfl, rfl⟩
theorem ri_83_0 : ro_ix 83 0 = some (0, .aload_n 0, 0, 0) := by decide +kernel
theorem ri_83_1 : ro_ix 83 1 = some (1, .iload_n 1, 0, 0) := by decide +kernel
theorem ri_83_2 : ro_ix 83 2 = some (2, .invokevirtual 87, 20, 0) := by decide +kernel
theorem ri_83_5 : ro_ix 83 5 = some (5, .astore_n 3, 0, 0) := by decide +kernel
theorem ri_83_6 : ro_ix 83 6 = some (6, .aload_n 3, 0, 0) := by decide +kernel
theorem ri_83_7 : ro_ix 83 7 = some (7, .ifnull 8, 0, 0) := by decide +kernel
theorem ri_83_10 : ro_ix 83 10 = some (10, .iload_n 2, 0, 0) := by decide +kernel
theorem ri_83_11 : ro_ix 83 11 = some (11, .iconst (-1), 0, 0) := by decide +kernel
theorem ri_83_12 : ro_ix 83 12 = some (12, .if_icmp .ge 5, 0, 0) := by decide +kernel
theorem ri_83_15 : ro_ix 83 15 = some (15, .iconst (-1), 0, 0) := by decide +kernel
theorem ri_83_16 : ro_ix 83 16 = some (16, .ireturn, 0, 0) := by decide +kernel
theorem ri_83_17 : ro_ix 83 17 = some (17, .aload_n 3, 0, 0) := by decide +kernel
theorem ri_83_18 : ro_ix 83 18 = some (18, .invokevirtual 95, 22, 0) := by decide +kernel
theorem ri_83_21 : ro_ix 83 21 = some (21, .ifCond .ne 8, 0, 0) := by decide +kernel
theorem ri_83_24 : ro_ix 83 24 = some (24, .aload_n 3, 0, 0) := by decide +kernel
theorem ri_83_25 : ro_ix 83 25 = some (25, .invokevirtual 159, 65, 0) := by decide +kernel
theorem ri_83_28 : ro_ix 83 28 = some (28, .ireturn, 0, 0) := by decide +kernel
theorem ri_83_29 : ro_ix 83 29 = some (29, .aload_n 0, 0, 0) := by decide +kernel
theorem ri_83_30 : ro_ix 83 30 = some (30, .getfield 42, 11, 4) := by decide +kernel
theorem ri_83_33 : ro_ix 83 33 = some (33, .aload_n 3, 0, 0) := by decide +kernel
theorem ri_83_34 : ro_ix 83 34 = some (34, .invokevirtual 189, 84, 0) := by decide +kernel
theorem ri_83_37 : ro_ix 83 37 = some (37, .iload_n 2, 0, 0) := by decide +kernel
theorem ri_83_38 : ro_ix 83 38 = some (38, .aload_n 0, 0, 0) := by decide +kernel
theorem ri_83_39 : ro_ix 83 39 = some (39, .getfield 42, 11, 4) := by decide +kernel
theorem ri_83_42 : ro_ix 83 42 = some (42, .invokevirtual 190, 85, 0) := by decide +kernel
theorem ri_83_45 : ro_ix 83 45 = some (45, .if_icmp .ge 14, 0, 0) := by decide +kernel
theorem ri_83_48 : ro_ix 83 48 = some (48, .aload_n 0, 0, 0) := by decide +kernel
theorem ri_83_49 : ro_ix 83 49 = some (49, .getfield 42, 11, 4) := by decide +kernel
theorem ri_83_52 : ro_ix 83 52 = some (52, .iconst 0, 0, 0) := by decide +kernel
theorem ri_83_53 : ro_ix 83 53 = some (53, .invokevirtual 191, 86, 0) := by decide +kernel
theorem ri_83_56 : ro_ix 83 56 = some (56, .ifCond .ne 6, 0, 0) := by decide +kernel
theorem ri_83_59 : ro_ix 83 59 = some (59, .bipush (-2), 0, 0) := by decide +kernel
theorem ri_83_61 : ro_ix 83 61 = some (61, .ireturn, 0, 0) := by decide +kernel
theorem ri_83_62 : ro_ix 83 62 = some (62, .iload_n 2, 0, 0) := by decide +kernel
theorem ri_83_63 : ro_ix 83 63 = some (63, .ifCond .ge 13, 0, 0) := by decide +kernel
theorem ri_83_66 : ro_ix 83 66 = some (66, .aload_n 0, 0, 0) := by decide +kernel
theorem ri_83_67 : ro_ix 83 67 = some (67, .getfield 42, 11, 4) := by decide +kernel
theorem ri_83_70 : ro_ix 83 70 = some (70, .invokevirtual 195, 91, 0) := by decide +kernel
theorem ri_83_73 : ro_ix 83 73 = some (73, .goto 11, 0, 0) := by decide +kernel
theorem ri_83_76 : ro_ix 83 76 = some (76, .aload_n 0, 0, 0) := by decide +kernel
theorem ri_83_77 : ro_ix 83 77 = some (77, .getfield 42, 11, 4) := by decide +kernel
theorem ri_83_80 : ro_ix 83 80 = some (80, .iload_n 2, 0, 0) := by decide +kernel
theorem ri_83_81 : ro_ix 83 81 = some (81, .invokevirtual 198, 92, 0) := by decide +kernel
theorem ri_83_84 : ro_ix 83 84 = some (84, .ireturn, 0, 0) := by decide +kernel
/-- RefusedOnce$Payings.read(LRefusedOnce$Shelf;)V -/
theorem rm_84 : (ro_m 84).2.2.1 = 4 ∧ (ro_m 84).2.2.2.1 = none ∧ (ro_m 84).2.2.2.2.1 = 7 ∧ (ro_m 84).2.2.2.2.2.1 = 1 := ⟨rfl, rfl, rfl, rfl⟩
theorem ri_84_0 : ro_ix 84 0 = some (0, .aload_n 0, 0, 0) := by decide +kernel
theorem ri_84_1 : ro_ix 84 1 = some (1, .iconst 0, 0, 0) := by decide +kernel
theorem ri_84_2 : ro_ix 84 2 = some (2, .putfield 33, 7, 5) := by decide +kernel
theorem ri_84_5 : ro_ix 84 5 = some (5, .aload_n 0, 0, 0) := by decide +kernel
theorem ri_84_6 : ro_ix 84 6 = some (6, .getfield 33, 7, 5) := by decide +kernel
theorem ri_84_9 : ro_ix 84 9 = some (9, .bipush 10, 0, 0) := by decide +kernel
theorem ri_84_11 : ro_ix 84 11 = some (11, .if_icmp .ge 88, 0, 0) := by decide +kernel
theorem ri_84_14 : ro_ix 84 14 = some (14, .iconst 2, 0, 0) := by decide +kernel
theorem ri_84_15 : ro_ix 84 15 = some (15, .aload_n 0, 0, 0) := by decide +kernel
theorem ri_84_16 : ro_ix 84 16 = some (16, .getfield 33, 7, 5) := by decide +kernel
theorem ri_84_19 : ro_ix 84 19 = some (19, .imul, 0, 0) := by decide +kernel
theorem ri_84_20 : ro_ix 84 20 = some (20, .iconst 1, 0, 0) := by decide +kernel
theorem ri_84_21 : ro_ix 84 21 = some (21, .iadd, 0, 0) := by decide +kernel
theorem ri_84_22 : ro_ix 84 22 = some (22, .aload_n 1, 0, 0) := by decide +kernel
theorem ri_84_23 : ro_ix 84 23 = some (23, .invokevirtual 37, 24, 0) := by decide +kernel
theorem ri_84_26 : ro_ix 84 26 = some (26, .if_icmp .ge 73, 0, 0) := by decide +kernel
theorem ri_84_29 : ro_ix 84 29 = some (29, .aload_n 1, 0, 0) := by decide +kernel
theorem ri_84_30 : ro_ix 84 30 = some (30, .iconst 2, 0, 0) := by decide +kernel
theorem ri_84_31 : ro_ix 84 31 = some (31, .aload_n 0, 0, 0) := by decide +kernel
theorem ri_84_32 : ro_ix 84 32 = some (32, .getfield 33, 7, 5) := by decide +kernel
theorem ri_84_35 : ro_ix 84 35 = some (35, .imul, 0, 0) := by decide +kernel
theorem ri_84_36 : ro_ix 84 36 = some (36, .invokevirtual 42, 25, 0) := by decide +kernel
theorem ri_84_39 : ro_ix 84 39 = some (39, .istore_n 2, 0, 0) := by decide +kernel
theorem ri_84_40 : ro_ix 84 40 = some (40, .aload_n 1, 0, 0) := by decide +kernel
theorem ri_84_41 : ro_ix 84 41 = some (41, .iconst 2, 0, 0) := by decide +kernel
theorem ri_84_42 : ro_ix 84 42 = some (42, .aload_n 0, 0, 0) := by decide +kernel
theorem ri_84_43 : ro_ix 84 43 = some (43, .getfield 33, 7, 5) := by decide +kernel
theorem ri_84_46 : ro_ix 84 46 = some (46, .imul, 0, 0) := by decide +kernel
theorem ri_84_47 : ro_ix 84 47 = some (47, .iconst 1, 0, 0) := by decide +kernel
theorem ri_84_48 : ro_ix 84 48 = some (48, .iadd, 0, 0) := by decide +kernel
theorem ri_84_49 : ro_ix 84 49 = some (49, .invokevirtual 42, 25, 0) := by decide +kernel
theorem ri_84_52 : ro_ix 84 52 = some (52, .istore_n 3, 0, 0) := by decide +kernel
theorem ri_84_53 : ro_ix 84 53 = some (53, .aload_n 0, 0, 0) := by decide +kernel
theorem ri_84_54 : ro_ix 84 54 = some (54, .getfield 25, 7, 0) := by decide +kernel
theorem ri_84_57 : ro_ix 84 57 = some (57, .iload_n 2, 0, 0) := by decide +kernel
theorem ri_84_58 : ro_ix 84 58 = some (58, .iload_n 3, 0, 0) := by decide +kernel
theorem ri_84_59 : ro_ix 84 59 = some (59, .invokevirtual 46, 57, 0) := by decide +kernel
theorem ri_84_62 : ro_ix 84 62 = some (62, .ifCond .ne 4, 0, 0) := by decide +kernel
theorem ri_84_65 : ro_ix 84 65 = some (65, .return_, 0, 0) := by decide +kernel
theorem ri_84_66 : ro_ix 84 66 = some (66, .aload_n 0, 0, 0) := by decide +kernel
theorem ri_84_67 : ro_ix 84 67 = some (67, .getfield 18, 7, 3) := by decide +kernel
theorem ri_84_70 : ro_ix 84 70 = some (70, .aload_n 0, 0, 0) := by decide +kernel
theorem ri_84_71 : ro_ix 84 71 = some (71, .getfield 33, 7, 5) := by decide +kernel
theorem ri_84_74 : ro_ix 84 74 = some (74, .iload_n 2, 0, 0) := by decide +kernel
theorem ri_84_75 : ro_ix 84 75 = some (75, .iastore, 0, 0) := by decide +kernel
theorem ri_84_76 : ro_ix 84 76 = some (76, .aload_n 0, 0, 0) := by decide +kernel
theorem ri_84_77 : ro_ix 84 77 = some (77, .getfield 22, 7, 4) := by decide +kernel
theorem ri_84_80 : ro_ix 84 80 = some (80, .aload_n 0, 0, 0) := by decide +kernel
theorem ri_84_81 : ro_ix 84 81 = some (81, .getfield 33, 7, 5) := by decide +kernel
theorem ri_84_84 : ro_ix 84 84 = some (84, .iload_n 3, 0, 0) := by decide +kernel
theorem ri_84_85 : ro_ix 84 85 = some (85, .iastore, 0, 0) := by decide +kernel
theorem ri_84_86 : ro_ix 84 86 = some (86, .aload_n 0, 0, 0) := by decide +kernel
theorem ri_84_87 : ro_ix 84 87 = some (87, .dup, 0, 0) := by decide +kernel
theorem ri_84_88 : ro_ix 84 88 = some (88, .getfield 33, 7, 5) := by decide +kernel
theorem ri_84_91 : ro_ix 84 91 = some (91, .iconst 1, 0, 0) := by decide +kernel
theorem ri_84_92 : ro_ix 84 92 = some (92, .iadd, 0, 0) := by decide +kernel
theorem ri_84_93 : ro_ix 84 93 = some (93, .putfield 33, 7, 5) := by decide +kernel
theorem ri_84_96 : ro_ix 84 96 = some (96, .goto (-91), 0, 0) := by decide +kernel
theorem ri_84_99 : ro_ix 84 99 = some (99, .return_, 0, 0) := by decide +kernel
/-- RefusedOnce$Payings.length()I -/
theorem rm_85 : (ro_m 85).2.2.1 = 1 ∧ (ro_m 85).2.2.2.1 = (some .int) ∧ (ro_m 85).2.2.2.2.1 = 7 ∧ (ro_m 85).2.2.2.2.2.1 = 0 := ⟨rfl, rfl, rfl, rfl⟩
theorem ri_85_0 : ro_ix 85 0 = some (0, .aload_n 0, 0, 0) := by decide +kernel
theorem ri_85_1 : ro_ix 85 1 = some (1, .getfield 33, 7, 5) := by decide +kernel
theorem ri_85_4 : ro_ix 85 4 = some (4, .ireturn, 0, 0) := by decide +kernel
/-- RefusedOnce$Payings.find(Z)Z -/
theorem rm_86 : (ro_m 86).2.2.1 = 2 ∧ (ro_m 86).2.2.2.1 = (some .boolean) ∧ (ro_m 86).2.2.2.2.1 = 7 ∧ (ro_m 86).2.2.2.2.2.1 = 1 := ⟨rfl, rfl, rfl, rfl⟩
theorem ri_86_0 : ro_ix 86 0 = some (0, .aload_n 0, 0, 0) := by decide +kernel
theorem ri_86_1 : ro_ix 86 1 = some (1, .getfield 12, 7, 2) := by decide +kernel
theorem ri_86_4 : ro_ix 86 4 = some (4, .aload_n 0, 0, 0) := by decide +kernel
theorem ri_86_5 : ro_ix 86 5 = some (5, .getfield 25, 7, 0) := by decide +kernel
theorem ri_86_8 : ro_ix 86 8 = some (8, .getfield 52, 4, 0) := by decide +kernel
theorem ri_86_11 : ro_ix 86 11 = some (11, .aload_n 0, 0, 0) := by decide +kernel
theorem ri_86_12 : ro_ix 86 12 = some (12, .getfield 25, 7, 0) := by decide +kernel
theorem ri_86_15 : ro_ix 86 15 = some (15, .invokevirtual 55, 18, 0) := by decide +kernel
theorem ri_86_18 : ro_ix 86 18 = some (18, .invokevirtual 58, 68, 0) := by decide +kernel
theorem ri_86_21 : ro_ix 86 21 = some (21, .aload_n 0, 0, 0) := by decide +kernel
theorem ri_86_22 : ro_ix 86 22 = some (22, .iload_n 1, 0, 0) := by decide +kernel
theorem ri_86_23 : ro_ix 86 23 = some (23, .putfield 62, 7, 8) := by decide +kernel
theorem ri_86_26 : ro_ix 86 26 = some (26, .aload_n 0, 0, 0) := by decide +kernel
theorem ri_86_27 : ro_ix 86 27 = some (27, .iconst 0, 0, 0) := by decide +kernel
theorem ri_86_28 : ro_ix 86 28 = some (28, .putfield 66, 7, 9) := by decide +kernel
theorem ri_86_31 : ro_ix 86 31 = some (31, .aload_n 0, 0, 0) := by decide +kernel
theorem ri_86_32 : ro_ix 86 32 = some (32, .iconst 0, 0, 0) := by decide +kernel
theorem ri_86_33 : ro_ix 86 33 = some (33, .putfield 69, 7, 6) := by decide +kernel
theorem ri_86_36 : ro_ix 86 36 = some (36, .aload_n 0, 0, 0) := by decide +kernel
theorem ri_86_37 : ro_ix 86 37 = some (37, .iconst 0, 0, 0) := by decide +kernel
theorem ri_86_38 : ro_ix 86 38 = some (38, .putfield 72, 7, 7) := by decide +kernel
theorem ri_86_41 : ro_ix 86 41 = some (41, .aload_n 0, 0, 0) := by decide +kernel
theorem ri_86_42 : ro_ix 86 42 = some (42, .iconst 0, 0, 0) := by decide +kernel
theorem ri_86_43 : ro_ix 86 43 = some (43, .iconst 0, 0, 0) := by decide +kernel
theorem ri_86_44 : ro_ix 86 44 = some (44, .iconst 0, 0, 0) := by decide +kernel
theorem ri_86_45 : ro_ix 86 45 = some (45, .invokevirtual 75, 87, 0) := by decide +kernel
theorem ri_86_48 : ro_ix 86 48 = some (48, .aload_n 0, 0, 0) := by decide +kernel
theorem ri_86_49 : ro_ix 86 49 = some (49, .getfield 66, 7, 9) := by decide +kernel
theorem ri_86_52 : ro_ix 86 52 = some (52, .ireturn, 0, 0) := by decide +kernel
/-- RefusedOnce$Payings.search(III)V -/
theorem rm_87 : (ro_m 87).2.2.1 = 6 ∧ (ro_m 87).2.2.2.1 = none ∧ (ro_m 87).2.2.2.2.1 = 7 ∧ (ro_m 87).2.2.2.2.2.1 = 3 := ⟨rfl, rfl, rfl, rfl⟩
theorem ri_87_0 : ro_ix 87 0 = some (0, .iload_n 1, 0, 0) := by decide +kernel
theorem ri_87_1 : ro_ix 87 1 = some (1, .ifCond .lt 17, 0, 0) := by decide +kernel
theorem ri_87_4 : ro_ix 87 4 = some (4, .iload_n 1, 0, 0) := by decide +kernel
theorem ri_87_5 : ro_ix 87 5 = some (5, .aload_n 0, 0, 0) := by decide +kernel
theorem ri_87_6 : ro_ix 87 6 = some (6, .getfield 33, 7, 5) := by decide +kernel
theorem ri_87_9 : ro_ix 87 9 = some (9, .if_icmp .ge 9, 0, 0) := by decide +kernel
theorem ri_87_12 : ro_ix 87 12 = some (12, .iload_n 1, 0, 0) := by decide +kernel
theorem ri_87_13 : ro_ix 87 13 = some (13, .bipush 10, 0, 0) := by decide +kernel
theorem ri_87_15 : ro_ix 87 15 = some (15, .if_icmp .lt 10, 0, 0) := by decide +kernel
theorem ri_87_18 : ro_ix 87 18 = some (18, .aload_n 0, 0, 0) := by decide +kernel
theorem ri_87_19 : ro_ix 87 19 = some (19, .iload_n 2, 0, 0) := by decide +kernel
theorem ri_87_20 : ro_ix 87 20 = some (20, .iload_n 3, 0, 0) := by decide +kernel
theorem ri_87_21 : ro_ix 87 21 = some (21, .invokevirtual 79, 88, 0) := by decide +kernel
theorem ri_87_24 : ro_ix 87 24 = some (24, .return_, 0, 0) := by decide +kernel
theorem ri_87_25 : ro_ix 87 25 = some (25, .aload_n 0, 0, 0) := by decide +kernel
theorem ri_87_26 : ro_ix 87 26 = some (26, .getfield 62, 7, 8) := by decide +kernel
theorem ri_87_29 : ro_ix 87 29 = some (29, .ifCond .ne 19, 0, 0) := by decide +kernel
theorem ri_87_32 : ro_ix 87 32 = some (32, .aload_n 0, 0, 0) := by decide +kernel
theorem ri_87_33 : ro_ix 87 33 = some (33, .getfield 66, 7, 9) := by decide +kernel
theorem ri_87_36 : ro_ix 87 36 = some (36, .ifCond .eq 12, 0, 0) := by decide +kernel
theorem ri_87_39 : ro_ix 87 39 = some (39, .iload_n 2, 0, 0) := by decide +kernel
theorem ri_87_40 : ro_ix 87 40 = some (40, .aload_n 0, 0, 0) := by decide +kernel
theorem ri_87_41 : ro_ix 87 41 = some (41, .getfield 69, 7, 6) := by decide +kernel
theorem ri_87_44 : ro_ix 87 44 = some (44, .if_icmp .lt 4, 0, 0) := by decide +kernel
theorem ri_87_47 : ro_ix 87 47 = some (47, .return_, 0, 0) := by decide +kernel
theorem ri_87_48 : ro_ix 87 48 = some (48, .aload_n 0, 0, 0) := by decide +kernel
theorem ri_87_49 : ro_ix 87 49 = some (49, .getfield 18, 7, 3) := by decide +kernel
theorem ri_87_52 : ro_ix 87 52 = some (52, .iload_n 1, 0, 0) := by decide +kernel
theorem ri_87_53 : ro_ix 87 53 = some (53, .iaload, 0, 0) := by decide +kernel
theorem ri_87_54 : ro_ix 87 54 = some (54, .istore 4, 0, 0) := by decide +kernel
theorem ri_87_56 : ro_ix 87 56 = some (56, .aload_n 0, 0, 0) := by decide +kernel
theorem ri_87_57 : ro_ix 87 57 = some (57, .getfield 22, 7, 4) := by decide +kernel
theorem ri_87_60 : ro_ix 87 60 = some (60, .iload_n 1, 0, 0) := by decide +kernel
theorem ri_87_61 : ro_ix 87 61 = some (61, .iaload, 0, 0) := by decide +kernel
theorem ri_87_62 : ro_ix 87 62 = some (62, .istore 5, 0, 0) := by decide +kernel
theorem ri_87_64 : ro_ix 87 64 = some (64, .aload_n 0, 0, 0) := by decide +kernel
theorem ri_87_65 : ro_ix 87 65 = some (65, .getfield 12, 7, 2) := by decide +kernel
theorem ri_87_68 : ro_ix 87 68 = some (68, .iload 4, 0, 0) := by decide +kernel
theorem ri_87_70 : ro_ix 87 70 = some (70, .iload 5, 0, 0) := by decide +kernel
theorem ri_87_72 : ro_ix 87 72 = some (72, .invokevirtual 83, 75, 0) := by decide +kernel
theorem ri_87_75 : ro_ix 87 75 = some (75, .ifCond .eq 10, 0, 0) := by decide +kernel
theorem ri_87_78 : ro_ix 87 78 = some (78, .aload_n 0, 0, 0) := by decide +kernel
theorem ri_87_79 : ro_ix 87 79 = some (79, .iload_n 1, 0, 0) := by decide +kernel
theorem ri_87_80 : ro_ix 87 80 = some (80, .iload_n 2, 0, 0) := by decide +kernel
theorem ri_87_81 : ro_ix 87 81 = some (81, .iload_n 3, 0, 0) := by decide +kernel
theorem ri_87_82 : ro_ix 87 82 = some (82, .invokevirtual 86, 89, 0) := by decide +kernel
theorem ri_87_85 : ro_ix 87 85 = some (85, .aload_n 0, 0, 0) := by decide +kernel
theorem ri_87_86 : ro_ix 87 86 = some (86, .getfield 12, 7, 2) := by decide +kernel
theorem ri_87_89 : ro_ix 87 89 = some (89, .iload 4, 0, 0) := by decide +kernel
theorem ri_87_91 : ro_ix 87 91 = some (91, .iload 5, 0, 0) := by decide +kernel
theorem ri_87_93 : ro_ix 87 93 = some (93, .invokevirtual 89, 73, 0) := by decide +kernel
theorem ri_87_96 : ro_ix 87 96 = some (96, .ifCond .eq 38, 0, 0) := by decide +kernel
theorem ri_87_99 : ro_ix 87 99 = some (99, .aload_n 0, 0, 0) := by decide +kernel
theorem ri_87_100 : ro_ix 87 100 = some (100, .getfield 12, 7, 2) := by decide +kernel
theorem ri_87_103 : ro_ix 87 103 = some (103, .iload 4, 0, 0) := by decide +kernel
theorem ri_87_105 : ro_ix 87 105 = some (105, .iload 5, 0, 0) := by decide +kernel
theorem ri_87_107 : ro_ix 87 107 = some (107, .invokevirtual 92, 74, 0) := by decide +kernel
theorem ri_87_110 : ro_ix 87 110 = some (110, .aload_n 0, 0, 0) := by decide +kernel
theorem ri_87_111 : ro_ix 87 111 = some (111, .iload_n 1, 0, 0) := by decide +kernel
theorem ri_87_112 : ro_ix 87 112 = some (112, .iconst 1, 0, 0) := by decide +kernel
theorem ri_87_113 : ro_ix 87 113 = some (113, .iadd, 0, 0) := by decide +kernel
theorem ri_87_114 : ro_ix 87 114 = some (114, .iload_n 2, 0, 0) := by decide +kernel
theorem ri_87_115 : ro_ix 87 115 = some (115, .iload_n 3, 0, 0) := by decide +kernel
theorem ri_87_116 : ro_ix 87 116 = some (116, .iconst 1, 0, 0) := by decide +kernel
theorem ri_87_117 : ro_ix 87 117 = some (117, .iload_n 1, 0, 0) := by decide +kernel
theorem ri_87_118 : ro_ix 87 118 = some (118, .ishl, 0, 0) := by decide +kernel
theorem ri_87_119 : ro_ix 87 119 = some (119, .ior, 0, 0) := by decide +kernel
theorem ri_87_120 : ro_ix 87 120 = some (120, .invokevirtual 75, 87, 0) := by decide +kernel
theorem ri_87_123 : ro_ix 87 123 = some (123, .aload_n 0, 0, 0) := by decide +kernel
theorem ri_87_124 : ro_ix 87 124 = some (124, .getfield 12, 7, 2) := by decide +kernel
theorem ri_87_127 : ro_ix 87 127 = some (127, .iload 5, 0, 0) := by decide +kernel
theorem ri_87_129 : ro_ix 87 129 = some (129, .iload 4, 0, 0) := by decide +kernel
theorem ri_87_131 : ro_ix 87 131 = some (131, .invokevirtual 92, 74, 0) := by decide +kernel
theorem ri_87_134 : ro_ix 87 134 = some (134, .return_, 0, 0) := by decide +kernel
/-- RefusedOnce$Payings.weigh(II)V -/
theorem rm_88 : (ro_m 88).2.2.1 = 5 ∧ (ro_m 88).2.2.2.1 = none ∧ (ro_m 88).2.2.2.2.1 = 7 ∧ (ro_m 88).2.2.2.2.2.1 = 2 := ⟨rfl, rfl, rfl, rfl⟩
theorem ri_88_0 : ro_ix 88 0 = some (0, .aload_n 0, 0, 0) := by decide +kernel
theorem ri_88_1 : ro_ix 88 1 = some (1, .getfield 62, 7, 8) := by decide +kernel
theorem ri_88_4 : ro_ix 88 4 = some (4, .ifCond .eq 23, 0, 0) := by decide +kernel
theorem ri_88_7 : ro_ix 88 7 = some (7, .aload_n 0, 0, 0) := by decide +kernel
theorem ri_88_8 : ro_ix 88 8 = some (8, .getfield 25, 7, 0) := by decide +kernel
theorem ri_88_11 : ro_ix 88 11 = some (11, .aload_n 0, 0, 0) := by decide +kernel
theorem ri_88_12 : ro_ix 88 12 = some (12, .getfield 12, 7, 2) := by decide +kernel
theorem ri_88_15 : ro_ix 88 15 = some (15, .aload_n 0, 0, 0) := by decide +kernel
theorem ri_88_16 : ro_ix 88 16 = some (16, .getfield 18, 7, 3) := by decide +kernel
theorem ri_88_19 : ro_ix 88 19 = some (19, .iconst 0, 0, 0) := by decide +kernel
theorem ri_88_20 : ro_ix 88 20 = some (20, .iaload, 0, 0) := by decide +kernel
theorem ri_88_21 : ro_ix 88 21 = some (21, .invokevirtual 118, 37, 0) := by decide +kernel
theorem ri_88_24 : ro_ix 88 24 = some (24, .goto 4, 0, 0) := by decide +kernel
theorem ri_88_27 : ro_ix 88 27 = some (27, .iload_n 1, 0, 0) := by decide +kernel
theorem ri_88_28 : ro_ix 88 28 = some (28, .istore_n 3, 0, 0) := by decide +kernel
theorem ri_88_29 : ro_ix 88 29 = some (29, .aload_n 0, 0, 0) := by decide +kernel
theorem ri_88_30 : ro_ix 88 30 = some (30, .getfield 62, 7, 8) := by decide +kernel
theorem ri_88_33 : ro_ix 88 33 = some (33, .ifCond .eq 19, 0, 0) := by decide +kernel
theorem ri_88_36 : ro_ix 88 36 = some (36, .iload_n 3, 0, 0) := by decide +kernel
theorem ri_88_37 : ro_ix 88 37 = some (37, .aload_n 0, 0, 0) := by decide +kernel
theorem ri_88_38 : ro_ix 88 38 = some (38, .getfield 69, 7, 6) := by decide +kernel
theorem ri_88_41 : ro_ix 88 41 = some (41, .if_icmp .le 7, 0, 0) := by decide +kernel
theorem ri_88_44 : ro_ix 88 44 = some (44, .iconst 1, 0, 0) := by decide +kernel
theorem ri_88_45 : ro_ix 88 45 = some (45, .goto 20, 0, 0) := by decide +kernel
theorem ri_88_48 : ro_ix 88 48 = some (48, .iconst 0, 0, 0) := by decide +kernel
theorem ri_88_49 : ro_ix 88 49 = some (49, .goto 16, 0, 0) := by decide +kernel
theorem ri_88_52 : ro_ix 88 52 = some (52, .iload_n 3, 0, 0) := by decide +kernel
theorem ri_88_53 : ro_ix 88 53 = some (53, .aload_n 0, 0, 0) := by decide +kernel
theorem ri_88_54 : ro_ix 88 54 = some (54, .getfield 69, 7, 6) := by decide +kernel
theorem ri_88_57 : ro_ix 88 57 = some (57, .if_icmp .ge 7, 0, 0) := by decide +kernel
theorem ri_88_60 : ro_ix 88 60 = some (60, .iconst 1, 0, 0) := by decide +kernel
theorem ri_88_61 : ro_ix 88 61 = some (61, .goto 4, 0, 0) := by decide +kernel
theorem ri_88_64 : ro_ix 88 64 = some (64, .iconst 0, 0, 0) := by decide +kernel
theorem ri_88_65 : ro_ix 88 65 = some (65, .istore 4, 0, 0) := by decide +kernel
theorem ri_88_67 : ro_ix 88 67 = some (67, .aload_n 0, 0, 0) := by decide +kernel
theorem ri_88_68 : ro_ix 88 68 = some (68, .getfield 66, 7, 9) := by decide +kernel
theorem ri_88_71 : ro_ix 88 71 = some (71, .ifCond .eq 8, 0, 0) := by decide +kernel
theorem ri_88_74 : ro_ix 88 74 = some (74, .iload 4, 0, 0) := by decide +kernel
theorem ri_88_76 : ro_ix 88 76 = some (76, .ifCond .eq 18, 0, 0) := by decide +kernel
theorem ri_88_79 : ro_ix 88 79 = some (79, .aload_n 0, 0, 0) := by decide +kernel
theorem ri_88_80 : ro_ix 88 80 = some (80, .iconst 1, 0, 0) := by decide +kernel
theorem ri_88_81 : ro_ix 88 81 = some (81, .putfield 66, 7, 9) := by decide +kernel
theorem ri_88_84 : ro_ix 88 84 = some (84, .aload_n 0, 0, 0) := by decide +kernel
theorem ri_88_85 : ro_ix 88 85 = some (85, .iload_n 3, 0, 0) := by decide +kernel
theorem ri_88_86 : ro_ix 88 86 = some (86, .putfield 69, 7, 6) := by decide +kernel
theorem ri_88_89 : ro_ix 88 89 = some (89, .aload_n 0, 0, 0) := by decide +kernel
theorem ri_88_90 : ro_ix 88 90 = some (90, .iload_n 2, 0, 0) := by decide +kernel
theorem ri_88_91 : ro_ix 88 91 = some (91, .putfield 72, 7, 7) := by decide +kernel
theorem ri_88_94 : ro_ix 88 94 = some (94, .return_, 0, 0) := by decide +kernel
/-- RefusedOnce$Payings.searchWhole(III)V -/
theorem rm_89 : (ro_m 89).2.2.1 = 6 ∧ (ro_m 89).2.2.2.1 = none ∧ (ro_m 89).2.2.2.2.1 = 7 ∧ (ro_m 89).2.2.2.2.2.1 = 3 := ⟨rfl, rfl, rfl, rfl⟩
theorem ri_89_0 : ro_ix 89 0 = some (0, .iload_n 1, 0, 0) := by decide +kernel
theorem ri_89_1 : ro_ix 89 1 = some (1, .ifCond .lt 9, 0, 0) := by decide +kernel
theorem ri_89_4 : ro_ix 89 4 = some (4, .iload_n 1, 0, 0) := by decide +kernel
theorem ri_89_5 : ro_ix 89 5 = some (5, .bipush 10, 0, 0) := by decide +kernel
theorem ri_89_7 : ro_ix 89 7 = some (7, .if_icmp .lt 4, 0, 0) := by decide +kernel
theorem ri_89_10 : ro_ix 89 10 = some (10, .return_, 0, 0) := by decide +kernel
theorem ri_89_11 : ro_ix 89 11 = some (11, .aload_n 0, 0, 0) := by decide +kernel
theorem ri_89_12 : ro_ix 89 12 = some (12, .getfield 18, 7, 3) := by decide +kernel
theorem ri_89_15 : ro_ix 89 15 = some (15, .iload_n 1, 0, 0) := by decide +kernel
theorem ri_89_16 : ro_ix 89 16 = some (16, .iaload, 0, 0) := by decide +kernel
theorem ri_89_17 : ro_ix 89 17 = some (17, .istore 4, 0, 0) := by decide +kernel
theorem ri_89_19 : ro_ix 89 19 = some (19, .aload_n 0, 0, 0) := by decide +kernel
theorem ri_89_20 : ro_ix 89 20 = some (20, .getfield 22, 7, 4) := by decide +kernel
theorem ri_89_23 : ro_ix 89 23 = some (23, .iload_n 1, 0, 0) := by decide +kernel
theorem ri_89_24 : ro_ix 89 24 = some (24, .iaload, 0, 0) := by decide +kernel
theorem ri_89_25 : ro_ix 89 25 = some (25, .istore 5, 0, 0) := by decide +kernel
theorem ri_89_27 : ro_ix 89 27 = some (27, .aload_n 0, 0, 0) := by decide +kernel
theorem ri_89_28 : ro_ix 89 28 = some (28, .getfield 29, 7, 1) := by decide +kernel
theorem ri_89_31 : ro_ix 89 31 = some (31, .aload_n 0, 0, 0) := by decide +kernel
theorem ri_89_32 : ro_ix 89 32 = some (32, .getfield 25, 7, 0) := by decide +kernel
theorem ri_89_35 : ro_ix 89 35 = some (35, .aload_n 0, 0, 0) := by decide +kernel
theorem ri_89_36 : ro_ix 89 36 = some (36, .getfield 12, 7, 2) := by decide +kernel
theorem ri_89_39 : ro_ix 89 39 = some (39, .iload 4, 0, 0) := by decide +kernel
theorem ri_89_41 : ro_ix 89 41 = some (41, .iload 5, 0, 0) := by decide +kernel
theorem ri_89_43 : ro_ix 89 43 = some (43, .invokevirtual 95, 58, 0) := by decide +kernel
theorem ri_89_46 : ro_ix 89 46 = some (46, .aload_n 0, 0, 0) := by decide +kernel
theorem ri_89_47 : ro_ix 89 47 = some (47, .getfield 25, 7, 0) := by decide +kernel
theorem ri_89_50 : ro_ix 89 50 = some (50, .iconst 0, 0, 0) := by decide +kernel
theorem ri_89_51 : ro_ix 89 51 = some (51, .bipush 6, 0, 0) := by decide +kernel
theorem ri_89_53 : ro_ix 89 53 = some (53, .invokevirtual 101, 30, 0) := by decide +kernel
theorem ri_89_56 : ro_ix 89 56 = some (56, .if_icmp .ge 37, 0, 0) := by decide +kernel
theorem ri_89_59 : ro_ix 89 59 = some (59, .aload_n 0, 0, 0) := by decide +kernel
theorem ri_89_60 : ro_ix 89 60 = some (60, .getfield 12, 7, 2) := by decide +kernel
theorem ri_89_63 : ro_ix 89 63 = some (63, .iload 4, 0, 0) := by decide +kernel
theorem ri_89_65 : ro_ix 89 65 = some (65, .iload 5, 0, 0) := by decide +kernel
theorem ri_89_67 : ro_ix 89 67 = some (67, .invokevirtual 105, 78, 0) := by decide +kernel
theorem ri_89_70 : ro_ix 89 70 = some (70, .aload_n 0, 0, 0) := by decide +kernel
theorem ri_89_71 : ro_ix 89 71 = some (71, .iload_n 1, 0, 0) := by decide +kernel
theorem ri_89_72 : ro_ix 89 72 = some (72, .iconst 1, 0, 0) := by decide +kernel
theorem ri_89_73 : ro_ix 89 73 = some (73, .iadd, 0, 0) := by decide +kernel
theorem ri_89_74 : ro_ix 89 74 = some (74, .iload_n 2, 0, 0) := by decide +kernel
theorem ri_89_75 : ro_ix 89 75 = some (75, .iload_n 3, 0, 0) := by decide +kernel
theorem ri_89_76 : ro_ix 89 76 = some (76, .invokevirtual 75, 87, 0) := by decide +kernel
theorem ri_89_79 : ro_ix 89 79 = some (79, .aload_n 0, 0, 0) := by decide +kernel
theorem ri_89_80 : ro_ix 89 80 = some (80, .getfield 12, 7, 2) := by decide +kernel
theorem ri_89_83 : ro_ix 89 83 = some (83, .iload 5, 0, 0) := by decide +kernel
theorem ri_89_85 : ro_ix 89 85 = some (85, .iload 4, 0, 0) := by decide +kernel
theorem ri_89_87 : ro_ix 89 87 = some (87, .invokevirtual 105, 78, 0) := by decide +kernel
theorem ri_89_90 : ro_ix 89 90 = some (90, .goto 68, 0, 0) := by decide +kernel
theorem ri_89_93 : ro_ix 89 93 = some (93, .aload_n 0, 0, 0) := by decide +kernel
theorem ri_89_94 : ro_ix 89 94 = some (94, .getfield 12, 7, 2) := by decide +kernel
theorem ri_89_97 : ro_ix 89 97 = some (97, .iload 5, 0, 0) := by decide +kernel
theorem ri_89_99 : ro_ix 89 99 = some (99, .invokevirtual 108, 32, 0) := by decide +kernel
theorem ri_89_102 : ro_ix 89 102 = some (102, .bipush 20, 0, 0) := by decide +kernel
theorem ri_89_104 : ro_ix 89 104 = some (104, .if_icmp .ge 54, 0, 0) := by decide +kernel
theorem ri_89_107 : ro_ix 89 107 = some (107, .aload_n 0, 0, 0) := by decide +kernel
theorem ri_89_108 : ro_ix 89 108 = some (108, .getfield 12, 7, 2) := by decide +kernel
theorem ri_89_111 : ro_ix 89 111 = some (111, .iload 4, 0, 0) := by decide +kernel
theorem ri_89_113 : ro_ix 89 113 = some (113, .invokevirtual 111, 77, 0) := by decide +kernel
theorem ri_89_116 : ro_ix 89 116 = some (116, .aload_n 0, 0, 0) := by decide +kernel
theorem ri_89_117 : ro_ix 89 117 = some (117, .getfield 12, 7, 2) := by decide +kernel
theorem ri_89_120 : ro_ix 89 120 = some (120, .iload 4, 0, 0) := by decide +kernel
theorem ri_89_122 : ro_ix 89 122 = some (122, .iload 5, 0, 0) := by decide +kernel
theorem ri_89_124 : ro_ix 89 124 = some (124, .invokevirtual 92, 74, 0) := by decide +kernel
theorem ri_89_127 : ro_ix 89 127 = some (127, .aload_n 0, 0, 0) := by decide +kernel
theorem ri_89_128 : ro_ix 89 128 = some (128, .iload_n 1, 0, 0) := by decide +kernel
theorem ri_89_129 : ro_ix 89 129 = some (129, .iconst 1, 0, 0) := by decide +kernel
theorem ri_89_130 : ro_ix 89 130 = some (130, .iadd, 0, 0) := by decide +kernel
theorem ri_89_131 : ro_ix 89 131 = some (131, .iload_n 2, 0, 0) := by decide +kernel
theorem ri_89_132 : ro_ix 89 132 = some (132, .iconst 1, 0, 0) := by decide +kernel
theorem ri_89_133 : ro_ix 89 133 = some (133, .iadd, 0, 0) := by decide +kernel
theorem ri_89_134 : ro_ix 89 134 = some (134, .iload_n 3, 0, 0) := by decide +kernel
theorem ri_89_135 : ro_ix 89 135 = some (135, .invokevirtual 75, 87, 0) := by decide +kernel
theorem ri_89_138 : ro_ix 89 138 = some (138, .aload_n 0, 0, 0) := by decide +kernel
theorem ri_89_139 : ro_ix 89 139 = some (139, .getfield 12, 7, 2) := by decide +kernel
theorem ri_89_142 : ro_ix 89 142 = some (142, .iload 5, 0, 0) := by decide +kernel
theorem ri_89_144 : ro_ix 89 144 = some (144, .iload 4, 0, 0) := by decide +kernel
theorem ri_89_146 : ro_ix 89 146 = some (146, .invokevirtual 92, 74, 0) := by decide +kernel
theorem ri_89_149 : ro_ix 89 149 = some (149, .aload_n 0, 0, 0) := by decide +kernel
theorem ri_89_150 : ro_ix 89 150 = some (150, .getfield 12, 7, 2) := by decide +kernel
theorem ri_89_153 : ro_ix 89 153 = some (153, .iload 4, 0, 0) := by decide +kernel
theorem ri_89_155 : ro_ix 89 155 = some (155, .invokevirtual 115, 90, 0) := by decide +kernel
theorem ri_89_158 : ro_ix 89 158 = some (158, .return_, 0, 0) := by decide +kernel
/-- RefusedOnce$Purses.takeBackRefusal(I)V -/
theorem rm_90 : (ro_m 90).2.2.1 = 2 ∧ (ro_m 90).2.2.2.1 = none ∧ (ro_m 90).2.2.2.2.1 = 8 ∧ (ro_m 90).2.2.2.2.2.1 = 1 := ⟨rfl, rfl, rfl, rfl⟩
theorem ri_90_0 : ro_ix 90 0 = some (0, .aload_n 0, 0, 0) := by decide +kernel
theorem ri_90_1 : ro_ix 90 1 = some (1, .iload_n 1, 0, 0) := by decide +kernel
theorem ri_90_2 : ro_ix 90 2 = some (2, .aload_n 0, 0, 0) := by decide +kernel
theorem ri_90_3 : ro_ix 90 3 = some (3, .iload_n 1, 0, 0) := by decide +kernel
theorem ri_90_4 : ro_ix 90 4 = some (4, .invokevirtual 18, 31, 0) := by decide +kernel
theorem ri_90_7 : ro_ix 90 7 = some (7, .iconst 1, 0, 0) := by decide +kernel
theorem ri_90_8 : ro_ix 90 8 = some (8, .iadd, 0, 0) := by decide +kernel
theorem ri_90_9 : ro_ix 90 9 = some (9, .invokevirtual 22, 16, 0) := by decide +kernel
theorem ri_90_12 : ro_ix 90 12 = some (12, .aload_n 0, 0, 0) := by decide +kernel
theorem ri_90_13 : ro_ix 90 13 = some (13, .iload_n 1, 0, 0) := by decide +kernel
theorem ri_90_14 : ro_ix 90 14 = some (14, .aload_n 0, 0, 0) := by decide +kernel
theorem ri_90_15 : ro_ix 90 15 = some (15, .iload_n 1, 0, 0) := by decide +kernel
theorem ri_90_16 : ro_ix 90 16 = some (16, .invokevirtual 26, 32, 0) := by decide +kernel
theorem ri_90_19 : ro_ix 90 19 = some (19, .iconst 1, 0, 0) := by decide +kernel
theorem ri_90_20 : ro_ix 90 20 = some (20, .isub, 0, 0) := by decide +kernel
theorem ri_90_21 : ro_ix 90 21 = some (21, .invokevirtual 29, 17, 0) := by decide +kernel
theorem ri_90_24 : ro_ix 90 24 = some (24, .return_, 0, 0) := by decide +kernel
/-- RefusedOnce$Payings.found()I -/
theorem rm_91 : (ro_m 91).2.2.1 = 1 ∧ (ro_m 91).2.2.2.1 = (some .int) ∧ (ro_m 91).2.2.2.2.1 = 7 ∧ (ro_m 91).2.2.2.2.2.1 = 0 := ⟨rfl, rfl, rfl, rfl⟩
theorem ri_91_0 : ro_ix 91 0 = some (0, .aload_n 0, 0, 0) := by decide +kernel
theorem ri_91_1 : ro_ix 91 1 = some (1, .getfield 69, 7, 6) := by decide +kernel
theorem ri_91_4 : ro_ix 91 4 = some (4, .ireturn, 0, 0) := by decide +kernel
/-- RefusedOnce$Payings.kindAt(I)I -/
theorem rm_92 : (ro_m 92).2.2.1 = 2 ∧ (ro_m 92).2.2.2.1 = (some .int) ∧ (ro_m 92).2.2.2.2.1 = 7 ∧ (ro_m 92).2.2.2.2.2.1 = 1 := ⟨rfl, rfl, rfl, rfl⟩
theorem ri_92_0 : ro_ix 92 0 = some (0, .iload_n 1, 0, 0) := by decide +kernel
theorem ri_92_1 : ro_ix 92 1 = some (1, .ifCond .lt 20, 0, 0) := by decide +kernel
theorem ri_92_4 : ro_ix 92 4 = some (4, .iload_n 1, 0, 0) := by decide +kernel
theorem ri_92_5 : ro_ix 92 5 = some (5, .bipush 10, 0, 0) := by decide +kernel
theorem ri_92_7 : ro_ix 92 7 = some (7, .if_icmp .ge 14, 0, 0) := by decide +kernel
theorem ri_92_10 : ro_ix 92 10 = some (10, .aload_n 0, 0, 0) := by decide +kernel
theorem ri_92_11 : ro_ix 92 11 = some (11, .getfield 72, 7, 7) := by decide +kernel
theorem ri_92_14 : ro_ix 92 14 = some (14, .iload_n 1, 0, 0) := by decide +kernel
theorem ri_92_15 : ro_ix 92 15 = some (15, .ishr, 0, 0) := by decide +kernel
theorem ri_92_16 : ro_ix 92 16 = some (16, .iconst 1, 0, 0) := by decide +kernel
theorem ri_92_17 : ro_ix 92 17 = some (17, .iand, 0, 0) := by decide +kernel
theorem ri_92_18 : ro_ix 92 18 = some (18, .goto 4, 0, 0) := by decide +kernel
theorem ri_92_21 : ro_ix 92 21 = some (21, .iconst 0, 0, 0) := by decide +kernel
theorem ri_92_22 : ro_ix 92 22 = some (22, .ireturn, 0, 0) := by decide +kernel
/-- RefusedOnce.cleanest(I)I -/
theorem rm_93 : (ro_m 93).2.2.1 = 3 ∧ (ro_m 93).2.2.2.1 = (some .int) ∧ (ro_m 93).2.2.2.2.1 = 11 ∧ (ro_m 93).2.2.2.2.2.1 = 1 := ⟨rfl, rfl, rfl, rfl⟩
theorem ri_93_0 : ro_ix 93 0 = some (0, .aload_n 0, 0, 0) := by decide +kernel
theorem ri_93_1 : ro_ix 93 1 = some (1, .iload_n 1, 0, 0) := by decide +kernel
theorem ri_93_2 : ro_ix 93 2 = some (2, .invokevirtual 87, 20, 0) := by decide +kernel
theorem ri_93_5 : ro_ix 93 5 = some (5, .astore_n 2, 0, 0) := by decide +kernel
theorem ri_93_6 : ro_ix 93 6 = some (6, .aload_n 2, 0, 0) := by decide +kernel
theorem ri_93_7 : ro_ix 93 7 = some (7, .ifnonnull 5, 0, 0) := by decide +kernel
theorem ri_93_10 : ro_ix 93 10 = some (10, .iconst (-1), 0, 0) := by decide +kernel
theorem ri_93_11 : ro_ix 93 11 = some (11, .ireturn, 0, 0) := by decide +kernel
theorem ri_93_12 : ro_ix 93 12 = some (12, .aload_n 2, 0, 0) := by decide +kernel
theorem ri_93_13 : ro_ix 93 13 = some (13, .invokevirtual 95, 22, 0) := by decide +kernel
theorem ri_93_16 : ro_ix 93 16 = some (16, .ifCond .ne 8, 0, 0) := by decide +kernel
theorem ri_93_19 : ro_ix 93 19 = some (19, .aload_n 2, 0, 0) := by decide +kernel
theorem ri_93_20 : ro_ix 93 20 = some (20, .invokevirtual 159, 65, 0) := by decide +kernel
theorem ri_93_23 : ro_ix 93 23 = some (23, .ireturn, 0, 0) := by decide +kernel
theorem ri_93_24 : ro_ix 93 24 = some (24, .aload_n 0, 0, 0) := by decide +kernel
theorem ri_93_25 : ro_ix 93 25 = some (25, .getfield 42, 11, 4) := by decide +kernel
theorem ri_93_28 : ro_ix 93 28 = some (28, .aload_n 2, 0, 0) := by decide +kernel
theorem ri_93_29 : ro_ix 93 29 = some (29, .invokevirtual 189, 84, 0) := by decide +kernel
theorem ri_93_32 : ro_ix 93 32 = some (32, .aload_n 0, 0, 0) := by decide +kernel
theorem ri_93_33 : ro_ix 93 33 = some (33, .getfield 42, 11, 4) := by decide +kernel
theorem ri_93_36 : ro_ix 93 36 = some (36, .invokevirtual 190, 85, 0) := by decide +kernel
theorem ri_93_39 : ro_ix 93 39 = some (39, .ifCond .le 24, 0, 0) := by decide +kernel
theorem ri_93_42 : ro_ix 93 42 = some (42, .aload_n 0, 0, 0) := by decide +kernel
theorem ri_93_43 : ro_ix 93 43 = some (43, .getfield 42, 11, 4) := by decide +kernel
theorem ri_93_46 : ro_ix 93 46 = some (46, .iconst 1, 0, 0) := by decide +kernel
theorem ri_93_47 : ro_ix 93 47 = some (47, .invokevirtual 191, 86, 0) := by decide +kernel
theorem ri_93_50 : ro_ix 93 50 = some (50, .ifCond .eq 13, 0, 0) := by decide +kernel
theorem ri_93_53 : ro_ix 93 53 = some (53, .aload_n 0, 0, 0) := by decide +kernel
theorem ri_93_54 : ro_ix 93 54 = some (54, .getfield 42, 11, 4) := by decide +kernel
theorem ri_93_57 : ro_ix 93 57 = some (57, .invokevirtual 195, 91, 0) := by decide +kernel
theorem ri_93_60 : ro_ix 93 60 = some (60, .goto 5, 0, 0) := by decide +kernel
theorem ri_93_63 : ro_ix 93 63 = some (63, .bipush (-2), 0, 0) := by decide +kernel
theorem ri_93_65 : ro_ix 93 65 = some (65, .ireturn, 0, 0) := by decide +kernel
/-- RefusedOnce.pay(IIII)J -/
theorem rm_94 : (ro_m 94).2.2.1 = 5 ∧ (ro_m 94).2.2.2.1 = (some .long) ∧ (ro_m 94).2.2.2.2.1 = 11 ∧ (ro_m 94).2.2.2.2.2.1 = 4 := ⟨rfl, rfl, rfl, rfl⟩
theorem ri_94_0 : ro_ix 94 0 = some (0, .aload_n 0, 0, 0) := by decide +kernel
theorem ri_94_1 : ro_ix 94 1 = some (1, .iload_n 1, 0, 0) := by decide +kernel
theorem ri_94_2 : ro_ix 94 2 = some (2, .invokevirtual 152, 56, 0) := by decide +kernel
theorem ri_94_5 : ro_ix 94 5 = some (5, .ifCond .eq 31, 0, 0) := by decide +kernel
theorem ri_94_8 : ro_ix 94 8 = some (8, .iload_n 2, 0, 0) := by decide +kernel
theorem ri_94_9 : ro_ix 94 9 = some (9, .iconst 0, 0, 0) := by decide +kernel
theorem ri_94_10 : ro_ix 94 10 = some (10, .bipush 8, 0, 0) := by decide +kernel
theorem ri_94_12 : ro_ix 94 12 = some (12, .invokestatic 76, 13, 0) := by decide +kernel
theorem ri_94_15 : ro_ix 94 15 = some (15, .ifCond .eq 21, 0, 0) := by decide +kernel
theorem ri_94_18 : ro_ix 94 18 = some (18, .iload_n 3, 0, 0) := by decide +kernel
theorem ri_94_19 : ro_ix 94 19 = some (19, .iconst 0, 0, 0) := by decide +kernel
theorem ri_94_20 : ro_ix 94 20 = some (20, .bipush 8, 0, 0) := by decide +kernel
theorem ri_94_22 : ro_ix 94 22 = some (22, .invokestatic 76, 13, 0) := by decide +kernel
theorem ri_94_25 : ro_ix 94 25 = some (25, .ifCond .eq 11, 0, 0) := by decide +kernel
theorem ri_94_28 : ro_ix 94 28 = some (28, .iload 4, 0, 0) := by decide +kernel
theorem ri_94_30 : ro_ix 94 30 = some (30, .invokestatic 201, 95, 0) := by decide +kernel
theorem ri_94_33 : ro_ix 94 33 = some (33, .ifCond .ne 7, 0, 0) := by decide +kernel
theorem ri_94_36 : ro_ix 94 36 = some (36, .ldc2_w 204, 0, 0) := by decide +kernel
theorem ri_94_39 : ro_ix 94 39 = some (39, .lreturn, 0, 0) := by decide +kernel
theorem ri_94_40 : ro_ix 94 40 = some (40, .aload_n 0, 0, 0) := by decide +kernel
theorem ri_94_41 : ro_ix 94 41 = some (41, .getfield 49, 11, 5) := by decide +kernel
theorem ri_94_44 : ro_ix 94 44 = some (44, .iload_n 1, 0, 0) := by decide +kernel
theorem ri_94_45 : ro_ix 94 45 = some (45, .bipush 10, 0, 0) := by decide +kernel
theorem ri_94_47 : ro_ix 94 47 = some (47, .idiv, 0, 0) := by decide +kernel
theorem ri_94_48 : ro_ix 94 48 = some (48, .iload_n 1, 0, 0) := by decide +kernel
theorem ri_94_49 : ro_ix 94 49 = some (49, .bipush 10, 0, 0) := by decide +kernel
theorem ri_94_51 : ro_ix 94 51 = some (51, .irem, 0, 0) := by decide +kernel
theorem ri_94_52 : ro_ix 94 52 = some (52, .iload_n 2, 0, 0) := by decide +kernel
theorem ri_94_53 : ro_ix 94 53 = some (53, .iload_n 3, 0, 0) := by decide +kernel
theorem ri_94_54 : ro_ix 94 54 = some (54, .invokevirtual 206, 96, 0) := by decide +kernel
theorem ri_94_57 : ro_ix 94 57 = some (57, .aload_n 0, 0, 0) := by decide +kernel
theorem ri_94_58 : ro_ix 94 58 = some (58, .getfield 49, 11, 5) := by decide +kernel
theorem ri_94_61 : ro_ix 94 61 = some (61, .iload 4, 0, 0) := by decide +kernel
theorem ri_94_63 : ro_ix 94 63 = some (63, .invokevirtual 209, 102, 0) := by decide +kernel
theorem ri_94_66 : ro_ix 94 66 = some (66, .lreturn, 0, 0) := by decide +kernel
/-- RefusedOnce.isPart(I)Z -/
theorem rm_95 : (ro_m 95).2.2.1 = 1 ∧ (ro_m 95).2.2.2.1 = (some .boolean) ∧ (ro_m 95).2.2.2.2.1 = 11 ∧ (ro_m 95).2.2.2.2.2.1 = 1 := ⟨rfl, rfl, rfl, rfl⟩
theorem ri_95_0 : ro_ix 95 0 = some (0, .iload_n 0, 0, 0) := by decide +kernel
theorem ri_95_1 : ro_ix 95 1 = some (1, .ifCond .eq 8, 0, 0) := by decide +kernel
theorem ri_95_4 : ro_ix 95 4 = some (4, .iload_n 0, 0, 0) := by decide +kernel
theorem ri_95_5 : ro_ix 95 5 = some (5, .iconst 1, 0, 0) := by decide +kernel
theorem ri_95_6 : ro_ix 95 6 = some (6, .if_icmp .ne 7, 0, 0) := by decide +kernel
theorem ri_95_9 : ro_ix 95 9 = some (9, .iconst 1, 0, 0) := by decide +kernel
theorem ri_95_10 : ro_ix 95 10 = some (10, .goto 4, 0, 0) := by decide +kernel
theorem ri_95_13 : ro_ix 95 13 = some (13, .iconst 0, 0, 0) := by decide +kernel
theorem ri_95_14 : ro_ix 95 14 = some (14, .ireturn, 0, 0) := by decide +kernel
/-- RefusedOnce$Chances.justSoMany(IIII)V -/
theorem rm_96 : (ro_m 96).2.2.1 = 5 ∧ (ro_m 96).2.2.2.1 = none ∧ (ro_m 96).2.2.2.2.1 = 1 ∧ (ro_m 96).2.2.2.2.2.1 = 4 := ⟨rfl, rfl, rfl, rfl⟩
theorem ri_96_0 : ro_ix 96 0 = some (0, .aload_n 0, 0, 0) := by decide +kernel
theorem ri_96_1 : ro_ix 96 1 = some (1, .iload_n 1, 0, 0) := by decide +kernel
theorem ri_96_2 : ro_ix 96 2 = some (2, .iload_n 2, 0, 0) := by decide +kernel
theorem ri_96_3 : ro_ix 96 3 = some (3, .iload_n 3, 0, 0) := by decide +kernel
theorem ri_96_4 : ro_ix 96 4 = some (4, .invokevirtual 49, 97, 0) := by decide +kernel
theorem ri_96_7 : ro_ix 96 7 = some (7, .aload_n 0, 0, 0) := by decide +kernel
theorem ri_96_8 : ro_ix 96 8 = some (8, .iload 4, 0, 0) := by decide +kernel
theorem ri_96_10 : ro_ix 96 10 = some (10, .ifCond .lt 23, 0, 0) := by decide +kernel
theorem ri_96_13 : ro_ix 96 13 = some (13, .iload 4, 0, 0) := by decide +kernel
theorem ri_96_15 : ro_ix 96 15 = some (15, .aload_n 0, 0, 0) := by decide +kernel
theorem ri_96_16 : ro_ix 96 16 = some (16, .getfield 18, 1, 3) := by decide +kernel
theorem ri_96_19 : ro_ix 96 19 = some (19, .arraylength, 0, 0) := by decide +kernel
theorem ri_96_20 : ro_ix 96 20 = some (20, .if_icmp .ge 13, 0, 0) := by decide +kernel
theorem ri_96_23 : ro_ix 96 23 = some (23, .aload_n 0, 0, 0) := by decide +kernel
theorem ri_96_24 : ro_ix 96 24 = some (24, .getfield 18, 1, 3) := by decide +kernel
theorem ri_96_27 : ro_ix 96 27 = some (27, .iload 4, 0, 0) := by decide +kernel
theorem ri_96_29 : ro_ix 96 29 = some (29, .laload, 0, 0) := by decide +kernel
theorem ri_96_30 : ro_ix 96 30 = some (30, .goto 4, 0, 0) := by decide +kernel
theorem ri_96_33 : ro_ix 96 33 = some (33, .lconst 0, 0, 0) := by decide +kernel
theorem ri_96_34 : ro_ix 96 34 = some (34, .iload_n 3, 0, 0) := by decide +kernel
theorem ri_96_35 : ro_ix 96 35 = some (35, .invokestatic 53, 99, 0) := by decide +kernel
theorem ri_96_38 : ro_ix 96 38 = some (38, .invokevirtual 57, 100, 0) := by decide +kernel
theorem ri_96_41 : ro_ix 96 41 = some (41, .return_, 0, 0) := by decide +kernel
/-- RefusedOnce$Chances.weighPayings(III)V -/
theorem rm_97 : (ro_m 97).2.2.1 = 6 ∧ (ro_m 97).2.2.2.1 = none ∧ (ro_m 97).2.2.2.2.1 = 1 ∧ (ro_m 97).2.2.2.2.2.1 = 3 := ⟨rfl, rfl, rfl, rfl⟩
theorem ri_97_0 : ro_ix 97 0 = some (0, .aload_n 0, 0, 0) := by decide +kernel
theorem ri_97_1 : ro_ix 97 1 = some (1, .getfield 12, 1, 2) := by decide +kernel
theorem ri_97_4 : ro_ix 97 4 = some (4, .aload_n 0, 0, 0) := by decide +kernel
theorem ri_97_5 : ro_ix 97 5 = some (5, .getfield 29, 1, 0) := by decide +kernel
theorem ri_97_8 : ro_ix 97 8 = some (8, .getfield 63, 4, 0) := by decide +kernel
theorem ri_97_11 : ro_ix 97 11 = some (11, .aload_n 0, 0, 0) := by decide +kernel
theorem ri_97_12 : ro_ix 97 12 = some (12, .getfield 29, 1, 0) := by decide +kernel
theorem ri_97_15 : ro_ix 97 15 = some (15, .invokevirtual 68, 18, 0) := by decide +kernel
theorem ri_97_18 : ro_ix 97 18 = some (18, .invokevirtual 72, 68, 0) := by decide +kernel
theorem ri_97_21 : ro_ix 97 21 = some (21, .iconst 0, 0, 0) := by decide +kernel
theorem ri_97_22 : ro_ix 97 22 = some (22, .istore 4, 0, 0) := by decide +kernel
theorem ri_97_24 : ro_ix 97 24 = some (24, .iload 4, 0, 0) := by decide +kernel
theorem ri_97_26 : ro_ix 97 26 = some (26, .aload_n 0, 0, 0) := by decide +kernel
theorem ri_97_27 : ro_ix 97 27 = some (27, .getfield 18, 1, 3) := by decide +kernel
theorem ri_97_30 : ro_ix 97 30 = some (30, .arraylength, 0, 0) := by decide +kernel
theorem ri_97_31 : ro_ix 97 31 = some (31, .if_icmp .ge 44, 0, 0) := by decide +kernel
theorem ri_97_34 : ro_ix 97 34 = some (34, .iload 4, 0, 0) := by decide +kernel
theorem ri_97_36 : ro_ix 97 36 = some (36, .aload_n 0, 0, 0) := by decide +kernel
theorem ri_97_37 : ro_ix 97 37 = some (37, .getfield 22, 1, 4) := by decide +kernel
theorem ri_97_40 : ro_ix 97 40 = some (40, .arraylength, 0, 0) := by decide +kernel
theorem ri_97_41 : ro_ix 97 41 = some (41, .if_icmp .ge 34, 0, 0) := by decide +kernel
theorem ri_97_44 : ro_ix 97 44 = some (44, .aload_n 0, 0, 0) := by decide +kernel
theorem ri_97_45 : ro_ix 97 45 = some (45, .getfield 18, 1, 3) := by decide +kernel
theorem ri_97_48 : ro_ix 97 48 = some (48, .iload 4, 0, 0) := by decide +kernel
theorem ri_97_50 : ro_ix 97 50 = some (50, .lconst 0, 0, 0) := by decide +kernel
theorem ri_97_51 : ro_ix 97 51 = some (51, .lastore, 0, 0) := by decide +kernel
theorem ri_97_52 : ro_ix 97 52 = some (52, .aload_n 0, 0, 0) := by decide +kernel
theorem ri_97_53 : ro_ix 97 53 = some (53, .getfield 22, 1, 4) := by decide +kernel
theorem ri_97_56 : ro_ix 97 56 = some (56, .iload 4, 0, 0) := by decide +kernel
theorem ri_97_58 : ro_ix 97 58 = some (58, .iload 4, 0, 0) := by decide +kernel
theorem ri_97_60 : ro_ix 97 60 = some (60, .ifCond .ne 7, 0, 0) := by decide +kernel
theorem ri_97_63 : ro_ix 97 63 = some (63, .lconst 1, 0, 0) := by decide +kernel
theorem ri_97_64 : ro_ix 97 64 = some (64, .goto 4, 0, 0) := by decide +kernel
theorem ri_97_67 : ro_ix 97 67 = some (67, .lconst 0, 0, 0) := by decide +kernel
theorem ri_97_68 : ro_ix 97 68 = some (68, .lastore, 0, 0) := by decide +kernel
theorem ri_97_69 : ro_ix 97 69 = some (69, .iinc 4 1, 0, 0) := by decide +kernel
theorem ri_97_72 : ro_ix 97 72 = some (72, .goto (-48), 0, 0) := by decide +kernel
theorem ri_97_75 : ro_ix 97 75 = some (75, .iconst 0, 0, 0) := by decide +kernel
theorem ri_97_76 : ro_ix 97 76 = some (76, .istore 4, 0, 0) := by decide +kernel
theorem ri_97_78 : ro_ix 97 78 = some (78, .iload 4, 0, 0) := by decide +kernel
theorem ri_97_80 : ro_ix 97 80 = some (80, .iload_n 3, 0, 0) := by decide +kernel
theorem ri_97_81 : ro_ix 97 81 = some (81, .if_icmp .ge 45, 0, 0) := by decide +kernel
theorem ri_97_84 : ro_ix 97 84 = some (84, .iload 4, 0, 0) := by decide +kernel
theorem ri_97_86 : ro_ix 97 86 = some (86, .bipush 8, 0, 0) := by decide +kernel
theorem ri_97_88 : ro_ix 97 88 = some (88, .if_icmp .ge 38, 0, 0) := by decide +kernel
theorem ri_97_91 : ro_ix 97 91 = some (91, .iload 4, 0, 0) := by decide +kernel
theorem ri_97_93 : ro_ix 97 93 = some (93, .istore 5, 0, 0) := by decide +kernel
theorem ri_97_95 : ro_ix 97 95 = some (95, .iload 5, 0, 0) := by decide +kernel
theorem ri_97_97 : ro_ix 97 97 = some (97, .ifCond .lt 23, 0, 0) := by decide +kernel
theorem ri_97_100 : ro_ix 97 100 = some (100, .aload_n 0, 0, 0) := by decide +kernel
theorem ri_97_101 : ro_ix 97 101 = some (101, .iload_n 1, 0, 0) := by decide +kernel
theorem ri_97_102 : ro_ix 97 102 = some (102, .iload_n 2, 0, 0) := by decide +kernel
theorem ri_97_103 : ro_ix 97 103 = some (103, .iload 4, 0, 0) := by decide +kernel
theorem ri_97_105 : ro_ix 97 105 = some (105, .iload 5, 0, 0) := by decide +kernel
theorem ri_97_107 : ro_ix 97 107 = some (107, .iload_n 3, 0, 0) := by decide +kernel
theorem ri_97_108 : ro_ix 97 108 = some (108, .iload 4, 0, 0) := by decide +kernel
theorem ri_97_110 : ro_ix 97 110 = some (110, .isub, 0, 0) := by decide +kernel
theorem ri_97_111 : ro_ix 97 111 = some (111, .invokevirtual 76, 98, 0) := by decide +kernel
theorem ri_97_114 : ro_ix 97 114 = some (114, .iinc 5 (-1), 0, 0) := by decide +kernel
theorem ri_97_117 : ro_ix 97 117 = some (117, .goto (-22), 0, 0) := by decide +kernel
theorem ri_97_120 : ro_ix 97 120 = some (120, .iinc 4 1, 0, 0) := by decide +kernel
theorem ri_97_123 : ro_ix 97 123 = some (123, .goto (-45), 0, 0) := by decide +kernel
theorem ri_97_126 : ro_ix 97 126 = some (126, .iconst 0, 0, 0) := by decide +kernel
theorem ri_97_127 : ro_ix 97 127 = some (127, .istore 4, 0, 0) := by decide +kernel
theorem ri_97_129 : ro_ix 97 129 = some (129, .iload 4, 0, 0) := by decide +kernel
theorem ri_97_131 : ro_ix 97 131 = some (131, .aload_n 0, 0, 0) := by decide +kernel
theorem ri_97_132 : ro_ix 97 132 = some (132, .getfield 18, 1, 3) := by decide +kernel
theorem ri_97_135 : ro_ix 97 135 = some (135, .arraylength, 0, 0) := by decide +kernel
theorem ri_97_136 : ro_ix 97 136 = some (136, .if_icmp .ge 36, 0, 0) := by decide +kernel
theorem ri_97_139 : ro_ix 97 139 = some (139, .iload 4, 0, 0) := by decide +kernel
theorem ri_97_141 : ro_ix 97 141 = some (141, .aload_n 0, 0, 0) := by decide +kernel
theorem ri_97_142 : ro_ix 97 142 = some (142, .getfield 22, 1, 4) := by decide +kernel
theorem ri_97_145 : ro_ix 97 145 = some (145, .arraylength, 0, 0) := by decide +kernel
theorem ri_97_146 : ro_ix 97 146 = some (146, .if_icmp .ge 26, 0, 0) := by decide +kernel
theorem ri_97_149 : ro_ix 97 149 = some (149, .aload_n 0, 0, 0) := by decide +kernel
theorem ri_97_150 : ro_ix 97 150 = some (150, .getfield 18, 1, 3) := by decide +kernel
theorem ri_97_153 : ro_ix 97 153 = some (153, .iload 4, 0, 0) := by decide +kernel
theorem ri_97_155 : ro_ix 97 155 = some (155, .dup2, 0, 0) := by decide +kernel
theorem ri_97_156 : ro_ix 97 156 = some (156, .laload, 0, 0) := by decide +kernel
theorem ri_97_157 : ro_ix 97 157 = some (157, .aload_n 0, 0, 0) := by decide +kernel
theorem ri_97_158 : ro_ix 97 158 = some (158, .getfield 22, 1, 4) := by decide +kernel
theorem ri_97_161 : ro_ix 97 161 = some (161, .iload 4, 0, 0) := by decide +kernel
theorem ri_97_163 : ro_ix 97 163 = some (163, .laload, 0, 0) := by decide +kernel
theorem ri_97_164 : ro_ix 97 164 = some (164, .ladd, 0, 0) := by decide +kernel
theorem ri_97_165 : ro_ix 97 165 = some (165, .lastore, 0, 0) := by decide +kernel
theorem ri_97_166 : ro_ix 97 166 = some (166, .iinc 4 1, 0, 0) := by decide +kernel
theorem ri_97_169 : ro_ix 97 169 = some (169, .goto (-40), 0, 0) := by decide +kernel
theorem ri_97_172 : ro_ix 97 172 = some (172, .return_, 0, 0) := by decide +kernel
/-- RefusedOnce$Chances.offerNext(IIIII)V -/
theorem rm_98 : (ro_m 98).2.2.1 = 7 ∧ (ro_m 98).2.2.2.1 = none ∧ (ro_m 98).2.2.2.2.1 = 1 ∧ (ro_m 98).2.2.2.2.2.1 = 5 := ⟨rfl, rfl, rfl, rfl⟩
theorem ri_98_0 : ro_ix 98 0 = some (0, .iload 4, 0, 0) := by decide +kernel
theorem ri_98_2 : ro_ix 98 2 = some (2, .ifCond .lt 25, 0, 0) := by decide +kernel
theorem ri_98_5 : ro_ix 98 5 = some (5, .iload 4, 0, 0) := by decide +kernel
theorem ri_98_7 : ro_ix 98 7 = some (7, .iconst 1, 0, 0) := by decide +kernel
theorem ri_98_8 : ro_ix 98 8 = some (8, .iadd, 0, 0) := by decide +kernel
theorem ri_98_9 : ro_ix 98 9 = some (9, .aload_n 0, 0, 0) := by decide +kernel
theorem ri_98_10 : ro_ix 98 10 = some (10, .getfield 22, 1, 4) := by decide +kernel
theorem ri_98_13 : ro_ix 98 13 = some (13, .arraylength, 0, 0) := by decide +kernel
theorem ri_98_14 : ro_ix 98 14 = some (14, .if_icmp .ge 13, 0, 0) := by decide +kernel
theorem ri_98_17 : ro_ix 98 17 = some (17, .iload 4, 0, 0) := by decide +kernel
theorem ri_98_19 : ro_ix 98 19 = some (19, .aload_n 0, 0, 0) := by decide +kernel
theorem ri_98_20 : ro_ix 98 20 = some (20, .getfield 18, 1, 3) := by decide +kernel
theorem ri_98_23 : ro_ix 98 23 = some (23, .arraylength, 0, 0) := by decide +kernel
theorem ri_98_24 : ro_ix 98 24 = some (24, .if_icmp .lt 4, 0, 0) := by decide +kernel
theorem ri_98_27 : ro_ix 98 27 = some (27, .return_, 0, 0) := by decide +kernel
theorem ri_98_28 : ro_ix 98 28 = some (28, .aload_n 0, 0, 0) := by decide +kernel
theorem ri_98_29 : ro_ix 98 29 = some (29, .getfield 12, 1, 2) := by decide +kernel
theorem ri_98_32 : ro_ix 98 32 = some (32, .iload_n 1, 0, 0) := by decide +kernel
theorem ri_98_33 : ro_ix 98 33 = some (33, .aload_n 0, 0, 0) := by decide +kernel
theorem ri_98_34 : ro_ix 98 34 = some (34, .getfield 29, 1, 0) := by decide +kernel
theorem ri_98_37 : ro_ix 98 37 = some (37, .iload_n 1, 0, 0) := by decide +kernel
theorem ri_98_38 : ro_ix 98 38 = some (38, .iconst 0, 0, 0) := by decide +kernel
theorem ri_98_39 : ro_ix 98 39 = some (39, .invokevirtual 80, 30, 0) := by decide +kernel
theorem ri_98_42 : ro_ix 98 42 = some (42, .iload_n 3, 0, 0) := by decide +kernel
theorem ri_98_43 : ro_ix 98 43 = some (43, .isub, 0, 0) := by decide +kernel
theorem ri_98_44 : ro_ix 98 44 = some (44, .invokevirtual 84, 16, 0) := by decide +kernel
theorem ri_98_47 : ro_ix 98 47 = some (47, .aload_n 0, 0, 0) := by decide +kernel
theorem ri_98_48 : ro_ix 98 48 = some (48, .getfield 12, 1, 2) := by decide +kernel
theorem ri_98_51 : ro_ix 98 51 = some (51, .iload_n 1, 0, 0) := by decide +kernel
theorem ri_98_52 : ro_ix 98 52 = some (52, .aload_n 0, 0, 0) := by decide +kernel
theorem ri_98_53 : ro_ix 98 53 = some (53, .getfield 29, 1, 0) := by decide +kernel
theorem ri_98_56 : ro_ix 98 56 = some (56, .iload_n 1, 0, 0) := by decide +kernel
theorem ri_98_57 : ro_ix 98 57 = some (57, .iconst 1, 0, 0) := by decide +kernel
theorem ri_98_58 : ro_ix 98 58 = some (58, .invokevirtual 80, 30, 0) := by decide +kernel
theorem ri_98_61 : ro_ix 98 61 = some (61, .iload 4, 0, 0) := by decide +kernel
theorem ri_98_63 : ro_ix 98 63 = some (63, .iadd, 0, 0) := by decide +kernel
theorem ri_98_64 : ro_ix 98 64 = some (64, .invokevirtual 88, 17, 0) := by decide +kernel
theorem ri_98_67 : ro_ix 98 67 = some (67, .aload_n 0, 0, 0) := by decide +kernel
theorem ri_98_68 : ro_ix 98 68 = some (68, .getfield 12, 1, 2) := by decide +kernel
theorem ri_98_71 : ro_ix 98 71 = some (71, .iload_n 2, 0, 0) := by decide +kernel
theorem ri_98_72 : ro_ix 98 72 = some (72, .aload_n 0, 0, 0) := by decide +kernel
theorem ri_98_73 : ro_ix 98 73 = some (73, .getfield 29, 1, 0) := by decide +kernel
theorem ri_98_76 : ro_ix 98 76 = some (76, .iload_n 2, 0, 0) := by decide +kernel
theorem ri_98_77 : ro_ix 98 77 = some (77, .iconst 0, 0, 0) := by decide +kernel
theorem ri_98_78 : ro_ix 98 78 = some (78, .invokevirtual 80, 30, 0) := by decide +kernel
theorem ri_98_81 : ro_ix 98 81 = some (81, .iload_n 3, 0, 0) := by decide +kernel
theorem ri_98_82 : ro_ix 98 82 = some (82, .iadd, 0, 0) := by decide +kernel
theorem ri_98_83 : ro_ix 98 83 = some (83, .iload 4, 0, 0) := by decide +kernel
theorem ri_98_85 : ro_ix 98 85 = some (85, .isub, 0, 0) := by decide +kernel
theorem ri_98_86 : ro_ix 98 86 = some (86, .invokevirtual 84, 16, 0) := by decide +kernel
theorem ri_98_89 : ro_ix 98 89 = some (89, .aload_n 0, 0, 0) := by decide +kernel
theorem ri_98_90 : ro_ix 98 90 = some (90, .getfield 12, 1, 2) := by decide +kernel
theorem ri_98_93 : ro_ix 98 93 = some (93, .iload_n 1, 0, 0) := by decide +kernel
theorem ri_98_94 : ro_ix 98 94 = some (94, .iload_n 2, 0, 0) := by decide +kernel
theorem ri_98_95 : ro_ix 98 95 = some (95, .invokevirtual 91, 75, 0) := by decide +kernel
theorem ri_98_98 : ro_ix 98 98 = some (98, .ifCond .ne 35, 0, 0) := by decide +kernel
theorem ri_98_101 : ro_ix 98 101 = some (101, .aload_n 0, 0, 0) := by decide +kernel
theorem ri_98_102 : ro_ix 98 102 = some (102, .getfield 18, 1, 3) := by decide +kernel
theorem ri_98_105 : ro_ix 98 105 = some (105, .iload 4, 0, 0) := by decide +kernel
theorem ri_98_107 : ro_ix 98 107 = some (107, .dup2, 0, 0) := by decide +kernel
theorem ri_98_108 : ro_ix 98 108 = some (108, .laload, 0, 0) := by decide +kernel
theorem ri_98_109 : ro_ix 98 109 = some (109, .aload_n 0, 0, 0) := by decide +kernel
theorem ri_98_110 : ro_ix 98 110 = some (110, .getfield 22, 1, 4) := by decide +kernel
theorem ri_98_113 : ro_ix 98 113 = some (113, .iload 4, 0, 0) := by decide +kernel
theorem ri_98_115 : ro_ix 98 115 = some (115, .laload, 0, 0) := by decide +kernel
theorem ri_98_116 : ro_ix 98 116 = some (116, .iload 5, 0, 0) := by decide +kernel
theorem ri_98_118 : ro_ix 98 118 = some (118, .invokestatic 53, 99, 0) := by decide +kernel
theorem ri_98_121 : ro_ix 98 121 = some (121, .lmul, 0, 0) := by decide +kernel
theorem ri_98_122 : ro_ix 98 122 = some (122, .ladd, 0, 0) := by decide +kernel
theorem ri_98_123 : ro_ix 98 123 = some (123, .lastore, 0, 0) := by decide +kernel
theorem ri_98_124 : ro_ix 98 124 = some (124, .aload_n 0, 0, 0) := by decide +kernel
theorem ri_98_125 : ro_ix 98 125 = some (125, .getfield 22, 1, 4) := by decide +kernel
theorem ri_98_128 : ro_ix 98 128 = some (128, .iload 4, 0, 0) := by decide +kernel
theorem ri_98_130 : ro_ix 98 130 = some (130, .lconst 0, 0, 0) := by decide +kernel
theorem ri_98_131 : ro_ix 98 131 = some (131, .lastore, 0, 0) := by decide +kernel
theorem ri_98_132 : ro_ix 98 132 = some (132, .return_, 0, 0) := by decide +kernel
theorem ri_98_133 : ro_ix 98 133 = some (133, .aload_n 0, 0, 0) := by decide +kernel
theorem ri_98_134 : ro_ix 98 134 = some (134, .getfield 33, 1, 1) := by decide +kernel
theorem ri_98_137 : ro_ix 98 137 = some (137, .aload_n 0, 0, 0) := by decide +kernel
theorem ri_98_138 : ro_ix 98 138 = some (138, .getfield 29, 1, 0) := by decide +kernel
theorem ri_98_141 : ro_ix 98 141 = some (141, .aload_n 0, 0, 0) := by decide +kernel
theorem ri_98_142 : ro_ix 98 142 = some (142, .getfield 12, 1, 2) := by decide +kernel
theorem ri_98_145 : ro_ix 98 145 = some (145, .iload_n 1, 0, 0) := by decide +kernel
theorem ri_98_146 : ro_ix 98 146 = some (146, .iload_n 2, 0, 0) := by decide +kernel
theorem ri_98_147 : ro_ix 98 147 = some (147, .invokevirtual 95, 58, 0) := by decide +kernel
theorem ri_98_150 : ro_ix 98 150 = some (150, .istore 6, 0, 0) := by decide +kernel
theorem ri_98_152 : ro_ix 98 152 = some (152, .aload_n 0, 0, 0) := by decide +kernel
theorem ri_98_153 : ro_ix 98 153 = some (153, .getfield 22, 1, 4) := by decide +kernel
theorem ri_98_156 : ro_ix 98 156 = some (156, .iload 4, 0, 0) := by decide +kernel
theorem ri_98_158 : ro_ix 98 158 = some (158, .iconst 1, 0, 0) := by decide +kernel
theorem ri_98_159 : ro_ix 98 159 = some (159, .iadd, 0, 0) := by decide +kernel
theorem ri_98_160 : ro_ix 98 160 = some (160, .dup2, 0, 0) := by decide +kernel
theorem ri_98_161 : ro_ix 98 161 = some (161, .laload, 0, 0) := by decide +kernel
theorem ri_98_162 : ro_ix 98 162 = some (162, .aload_n 0, 0, 0) := by decide +kernel
theorem ri_98_163 : ro_ix 98 163 = some (163, .getfield 22, 1, 4) := by decide +kernel
theorem ri_98_166 : ro_ix 98 166 = some (166, .iload 4, 0, 0) := by decide +kernel
theorem ri_98_168 : ro_ix 98 168 = some (168, .laload, 0, 0) := by decide +kernel
theorem ri_98_169 : ro_ix 98 169 = some (169, .iload 6, 0, 0) := by decide +kernel
theorem ri_98_171 : ro_ix 98 171 = some (171, .i2l, 0, 0) := by decide +kernel
theorem ri_98_172 : ro_ix 98 172 = some (172, .lmul, 0, 0) := by decide +kernel
theorem ri_98_173 : ro_ix 98 173 = some (173, .ladd, 0, 0) := by decide +kernel
theorem ri_98_174 : ro_ix 98 174 = some (174, .lastore, 0, 0) := by decide +kernel
theorem ri_98_175 : ro_ix 98 175 = some (175, .aload_n 0, 0, 0) := by decide +kernel
theorem ri_98_176 : ro_ix 98 176 = some (176, .getfield 22, 1, 4) := by decide +kernel
theorem ri_98_179 : ro_ix 98 179 = some (179, .iload 4, 0, 0) := by decide +kernel
theorem ri_98_181 : ro_ix 98 181 = some (181, .dup2, 0, 0) := by decide +kernel
theorem ri_98_182 : ro_ix 98 182 = some (182, .laload, 0, 0) := by decide +kernel
theorem ri_98_183 : ro_ix 98 183 = some (183, .bipush 12, 0, 0) := by decide +kernel
theorem ri_98_185 : ro_ix 98 185 = some (185, .iload 6, 0, 0) := by decide +kernel
theorem ri_98_187 : ro_ix 98 187 = some (187, .isub, 0, 0) := by decide +kernel
theorem ri_98_188 : ro_ix 98 188 = some (188, .i2l, 0, 0) := by decide +kernel
theorem ri_98_189 : ro_ix 98 189 = some (189, .lmul, 0, 0) := by decide +kernel
theorem ri_98_190 : ro_ix 98 190 = some (190, .lastore, 0, 0) := by decide +kernel
theorem ri_98_191 : ro_ix 98 191 = some (191, .return_, 0, 0) := by decide +kernel
/-- RefusedOnce$Chances.twelveBy(I)J -/
theorem rm_99 : (ro_m 99).2.2.1 = 4 ∧ (ro_m 99).2.2.2.1 = (some .long) ∧ (ro_m 99).2.2.2.2.1 = 1 ∧ (ro_m 99).2.2.2.2.2.1 = 1 := ⟨rfl, rfl, rfl, rfl⟩
theorem ri_99_0 : ro_ix 99 0 = some (0, .lconst 1, 0, 0) := by decide +kernel
theorem ri_99_1 : ro_ix 99 1 = some (1, .lstore_n 1, 0, 0) := by decide +kernel
theorem ri_99_2 : ro_ix 99 2 = some (2, .iconst 0, 0, 0) := by decide +kernel
theorem ri_99_3 : ro_ix 99 3 = some (3, .istore_n 3, 0, 0) := by decide +kernel
theorem ri_99_4 : ro_ix 99 4 = some (4, .iload_n 3, 0, 0) := by decide +kernel
theorem ri_99_5 : ro_ix 99 5 = some (5, .iload_n 0, 0, 0) := by decide +kernel
theorem ri_99_6 : ro_ix 99 6 = some (6, .if_icmp .ge 21, 0, 0) := by decide +kernel
theorem ri_99_9 : ro_ix 99 9 = some (9, .iload_n 3, 0, 0) := by decide +kernel
theorem ri_99_10 : ro_ix 99 10 = some (10, .bipush 8, 0, 0) := by decide +kernel
theorem ri_99_12 : ro_ix 99 12 = some (12, .if_icmp .ge 15, 0, 0) := by decide +kernel
theorem ri_99_15 : ro_ix 99 15 = some (15, .lload_n 1, 0, 0) := by decide +kernel
theorem ri_99_16 : ro_ix 99 16 = some (16, .ldc2_w 61, 0, 0) := by decide +kernel
theorem ri_99_19 : ro_ix 99 19 = some (19, .lmul, 0, 0) := by decide +kernel
theorem ri_99_20 : ro_ix 99 20 = some (20, .lstore_n 1, 0, 0) := by decide +kernel
theorem ri_99_21 : ro_ix 99 21 = some (21, .iinc 3 1, 0, 0) := by decide +kernel
theorem ri_99_24 : ro_ix 99 24 = some (24, .goto (-20), 0, 0) := by decide +kernel
theorem ri_99_27 : ro_ix 99 27 = some (27, .lload_n 1, 0, 0) := by decide +kernel
theorem ri_99_28 : ro_ix 99 28 = some (28, .lreturn, 0, 0) := by decide +kernel
/-- RefusedOnce$Chances.set(JJ)V -/
theorem rm_100 : (ro_m 100).2.2.1 = 7 ∧ (ro_m 100).2.2.2.1 = none ∧ (ro_m 100).2.2.2.2.1 = 1 ∧ (ro_m 100).2.2.2.2.2.1 = 2 := ⟨rfl, rfl, rfl, rfl⟩
theorem ri_100_0 : ro_ix 100 0 = some (0, .lconst 1, 0, 0) := by decide +kernel
theorem ri_100_1 : ro_ix 100 1 = some (1, .lload_n 1, 0, 0) := by decide +kernel
theorem ri_100_2 : ro_ix 100 2 = some (2, .lload_n 3, 0, 0) := by decide +kernel
theorem ri_100_3 : ro_ix 100 3 = some (3, .invokestatic 40, 101, 0) := by decide +kernel
theorem ri_100_6 : ro_ix 100 6 = some (6, .invokestatic 44, 2, 3) := by decide +kernel
theorem ri_100_9 : ro_ix 100 9 = some (9, .lstore 5, 0, 0) := by decide +kernel
theorem ri_100_11 : ro_ix 100 11 = some (11, .aload_n 0, 0, 0) := by decide +kernel
theorem ri_100_12 : ro_ix 100 12 = some (12, .lload_n 1, 0, 0) := by decide +kernel
theorem ri_100_13 : ro_ix 100 13 = some (13, .lload 5, 0, 0) := by decide +kernel
theorem ri_100_15 : ro_ix 100 15 = some (15, .ldiv, 0, 0) := by decide +kernel
theorem ri_100_16 : ro_ix 100 16 = some (16, .putfield 37, 1, 5) := by decide +kernel
theorem ri_100_19 : ro_ix 100 19 = some (19, .aload_n 0, 0, 0) := by decide +kernel
theorem ri_100_20 : ro_ix 100 20 = some (20, .lload_n 3, 0, 0) := by decide +kernel
theorem ri_100_21 : ro_ix 100 21 = some (21, .lload 5, 0, 0) := by decide +kernel
theorem ri_100_23 : ro_ix 100 23 = some (23, .ldiv, 0, 0) := by decide +kernel
theorem ri_100_24 : ro_ix 100 24 = some (24, .putfield 25, 1, 6) := by decide +kernel
theorem ri_100_27 : ro_ix 100 27 = some (27, .return_, 0, 0) := by decide +kernel
/-- RefusedOnce$Chances.sharedBy(JJ)J -/
theorem rm_101 : (ro_m 101).2.2.1 = 7 ∧ (ro_m 101).2.2.2.1 = (some .long) ∧ (ro_m 101).2.2.2.2.1 = 1 ∧ (ro_m 101).2.2.2.2.2.1 = 2 := ⟨rfl, rfl, rfl, rfl⟩
theorem ri_101_0 : ro_ix 101 0 = some (0, .iconst 0, 0, 0) := by decide +kernel
theorem ri_101_1 : ro_ix 101 1 = some (1, .istore 4, 0, 0) := by decide +kernel
theorem ri_101_3 : ro_ix 101 3 = some (3, .iload 4, 0, 0) := by decide +kernel
theorem ri_101_5 : ro_ix 101 5 = some (5, .sipush 200, 0, 0) := by decide +kernel
theorem ri_101_8 : ro_ix 101 8 = some (8, .if_icmp .ge 25, 0, 0) := by decide +kernel
theorem ri_101_11 : ro_ix 101 11 = some (11, .lload_n 2, 0, 0) := by decide +kernel
theorem ri_101_12 : ro_ix 101 12 = some (12, .lconst 0, 0, 0) := by decide +kernel
theorem ri_101_13 : ro_ix 101 13 = some (13, .lcmp, 0, 0) := by decide +kernel
theorem ri_101_14 : ro_ix 101 14 = some (14, .ifCond .eq 19, 0, 0) := by decide +kernel
theorem ri_101_17 : ro_ix 101 17 = some (17, .lload_n 0, 0, 0) := by decide +kernel
theorem ri_101_18 : ro_ix 101 18 = some (18, .lload_n 2, 0, 0) := by decide +kernel
theorem ri_101_19 : ro_ix 101 19 = some (19, .lrem, 0, 0) := by decide +kernel
theorem ri_101_20 : ro_ix 101 20 = some (20, .lstore 5, 0, 0) := by decide +kernel
theorem ri_101_22 : ro_ix 101 22 = some (22, .lload_n 2, 0, 0) := by decide +kernel
theorem ri_101_23 : ro_ix 101 23 = some (23, .lstore_n 0, 0, 0) := by decide +kernel
theorem ri_101_24 : ro_ix 101 24 = some (24, .lload 5, 0, 0) := by decide +kernel
theorem ri_101_26 : ro_ix 101 26 = some (26, .lstore_n 2, 0, 0) := by decide +kernel
theorem ri_101_27 : ro_ix 101 27 = some (27, .iinc 4 1, 0, 0) := by decide +kernel
theorem ri_101_30 : ro_ix 101 30 = some (30, .goto (-27), 0, 0) := by decide +kernel
theorem ri_101_33 : ro_ix 101 33 = some (33, .lload_n 0, 0, 0) := by decide +kernel
theorem ri_101_34 : ro_ix 101 34 = some (34, .lreturn, 0, 0) := by decide +kernel
/-- RefusedOnce$Chances.part(I)J -/
theorem rm_102 : (ro_m 102).2.2.1 = 2 ∧ (ro_m 102).2.2.2.1 = (some .long) ∧ (ro_m 102).2.2.2.2.1 = 1 ∧ (ro_m 102).2.2.2.2.2.1 = 1 := ⟨rfl, rfl, rfl, rfl⟩
theorem ri_102_0 : ro_ix 102 0 = some (0, .iload_n 1, 0, 0) := by decide +kernel
theorem ri_102_1 : ro_ix 102 1 = some (1, .ifCond .ne 10, 0, 0) := by decide +kernel
theorem ri_102_4 : ro_ix 102 4 = some (4, .aload_n 0, 0, 0) := by decide +kernel
theorem ri_102_5 : ro_ix 102 5 = some (5, .getfield 37, 1, 5) := by decide +kernel
theorem ri_102_8 : ro_ix 102 8 = some (8, .goto 7, 0, 0) := by decide +kernel
theorem ri_102_11 : ro_ix 102 11 = some (11, .aload_n 0, 0, 0) := by decide +kernel
theorem ri_102_12 : ro_ix 102 12 = some (12, .getfield 25, 1, 6) := by decide +kernel
theorem ri_102_15 : ro_ix 102 15 = some (15, .lreturn, 0, 0) := by decide +kernel
/-- RefusedOnce.mean(III)J -/
theorem rm_103 : (ro_m 103).2.2.1 = 4 ∧ (ro_m 103).2.2.2.1 = (some .long) ∧ (ro_m 103).2.2.2.2.1 = 11 ∧ (ro_m 103).2.2.2.2.2.1 = 3 := ⟨rfl, rfl, rfl, rfl⟩
theorem ri_103_0 : ro_ix 103 0 = some (0, .aload_n 0, 0, 0) := by decide +kernel
theorem ri_103_1 : ro_ix 103 1 = some (1, .iload_n 1, 0, 0) := by decide +kernel
theorem ri_103_2 : ro_ix 103 2 = some (2, .invokevirtual 152, 56, 0) := by decide +kernel
theorem ri_103_5 : ro_ix 103 5 = some (5, .ifCond .eq 20, 0, 0) := by decide +kernel
theorem ri_103_8 : ro_ix 103 8 = some (8, .iload_n 2, 0, 0) := by decide +kernel
theorem ri_103_9 : ro_ix 103 9 = some (9, .iconst 0, 0, 0) := by decide +kernel
theorem ri_103_10 : ro_ix 103 10 = some (10, .bipush 8, 0, 0) := by decide +kernel
theorem ri_103_12 : ro_ix 103 12 = some (12, .invokestatic 76, 13, 0) := by decide +kernel
theorem ri_103_15 : ro_ix 103 15 = some (15, .ifCond .eq 10, 0, 0) := by decide +kernel
theorem ri_103_18 : ro_ix 103 18 = some (18, .iload_n 3, 0, 0) := by decide +kernel
theorem ri_103_19 : ro_ix 103 19 = some (19, .invokestatic 201, 95, 0) := by decide +kernel
theorem ri_103_22 : ro_ix 103 22 = some (22, .ifCond .ne 7, 0, 0) := by decide +kernel
theorem ri_103_25 : ro_ix 103 25 = some (25, .ldc2_w 204, 0, 0) := by decide +kernel
theorem ri_103_28 : ro_ix 103 28 = some (28, .lreturn, 0, 0) := by decide +kernel
theorem ri_103_29 : ro_ix 103 29 = some (29, .aload_n 0, 0, 0) := by decide +kernel
theorem ri_103_30 : ro_ix 103 30 = some (30, .getfield 49, 11, 5) := by decide +kernel
theorem ri_103_33 : ro_ix 103 33 = some (33, .iload_n 1, 0, 0) := by decide +kernel
theorem ri_103_34 : ro_ix 103 34 = some (34, .bipush 10, 0, 0) := by decide +kernel
theorem ri_103_36 : ro_ix 103 36 = some (36, .idiv, 0, 0) := by decide +kernel
theorem ri_103_37 : ro_ix 103 37 = some (37, .iload_n 1, 0, 0) := by decide +kernel
theorem ri_103_38 : ro_ix 103 38 = some (38, .bipush 10, 0, 0) := by decide +kernel
theorem ri_103_40 : ro_ix 103 40 = some (40, .irem, 0, 0) := by decide +kernel
theorem ri_103_41 : ro_ix 103 41 = some (41, .iload_n 2, 0, 0) := by decide +kernel
theorem ri_103_42 : ro_ix 103 42 = some (42, .invokevirtual 213, 104, 0) := by decide +kernel
theorem ri_103_45 : ro_ix 103 45 = some (45, .aload_n 0, 0, 0) := by decide +kernel
theorem ri_103_46 : ro_ix 103 46 = some (46, .getfield 49, 11, 5) := by decide +kernel
theorem ri_103_49 : ro_ix 103 49 = some (49, .iload_n 3, 0, 0) := by decide +kernel
theorem ri_103_50 : ro_ix 103 50 = some (50, .invokevirtual 209, 102, 0) := by decide +kernel
theorem ri_103_53 : ro_ix 103 53 = some (53, .lreturn, 0, 0) := by decide +kernel
/-- RefusedOnce$Chances.meanRefused(III)V -/
theorem rm_104 : (ro_m 104).2.2.1 = 7 ∧ (ro_m 104).2.2.2.1 = none ∧ (ro_m 104).2.2.2.2.1 = 1 ∧ (ro_m 104).2.2.2.2.2.1 = 3 := ⟨rfl, rfl, rfl, rfl⟩
theorem ri_104_0 : ro_ix 104 0 = some (0, .aload_n 0, 0, 0) := by decide +kernel
theorem ri_104_1 : ro_ix 104 1 = some (1, .iload_n 1, 0, 0) := by decide +kernel
theorem ri_104_2 : ro_ix 104 2 = some (2, .iload_n 2, 0, 0) := by decide +kernel
theorem ri_104_3 : ro_ix 104 3 = some (3, .iload_n 3, 0, 0) := by decide +kernel
theorem ri_104_4 : ro_ix 104 4 = some (4, .invokevirtual 49, 97, 0) := by decide +kernel
theorem ri_104_7 : ro_ix 104 7 = some (7, .lconst 0, 0, 0) := by decide +kernel
theorem ri_104_8 : ro_ix 104 8 = some (8, .lstore 4, 0, 0) := by decide +kernel
theorem ri_104_10 : ro_ix 104 10 = some (10, .iconst 1, 0, 0) := by decide +kernel
theorem ri_104_11 : ro_ix 104 11 = some (11, .istore 6, 0, 0) := by decide +kernel
theorem ri_104_13 : ro_ix 104 13 = some (13, .iload 6, 0, 0) := by decide +kernel
theorem ri_104_15 : ro_ix 104 15 = some (15, .aload_n 0, 0, 0) := by decide +kernel
theorem ri_104_16 : ro_ix 104 16 = some (16, .getfield 18, 1, 3) := by decide +kernel
theorem ri_104_19 : ro_ix 104 19 = some (19, .arraylength, 0, 0) := by decide +kernel
theorem ri_104_20 : ro_ix 104 20 = some (20, .if_icmp .ge 25, 0, 0) := by decide +kernel
theorem ri_104_23 : ro_ix 104 23 = some (23, .lload 4, 0, 0) := by decide +kernel
theorem ri_104_25 : ro_ix 104 25 = some (25, .iload 6, 0, 0) := by decide +kernel
theorem ri_104_27 : ro_ix 104 27 = some (27, .i2l, 0, 0) := by decide +kernel
theorem ri_104_28 : ro_ix 104 28 = some (28, .aload_n 0, 0, 0) := by decide +kernel
theorem ri_104_29 : ro_ix 104 29 = some (29, .getfield 18, 1, 3) := by decide +kernel
theorem ri_104_32 : ro_ix 104 32 = some (32, .iload 6, 0, 0) := by decide +kernel
theorem ri_104_34 : ro_ix 104 34 = some (34, .laload, 0, 0) := by decide +kernel
theorem ri_104_35 : ro_ix 104 35 = some (35, .lmul, 0, 0) := by decide +kernel
theorem ri_104_36 : ro_ix 104 36 = some (36, .ladd, 0, 0) := by decide +kernel
theorem ri_104_37 : ro_ix 104 37 = some (37, .lstore 4, 0, 0) := by decide +kernel
theorem ri_104_39 : ro_ix 104 39 = some (39, .iinc 6 1, 0, 0) := by decide +kernel
theorem ri_104_42 : ro_ix 104 42 = some (42, .goto (-29), 0, 0) := by decide +kernel
theorem ri_104_45 : ro_ix 104 45 = some (45, .aload_n 0, 0, 0) := by decide +kernel
theorem ri_104_46 : ro_ix 104 46 = some (46, .lload 4, 0, 0) := by decide +kernel
theorem ri_104_48 : ro_ix 104 48 = some (48, .iload_n 3, 0, 0) := by decide +kernel
theorem ri_104_49 : ro_ix 104 49 = some (49, .invokestatic 53, 99, 0) := by decide +kernel
theorem ri_104_52 : ro_ix 104 52 = some (52, .invokevirtual 57, 100, 0) := by decide +kernel
theorem ri_104_55 : ro_ix 104 55 = some (55, .return_, 0, 0) := by decide +kernel
/-- RefusedOnce.stays(II)J -/
theorem rm_105 : (ro_m 105).2.2.1 = 3 ∧ (ro_m 105).2.2.2.1 = (some .long) ∧ (ro_m 105).2.2.2.2.1 = 11 ∧ (ro_m 105).2.2.2.2.2.1 = 2 := ⟨rfl, rfl, rfl, rfl⟩
theorem ri_105_0 : ro_ix 105 0 = some (0, .iload_n 1, 0, 0) := by decide +kernel
theorem ri_105_1 : ro_ix 105 1 = some (1, .iconst 0, 0, 0) := by decide +kernel
theorem ri_105_2 : ro_ix 105 2 = some (2, .iconst 2, 0, 0) := by decide +kernel
theorem ri_105_3 : ro_ix 105 3 = some (3, .invokestatic 76, 13, 0) := by decide +kernel
theorem ri_105_6 : ro_ix 105 6 = some (6, .ifCond .eq 10, 0, 0) := by decide +kernel
theorem ri_105_9 : ro_ix 105 9 = some (9, .iload_n 2, 0, 0) := by decide +kernel
theorem ri_105_10 : ro_ix 105 10 = some (10, .invokestatic 201, 95, 0) := by decide +kernel
theorem ri_105_13 : ro_ix 105 13 = some (13, .ifCond .ne 7, 0, 0) := by decide +kernel
theorem ri_105_16 : ro_ix 105 16 = some (16, .ldc2_w 204, 0, 0) := by decide +kernel
theorem ri_105_19 : ro_ix 105 19 = some (19, .lreturn, 0, 0) := by decide +kernel
theorem ri_105_20 : ro_ix 105 20 = some (20, .aload_n 0, 0, 0) := by decide +kernel
theorem ri_105_21 : ro_ix 105 21 = some (21, .getfield 49, 11, 5) := by decide +kernel
theorem ri_105_24 : ro_ix 105 24 = some (24, .iload_n 1, 0, 0) := by decide +kernel
theorem ri_105_25 : ro_ix 105 25 = some (25, .invokevirtual 216, 106, 0) := by decide +kernel
theorem ri_105_28 : ro_ix 105 28 = some (28, .aload_n 0, 0, 0) := by decide +kernel
theorem ri_105_29 : ro_ix 105 29 = some (29, .getfield 49, 11, 5) := by decide +kernel
theorem ri_105_32 : ro_ix 105 32 = some (32, .iload_n 2, 0, 0) := by decide +kernel
theorem ri_105_33 : ro_ix 105 33 = some (33, .invokevirtual 209, 102, 0) := by decide +kernel
theorem ri_105_36 : ro_ix 105 36 = some (36, .lreturn, 0, 0) := by decide +kernel
/-- RefusedOnce$Chances.allStayWhole(I)V -/
theorem rm_106 : (ro_m 106).2.2.1 = 4 ∧ (ro_m 106).2.2.2.1 = none ∧ (ro_m 106).2.2.2.2.1 = 1 ∧ (ro_m 106).2.2.2.2.2.1 = 1 := ⟨rfl, rfl, rfl, rfl⟩
theorem ri_106_0 : ro_ix 106 0 = some (0, .aload_n 0, 0, 0) := by decide +kernel
theorem ri_106_1 : ro_ix 106 1 = some (1, .getfield 12, 1, 2) := by decide +kernel
theorem ri_106_4 : ro_ix 106 4 = some (4, .aload_n 0, 0, 0) := by decide +kernel
theorem ri_106_5 : ro_ix 106 5 = some (5, .getfield 29, 1, 0) := by decide +kernel
theorem ri_106_8 : ro_ix 106 8 = some (8, .getfield 63, 4, 0) := by decide +kernel
theorem ri_106_11 : ro_ix 106 11 = some (11, .aload_n 0, 0, 0) := by decide +kernel
theorem ri_106_12 : ro_ix 106 12 = some (12, .getfield 29, 1, 0) := by decide +kernel
theorem ri_106_15 : ro_ix 106 15 = some (15, .invokevirtual 68, 18, 0) := by decide +kernel
theorem ri_106_18 : ro_ix 106 18 = some (18, .invokevirtual 72, 68, 0) := by decide +kernel
theorem ri_106_21 : ro_ix 106 21 = some (21, .aload_n 0, 0, 0) := by decide +kernel
theorem ri_106_22 : ro_ix 106 22 = some (22, .invokevirtual 101, 107, 0) := by decide +kernel
theorem ri_106_25 : ro_ix 106 25 = some (25, .iload_n 1, 0, 0) := by decide +kernel
theorem ri_106_26 : ro_ix 106 26 = some (26, .ifCond .le 10, 0, 0) := by decide +kernel
theorem ri_106_29 : ro_ix 106 29 = some (29, .aload_n 0, 0, 0) := by decide +kernel
theorem ri_106_30 : ro_ix 106 30 = some (30, .getfield 104, 1, 7) := by decide +kernel
theorem ri_106_33 : ro_ix 106 33 = some (33, .ifCond .ne 12, 0, 0) := by decide +kernel
theorem ri_106_36 : ro_ix 106 36 = some (36, .aload_n 0, 0, 0) := by decide +kernel
theorem ri_106_37 : ro_ix 106 37 = some (37, .lconst 1, 0, 0) := by decide +kernel
theorem ri_106_38 : ro_ix 106 38 = some (38, .lconst 1, 0, 0) := by decide +kernel
theorem ri_106_39 : ro_ix 106 39 = some (39, .invokevirtual 57, 100, 0) := by decide +kernel
theorem ri_106_42 : ro_ix 106 42 = some (42, .goto 52, 0, 0) := by decide +kernel
theorem ri_106_45 : ro_ix 106 45 = some (45, .iload_n 1, 0, 0) := by decide +kernel
theorem ri_106_46 : ro_ix 106 46 = some (46, .iconst 1, 0, 0) := by decide +kernel
theorem ri_106_47 : ro_ix 106 47 = some (47, .if_icmp .ne 24, 0, 0) := by decide +kernel
theorem ri_106_50 : ro_ix 106 50 = some (50, .aload_n 0, 0, 0) := by decide +kernel
theorem ri_106_51 : ro_ix 106 51 = some (51, .aload_n 0, 0, 0) := by decide +kernel
theorem ri_106_52 : ro_ix 106 52 = some (52, .getfield 108, 1, 8) := by decide +kernel
theorem ri_106_55 : ro_ix 106 55 = some (55, .i2l, 0, 0) := by decide +kernel
theorem ri_106_56 : ro_ix 106 56 = some (56, .ldc2_w 61, 0, 0) := by decide +kernel
theorem ri_106_59 : ro_ix 106 59 = some (59, .aload_n 0, 0, 0) := by decide +kernel
theorem ri_106_60 : ro_ix 106 60 = some (60, .getfield 104, 1, 7) := by decide +kernel
theorem ri_106_63 : ro_ix 106 63 = some (63, .i2l, 0, 0) := by decide +kernel
theorem ri_106_64 : ro_ix 106 64 = some (64, .lmul, 0, 0) := by decide +kernel
theorem ri_106_65 : ro_ix 106 65 = some (65, .invokevirtual 57, 100, 0) := by decide +kernel
theorem ri_106_68 : ro_ix 106 68 = some (68, .goto 26, 0, 0) := by decide +kernel
theorem ri_106_71 : ro_ix 106 71 = some (71, .ldc2_w 111, 0, 0) := by decide +kernel
theorem ri_106_74 : ro_ix 106 74 = some (74, .aload_n 0, 0, 0) := by decide +kernel
theorem ri_106_75 : ro_ix 106 75 = some (75, .getfield 104, 1, 7) := by decide +kernel
theorem ri_106_78 : ro_ix 106 78 = some (78, .i2l, 0, 0) := by decide +kernel
theorem ri_106_79 : ro_ix 106 79 = some (79, .lmul, 0, 0) := by decide +kernel
theorem ri_106_80 : ro_ix 106 80 = some (80, .ldc2_w 113, 0, 0) := by decide +kernel
theorem ri_106_83 : ro_ix 106 83 = some (83, .lmul, 0, 0) := by decide +kernel
theorem ri_106_84 : ro_ix 106 84 = some (84, .lstore_n 2, 0, 0) := by decide +kernel
theorem ri_106_85 : ro_ix 106 85 = some (85, .aload_n 0, 0, 0) := by decide +kernel
theorem ri_106_86 : ro_ix 106 86 = some (86, .aload_n 0, 0, 0) := by decide +kernel
theorem ri_106_87 : ro_ix 106 87 = some (87, .invokevirtual 115, 108, 0) := by decide +kernel
theorem ri_106_90 : ro_ix 106 90 = some (90, .lload_n 2, 0, 0) := by decide +kernel
theorem ri_106_91 : ro_ix 106 91 = some (91, .invokevirtual 57, 100, 0) := by decide +kernel
theorem ri_106_94 : ro_ix 106 94 = some (94, .return_, 0, 0) := by decide +kernel
/-- RefusedOnce$Chances.tally()V -/
theorem rm_107 : (ro_m 107).2.2.1 = 4 ∧ (ro_m 107).2.2.2.1 = none ∧ (ro_m 107).2.2.2.2.1 = 1 ∧ (ro_m 107).2.2.2.2.2.1 = 0 := ⟨rfl, rfl, rfl, rfl⟩
theorem ri_107_0 : ro_ix 107 0 = some (0, .aload_n 0, 0, 0) := by decide +kernel
theorem ri_107_1 : ro_ix 107 1 = some (1, .iconst 0, 0, 0) := by decide +kernel
theorem ri_107_2 : ro_ix 107 2 = some (2, .putfield 104, 1, 7) := by decide +kernel
theorem ri_107_5 : ro_ix 107 5 = some (5, .aload_n 0, 0, 0) := by decide +kernel
theorem ri_107_6 : ro_ix 107 6 = some (6, .iconst 0, 0, 0) := by decide +kernel
theorem ri_107_7 : ro_ix 107 7 = some (7, .putfield 108, 1, 8) := by decide +kernel
theorem ri_107_10 : ro_ix 107 10 = some (10, .aload_n 0, 0, 0) := by decide +kernel
theorem ri_107_11 : ro_ix 107 11 = some (11, .getfield 29, 1, 0) := by decide +kernel
theorem ri_107_14 : ro_ix 107 14 = some (14, .invokevirtual 68, 18, 0) := by decide +kernel
theorem ri_107_17 : ro_ix 107 17 = some (17, .istore_n 1, 0, 0) := by decide +kernel
theorem ri_107_18 : ro_ix 107 18 = some (18, .iconst 0, 0, 0) := by decide +kernel
theorem ri_107_19 : ro_ix 107 19 = some (19, .istore_n 2, 0, 0) := by decide +kernel
theorem ri_107_20 : ro_ix 107 20 = some (20, .iload_n 2, 0, 0) := by decide +kernel
theorem ri_107_21 : ro_ix 107 21 = some (21, .iload_n 1, 0, 0) := by decide +kernel
theorem ri_107_22 : ro_ix 107 22 = some (22, .if_icmp .ge 78, 0, 0) := by decide +kernel
theorem ri_107_25 : ro_ix 107 25 = some (25, .iconst 0, 0, 0) := by decide +kernel
theorem ri_107_26 : ro_ix 107 26 = some (26, .istore_n 3, 0, 0) := by decide +kernel
theorem ri_107_27 : ro_ix 107 27 = some (27, .iload_n 3, 0, 0) := by decide +kernel
theorem ri_107_28 : ro_ix 107 28 = some (28, .iload_n 1, 0, 0) := by decide +kernel
theorem ri_107_29 : ro_ix 107 29 = some (29, .if_icmp .ge 65, 0, 0) := by decide +kernel
theorem ri_107_32 : ro_ix 107 32 = some (32, .iload_n 2, 0, 0) := by decide +kernel
theorem ri_107_33 : ro_ix 107 33 = some (33, .iload_n 3, 0, 0) := by decide +kernel
theorem ri_107_34 : ro_ix 107 34 = some (34, .if_icmp .eq 54, 0, 0) := by decide +kernel
theorem ri_107_37 : ro_ix 107 37 = some (37, .aload_n 0, 0, 0) := by decide +kernel
theorem ri_107_38 : ro_ix 107 38 = some (38, .getfield 12, 1, 2) := by decide +kernel
theorem ri_107_41 : ro_ix 107 41 = some (41, .iload_n 2, 0, 0) := by decide +kernel
theorem ri_107_42 : ro_ix 107 42 = some (42, .iload_n 3, 0, 0) := by decide +kernel
theorem ri_107_43 : ro_ix 107 43 = some (43, .invokevirtual 91, 75, 0) := by decide +kernel
theorem ri_107_46 : ro_ix 107 46 = some (46, .ifCond .eq 42, 0, 0) := by decide +kernel
theorem ri_107_49 : ro_ix 107 49 = some (49, .aload_n 0, 0, 0) := by decide +kernel
theorem ri_107_50 : ro_ix 107 50 = some (50, .dup, 0, 0) := by decide +kernel
theorem ri_107_51 : ro_ix 107 51 = some (51, .getfield 104, 1, 7) := by decide +kernel
theorem ri_107_54 : ro_ix 107 54 = some (54, .iconst 1, 0, 0) := by decide +kernel
theorem ri_107_55 : ro_ix 107 55 = some (55, .iadd, 0, 0) := by decide +kernel
theorem ri_107_56 : ro_ix 107 56 = some (56, .putfield 104, 1, 7) := by decide +kernel
theorem ri_107_59 : ro_ix 107 59 = some (59, .aload_n 0, 0, 0) := by decide +kernel
theorem ri_107_60 : ro_ix 107 60 = some (60, .dup, 0, 0) := by decide +kernel
theorem ri_107_61 : ro_ix 107 61 = some (61, .getfield 108, 1, 8) := by decide +kernel
theorem ri_107_64 : ro_ix 107 64 = some (64, .bipush 12, 0, 0) := by decide +kernel
theorem ri_107_66 : ro_ix 107 66 = some (66, .aload_n 0, 0, 0) := by decide +kernel
theorem ri_107_67 : ro_ix 107 67 = some (67, .getfield 33, 1, 1) := by decide +kernel
theorem ri_107_70 : ro_ix 107 70 = some (70, .aload_n 0, 0, 0) := by decide +kernel
theorem ri_107_71 : ro_ix 107 71 = some (71, .getfield 29, 1, 0) := by decide +kernel
theorem ri_107_74 : ro_ix 107 74 = some (74, .aload_n 0, 0, 0) := by decide +kernel
theorem ri_107_75 : ro_ix 107 75 = some (75, .getfield 12, 1, 2) := by decide +kernel
theorem ri_107_78 : ro_ix 107 78 = some (78, .iload_n 2, 0, 0) := by decide +kernel
theorem ri_107_79 : ro_ix 107 79 = some (79, .iload_n 3, 0, 0) := by decide +kernel
theorem ri_107_80 : ro_ix 107 80 = some (80, .invokevirtual 95, 58, 0) := by decide +kernel
theorem ri_107_83 : ro_ix 107 83 = some (83, .isub, 0, 0) := by decide +kernel
theorem ri_107_84 : ro_ix 107 84 = some (84, .iadd, 0, 0) := by decide +kernel
theorem ri_107_85 : ro_ix 107 85 = some (85, .putfield 108, 1, 8) := by decide +kernel
theorem ri_107_88 : ro_ix 107 88 = some (88, .iinc 3 1, 0, 0) := by decide +kernel
theorem ri_107_91 : ro_ix 107 91 = some (91, .goto (-64), 0, 0) := by decide +kernel
theorem ri_107_94 : ro_ix 107 94 = some (94, .iinc 2 1, 0, 0) := by decide +kernel
theorem ri_107_97 : ro_ix 107 97 = some (97, .goto (-77), 0, 0) := by decide +kernel
theorem ri_107_100 : ro_ix 107 100 = some (100, .return_, 0, 0) := by decide +kernel
/-- RefusedOnce$Chances.takenTwice()J -/
theorem rm_108 : (ro_m 108).2.2.1 = 8 ∧ (ro_m 108).2.2.2.1 = (some .long) ∧ (ro_m 108).2.2.2.2.1 = 1 ∧ (ro_m 108).2.2.2.2.2.1 = 0 := ⟨rfl, rfl, rfl, rfl⟩
theorem ri_108_0 : ro_ix 108 0 = some (0, .lconst 0, 0, 0) := by decide +kernel
theorem ri_108_1 : ro_ix 108 1 = some (1, .lstore_n 1, 0, 0) := by decide +kernel
theorem ri_108_2 : ro_ix 108 2 = some (2, .aload_n 0, 0, 0) := by decide +kernel
theorem ri_108_3 : ro_ix 108 3 = some (3, .getfield 29, 1, 0) := by decide +kernel
theorem ri_108_6 : ro_ix 108 6 = some (6, .invokevirtual 68, 18, 0) := by decide +kernel
theorem ri_108_9 : ro_ix 108 9 = some (9, .istore_n 3, 0, 0) := by decide +kernel
theorem ri_108_10 : ro_ix 108 10 = some (10, .iconst 0, 0, 0) := by decide +kernel
theorem ri_108_11 : ro_ix 108 11 = some (11, .istore 4, 0, 0) := by decide +kernel
theorem ri_108_13 : ro_ix 108 13 = some (13, .iload 4, 0, 0) := by decide +kernel
theorem ri_108_15 : ro_ix 108 15 = some (15, .iload_n 3, 0, 0) := by decide +kernel
theorem ri_108_16 : ro_ix 108 16 = some (16, .if_icmp .ge 130, 0, 0) := by decide +kernel
theorem ri_108_19 : ro_ix 108 19 = some (19, .iconst 0, 0, 0) := by decide +kernel
theorem ri_108_20 : ro_ix 108 20 = some (20, .istore 5, 0, 0) := by decide +kernel
theorem ri_108_22 : ro_ix 108 22 = some (22, .iload 5, 0, 0) := by decide +kernel
theorem ri_108_24 : ro_ix 108 24 = some (24, .iload_n 3, 0, 0) := by decide +kernel
theorem ri_108_25 : ro_ix 108 25 = some (25, .if_icmp .ge 115, 0, 0) := by decide +kernel
theorem ri_108_28 : ro_ix 108 28 = some (28, .iload 4, 0, 0) := by decide +kernel
theorem ri_108_30 : ro_ix 108 30 = some (30, .iload 5, 0, 0) := by decide +kernel
theorem ri_108_32 : ro_ix 108 32 = some (32, .if_icmp .eq 102, 0, 0) := by decide +kernel
theorem ri_108_35 : ro_ix 108 35 = some (35, .aload_n 0, 0, 0) := by decide +kernel
theorem ri_108_36 : ro_ix 108 36 = some (36, .getfield 12, 1, 2) := by decide +kernel
theorem ri_108_39 : ro_ix 108 39 = some (39, .iload 4, 0, 0) := by decide +kernel
theorem ri_108_41 : ro_ix 108 41 = some (41, .iload 5, 0, 0) := by decide +kernel
theorem ri_108_43 : ro_ix 108 43 = some (43, .invokevirtual 91, 75, 0) := by decide +kernel
theorem ri_108_46 : ro_ix 108 46 = some (46, .ifCond .eq 88, 0, 0) := by decide +kernel
theorem ri_108_49 : ro_ix 108 49 = some (49, .bipush 12, 0, 0) := by decide +kernel
theorem ri_108_51 : ro_ix 108 51 = some (51, .aload_n 0, 0, 0) := by decide +kernel
theorem ri_108_52 : ro_ix 108 52 = some (52, .getfield 33, 1, 1) := by decide +kernel
theorem ri_108_55 : ro_ix 108 55 = some (55, .aload_n 0, 0, 0) := by decide +kernel
theorem ri_108_56 : ro_ix 108 56 = some (56, .getfield 29, 1, 0) := by decide +kernel
theorem ri_108_59 : ro_ix 108 59 = some (59, .aload_n 0, 0, 0) := by decide +kernel
theorem ri_108_60 : ro_ix 108 60 = some (60, .getfield 12, 1, 2) := by decide +kernel
theorem ri_108_63 : ro_ix 108 63 = some (63, .iload 4, 0, 0) := by decide +kernel
theorem ri_108_65 : ro_ix 108 65 = some (65, .iload 5, 0, 0) := by decide +kernel
theorem ri_108_67 : ro_ix 108 67 = some (67, .invokevirtual 95, 58, 0) := by decide +kernel
theorem ri_108_70 : ro_ix 108 70 = some (70, .isub, 0, 0) := by decide +kernel
theorem ri_108_71 : ro_ix 108 71 = some (71, .i2l, 0, 0) := by decide +kernel
theorem ri_108_72 : ro_ix 108 72 = some (72, .lstore 6, 0, 0) := by decide +kernel
theorem ri_108_74 : ro_ix 108 74 = some (74, .aload_n 0, 0, 0) := by decide +kernel
theorem ri_108_75 : ro_ix 108 75 = some (75, .getfield 12, 1, 2) := by decide +kernel
theorem ri_108_78 : ro_ix 108 78 = some (78, .iload 4, 0, 0) := by decide +kernel
theorem ri_108_80 : ro_ix 108 80 = some (80, .iload 5, 0, 0) := by decide +kernel
theorem ri_108_82 : ro_ix 108 82 = some (82, .invokevirtual 119, 78, 0) := by decide +kernel
theorem ri_108_85 : ro_ix 108 85 = some (85, .aload_n 0, 0, 0) := by decide +kernel
theorem ri_108_86 : ro_ix 108 86 = some (86, .invokevirtual 101, 107, 0) := by decide +kernel
theorem ri_108_89 : ro_ix 108 89 = some (89, .aload_n 0, 0, 0) := by decide +kernel
theorem ri_108_90 : ro_ix 108 90 = some (90, .getfield 12, 1, 2) := by decide +kernel
theorem ri_108_93 : ro_ix 108 93 = some (93, .iload 5, 0, 0) := by decide +kernel
theorem ri_108_95 : ro_ix 108 95 = some (95, .iload 4, 0, 0) := by decide +kernel
theorem ri_108_97 : ro_ix 108 97 = some (97, .invokevirtual 119, 78, 0) := by decide +kernel
theorem ri_108_100 : ro_ix 108 100 = some (100, .lload_n 1, 0, 0) := by decide +kernel
theorem ri_108_101 : ro_ix 108 101 = some (101, .lload 6, 0, 0) := by decide +kernel
theorem ri_108_103 : ro_ix 108 103 = some (103, .aload_n 0, 0, 0) := by decide +kernel
theorem ri_108_104 : ro_ix 108 104 = some (104, .getfield 104, 1, 7) := by decide +kernel
theorem ri_108_107 : ro_ix 108 107 = some (107, .ifCond .le 21, 0, 0) := by decide +kernel
theorem ri_108_110 : ro_ix 108 110 = some (110, .aload_n 0, 0, 0) := by decide +kernel
theorem ri_108_111 : ro_ix 108 111 = some (111, .getfield 108, 1, 8) := by decide +kernel
theorem ri_108_114 : ro_ix 108 114 = some (114, .i2l, 0, 0) := by decide +kernel
theorem ri_108_115 : ro_ix 108 115 = some (115, .ldc2_w 113, 0, 0) := by decide +kernel
theorem ri_108_118 : ro_ix 108 118 = some (118, .aload_n 0, 0, 0) := by decide +kernel
theorem ri_108_119 : ro_ix 108 119 = some (119, .getfield 104, 1, 7) := by decide +kernel
theorem ri_108_122 : ro_ix 108 122 = some (122, .i2l, 0, 0) := by decide +kernel
theorem ri_108_123 : ro_ix 108 123 = some (123, .ldiv, 0, 0) := by decide +kernel
theorem ri_108_124 : ro_ix 108 124 = some (124, .lmul, 0, 0) := by decide +kernel
theorem ri_108_125 : ro_ix 108 125 = some (125, .goto 6, 0, 0) := by decide +kernel
theorem ri_108_128 : ro_ix 108 128 = some (128, .ldc2_w 122, 0, 0) := by decide +kernel
theorem ri_108_131 : ro_ix 108 131 = some (131, .lmul, 0, 0) := by decide +kernel
theorem ri_108_132 : ro_ix 108 132 = some (132, .ladd, 0, 0) := by decide +kernel
theorem ri_108_133 : ro_ix 108 133 = some (133, .lstore_n 1, 0, 0) := by decide +kernel
theorem ri_108_134 : ro_ix 108 134 = some (134, .iinc 5 1, 0, 0) := by decide +kernel
theorem ri_108_137 : ro_ix 108 137 = some (137, .goto (-115), 0, 0) := by decide +kernel
theorem ri_108_140 : ro_ix 108 140 = some (140, .iinc 4 1, 0, 0) := by decide +kernel
theorem ri_108_143 : ro_ix 108 143 = some (143, .goto (-130), 0, 0) := by decide +kernel
theorem ri_108_146 : ro_ix 108 146 = some (146, .lload_n 1, 0, 0) := by decide +kernel
theorem ri_108_147 : ro_ix 108 147 = some (147, .lreturn, 0, 0) := by decide +kernel
/-- RefusedOnce.test(III)J -/
theorem rm_111 : (ro_m 111).2.2.1 = 4 ∧ (ro_m 111).2.2.2.1 = (some .long) ∧ (ro_m 111).2.2.2.2.1 = 11 ∧ (ro_m 111).2.2.2.2.2.1 = 3 := ⟨rfl, rfl, rfl, rfl⟩
theorem ri_111_0 : ro_ix 111 0 = some (0, .aload_n 0, 0, 0) := by decide +kernel
theorem ri_111_1 : ro_ix 111 1 = some (1, .getfield 10, 11, 0) := by decide +kernel
theorem ri_111_4 : ro_ix 111 4 = some (4, .iload_n 1, 0, 0) := by decide +kernel
theorem ri_111_5 : ro_ix 111 5 = some (5, .invokevirtual 128, 29, 0) := by decide +kernel
theorem ri_111_8 : ro_ix 111 8 = some (8, .ifCond .eq 20, 0, 0) := by decide +kernel
theorem ri_111_11 : ro_ix 111 11 = some (11, .iload_n 2, 0, 0) := by decide +kernel
theorem ri_111_12 : ro_ix 111 12 = some (12, .iconst 0, 0, 0) := by decide +kernel
theorem ri_111_13 : ro_ix 111 13 = some (13, .bipush 20, 0, 0) := by decide +kernel
theorem ri_111_15 : ro_ix 111 15 = some (15, .invokestatic 76, 13, 0) := by decide +kernel
theorem ri_111_18 : ro_ix 111 18 = some (18, .ifCond .eq 10, 0, 0) := by decide +kernel
theorem ri_111_21 : ro_ix 111 21 = some (21, .iload_n 3, 0, 0) := by decide +kernel
theorem ri_111_22 : ro_ix 111 22 = some (22, .invokestatic 201, 95, 0) := by decide +kernel
theorem ri_111_25 : ro_ix 111 25 = some (25, .ifCond .ne 7, 0, 0) := by decide +kernel
theorem ri_111_28 : ro_ix 111 28 = some (28, .ldc2_w 204, 0, 0) := by decide +kernel
theorem ri_111_31 : ro_ix 111 31 = some (31, .lreturn, 0, 0) := by decide +kernel
theorem ri_111_32 : ro_ix 111 32 = some (32, .aload_n 0, 0, 0) := by decide +kernel
theorem ri_111_33 : ro_ix 111 33 = some (33, .getfield 49, 11, 5) := by decide +kernel
theorem ri_111_36 : ro_ix 111 36 = some (36, .iload_n 1, 0, 0) := by decide +kernel
theorem ri_111_37 : ro_ix 111 37 = some (37, .iload_n 2, 0, 0) := by decide +kernel
theorem ri_111_38 : ro_ix 111 38 = some (38, .iconst 1, 0, 0) := by decide +kernel
theorem ri_111_39 : ro_ix 111 39 = some (39, .invokevirtual 224, 112, 0) := by decide +kernel
theorem ri_111_42 : ro_ix 111 42 = some (42, .aload_n 0, 0, 0) := by decide +kernel
theorem ri_111_43 : ro_ix 111 43 = some (43, .getfield 49, 11, 5) := by decide +kernel
theorem ri_111_46 : ro_ix 111 46 = some (46, .iload_n 3, 0, 0) := by decide +kernel
theorem ri_111_47 : ro_ix 111 47 = some (47, .invokevirtual 209, 102, 0) := by decide +kernel
theorem ri_111_50 : ro_ix 111 50 = some (50, .lreturn, 0, 0) := by decide +kernel
/-- RefusedOnce$Chances.forgedFound(III)V -/
theorem rm_112 : (ro_m 112).2.2.1 = 10 ∧ (ro_m 112).2.2.2.1 = none ∧ (ro_m 112).2.2.2.2.1 = 1 ∧ (ro_m 112).2.2.2.2.2.1 = 3 := ⟨rfl, rfl, rfl, rfl⟩
theorem ri_112_0 : ro_ix 112 0 = some (0, .aload_n 0, 0, 0) := by decide +kernel
theorem ri_112_1 : ro_ix 112 1 = some (1, .getfield 29, 1, 0) := by decide +kernel
theorem ri_112_4 : ro_ix 112 4 = some (4, .iload_n 1, 0, 0) := by decide +kernel
theorem ri_112_5 : ro_ix 112 5 = some (5, .iconst 1, 0, 0) := by decide +kernel
theorem ri_112_6 : ro_ix 112 6 = some (6, .invokevirtual 80, 30, 0) := by decide +kernel
theorem ri_112_9 : ro_ix 112 9 = some (9, .istore 4, 0, 0) := by decide +kernel
theorem ri_112_11 : ro_ix 112 11 = some (11, .aload_n 0, 0, 0) := by decide +kernel
theorem ri_112_12 : ro_ix 112 12 = some (12, .getfield 29, 1, 0) := by decide +kernel
theorem ri_112_15 : ro_ix 112 15 = some (15, .iload_n 1, 0, 0) := by decide +kernel
theorem ri_112_16 : ro_ix 112 16 = some (16, .invokevirtual 124, 39, 0) := by decide +kernel
theorem ri_112_19 : ro_ix 112 19 = some (19, .istore 5, 0, 0) := by decide +kernel
theorem ri_112_21 : ro_ix 112 21 = some (21, .iload_n 2, 0, 0) := by decide +kernel
theorem ri_112_22 : ro_ix 112 22 = some (22, .iload 4, 0, 0) := by decide +kernel
theorem ri_112_24 : ro_ix 112 24 = some (24, .invokestatic 128, 1, 3) := by decide +kernel
theorem ri_112_27 : ro_ix 112 27 = some (27, .istore 6, 0, 0) := by decide +kernel
theorem ri_112_29 : ro_ix 112 29 = some (29, .lconst 0, 0, 0) := by decide +kernel
theorem ri_112_30 : ro_ix 112 30 = some (30, .lstore 7, 0, 0) := by decide +kernel
theorem ri_112_32 : ro_ix 112 32 = some (32, .iload_n 3, 0, 0) := by decide +kernel
theorem ri_112_33 : ro_ix 112 33 = some (33, .istore 9, 0, 0) := by decide +kernel
theorem ri_112_35 : ro_ix 112 35 = some (35, .iload 9, 0, 0) := by decide +kernel
theorem ri_112_37 : ro_ix 112 37 = some (37, .iload 6, 0, 0) := by decide +kernel
theorem ri_112_39 : ro_ix 112 39 = some (39, .if_icmp .gt 42, 0, 0) := by decide +kernel
theorem ri_112_42 : ro_ix 112 42 = some (42, .iload 9, 0, 0) := by decide +kernel
theorem ri_112_44 : ro_ix 112 44 = some (44, .bipush 20, 0, 0) := by decide +kernel
theorem ri_112_46 : ro_ix 112 46 = some (46, .if_icmp .gt 35, 0, 0) := by decide +kernel
theorem ri_112_49 : ro_ix 112 49 = some (49, .lload 7, 0, 0) := by decide +kernel
theorem ri_112_51 : ro_ix 112 51 = some (51, .iload 5, 0, 0) := by decide +kernel
theorem ri_112_53 : ro_ix 112 53 = some (53, .iload 9, 0, 0) := by decide +kernel
theorem ri_112_55 : ro_ix 112 55 = some (55, .invokestatic 131, 113, 0) := by decide +kernel
theorem ri_112_58 : ro_ix 112 58 = some (58, .iload 4, 0, 0) := by decide +kernel
theorem ri_112_60 : ro_ix 112 60 = some (60, .iload 5, 0, 0) := by decide +kernel
theorem ri_112_62 : ro_ix 112 62 = some (62, .isub, 0, 0) := by decide +kernel
theorem ri_112_63 : ro_ix 112 63 = some (63, .iload 6, 0, 0) := by decide +kernel
theorem ri_112_65 : ro_ix 112 65 = some (65, .iload 9, 0, 0) := by decide +kernel
theorem ri_112_67 : ro_ix 112 67 = some (67, .isub, 0, 0) := by decide +kernel
theorem ri_112_68 : ro_ix 112 68 = some (68, .invokestatic 131, 113, 0) := by decide +kernel
theorem ri_112_71 : ro_ix 112 71 = some (71, .lmul, 0, 0) := by decide +kernel
theorem ri_112_72 : ro_ix 112 72 = some (72, .ladd, 0, 0) := by decide +kernel
theorem ri_112_73 : ro_ix 112 73 = some (73, .lstore 7, 0, 0) := by decide +kernel
theorem ri_112_75 : ro_ix 112 75 = some (75, .iinc 9 1, 0, 0) := by decide +kernel
theorem ri_112_78 : ro_ix 112 78 = some (78, .goto (-43), 0, 0) := by decide +kernel
theorem ri_112_81 : ro_ix 112 81 = some (81, .aload_n 0, 0, 0) := by decide +kernel
theorem ri_112_82 : ro_ix 112 82 = some (82, .lload 7, 0, 0) := by decide +kernel
theorem ri_112_84 : ro_ix 112 84 = some (84, .iload 4, 0, 0) := by decide +kernel
theorem ri_112_86 : ro_ix 112 86 = some (86, .iload 6, 0, 0) := by decide +kernel
theorem ri_112_88 : ro_ix 112 88 = some (88, .invokestatic 131, 113, 0) := by decide +kernel
theorem ri_112_91 : ro_ix 112 91 = some (91, .invokevirtual 57, 100, 0) := by decide +kernel
theorem ri_112_94 : ro_ix 112 94 = some (94, .return_, 0, 0) := by decide +kernel
/-- RefusedOnce$Chances.choices(II)J -/
theorem rm_113 : (ro_m 113).2.2.1 = 5 ∧ (ro_m 113).2.2.2.1 = (some .long) ∧ (ro_m 113).2.2.2.2.1 = 1 ∧ (ro_m 113).2.2.2.2.2.1 = 2 := ⟨rfl, rfl, rfl, rfl⟩
theorem ri_113_0 : ro_ix 113 0 = some (0, .iload_n 1, 0, 0) := by decide +kernel
theorem ri_113_1 : ro_ix 113 1 = some (1, .ifCond .lt 8, 0, 0) := by decide +kernel
theorem ri_113_4 : ro_ix 113 4 = some (4, .iload_n 1, 0, 0) := by decide +kernel
theorem ri_113_5 : ro_ix 113 5 = some (5, .iload_n 0, 0, 0) := by decide +kernel
theorem ri_113_6 : ro_ix 113 6 = some (6, .if_icmp .le 5, 0, 0) := by decide +kernel
theorem ri_113_9 : ro_ix 113 9 = some (9, .lconst 0, 0, 0) := by decide +kernel
theorem ri_113_10 : ro_ix 113 10 = some (10, .lreturn, 0, 0) := by decide +kernel
theorem ri_113_11 : ro_ix 113 11 = some (11, .lconst 1, 0, 0) := by decide +kernel
theorem ri_113_12 : ro_ix 113 12 = some (12, .lstore_n 2, 0, 0) := by decide +kernel
theorem ri_113_13 : ro_ix 113 13 = some (13, .iconst 0, 0, 0) := by decide +kernel
theorem ri_113_14 : ro_ix 113 14 = some (14, .istore 4, 0, 0) := by decide +kernel
theorem ri_113_16 : ro_ix 113 16 = some (16, .iload 4, 0, 0) := by decide +kernel
theorem ri_113_18 : ro_ix 113 18 = some (18, .iload_n 1, 0, 0) := by decide +kernel
theorem ri_113_19 : ro_ix 113 19 = some (19, .if_icmp .ge 30, 0, 0) := by decide +kernel
theorem ri_113_22 : ro_ix 113 22 = some (22, .iload 4, 0, 0) := by decide +kernel
theorem ri_113_24 : ro_ix 113 24 = some (24, .bipush 20, 0, 0) := by decide +kernel
theorem ri_113_26 : ro_ix 113 26 = some (26, .if_icmp .ge 23, 0, 0) := by decide +kernel
theorem ri_113_29 : ro_ix 113 29 = some (29, .lload_n 2, 0, 0) := by decide +kernel
theorem ri_113_30 : ro_ix 113 30 = some (30, .iload_n 0, 0, 0) := by decide +kernel
theorem ri_113_31 : ro_ix 113 31 = some (31, .iload 4, 0, 0) := by decide +kernel
theorem ri_113_33 : ro_ix 113 33 = some (33, .isub, 0, 0) := by decide +kernel
theorem ri_113_34 : ro_ix 113 34 = some (34, .i2l, 0, 0) := by decide +kernel
theorem ri_113_35 : ro_ix 113 35 = some (35, .lmul, 0, 0) := by decide +kernel
theorem ri_113_36 : ro_ix 113 36 = some (36, .iload 4, 0, 0) := by decide +kernel
theorem ri_113_38 : ro_ix 113 38 = some (38, .iconst 1, 0, 0) := by decide +kernel
theorem ri_113_39 : ro_ix 113 39 = some (39, .iadd, 0, 0) := by decide +kernel
theorem ri_113_40 : ro_ix 113 40 = some (40, .i2l, 0, 0) := by decide +kernel
theorem ri_113_41 : ro_ix 113 41 = some (41, .ldiv, 0, 0) := by decide +kernel
theorem ri_113_42 : ro_ix 113 42 = some (42, .lstore_n 2, 0, 0) := by decide +kernel
theorem ri_113_43 : ro_ix 113 43 = some (43, .iinc 4 1, 0, 0) := by decide +kernel
theorem ri_113_46 : ro_ix 113 46 = some (46, .goto (-30), 0, 0) := by decide +kernel
theorem ri_113_49 : ro_ix 113 49 = some (49, .lload_n 2, 0, 0) := by decide +kernel
theorem ri_113_50 : ro_ix 113 50 = some (50, .lreturn, 0, 0) := by decide +kernel
/-- RefusedOnce.enough(II)I -/
theorem rm_114 : (ro_m 114).2.2.1 = 5 ∧ (ro_m 114).2.2.2.1 = (some .int) ∧ (ro_m 114).2.2.2.2.1 = 11 ∧ (ro_m 114).2.2.2.2.2.1 = 2 := ⟨rfl, rfl, rfl, rfl⟩
theorem ri_114_0 : ro_ix 114 0 = some (0, .aload_n 0, 0, 0) := by decide +kernel
theorem ri_114_1 : ro_ix 114 1 = some (1, .getfield 10, 11, 0) := by decide +kernel
theorem ri_114_4 : ro_ix 114 4 = some (4, .iload_n 1, 0, 0) := by decide +kernel
theorem ri_114_5 : ro_ix 114 5 = some (5, .invokevirtual 128, 29, 0) := by decide +kernel
theorem ri_114_8 : ro_ix 114 8 = some (8, .ifCond .eq 13, 0, 0) := by decide +kernel
theorem ri_114_11 : ro_ix 114 11 = some (11, .iload_n 2, 0, 0) := by decide +kernel
theorem ri_114_12 : ro_ix 114 12 = some (12, .iconst 0, 0, 0) := by decide +kernel
theorem ri_114_13 : ro_ix 114 13 = some (13, .bipush 12, 0, 0) := by decide +kernel
theorem ri_114_15 : ro_ix 114 15 = some (15, .invokestatic 76, 13, 0) := by decide +kernel
theorem ri_114_18 : ro_ix 114 18 = some (18, .ifCond .ne 5, 0, 0) := by decide +kernel
theorem ri_114_21 : ro_ix 114 21 = some (21, .iconst (-1), 0, 0) := by decide +kernel
theorem ri_114_22 : ro_ix 114 22 = some (22, .ireturn, 0, 0) := by decide +kernel
theorem ri_114_23 : ro_ix 114 23 = some (23, .aload_n 0, 0, 0) := by decide +kernel
theorem ri_114_24 : ro_ix 114 24 = some (24, .getfield 10, 11, 0) := by decide +kernel
theorem ri_114_27 : ro_ix 114 27 = some (27, .iload_n 1, 0, 0) := by decide +kernel
theorem ri_114_28 : ro_ix 114 28 = some (28, .iconst 1, 0, 0) := by decide +kernel
theorem ri_114_29 : ro_ix 114 29 = some (29, .invokevirtual 116, 30, 0) := by decide +kernel
theorem ri_114_32 : ro_ix 114 32 = some (32, .bipush 20, 0, 0) := by decide +kernel
theorem ri_114_34 : ro_ix 114 34 = some (34, .invokestatic 227, 1, 3) := by decide +kernel
theorem ri_114_37 : ro_ix 114 37 = some (37, .istore_n 3, 0, 0) := by decide +kernel
theorem ri_114_38 : ro_ix 114 38 = some (38, .iconst 0, 0, 0) := by decide +kernel
theorem ri_114_39 : ro_ix 114 39 = some (39, .istore 4, 0, 0) := by decide +kernel
theorem ri_114_41 : ro_ix 114 41 = some (41, .iload 4, 0, 0) := by decide +kernel
theorem ri_114_43 : ro_ix 114 43 = some (43, .iload_n 3, 0, 0) := by decide +kernel
theorem ri_114_44 : ro_ix 114 44 = some (44, .if_icmp .gt 50, 0, 0) := by decide +kernel
theorem ri_114_47 : ro_ix 114 47 = some (47, .aload_n 0, 0, 0) := by decide +kernel
theorem ri_114_48 : ro_ix 114 48 = some (48, .getfield 49, 11, 5) := by decide +kernel
theorem ri_114_51 : ro_ix 114 51 = some (51, .iload_n 1, 0, 0) := by decide +kernel
theorem ri_114_52 : ro_ix 114 52 = some (52, .iload 4, 0, 0) := by decide +kernel
theorem ri_114_54 : ro_ix 114 54 = some (54, .iconst 1, 0, 0) := by decide +kernel
theorem ri_114_55 : ro_ix 114 55 = some (55, .invokevirtual 224, 112, 0) := by decide +kernel
theorem ri_114_58 : ro_ix 114 58 = some (58, .aload_n 0, 0, 0) := by decide +kernel
theorem ri_114_59 : ro_ix 114 59 = some (59, .getfield 49, 11, 5) := by decide +kernel
theorem ri_114_62 : ro_ix 114 62 = some (62, .iconst 0, 0, 0) := by decide +kernel
theorem ri_114_63 : ro_ix 114 63 = some (63, .invokevirtual 209, 102, 0) := by decide +kernel
theorem ri_114_66 : ro_ix 114 66 = some (66, .ldc2_w 232, 0, 0) := by decide +kernel
theorem ri_114_69 : ro_ix 114 69 = some (69, .lmul, 0, 0) := by decide +kernel
theorem ri_114_70 : ro_ix 114 70 = some (70, .aload_n 0, 0, 0) := by decide +kernel
theorem ri_114_71 : ro_ix 114 71 = some (71, .getfield 49, 11, 5) := by decide +kernel
theorem ri_114_74 : ro_ix 114 74 = some (74, .iconst 1, 0, 0) := by decide +kernel
theorem ri_114_75 : ro_ix 114 75 = some (75, .invokevirtual 209, 102, 0) := by decide +kernel
theorem ri_114_78 : ro_ix 114 78 = some (78, .iload_n 2, 0, 0) := by decide +kernel
theorem ri_114_79 : ro_ix 114 79 = some (79, .i2l, 0, 0) := by decide +kernel
theorem ri_114_80 : ro_ix 114 80 = some (80, .lmul, 0, 0) := by decide +kernel
theorem ri_114_81 : ro_ix 114 81 = some (81, .lcmp, 0, 0) := by decide +kernel
theorem ri_114_82 : ro_ix 114 82 = some (82, .ifCond .lt 6, 0, 0) := by decide +kernel
theorem ri_114_85 : ro_ix 114 85 = some (85, .iload 4, 0, 0) := by decide +kernel
theorem ri_114_87 : ro_ix 114 87 = some (87, .ireturn, 0, 0) := by decide +kernel
theorem ri_114_88 : ro_ix 114 88 = some (88, .iinc 4 1, 0, 0) := by decide +kernel
theorem ri_114_91 : ro_ix 114 91 = some (91, .goto (-50), 0, 0) := by decide +kernel
theorem ri_114_94 : ro_ix 114 94 = some (94, .bipush (-2), 0, 0) := by decide +kernel
theorem ri_114_96 : ro_ix 114 96 = some (96, .ireturn, 0, 0) := by decide +kernel
/-- RefusedOnce.honest(III)J -/
theorem rm_115 : (ro_m 115).2.2.1 = 5 ∧ (ro_m 115).2.2.2.1 = (some .long) ∧ (ro_m 115).2.2.2.2.1 = 11 ∧ (ro_m 115).2.2.2.2.2.1 = 3 := ⟨rfl, rfl, rfl, rfl⟩
theorem ri_115_0 : ro_ix 115 0 = some (0, .iload_n 2, 0, 0) := by decide +kernel
theorem ri_115_1 : ro_ix 115 1 = some (1, .ifCond .lt 27, 0, 0) := by decide +kernel
theorem ri_115_4 : ro_ix 115 4 = some (4, .iload_n 2, 0, 0) := by decide +kernel
theorem ri_115_5 : ro_ix 115 5 = some (5, .bipush 10, 0, 0) := by decide +kernel
theorem ri_115_7 : ro_ix 115 7 = some (7, .idiv, 0, 0) := by decide +kernel
theorem ri_115_8 : ro_ix 115 8 = some (8, .iconst 0, 0, 0) := by decide +kernel
theorem ri_115_9 : ro_ix 115 9 = some (9, .bipush 20, 0, 0) := by decide +kernel
theorem ri_115_11 : ro_ix 115 11 = some (11, .invokestatic 76, 13, 0) := by decide +kernel
theorem ri_115_14 : ro_ix 115 14 = some (14, .ifCond .eq 14, 0, 0) := by decide +kernel
theorem ri_115_17 : ro_ix 115 17 = some (17, .iload_n 2, 0, 0) := by decide +kernel
theorem ri_115_18 : ro_ix 115 18 = some (18, .bipush 10, 0, 0) := by decide +kernel
theorem ri_115_20 : ro_ix 115 20 = some (20, .irem, 0, 0) := by decide +kernel
theorem ri_115_21 : ro_ix 115 21 = some (21, .ifCond .le 7, 0, 0) := by decide +kernel
theorem ri_115_24 : ro_ix 115 24 = some (24, .iconst 1, 0, 0) := by decide +kernel
theorem ri_115_25 : ro_ix 115 25 = some (25, .goto 4, 0, 0) := by decide +kernel
theorem ri_115_28 : ro_ix 115 28 = some (28, .iconst 0, 0, 0) := by decide +kernel
theorem ri_115_29 : ro_ix 115 29 = some (29, .istore 4, 0, 0) := by decide +kernel
theorem ri_115_31 : ro_ix 115 31 = some (31, .aload_n 0, 0, 0) := by decide +kernel
theorem ri_115_32 : ro_ix 115 32 = some (32, .getfield 10, 11, 0) := by decide +kernel
theorem ri_115_35 : ro_ix 115 35 = some (35, .iload_n 1, 0, 0) := by decide +kernel
theorem ri_115_36 : ro_ix 115 36 = some (36, .invokevirtual 128, 29, 0) := by decide +kernel
theorem ri_115_39 : ro_ix 115 39 = some (39, .ifCond .eq 15, 0, 0) := by decide +kernel
theorem ri_115_42 : ro_ix 115 42 = some (42, .iload 4, 0, 0) := by decide +kernel
theorem ri_115_44 : ro_ix 115 44 = some (44, .ifCond .eq 10, 0, 0) := by decide +kernel
theorem ri_115_47 : ro_ix 115 47 = some (47, .iload_n 3, 0, 0) := by decide +kernel
theorem ri_115_48 : ro_ix 115 48 = some (48, .invokestatic 201, 95, 0) := by decide +kernel
theorem ri_115_51 : ro_ix 115 51 = some (51, .ifCond .ne 7, 0, 0) := by decide +kernel
theorem ri_115_54 : ro_ix 115 54 = some (54, .ldc2_w 204, 0, 0) := by decide +kernel
theorem ri_115_57 : ro_ix 115 57 = some (57, .lreturn, 0, 0) := by decide +kernel
theorem ri_115_58 : ro_ix 115 58 = some (58, .aload_n 0, 0, 0) := by decide +kernel
theorem ri_115_59 : ro_ix 115 59 = some (59, .getfield 49, 11, 5) := by decide +kernel
theorem ri_115_62 : ro_ix 115 62 = some (62, .iload_n 1, 0, 0) := by decide +kernel
theorem ri_115_63 : ro_ix 115 63 = some (63, .iload_n 2, 0, 0) := by decide +kernel
theorem ri_115_64 : ro_ix 115 64 = some (64, .bipush 10, 0, 0) := by decide +kernel
theorem ri_115_66 : ro_ix 115 66 = some (66, .idiv, 0, 0) := by decide +kernel
theorem ri_115_67 : ro_ix 115 67 = some (67, .iload_n 2, 0, 0) := by decide +kernel
theorem ri_115_68 : ro_ix 115 68 = some (68, .bipush 10, 0, 0) := by decide +kernel
theorem ri_115_70 : ro_ix 115 70 = some (70, .irem, 0, 0) := by decide +kernel
theorem ri_115_71 : ro_ix 115 71 = some (71, .invokevirtual 224, 112, 0) := by decide +kernel
theorem ri_115_74 : ro_ix 115 74 = some (74, .aload_n 0, 0, 0) := by decide +kernel
theorem ri_115_75 : ro_ix 115 75 = some (75, .getfield 49, 11, 5) := by decide +kernel
theorem ri_115_78 : ro_ix 115 78 = some (78, .iload_n 3, 0, 0) := by decide +kernel
theorem ri_115_79 : ro_ix 115 79 = some (79, .invokevirtual 209, 102, 0) := by decide +kernel
theorem ri_115_82 : ro_ix 115 82 = some (82, .lreturn, 0, 0) := by decide +kernel
/-- RefusedOnce.richest(I)I -/
theorem rm_117 : (ro_m 117).2.2.1 = 4 ∧ (ro_m 117).2.2.2.1 = (some .int) ∧ (ro_m 117).2.2.2.2.1 = 11 ∧ (ro_m 117).2.2.2.2.2.1 = 1 := ⟨rfl, rfl, rfl, rfl⟩
theorem ri_117_0 : ro_ix 117 0 = some (0, .aload_n 0, 0, 0) := by decide +kernel
theorem ri_117_1 : ro_ix 117 1 = some (1, .getfield 10, 11, 0) := by decide +kernel
theorem ri_117_4 : ro_ix 117 4 = some (4, .iload_n 1, 0, 0) := by decide +kernel
theorem ri_117_5 : ro_ix 117 5 = some (5, .invokevirtual 128, 29, 0) := by decide +kernel
theorem ri_117_8 : ro_ix 117 8 = some (8, .ifCond .ne 5, 0, 0) := by decide +kernel
theorem ri_117_11 : ro_ix 117 11 = some (11, .iconst (-1), 0, 0) := by decide +kernel
theorem ri_117_12 : ro_ix 117 12 = some (12, .ireturn, 0, 0) := by decide +kernel
theorem ri_117_13 : ro_ix 117 13 = some (13, .iconst 0, 0, 0) := by decide +kernel
theorem ri_117_14 : ro_ix 117 14 = some (14, .istore_n 2, 0, 0) := by decide +kernel
theorem ri_117_15 : ro_ix 117 15 = some (15, .iconst 0, 0, 0) := by decide +kernel
theorem ri_117_16 : ro_ix 117 16 = some (16, .istore_n 3, 0, 0) := by decide +kernel
theorem ri_117_17 : ro_ix 117 17 = some (17, .iload_n 3, 0, 0) := by decide +kernel
theorem ri_117_18 : ro_ix 117 18 = some (18, .iconst 4, 0, 0) := by decide +kernel
theorem ri_117_19 : ro_ix 117 19 = some (19, .if_icmp .gt 27, 0, 0) := by decide +kernel
theorem ri_117_22 : ro_ix 117 22 = some (22, .aload_n 0, 0, 0) := by decide +kernel
theorem ri_117_23 : ro_ix 117 23 = some (23, .getfield 10, 11, 0) := by decide +kernel
theorem ri_117_26 : ro_ix 117 26 = some (26, .iload_n 3, 0, 0) := by decide +kernel
theorem ri_117_27 : ro_ix 117 27 = some (27, .invokevirtual 234, 118, 0) := by decide +kernel
theorem ri_117_30 : ro_ix 117 30 = some (30, .iload_n 1, 0, 0) := by decide +kernel
theorem ri_117_31 : ro_ix 117 31 = some (31, .if_icmp .ne 9, 0, 0) := by decide +kernel
theorem ri_117_34 : ro_ix 117 34 = some (34, .iload_n 2, 0, 0) := by decide +kernel
theorem ri_117_35 : ro_ix 117 35 = some (35, .iconst 1, 0, 0) := by decide +kernel
theorem ri_117_36 : ro_ix 117 36 = some (36, .iload_n 3, 0, 0) := by decide +kernel
theorem ri_117_37 : ro_ix 117 37 = some (37, .ishl, 0, 0) := by decide +kernel
theorem ri_117_38 : ro_ix 117 38 = some (38, .ior, 0, 0) := by decide +kernel
theorem ri_117_39 : ro_ix 117 39 = some (39, .istore_n 2, 0, 0) := by decide +kernel
theorem ri_117_40 : ro_ix 117 40 = some (40, .iinc 3 1, 0, 0) := by decide +kernel
theorem ri_117_43 : ro_ix 117 43 = some (43, .goto (-26), 0, 0) := by decide +kernel
theorem ri_117_46 : ro_ix 117 46 = some (46, .iload_n 2, 0, 0) := by decide +kernel
theorem ri_117_47 : ro_ix 117 47 = some (47, .ireturn, 0, 0) := by decide +kernel
/-- RefusedOnce$Land.richestBy(I)I -/
theorem rm_118 : (ro_m 118).2.2.1 = 4 ∧ (ro_m 118).2.2.2.1 = (some .int) ∧ (ro_m 118).2.2.2.2.1 = 4 ∧ (ro_m 118).2.2.2.2.2.1 = 1 := ⟨rfl, rfl, rfl, rfl⟩
theorem ri_118_0 : ro_ix 118 0 = some (0, .iconst 0, 0, 0) := by decide +kernel
theorem ri_118_1 : ro_ix 118 1 = some (1, .istore_n 2, 0, 0) := by decide +kernel
theorem ri_118_2 : ro_ix 118 2 = some (2, .iconst 1, 0, 0) := by decide +kernel
theorem ri_118_3 : ro_ix 118 3 = some (3, .istore_n 3, 0, 0) := by decide +kernel
theorem ri_118_4 : ro_ix 118 4 = some (4, .iload_n 3, 0, 0) := by decide +kernel
theorem ri_118_5 : ro_ix 118 5 = some (5, .aload_n 0, 0, 0) := by decide +kernel
theorem ri_118_6 : ro_ix 118 6 = some (6, .getfield 44, 4, 4) := by decide +kernel
theorem ri_118_9 : ro_ix 118 9 = some (9, .if_icmp .ge 32, 0, 0) := by decide +kernel
theorem ri_118_12 : ro_ix 118 12 = some (12, .aload_n 0, 0, 0) := by decide +kernel
theorem ri_118_13 : ro_ix 118 13 = some (13, .getfield 12, 4, 0) := by decide +kernel
theorem ri_118_16 : ro_ix 118 16 = some (16, .iload_n 3, 0, 0) := by decide +kernel
theorem ri_118_17 : ro_ix 118 17 = some (17, .iload_n 1, 0, 0) := by decide +kernel
theorem ri_118_18 : ro_ix 118 18 = some (18, .invokestatic 81, 38, 0) := by decide +kernel
theorem ri_118_21 : ro_ix 118 21 = some (21, .aload_n 0, 0, 0) := by decide +kernel
theorem ri_118_22 : ro_ix 118 22 = some (22, .getfield 12, 4, 0) := by decide +kernel
theorem ri_118_25 : ro_ix 118 25 = some (25, .iload_n 2, 0, 0) := by decide +kernel
theorem ri_118_26 : ro_ix 118 26 = some (26, .iload_n 1, 0, 0) := by decide +kernel
theorem ri_118_27 : ro_ix 118 27 = some (27, .invokestatic 81, 38, 0) := by decide +kernel
theorem ri_118_30 : ro_ix 118 30 = some (30, .if_icmp .le 5, 0, 0) := by decide +kernel
theorem ri_118_33 : ro_ix 118 33 = some (33, .iload_n 3, 0, 0) := by decide +kernel
theorem ri_118_34 : ro_ix 118 34 = some (34, .istore_n 2, 0, 0) := by decide +kernel
theorem ri_118_35 : ro_ix 118 35 = some (35, .iinc 3 1, 0, 0) := by decide +kernel
theorem ri_118_38 : ro_ix 118 38 = some (38, .goto (-34), 0, 0) := by decide +kernel
theorem ri_118_41 : ro_ix 118 41 = some (41, .iload_n 2, 0, 0) := by decide +kernel
theorem ri_118_42 : ro_ix 118 42 = some (42, .ireturn, 0, 0) := by decide +kernel
/-- RefusedOnce.behind(III)I -/
theorem rm_119 : (ro_m 119).2.2.1 = 6 ∧ (ro_m 119).2.2.2.1 = (some .int) ∧ (ro_m 119).2.2.2.2.1 = 11 ∧ (ro_m 119).2.2.2.2.2.1 = 3 := ⟨rfl, rfl, rfl, rfl⟩
theorem ri_119_0 : ro_ix 119 0 = some (0, .aload_n 0, 0, 0) := by decide +kernel
theorem ri_119_1 : ro_ix 119 1 = some (1, .iload_n 1, 0, 0) := by decide +kernel
theorem ri_119_2 : ro_ix 119 2 = some (2, .invokevirtual 87, 20, 0) := by decide +kernel
theorem ri_119_5 : ro_ix 119 5 = some (5, .astore 4, 0, 0) := by decide +kernel
theorem ri_119_7 : ro_ix 119 7 = some (7, .aload_n 0, 0, 0) := by decide +kernel
theorem ri_119_8 : ro_ix 119 8 = some (8, .iload_n 2, 0, 0) := by decide +kernel
theorem ri_119_9 : ro_ix 119 9 = some (9, .invokevirtual 87, 20, 0) := by decide +kernel
theorem ri_119_12 : ro_ix 119 12 = some (12, .astore 5, 0, 0) := by decide +kernel
theorem ri_119_14 : ro_ix 119 14 = some (14, .aload 4, 0, 0) := by decide +kernel
theorem ri_119_16 : ro_ix 119 16 = some (16, .ifnull 17, 0, 0) := by decide +kernel
theorem ri_119_19 : ro_ix 119 19 = some (19, .aload 5, 0, 0) := by decide +kernel
theorem ri_119_21 : ro_ix 119 21 = some (21, .ifnull 12, 0, 0) := by decide +kernel
theorem ri_119_24 : ro_ix 119 24 = some (24, .iload_n 3, 0, 0) := by decide +kernel
theorem ri_119_25 : ro_ix 119 25 = some (25, .iconst 0, 0, 0) := by decide +kernel
theorem ri_119_26 : ro_ix 119 26 = some (26, .iconst 3, 0, 0) := by decide +kernel
theorem ri_119_27 : ro_ix 119 27 = some (27, .invokestatic 76, 13, 0) := by decide +kernel
theorem ri_119_30 : ro_ix 119 30 = some (30, .ifCond .ne 5, 0, 0) := by decide +kernel
theorem ri_119_33 : ro_ix 119 33 = some (33, .iconst (-1), 0, 0) := by decide +kernel
theorem ri_119_34 : ro_ix 119 34 = some (34, .ireturn, 0, 0) := by decide +kernel
theorem ri_119_35 : ro_ix 119 35 = some (35, .aload 4, 0, 0) := by decide +kernel
theorem ri_119_37 : ro_ix 119 37 = some (37, .invokevirtual 95, 22, 0) := by decide +kernel
theorem ri_119_40 : ro_ix 119 40 = some (40, .ifCond .ne 9, 0, 0) := by decide +kernel
theorem ri_119_43 : ro_ix 119 43 = some (43, .aload 4, 0, 0) := by decide +kernel
theorem ri_119_45 : ro_ix 119 45 = some (45, .invokevirtual 159, 65, 0) := by decide +kernel
theorem ri_119_48 : ro_ix 119 48 = some (48, .ireturn, 0, 0) := by decide +kernel
theorem ri_119_49 : ro_ix 119 49 = some (49, .aload 5, 0, 0) := by decide +kernel
theorem ri_119_51 : ro_ix 119 51 = some (51, .invokevirtual 95, 22, 0) := by decide +kernel
theorem ri_119_54 : ro_ix 119 54 = some (54, .ifCond .ne 9, 0, 0) := by decide +kernel
theorem ri_119_57 : ro_ix 119 57 = some (57, .aload 5, 0, 0) := by decide +kernel
theorem ri_119_59 : ro_ix 119 59 = some (59, .invokevirtual 159, 65, 0) := by decide +kernel
theorem ri_119_62 : ro_ix 119 62 = some (62, .ireturn, 0, 0) := by decide +kernel
theorem ri_119_63 : ro_ix 119 63 = some (63, .aload_n 0, 0, 0) := by decide +kernel
theorem ri_119_64 : ro_ix 119 64 = some (64, .getfield 35, 11, 3) := by decide +kernel
theorem ri_119_67 : ro_ix 119 67 = some (67, .aload 4, 0, 0) := by decide +kernel
theorem ri_119_69 : ro_ix 119 69 = some (69, .invokevirtual 162, 66, 0) := by decide +kernel
theorem ri_119_72 : ro_ix 119 72 = some (72, .aload_n 0, 0, 0) := by decide +kernel
theorem ri_119_73 : ro_ix 119 73 = some (73, .getfield 72, 11, 8) := by decide +kernel
theorem ri_119_76 : ro_ix 119 76 = some (76, .aload 5, 0, 0) := by decide +kernel
theorem ri_119_78 : ro_ix 119 78 = some (78, .invokevirtual 237, 120, 0) := by decide +kernel
theorem ri_119_81 : ro_ix 119 81 = some (81, .iload_n 3, 0, 0) := by decide +kernel
theorem ri_119_82 : ro_ix 119 82 = some (82, .ifCond .ne 11, 0, 0) := by decide +kernel
theorem ri_119_85 : ro_ix 119 85 = some (85, .aload_n 0, 0, 0) := by decide +kernel
theorem ri_119_86 : ro_ix 119 86 = some (86, .getfield 72, 11, 8) := by decide +kernel
theorem ri_119_89 : ro_ix 119 89 = some (89, .invokevirtual 239, 136, 0) := by decide +kernel
theorem ri_119_92 : ro_ix 119 92 = some (92, .ireturn, 0, 0) := by decide +kernel
theorem ri_119_93 : ro_ix 119 93 = some (93, .iload_n 3, 0, 0) := by decide +kernel
theorem ri_119_94 : ro_ix 119 94 = some (94, .iconst 3, 0, 0) := by decide +kernel
theorem ri_119_95 : ro_ix 119 95 = some (95, .if_icmp .ne 11, 0, 0) := by decide +kernel
theorem ri_119_98 : ro_ix 119 98 = some (98, .aload_n 0, 0, 0) := by decide +kernel
theorem ri_119_99 : ro_ix 119 99 = some (99, .getfield 72, 11, 8) := by decide +kernel
theorem ri_119_102 : ro_ix 119 102 = some (102, .invokevirtual 240, 137, 0) := by decide +kernel
theorem ri_119_105 : ro_ix 119 105 = some (105, .ireturn, 0, 0) := by decide +kernel
theorem ri_119_106 : ro_ix 119 106 = some (106, .aload_n 0, 0, 0) := by decide +kernel
theorem ri_119_107 : ro_ix 119 107 = some (107, .getfield 72, 11, 8) := by decide +kernel
theorem ri_119_110 : ro_ix 119 110 = some (110, .invokevirtual 239, 136, 0) := by decide +kernel
theorem ri_119_113 : ro_ix 119 113 = some (113, .ifCond .ne 6, 0, 0) := by decide +kernel
theorem ri_119_116 : ro_ix 119 116 = some (116, .bipush (-2), 0, 0) := by decide +kernel
theorem ri_119_118 : ro_ix 119 118 = some (118, .ireturn, 0, 0) := by decide +kernel
theorem ri_119_119 : ro_ix 119 119 = some (119, .iload_n 3, 0, 0) := by decide +kernel
theorem ri_119_120 : ro_ix 119 120 = some (120, .iconst 1, 0, 0) := by decide +kernel
theorem ri_119_121 : ro_ix 119 121 = some (121, .if_icmp .ne 13, 0, 0) := by decide +kernel
theorem ri_119_124 : ro_ix 119 124 = some (124, .aload_n 0, 0, 0) := by decide +kernel
theorem ri_119_125 : ro_ix 119 125 = some (125, .getfield 72, 11, 8) := by decide +kernel
theorem ri_119_128 : ro_ix 119 128 = some (128, .invokevirtual 243, 138, 0) := by decide +kernel
theorem ri_119_131 : ro_ix 119 131 = some (131, .goto 10, 0, 0) := by decide +kernel
theorem ri_119_134 : ro_ix 119 134 = some (134, .aload_n 0, 0, 0) := by decide +kernel
theorem ri_119_135 : ro_ix 119 135 = some (135, .getfield 72, 11, 8) := by decide +kernel
theorem ri_119_138 : ro_ix 119 138 = some (138, .invokevirtual 246, 139, 0) := by decide +kernel
theorem ri_119_141 : ro_ix 119 141 = some (141, .ireturn, 0, 0) := by decide +kernel
/-- RefusedOnce$Ways.find(LRefusedOnce$Shelf;)V -/
theorem rm_120 : (ro_m 120).2.2.1 = 5 ∧ (ro_m 120).2.2.2.1 = none ∧ (ro_m 120).2.2.2.2.1 = 10 ∧ (ro_m 120).2.2.2.2.2.1 = 1 := ⟨rfl, rfl, rfl, rfl⟩
theorem ri_120_0 : ro_ix 120 0 = some (0, .aload_n 0, 0, 0) := by decide +kernel
theorem ri_120_1 : ro_ix 120 1 = some (1, .getfield 35, 10, 8) := by decide +kernel
theorem ri_120_4 : ro_ix 120 4 = some (4, .iconst 0, 0, 0) := by decide +kernel
theorem ri_120_5 : ro_ix 120 5 = some (5, .putfield 50, 6, 4) := by decide +kernel
theorem ri_120_8 : ro_ix 120 8 = some (8, .aload_n 0, 0, 0) := by decide +kernel
theorem ri_120_9 : ro_ix 120 9 = some (9, .getfield 46, 10, 1) := by decide +kernel
theorem ri_120_12 : ro_ix 120 12 = some (12, .invokevirtual 64, 121, 0) := by decide +kernel
theorem ri_120_15 : ro_ix 120 15 = some (15, .bipush 20, 0, 0) := by decide +kernel
theorem ri_120_17 : ro_ix 120 17 = some (17, .invokestatic 70, 1, 3) := by decide +kernel
theorem ri_120_20 : ro_ix 120 20 = some (20, .istore_n 2, 0, 0) := by decide +kernel
theorem ri_120_21 : ro_ix 120 21 = some (21, .aload_n 0, 0, 0) := by decide +kernel
theorem ri_120_22 : ro_ix 120 22 = some (22, .iload_n 2, 0, 0) := by decide +kernel
theorem ri_120_23 : ro_ix 120 23 = some (23, .aload_n 1, 0, 0) := by decide +kernel
theorem ri_120_24 : ro_ix 120 24 = some (24, .invokevirtual 76, 122, 0) := by decide +kernel
theorem ri_120_27 : ro_ix 120 27 = some (27, .ifCond .ne 4, 0, 0) := by decide +kernel
theorem ri_120_30 : ro_ix 120 30 = some (30, .return_, 0, 0) := by decide +kernel
theorem ri_120_31 : ro_ix 120 31 = some (31, .iload_n 2, 0, 0) := by decide +kernel
theorem ri_120_32 : ro_ix 120 32 = some (32, .iconst 1, 0, 0) := by decide +kernel
theorem ri_120_33 : ro_ix 120 33 = some (33, .isub, 0, 0) := by decide +kernel
theorem ri_120_34 : ro_ix 120 34 = some (34, .istore_n 3, 0, 0) := by decide +kernel
theorem ri_120_35 : ro_ix 120 35 = some (35, .iload_n 3, 0, 0) := by decide +kernel
theorem ri_120_36 : ro_ix 120 36 = some (36, .ifCond .lt 14, 0, 0) := by decide +kernel
theorem ri_120_39 : ro_ix 120 39 = some (39, .aload_n 0, 0, 0) := by decide +kernel
theorem ri_120_40 : ro_ix 120 40 = some (40, .iload_n 3, 0, 0) := by decide +kernel
theorem ri_120_41 : ro_ix 120 41 = some (41, .invokevirtual 80, 124, 0) := by decide +kernel
theorem ri_120_44 : ro_ix 120 44 = some (44, .iinc 3 (-1), 0, 0) := by decide +kernel
theorem ri_120_47 : ro_ix 120 47 = some (47, .goto (-12), 0, 0) := by decide +kernel
theorem ri_120_50 : ro_ix 120 50 = some (50, .aload_n 0, 0, 0) := by decide +kernel
theorem ri_120_51 : ro_ix 120 51 = some (51, .invokevirtual 84, 128, 0) := by decide +kernel
theorem ri_120_54 : ro_ix 120 54 = some (54, .aload_n 0, 0, 0) := by decide +kernel
theorem ri_120_55 : ro_ix 120 55 = some (55, .aload_n 0, 0, 0) := by decide +kernel
theorem ri_120_56 : ro_ix 120 56 = some (56, .invokevirtual 87, 129, 0) := by decide +kernel
theorem ri_120_59 : ro_ix 120 59 = some (59, .iconst 1, 0, 0) := by decide +kernel
theorem ri_120_60 : ro_ix 120 60 = some (60, .iconst 0, 0, 0) := by decide +kernel
theorem ri_120_61 : ro_ix 120 61 = some (61, .iconst 0, 0, 0) := by decide +kernel
theorem ri_120_62 : ro_ix 120 62 = some (62, .invokevirtual 91, 131, 0) := by decide +kernel
theorem ri_120_65 : ro_ix 120 65 = some (65, .aload_n 0, 0, 0) := by decide +kernel
theorem ri_120_66 : ro_ix 120 66 = some (66, .invokevirtual 95, 133, 0) := by decide +kernel
theorem ri_120_69 : ro_ix 120 69 = some (69, .iconst 0, 0, 0) := by decide +kernel
theorem ri_120_70 : ro_ix 120 70 = some (70, .istore_n 3, 0, 0) := by decide +kernel
theorem ri_120_71 : ro_ix 120 71 = some (71, .iload_n 3, 0, 0) := by decide +kernel
theorem ri_120_72 : ro_ix 120 72 = some (72, .iload_n 2, 0, 0) := by decide +kernel
theorem ri_120_73 : ro_ix 120 73 = some (73, .if_icmp .ge 53, 0, 0) := by decide +kernel
theorem ri_120_76 : ro_ix 120 76 = some (76, .aload_n 0, 0, 0) := by decide +kernel
theorem ri_120_77 : ro_ix 120 77 = some (77, .invokevirtual 84, 128, 0) := by decide +kernel
theorem ri_120_80 : ro_ix 120 80 = some (80, .iconst 0, 0, 0) := by decide +kernel
theorem ri_120_81 : ro_ix 120 81 = some (81, .istore 4, 0, 0) := by decide +kernel
theorem ri_120_83 : ro_ix 120 83 = some (83, .iload 4, 0, 0) := by decide +kernel
theorem ri_120_85 : ro_ix 120 85 = some (85, .aload_n 0, 0, 0) := by decide +kernel
theorem ri_120_86 : ro_ix 120 86 = some (86, .getfield 35, 10, 8) := by decide +kernel
theorem ri_120_89 : ro_ix 120 89 = some (89, .getfield 50, 6, 4) := by decide +kernel
theorem ri_120_92 : ro_ix 120 92 = some (92, .if_icmp .ge 24, 0, 0) := by decide +kernel
theorem ri_120_95 : ro_ix 120 95 = some (95, .iload 4, 0, 0) := by decide +kernel
theorem ri_120_97 : ro_ix 120 97 = some (97, .sipush 8192, 0, 0) := by decide +kernel
theorem ri_120_100 : ro_ix 120 100 = some (100, .if_icmp .ge 16, 0, 0) := by decide +kernel
theorem ri_120_103 : ro_ix 120 103 = some (103, .aload_n 0, 0, 0) := by decide +kernel
theorem ri_120_104 : ro_ix 120 104 = some (104, .iload 4, 0, 0) := by decide +kernel
theorem ri_120_106 : ro_ix 120 106 = some (106, .iload_n 3, 0, 0) := by decide +kernel
theorem ri_120_107 : ro_ix 120 107 = some (107, .invokevirtual 98, 134, 0) := by decide +kernel
theorem ri_120_110 : ro_ix 120 110 = some (110, .iinc 4 1, 0, 0) := by decide +kernel
theorem ri_120_113 : ro_ix 120 113 = some (113, .goto (-30), 0, 0) := by decide +kernel
theorem ri_120_116 : ro_ix 120 116 = some (116, .aload_n 0, 0, 0) := by decide +kernel
theorem ri_120_117 : ro_ix 120 117 = some (117, .invokevirtual 95, 133, 0) := by decide +kernel
theorem ri_120_120 : ro_ix 120 120 = some (120, .iinc 3 1, 0, 0) := by decide +kernel
theorem ri_120_123 : ro_ix 120 123 = some (123, .goto (-52), 0, 0) := by decide +kernel
theorem ri_120_126 : ro_ix 120 126 = some (126, .return_, 0, 0) := by decide +kernel
/-- RefusedOnce$Evening.length()I -/
theorem rm_121 : (ro_m 121).2.2.1 = 1 ∧ (ro_m 121).2.2.2.1 = (some .int) ∧ (ro_m 121).2.2.2.2.1 = 3 ∧ (ro_m 121).2.2.2.2.2.1 = 0 := ⟨rfl, rfl, rfl, rfl⟩
theorem ri_121_0 : ro_ix 121 0 = some (0, .aload_n 0, 0, 0) := by decide +kernel
theorem ri_121_1 : ro_ix 121 1 = some (1, .getfield 36, 3, 6) := by decide +kernel
theorem ri_121_4 : ro_ix 121 4 = some (4, .ireturn, 0, 0) := by decide +kernel
/-- RefusedOnce$Ways.endAt(ILRefusedOnce$Shelf;)Z -/
theorem rm_122 : (ro_m 122).2.2.1 = 9 ∧ (ro_m 122).2.2.2.1 = (some .boolean) ∧ (ro_m 122).2.2.2.2.1 = 10 ∧ (ro_m 122).2.2.2.2.2.1 = 2 := ⟨rfl, rfl, rfl, rfl⟩
theorem ri_122_0 : ro_ix 122 0 = some (0, .iconst 0, 0, 0) := by decide +kernel
theorem ri_122_1 : ro_ix 122 1 = some (1, .istore_n 3, 0, 0) := by decide +kernel
theorem ri_122_2 : ro_ix 122 2 = some (2, .iload_n 3, 0, 0) := by decide +kernel
theorem ri_122_3 : ro_ix 122 3 = some (3, .bipush 12, 0, 0) := by decide +kernel
theorem ri_122_5 : ro_ix 122 5 = some (5, .if_icmp .ge 113, 0, 0) := by decide +kernel
theorem ri_122_8 : ro_ix 122 8 = some (8, .iload_n 3, 0, 0) := by decide +kernel
theorem ri_122_9 : ro_ix 122 9 = some (9, .bipush 6, 0, 0) := by decide +kernel
theorem ri_122_11 : ro_ix 122 11 = some (11, .irem, 0, 0) := by decide +kernel
theorem ri_122_12 : ro_ix 122 12 = some (12, .istore 4, 0, 0) := by decide +kernel
theorem ri_122_14 : ro_ix 122 14 = some (14, .iconst 2, 0, 0) := by decide +kernel
theorem ri_122_15 : ro_ix 122 15 = some (15, .iload 4, 0, 0) := by decide +kernel
theorem ri_122_17 : ro_ix 122 17 = some (17, .imul, 0, 0) := by decide +kernel
theorem ri_122_18 : ro_ix 122 18 = some (18, .iload_n 3, 0, 0) := by decide +kernel
theorem ri_122_19 : ro_ix 122 19 = some (19, .bipush 6, 0, 0) := by decide +kernel
theorem ri_122_21 : ro_ix 122 21 = some (21, .idiv, 0, 0) := by decide +kernel
theorem ri_122_22 : ro_ix 122 22 = some (22, .iadd, 0, 0) := by decide +kernel
theorem ri_122_23 : ro_ix 122 23 = some (23, .istore 5, 0, 0) := by decide +kernel
theorem ri_122_25 : ro_ix 122 25 = some (25, .aload_n 0, 0, 0) := by decide +kernel
theorem ri_122_26 : ro_ix 122 26 = some (26, .getfield 42, 10, 0) := by decide +kernel
theorem ri_122_29 : ro_ix 122 29 = some (29, .iload 4, 0, 0) := by decide +kernel
theorem ri_122_31 : ro_ix 122 31 = some (31, .invokevirtual 102, 29, 0) := by decide +kernel
theorem ri_122_34 : ro_ix 122 34 = some (34, .ifCond .eq 16, 0, 0) := by decide +kernel
theorem ri_122_37 : ro_ix 122 37 = some (37, .iload 5, 0, 0) := by decide +kernel
theorem ri_122_39 : ro_ix 122 39 = some (39, .aload_n 2, 0, 0) := by decide +kernel
theorem ri_122_40 : ro_ix 122 40 = some (40, .invokevirtual 108, 24, 0) := by decide +kernel
theorem ri_122_43 : ro_ix 122 43 = some (43, .if_icmp .ge 7, 0, 0) := by decide +kernel
theorem ri_122_46 : ro_ix 122 46 = some (46, .iconst 1, 0, 0) := by decide +kernel
theorem ri_122_47 : ro_ix 122 47 = some (47, .goto 4, 0, 0) := by decide +kernel
theorem ri_122_50 : ro_ix 122 50 = some (50, .iconst 0, 0, 0) := by decide +kernel
theorem ri_122_51 : ro_ix 122 51 = some (51, .istore 6, 0, 0) := by decide +kernel
theorem ri_122_53 : ro_ix 122 53 = some (53, .iload 6, 0, 0) := by decide +kernel
theorem ri_122_55 : ro_ix 122 55 = some (55, .ifCond .eq 12, 0, 0) := by decide +kernel
theorem ri_122_58 : ro_ix 122 58 = some (58, .aload_n 2, 0, 0) := by decide +kernel
theorem ri_122_59 : ro_ix 122 59 = some (59, .iload 5, 0, 0) := by decide +kernel
theorem ri_122_61 : ro_ix 122 61 = some (61, .invokevirtual 111, 25, 0) := by decide +kernel
theorem ri_122_64 : ro_ix 122 64 = some (64, .goto 4, 0, 0) := by decide +kernel
theorem ri_122_67 : ro_ix 122 67 = some (67, .iconst 0, 0, 0) := by decide +kernel
theorem ri_122_68 : ro_ix 122 68 = some (68, .istore 7, 0, 0) := by decide +kernel
theorem ri_122_70 : ro_ix 122 70 = some (70, .iload 6, 0, 0) := by decide +kernel
theorem ri_122_72 : ro_ix 122 72 = some (72, .ifCond .eq 12, 0, 0) := by decide +kernel
theorem ri_122_75 : ro_ix 122 75 = some (75, .aload_n 2, 0, 0) := by decide +kernel
theorem ri_122_76 : ro_ix 122 76 = some (76, .iload 5, 0, 0) := by decide +kernel
theorem ri_122_78 : ro_ix 122 78 = some (78, .invokevirtual 111, 25, 0) := by decide +kernel
theorem ri_122_81 : ro_ix 122 81 = some (81, .goto 5, 0, 0) := by decide +kernel
theorem ri_122_84 : ro_ix 122 84 = some (84, .bipush 20, 0, 0) := by decide +kernel
theorem ri_122_86 : ro_ix 122 86 = some (86, .istore 8, 0, 0) := by decide +kernel
theorem ri_122_88 : ro_ix 122 88 = some (88, .iload 7, 0, 0) := by decide +kernel
theorem ri_122_90 : ro_ix 122 90 = some (90, .ifCond .lt 10, 0, 0) := by decide +kernel
theorem ri_122_93 : ro_ix 122 93 = some (93, .iload 8, 0, 0) := by decide +kernel
theorem ri_122_95 : ro_ix 122 95 = some (95, .bipush 20, 0, 0) := by decide +kernel
theorem ri_122_97 : ro_ix 122 97 = some (97, .if_icmp .le 5, 0, 0) := by decide +kernel
theorem ri_122_100 : ro_ix 122 100 = some (100, .iconst 0, 0, 0) := by decide +kernel
theorem ri_122_101 : ro_ix 122 101 = some (101, .ireturn, 0, 0) := by decide +kernel
theorem ri_122_102 : ro_ix 122 102 = some (102, .aload_n 0, 0, 0) := by decide +kernel
theorem ri_122_103 : ro_ix 122 103 = some (103, .iload_n 1, 0, 0) := by decide +kernel
theorem ri_122_104 : ro_ix 122 104 = some (104, .iload_n 3, 0, 0) := by decide +kernel
theorem ri_122_105 : ro_ix 122 105 = some (105, .iload 7, 0, 0) := by decide +kernel
theorem ri_122_107 : ro_ix 122 107 = some (107, .iload 8, 0, 0) := by decide +kernel
theorem ri_122_109 : ro_ix 122 109 = some (109, .invokevirtual 115, 123, 0) := by decide +kernel
theorem ri_122_112 : ro_ix 122 112 = some (112, .iinc 3 1, 0, 0) := by decide +kernel
theorem ri_122_115 : ro_ix 122 115 = some (115, .goto (-113), 0, 0) := by decide +kernel
theorem ri_122_118 : ro_ix 122 118 = some (118, .iconst 1, 0, 0) := by decide +kernel
theorem ri_122_119 : ro_ix 122 119 = some (119, .ireturn, 0, 0) := by decide +kernel
/-- RefusedOnce$Ways.allow(IIII)V -/
theorem rm_123 : (ro_m 123).2.2.1 = 5 ∧ (ro_m 123).2.2.2.1 = none ∧ (ro_m 123).2.2.2.2.1 = 10 ∧ (ro_m 123).2.2.2.2.2.1 = 4 := ⟨rfl, rfl, rfl, rfl⟩
theorem ri_123_0 : ro_ix 123 0 = some (0, .iload_n 1, 0, 0) := by decide +kernel
theorem ri_123_1 : ro_ix 123 1 = some (1, .ifCond .lt 57, 0, 0) := by decide +kernel
theorem ri_123_4 : ro_ix 123 4 = some (4, .iload_n 1, 0, 0) := by decide +kernel
theorem ri_123_5 : ro_ix 123 5 = some (5, .bipush 20, 0, 0) := by decide +kernel
theorem ri_123_7 : ro_ix 123 7 = some (7, .if_icmp .gt 51, 0, 0) := by decide +kernel
theorem ri_123_10 : ro_ix 123 10 = some (10, .iload_n 2, 0, 0) := by decide +kernel
theorem ri_123_11 : ro_ix 123 11 = some (11, .ifCond .lt 47, 0, 0) := by decide +kernel
theorem ri_123_14 : ro_ix 123 14 = some (14, .iload_n 2, 0, 0) := by decide +kernel
theorem ri_123_15 : ro_ix 123 15 = some (15, .bipush 12, 0, 0) := by decide +kernel
theorem ri_123_17 : ro_ix 123 17 = some (17, .if_icmp .ge 41, 0, 0) := by decide +kernel
theorem ri_123_20 : ro_ix 123 20 = some (20, .aload_n 0, 0, 0) := by decide +kernel
theorem ri_123_21 : ro_ix 123 21 = some (21, .getfield 13, 10, 2) := by decide +kernel
theorem ri_123_24 : ro_ix 123 24 = some (24, .iload_n 1, 0, 0) := by decide +kernel
theorem ri_123_25 : ro_ix 123 25 = some (25, .aaload, 0, 0) := by decide +kernel
theorem ri_123_26 : ro_ix 123 26 = some (26, .iload_n 2, 0, 0) := by decide +kernel
theorem ri_123_27 : ro_ix 123 27 = some (27, .iload_n 3, 0, 0) := by decide +kernel
theorem ri_123_28 : ro_ix 123 28 = some (28, .iastore, 0, 0) := by decide +kernel
theorem ri_123_29 : ro_ix 123 29 = some (29, .aload_n 0, 0, 0) := by decide +kernel
theorem ri_123_30 : ro_ix 123 30 = some (30, .getfield 16, 10, 3) := by decide +kernel
theorem ri_123_33 : ro_ix 123 33 = some (33, .iload_n 1, 0, 0) := by decide +kernel
theorem ri_123_34 : ro_ix 123 34 = some (34, .aaload, 0, 0) := by decide +kernel
theorem ri_123_35 : ro_ix 123 35 = some (35, .iload_n 2, 0, 0) := by decide +kernel
theorem ri_123_36 : ro_ix 123 36 = some (36, .iload 4, 0, 0) := by decide +kernel
theorem ri_123_38 : ro_ix 123 38 = some (38, .iastore, 0, 0) := by decide +kernel
theorem ri_123_39 : ro_ix 123 39 = some (39, .aload_n 0, 0, 0) := by decide +kernel
theorem ri_123_40 : ro_ix 123 40 = some (40, .getfield 19, 10, 4) := by decide +kernel
theorem ri_123_43 : ro_ix 123 43 = some (43, .iload_n 1, 0, 0) := by decide +kernel
theorem ri_123_44 : ro_ix 123 44 = some (44, .aaload, 0, 0) := by decide +kernel
theorem ri_123_45 : ro_ix 123 45 = some (45, .iload_n 2, 0, 0) := by decide +kernel
theorem ri_123_46 : ro_ix 123 46 = some (46, .iload_n 3, 0, 0) := by decide +kernel
theorem ri_123_47 : ro_ix 123 47 = some (47, .iastore, 0, 0) := by decide +kernel
theorem ri_123_48 : ro_ix 123 48 = some (48, .aload_n 0, 0, 0) := by decide +kernel
theorem ri_123_49 : ro_ix 123 49 = some (49, .getfield 22, 10, 5) := by decide +kernel
theorem ri_123_52 : ro_ix 123 52 = some (52, .iload_n 1, 0, 0) := by decide +kernel
theorem ri_123_53 : ro_ix 123 53 = some (53, .aaload, 0, 0) := by decide +kernel
theorem ri_123_54 : ro_ix 123 54 = some (54, .iload_n 2, 0, 0) := by decide +kernel
theorem ri_123_55 : ro_ix 123 55 = some (55, .iload 4, 0, 0) := by decide +kernel
theorem ri_123_57 : ro_ix 123 57 = some (57, .iastore, 0, 0) := by decide +kernel
theorem ri_123_58 : ro_ix 123 58 = some (58, .return_, 0, 0) := by decide +kernel
/-- RefusedOnce$Ways.comeBackOver(I)V -/
theorem rm_124 : (ro_m 124).2.2.1 = 4 ∧ (ro_m 124).2.2.2.1 = none ∧ (ro_m 124).2.2.2.2.1 = 10 ∧ (ro_m 124).2.2.2.2.2.1 = 1 := ⟨rfl, rfl, rfl, rfl⟩
theorem ri_124_0 : ro_ix 124 0 = some (0, .iload_n 1, 0, 0) := by decide +kernel
theorem ri_124_1 : ro_ix 124 1 = some (1, .ifCond .lt 9, 0, 0) := by decide +kernel
theorem ri_124_4 : ro_ix 124 4 = some (4, .iload_n 1, 0, 0) := by decide +kernel
theorem ri_124_5 : ro_ix 124 5 = some (5, .bipush 20, 0, 0) := by decide +kernel
theorem ri_124_7 : ro_ix 124 7 = some (7, .if_icmp .lt 4, 0, 0) := by decide +kernel
theorem ri_124_10 : ro_ix 124 10 = some (10, .return_, 0, 0) := by decide +kernel
theorem ri_124_11 : ro_ix 124 11 = some (11, .aload_n 0, 0, 0) := by decide +kernel
theorem ri_124_12 : ro_ix 124 12 = some (12, .getfield 13, 10, 2) := by decide +kernel
theorem ri_124_15 : ro_ix 124 15 = some (15, .iload_n 1, 0, 0) := by decide +kernel
theorem ri_124_16 : ro_ix 124 16 = some (16, .iconst 1, 0, 0) := by decide +kernel
theorem ri_124_17 : ro_ix 124 17 = some (17, .iadd, 0, 0) := by decide +kernel
theorem ri_124_18 : ro_ix 124 18 = some (18, .aaload, 0, 0) := by decide +kernel
theorem ri_124_19 : ro_ix 124 19 = some (19, .iconst 0, 0, 0) := by decide +kernel
theorem ri_124_20 : ro_ix 124 20 = some (20, .aload_n 0, 0, 0) := by decide +kernel
theorem ri_124_21 : ro_ix 124 21 = some (21, .getfield 13, 10, 2) := by decide +kernel
theorem ri_124_24 : ro_ix 124 24 = some (24, .iload_n 1, 0, 0) := by decide +kernel
theorem ri_124_25 : ro_ix 124 25 = some (25, .aaload, 0, 0) := by decide +kernel
theorem ri_124_26 : ro_ix 124 26 = some (26, .iconst 0, 0, 0) := by decide +kernel
theorem ri_124_27 : ro_ix 124 27 = some (27, .bipush 12, 0, 0) := by decide +kernel
theorem ri_124_29 : ro_ix 124 29 = some (29, .invokestatic 119, 0, 4) := by decide +kernel
theorem ri_124_32 : ro_ix 124 32 = some (32, .aload_n 0, 0, 0) := by decide +kernel
theorem ri_124_33 : ro_ix 124 33 = some (33, .getfield 16, 10, 3) := by decide +kernel
theorem ri_124_36 : ro_ix 124 36 = some (36, .iload_n 1, 0, 0) := by decide +kernel
theorem ri_124_37 : ro_ix 124 37 = some (37, .iconst 1, 0, 0) := by decide +kernel
theorem ri_124_38 : ro_ix 124 38 = some (38, .iadd, 0, 0) := by decide +kernel
theorem ri_124_39 : ro_ix 124 39 = some (39, .aaload, 0, 0) := by decide +kernel
theorem ri_124_40 : ro_ix 124 40 = some (40, .iconst 0, 0, 0) := by decide +kernel
theorem ri_124_41 : ro_ix 124 41 = some (41, .aload_n 0, 0, 0) := by decide +kernel
theorem ri_124_42 : ro_ix 124 42 = some (42, .getfield 16, 10, 3) := by decide +kernel
theorem ri_124_45 : ro_ix 124 45 = some (45, .iload_n 1, 0, 0) := by decide +kernel
theorem ri_124_46 : ro_ix 124 46 = some (46, .aaload, 0, 0) := by decide +kernel
theorem ri_124_47 : ro_ix 124 47 = some (47, .iconst 0, 0, 0) := by decide +kernel
theorem ri_124_48 : ro_ix 124 48 = some (48, .bipush 12, 0, 0) := by decide +kernel
theorem ri_124_50 : ro_ix 124 50 = some (50, .invokestatic 119, 0, 4) := by decide +kernel
theorem ri_124_53 : ro_ix 124 53 = some (53, .aload_n 0, 0, 0) := by decide +kernel
theorem ri_124_54 : ro_ix 124 54 = some (54, .getfield 19, 10, 4) := by decide +kernel
theorem ri_124_57 : ro_ix 124 57 = some (57, .iload_n 1, 0, 0) := by decide +kernel
theorem ri_124_58 : ro_ix 124 58 = some (58, .iconst 1, 0, 0) := by decide +kernel
theorem ri_124_59 : ro_ix 124 59 = some (59, .iadd, 0, 0) := by decide +kernel
theorem ri_124_60 : ro_ix 124 60 = some (60, .aaload, 0, 0) := by decide +kernel
theorem ri_124_61 : ro_ix 124 61 = some (61, .iconst 0, 0, 0) := by decide +kernel
theorem ri_124_62 : ro_ix 124 62 = some (62, .aload_n 0, 0, 0) := by decide +kernel
theorem ri_124_63 : ro_ix 124 63 = some (63, .getfield 19, 10, 4) := by decide +kernel
theorem ri_124_66 : ro_ix 124 66 = some (66, .iload_n 1, 0, 0) := by decide +kernel
theorem ri_124_67 : ro_ix 124 67 = some (67, .aaload, 0, 0) := by decide +kernel
theorem ri_124_68 : ro_ix 124 68 = some (68, .iconst 0, 0, 0) := by decide +kernel
theorem ri_124_69 : ro_ix 124 69 = some (69, .bipush 12, 0, 0) := by decide +kernel
theorem ri_124_71 : ro_ix 124 71 = some (71, .invokestatic 119, 0, 4) := by decide +kernel
theorem ri_124_74 : ro_ix 124 74 = some (74, .aload_n 0, 0, 0) := by decide +kernel
theorem ri_124_75 : ro_ix 124 75 = some (75, .getfield 22, 10, 5) := by decide +kernel
theorem ri_124_78 : ro_ix 124 78 = some (78, .iload_n 1, 0, 0) := by decide +kernel
theorem ri_124_79 : ro_ix 124 79 = some (79, .iconst 1, 0, 0) := by decide +kernel
theorem ri_124_80 : ro_ix 124 80 = some (80, .iadd, 0, 0) := by decide +kernel
theorem ri_124_81 : ro_ix 124 81 = some (81, .aaload, 0, 0) := by decide +kernel
theorem ri_124_82 : ro_ix 124 82 = some (82, .iconst 0, 0, 0) := by decide +kernel
theorem ri_124_83 : ro_ix 124 83 = some (83, .aload_n 0, 0, 0) := by decide +kernel
theorem ri_124_84 : ro_ix 124 84 = some (84, .getfield 22, 10, 5) := by decide +kernel
theorem ri_124_87 : ro_ix 124 87 = some (87, .iload_n 1, 0, 0) := by decide +kernel
theorem ri_124_88 : ro_ix 124 88 = some (88, .aaload, 0, 0) := by decide +kernel
theorem ri_124_89 : ro_ix 124 89 = some (89, .iconst 0, 0, 0) := by decide +kernel
theorem ri_124_90 : ro_ix 124 90 = some (90, .bipush 12, 0, 0) := by decide +kernel
theorem ri_124_92 : ro_ix 124 92 = some (92, .invokestatic 119, 0, 4) := by decide +kernel
theorem ri_124_95 : ro_ix 124 95 = some (95, .aload_n 0, 0, 0) := by decide +kernel
theorem ri_124_96 : ro_ix 124 96 = some (96, .getfield 46, 10, 1) := by decide +kernel
theorem ri_124_99 : ro_ix 124 99 = some (99, .iload_n 1, 0, 0) := by decide +kernel
theorem ri_124_100 : ro_ix 124 100 = some (100, .invokevirtual 125, 69, 0) := by decide +kernel
theorem ri_124_103 : ro_ix 124 103 = some (103, .istore_n 2, 0, 0) := by decide +kernel
theorem ri_124_104 : ro_ix 124 104 = some (104, .aload_n 0, 0, 0) := by decide +kernel
theorem ri_124_105 : ro_ix 124 105 = some (105, .getfield 46, 10, 1) := by decide +kernel
theorem ri_124_108 : ro_ix 124 108 = some (108, .iload_n 1, 0, 0) := by decide +kernel
theorem ri_124_109 : ro_ix 124 109 = some (109, .invokevirtual 128, 70, 0) := by decide +kernel
theorem ri_124_112 : ro_ix 124 112 = some (112, .istore_n 3, 0, 0) := by decide +kernel
theorem ri_124_113 : ro_ix 124 113 = some (113, .aload_n 0, 0, 0) := by decide +kernel
theorem ri_124_114 : ro_ix 124 114 = some (114, .getfield 46, 10, 1) := by decide +kernel
theorem ri_124_117 : ro_ix 124 117 = some (117, .iload_n 1, 0, 0) := by decide +kernel
theorem ri_124_118 : ro_ix 124 118 = some (118, .invokevirtual 131, 71, 0) := by decide +kernel
theorem ri_124_121 : ro_ix 124 121 = some (121, .ifCond .eq 30, 0, 0) := by decide +kernel
theorem ri_124_124 : ro_ix 124 124 = some (124, .aload_n 0, 0, 0) := by decide +kernel
theorem ri_124_125 : ro_ix 124 125 = some (125, .iload_n 1, 0, 0) := by decide +kernel
theorem ri_124_126 : ro_ix 124 126 = some (126, .iload_n 2, 0, 0) := by decide +kernel
theorem ri_124_127 : ro_ix 124 127 = some (127, .iconst 1, 0, 0) := by decide +kernel
theorem ri_124_128 : ro_ix 124 128 = some (128, .bipush 20, 0, 0) := by decide +kernel
theorem ri_124_130 : ro_ix 124 130 = some (130, .invokevirtual 134, 125, 0) := by decide +kernel
theorem ri_124_133 : ro_ix 124 133 = some (133, .aload_n 0, 0, 0) := by decide +kernel
theorem ri_124_134 : ro_ix 124 134 = some (134, .iload_n 1, 0, 0) := by decide +kernel
theorem ri_124_135 : ro_ix 124 135 = some (135, .iload_n 3, 0, 0) := by decide +kernel
theorem ri_124_136 : ro_ix 124 136 = some (136, .invokevirtual 137, 127, 0) := by decide +kernel
theorem ri_124_139 : ro_ix 124 139 = some (139, .aload_n 0, 0, 0) := by decide +kernel
theorem ri_124_140 : ro_ix 124 140 = some (140, .iload_n 1, 0, 0) := by decide +kernel
theorem ri_124_141 : ro_ix 124 141 = some (141, .bipush 6, 0, 0) := by decide +kernel
theorem ri_124_143 : ro_ix 124 143 = some (143, .iload_n 2, 0, 0) := by decide +kernel
theorem ri_124_144 : ro_ix 124 144 = some (144, .iadd, 0, 0) := by decide +kernel
theorem ri_124_145 : ro_ix 124 145 = some (145, .invokevirtual 137, 127, 0) := by decide +kernel
theorem ri_124_148 : ro_ix 124 148 = some (148, .goto 27, 0, 0) := by decide +kernel
theorem ri_124_151 : ro_ix 124 151 = some (151, .aload_n 0, 0, 0) := by decide +kernel
theorem ri_124_152 : ro_ix 124 152 = some (152, .iload_n 1, 0, 0) := by decide +kernel
theorem ri_124_153 : ro_ix 124 153 = some (153, .bipush 6, 0, 0) := by decide +kernel
theorem ri_124_155 : ro_ix 124 155 = some (155, .iload_n 2, 0, 0) := by decide +kernel
theorem ri_124_156 : ro_ix 124 156 = some (156, .iadd, 0, 0) := by decide +kernel
theorem ri_124_157 : ro_ix 124 157 = some (157, .iconst 1, 0, 0) := by decide +kernel
theorem ri_124_158 : ro_ix 124 158 = some (158, .bipush 20, 0, 0) := by decide +kernel
theorem ri_124_160 : ro_ix 124 160 = some (160, .invokevirtual 134, 125, 0) := by decide +kernel
theorem ri_124_163 : ro_ix 124 163 = some (163, .aload_n 0, 0, 0) := by decide +kernel
theorem ri_124_164 : ro_ix 124 164 = some (164, .iload_n 1, 0, 0) := by decide +kernel
theorem ri_124_165 : ro_ix 124 165 = some (165, .bipush 6, 0, 0) := by decide +kernel
theorem ri_124_167 : ro_ix 124 167 = some (167, .iload_n 3, 0, 0) := by decide +kernel
theorem ri_124_168 : ro_ix 124 168 = some (168, .iadd, 0, 0) := by decide +kernel
theorem ri_124_169 : ro_ix 124 169 = some (169, .iconst (-1), 0, 0) := by decide +kernel
theorem ri_124_170 : ro_ix 124 170 = some (170, .bipush 19, 0, 0) := by decide +kernel
theorem ri_124_172 : ro_ix 124 172 = some (172, .invokevirtual 134, 125, 0) := by decide +kernel
theorem ri_124_175 : ro_ix 124 175 = some (175, .return_, 0, 0) := by decide +kernel
/-- RefusedOnce$Ways.moveBoth(IIII)V -/
theorem rm_125 : (ro_m 125).2.2.1 = 5 ∧ (ro_m 125).2.2.2.1 = none ∧ (ro_m 125).2.2.2.2.1 = 10 ∧ (ro_m 125).2.2.2.2.2.1 = 4 := ⟨rfl, rfl, rfl, rfl⟩
theorem ri_125_0 : ro_ix 125 0 = some (0, .iload_n 1, 0, 0) := by decide +kernel
theorem ri_125_1 : ro_ix 125 1 = some (1, .ifCond .lt 49, 0, 0) := by decide +kernel
theorem ri_125_4 : ro_ix 125 4 = some (4, .iload_n 1, 0, 0) := by decide +kernel
theorem ri_125_5 : ro_ix 125 5 = some (5, .bipush 20, 0, 0) := by decide +kernel
theorem ri_125_7 : ro_ix 125 7 = some (7, .if_icmp .gt 43, 0, 0) := by decide +kernel
theorem ri_125_10 : ro_ix 125 10 = some (10, .aload_n 0, 0, 0) := by decide +kernel
theorem ri_125_11 : ro_ix 125 11 = some (11, .getfield 13, 10, 2) := by decide +kernel
theorem ri_125_14 : ro_ix 125 14 = some (14, .iload_n 1, 0, 0) := by decide +kernel
theorem ri_125_15 : ro_ix 125 15 = some (15, .aaload, 0, 0) := by decide +kernel
theorem ri_125_16 : ro_ix 125 16 = some (16, .aload_n 0, 0, 0) := by decide +kernel
theorem ri_125_17 : ro_ix 125 17 = some (17, .getfield 16, 10, 3) := by decide +kernel
theorem ri_125_20 : ro_ix 125 20 = some (20, .iload_n 1, 0, 0) := by decide +kernel
theorem ri_125_21 : ro_ix 125 21 = some (21, .aaload, 0, 0) := by decide +kernel
theorem ri_125_22 : ro_ix 125 22 = some (22, .iload_n 2, 0, 0) := by decide +kernel
theorem ri_125_23 : ro_ix 125 23 = some (23, .iload_n 3, 0, 0) := by decide +kernel
theorem ri_125_24 : ro_ix 125 24 = some (24, .iload_n 3, 0, 0) := by decide +kernel
theorem ri_125_25 : ro_ix 125 25 = some (25, .iload 4, 0, 0) := by decide +kernel
theorem ri_125_27 : ro_ix 125 27 = some (27, .invokestatic 140, 126, 0) := by decide +kernel
theorem ri_125_30 : ro_ix 125 30 = some (30, .aload_n 0, 0, 0) := by decide +kernel
theorem ri_125_31 : ro_ix 125 31 = some (31, .getfield 19, 10, 4) := by decide +kernel
theorem ri_125_34 : ro_ix 125 34 = some (34, .iload_n 1, 0, 0) := by decide +kernel
theorem ri_125_35 : ro_ix 125 35 = some (35, .aaload, 0, 0) := by decide +kernel
theorem ri_125_36 : ro_ix 125 36 = some (36, .aload_n 0, 0, 0) := by decide +kernel
theorem ri_125_37 : ro_ix 125 37 = some (37, .getfield 22, 10, 5) := by decide +kernel
theorem ri_125_40 : ro_ix 125 40 = some (40, .iload_n 1, 0, 0) := by decide +kernel
theorem ri_125_41 : ro_ix 125 41 = some (41, .aaload, 0, 0) := by decide +kernel
theorem ri_125_42 : ro_ix 125 42 = some (42, .iload_n 2, 0, 0) := by decide +kernel
theorem ri_125_43 : ro_ix 125 43 = some (43, .iload_n 3, 0, 0) := by decide +kernel
theorem ri_125_44 : ro_ix 125 44 = some (44, .iload_n 3, 0, 0) := by decide +kernel
theorem ri_125_45 : ro_ix 125 45 = some (45, .iload 4, 0, 0) := by decide +kernel
theorem ri_125_47 : ro_ix 125 47 = some (47, .invokestatic 140, 126, 0) := by decide +kernel
theorem ri_125_50 : ro_ix 125 50 = some (50, .return_, 0, 0) := by decide +kernel
/-- RefusedOnce$Ways.bound([I[IIIII)V -/
theorem rm_126 : (ro_m 126).2.2.1 = 8 ∧ (ro_m 126).2.2.2.1 = none ∧ (ro_m 126).2.2.2.2.1 = 10 ∧ (ro_m 126).2.2.2.2.2.1 = 6 := ⟨rfl, rfl, rfl, rfl⟩
theorem ri_126_0 : ro_ix 126 0 = some (0, .iload_n 2, 0, 0) := by decide +kernel
theorem ri_126_1 : ro_ix 126 1 = some (1, .ifCond .lt 15, 0, 0) := by decide +kernel
theorem ri_126_4 : ro_ix 126 4 = some (4, .iload_n 2, 0, 0) := by decide +kernel
theorem ri_126_5 : ro_ix 126 5 = some (5, .aload_n 0, 0, 0) := by decide +kernel
theorem ri_126_6 : ro_ix 126 6 = some (6, .arraylength, 0, 0) := by decide +kernel
theorem ri_126_7 : ro_ix 126 7 = some (7, .if_icmp .ge 9, 0, 0) := by decide +kernel
theorem ri_126_10 : ro_ix 126 10 = some (10, .iload_n 2, 0, 0) := by decide +kernel
theorem ri_126_11 : ro_ix 126 11 = some (11, .aload_n 1, 0, 0) := by decide +kernel
theorem ri_126_12 : ro_ix 126 12 = some (12, .arraylength, 0, 0) := by decide +kernel
theorem ri_126_13 : ro_ix 126 13 = some (13, .if_icmp .lt 4, 0, 0) := by decide +kernel
theorem ri_126_16 : ro_ix 126 16 = some (16, .return_, 0, 0) := by decide +kernel
theorem ri_126_17 : ro_ix 126 17 = some (17, .iconst 0, 0, 0) := by decide +kernel
theorem ri_126_18 : ro_ix 126 18 = some (18, .aload_n 0, 0, 0) := by decide +kernel
theorem ri_126_19 : ro_ix 126 19 = some (19, .iload_n 2, 0, 0) := by decide +kernel
theorem ri_126_20 : ro_ix 126 20 = some (20, .iaload, 0, 0) := by decide +kernel
theorem ri_126_21 : ro_ix 126 21 = some (21, .iload_n 3, 0, 0) := by decide +kernel
theorem ri_126_22 : ro_ix 126 22 = some (22, .iadd, 0, 0) := by decide +kernel
theorem ri_126_23 : ro_ix 126 23 = some (23, .invokestatic 144, 0, 3) := by decide +kernel
theorem ri_126_26 : ro_ix 126 26 = some (26, .istore 6, 0, 0) := by decide +kernel
theorem ri_126_28 : ro_ix 126 28 = some (28, .iload 5, 0, 0) := by decide +kernel
theorem ri_126_30 : ro_ix 126 30 = some (30, .aload_n 1, 0, 0) := by decide +kernel
theorem ri_126_31 : ro_ix 126 31 = some (31, .iload_n 2, 0, 0) := by decide +kernel
theorem ri_126_32 : ro_ix 126 32 = some (32, .iaload, 0, 0) := by decide +kernel
theorem ri_126_33 : ro_ix 126 33 = some (33, .iload 4, 0, 0) := by decide +kernel
theorem ri_126_35 : ro_ix 126 35 = some (35, .iadd, 0, 0) := by decide +kernel
theorem ri_126_36 : ro_ix 126 36 = some (36, .invokestatic 70, 1, 3) := by decide +kernel
theorem ri_126_39 : ro_ix 126 39 = some (39, .istore 7, 0, 0) := by decide +kernel
theorem ri_126_41 : ro_ix 126 41 = some (41, .aload_n 0, 0, 0) := by decide +kernel
theorem ri_126_42 : ro_ix 126 42 = some (42, .iload_n 2, 0, 0) := by decide +kernel
theorem ri_126_43 : ro_ix 126 43 = some (43, .iload 6, 0, 0) := by decide +kernel
theorem ri_126_45 : ro_ix 126 45 = some (45, .iload 7, 0, 0) := by decide +kernel
theorem ri_126_47 : ro_ix 126 47 = some (47, .if_icmp .le 8, 0, 0) := by decide +kernel
theorem ri_126_50 : ro_ix 126 50 = some (50, .bipush 99, 0, 0) := by decide +kernel
theorem ri_126_52 : ro_ix 126 52 = some (52, .goto 5, 0, 0) := by decide +kernel
theorem ri_126_55 : ro_ix 126 55 = some (55, .iload 6, 0, 0) := by decide +kernel
theorem ri_126_57 : ro_ix 126 57 = some (57, .iastore, 0, 0) := by decide +kernel
theorem ri_126_58 : ro_ix 126 58 = some (58, .aload_n 1, 0, 0) := by decide +kernel
theorem ri_126_59 : ro_ix 126 59 = some (59, .iload_n 2, 0, 0) := by decide +kernel
theorem ri_126_60 : ro_ix 126 60 = some (60, .iload 6, 0, 0) := by decide +kernel
theorem ri_126_62 : ro_ix 126 62 = some (62, .iload 7, 0, 0) := by decide +kernel
theorem ri_126_64 : ro_ix 126 64 = some (64, .if_icmp .le 8, 0, 0) := by decide +kernel
theorem ri_126_67 : ro_ix 126 67 = some (67, .bipush (-99), 0, 0) := by decide +kernel
theorem ri_126_69 : ro_ix 126 69 = some (69, .goto 5, 0, 0) := by decide +kernel
theorem ri_126_72 : ro_ix 126 72 = some (72, .iload 7, 0, 0) := by decide +kernel
theorem ri_126_74 : ro_ix 126 74 = some (74, .iastore, 0, 0) := by decide +kernel
theorem ri_126_75 : ro_ix 126 75 = some (75, .return_, 0, 0) := by decide +kernel
/-- RefusedOnce$Ways.widen(II)V -/
theorem rm_127 : (ro_m 127).2.2.1 = 3 ∧ (ro_m 127).2.2.2.1 = none ∧ (ro_m 127).2.2.2.2.1 = 10 ∧ (ro_m 127).2.2.2.2.2.1 = 2 := ⟨rfl, rfl, rfl, rfl⟩
theorem ri_127_0 : ro_ix 127 0 = some (0, .iload_n 1, 0, 0) := by decide +kernel
theorem ri_127_1 : ro_ix 127 1 = some (1, .ifCond .lt 49, 0, 0) := by decide +kernel
theorem ri_127_4 : ro_ix 127 4 = some (4, .iload_n 1, 0, 0) := by decide +kernel
theorem ri_127_5 : ro_ix 127 5 = some (5, .bipush 20, 0, 0) := by decide +kernel
theorem ri_127_7 : ro_ix 127 7 = some (7, .if_icmp .gt 43, 0, 0) := by decide +kernel
theorem ri_127_10 : ro_ix 127 10 = some (10, .aload_n 0, 0, 0) := by decide +kernel
theorem ri_127_11 : ro_ix 127 11 = some (11, .getfield 13, 10, 2) := by decide +kernel
theorem ri_127_14 : ro_ix 127 14 = some (14, .iload_n 1, 0, 0) := by decide +kernel
theorem ri_127_15 : ro_ix 127 15 = some (15, .aaload, 0, 0) := by decide +kernel
theorem ri_127_16 : ro_ix 127 16 = some (16, .aload_n 0, 0, 0) := by decide +kernel
theorem ri_127_17 : ro_ix 127 17 = some (17, .getfield 16, 10, 3) := by decide +kernel
theorem ri_127_20 : ro_ix 127 20 = some (20, .iload_n 1, 0, 0) := by decide +kernel
theorem ri_127_21 : ro_ix 127 21 = some (21, .aaload, 0, 0) := by decide +kernel
theorem ri_127_22 : ro_ix 127 22 = some (22, .iload_n 2, 0, 0) := by decide +kernel
theorem ri_127_23 : ro_ix 127 23 = some (23, .iconst (-1), 0, 0) := by decide +kernel
theorem ri_127_24 : ro_ix 127 24 = some (24, .iconst 0, 0, 0) := by decide +kernel
theorem ri_127_25 : ro_ix 127 25 = some (25, .bipush 19, 0, 0) := by decide +kernel
theorem ri_127_27 : ro_ix 127 27 = some (27, .invokestatic 140, 126, 0) := by decide +kernel
theorem ri_127_30 : ro_ix 127 30 = some (30, .aload_n 0, 0, 0) := by decide +kernel
theorem ri_127_31 : ro_ix 127 31 = some (31, .getfield 19, 10, 4) := by decide +kernel
theorem ri_127_34 : ro_ix 127 34 = some (34, .iload_n 1, 0, 0) := by decide +kernel
theorem ri_127_35 : ro_ix 127 35 = some (35, .aaload, 0, 0) := by decide +kernel
theorem ri_127_36 : ro_ix 127 36 = some (36, .aload_n 0, 0, 0) := by decide +kernel
theorem ri_127_37 : ro_ix 127 37 = some (37, .getfield 22, 10, 5) := by decide +kernel
theorem ri_127_40 : ro_ix 127 40 = some (40, .iload_n 1, 0, 0) := by decide +kernel
theorem ri_127_41 : ro_ix 127 41 = some (41, .aaload, 0, 0) := by decide +kernel
theorem ri_127_42 : ro_ix 127 42 = some (42, .iload_n 2, 0, 0) := by decide +kernel
theorem ri_127_43 : ro_ix 127 43 = some (43, .iconst 0, 0, 0) := by decide +kernel
theorem ri_127_44 : ro_ix 127 44 = some (44, .iconst (-1), 0, 0) := by decide +kernel
theorem ri_127_45 : ro_ix 127 45 = some (45, .bipush 19, 0, 0) := by decide +kernel
theorem ri_127_47 : ro_ix 127 47 = some (47, .invokestatic 140, 126, 0) := by decide +kernel
theorem ri_127_50 : ro_ix 127 50 = some (50, .return_, 0, 0) := by decide +kernel
/-- RefusedOnce$Ways.clear()V -/
theorem rm_128 : (ro_m 128).2.2.1 = 2 ∧ (ro_m 128).2.2.2.1 = none ∧ (ro_m 128).2.2.2.2.1 = 10 ∧ (ro_m 128).2.2.2.2.2.1 = 0 := ⟨rfl, rfl, rfl, rfl⟩
theorem ri_128_0 : ro_ix 128 0 = some (0, .aload_n 0, 0, 0) := by decide +kernel
theorem ri_128_1 : ro_ix 128 1 = some (1, .getfield 39, 10, 9) := by decide +kernel
theorem ri_128_4 : ro_ix 128 4 = some (4, .iconst 0, 0, 0) := by decide +kernel
theorem ri_128_5 : ro_ix 128 5 = some (5, .putfield 50, 6, 4) := by decide +kernel
theorem ri_128_8 : ro_ix 128 8 = some (8, .iconst 0, 0, 0) := by decide +kernel
theorem ri_128_9 : ro_ix 128 9 = some (9, .istore_n 1, 0, 0) := by decide +kernel
theorem ri_128_10 : ro_ix 128 10 = some (10, .iload_n 1, 0, 0) := by decide +kernel
theorem ri_128_11 : ro_ix 128 11 = some (11, .sipush 1024, 0, 0) := by decide +kernel
theorem ri_128_14 : ro_ix 128 14 = some (14, .if_icmp .ge 16, 0, 0) := by decide +kernel
theorem ri_128_17 : ro_ix 128 17 = some (17, .aload_n 0, 0, 0) := by decide +kernel
theorem ri_128_18 : ro_ix 128 18 = some (18, .getfield 25, 10, 6) := by decide +kernel
theorem ri_128_21 : ro_ix 128 21 = some (21, .iload_n 1, 0, 0) := by decide +kernel
theorem ri_128_22 : ro_ix 128 22 = some (22, .iconst 0, 0, 0) := by decide +kernel
theorem ri_128_23 : ro_ix 128 23 = some (23, .iastore, 0, 0) := by decide +kernel
theorem ri_128_24 : ro_ix 128 24 = some (24, .iinc 1 1, 0, 0) := by decide +kernel
theorem ri_128_27 : ro_ix 128 27 = some (27, .goto (-17), 0, 0) := by decide +kernel
theorem ri_128_30 : ro_ix 128 30 = some (30, .return_, 0, 0) := by decide +kernel
/-- RefusedOnce$Ways.startKey()J -/
theorem rm_129 : (ro_m 129).2.2.1 = 5 ∧ (ro_m 129).2.2.2.1 = (some .long) ∧ (ro_m 129).2.2.2.2.1 = 10 ∧ (ro_m 129).2.2.2.2.2.1 = 0 := ⟨rfl, rfl, rfl, rfl⟩
theorem ri_129_0 : ro_ix 129 0 = some (0, .lconst 0, 0, 0) := by decide +kernel
theorem ri_129_1 : ro_ix 129 1 = some (1, .lstore_n 1, 0, 0) := by decide +kernel
theorem ri_129_2 : ro_ix 129 2 = some (2, .iconst 0, 0, 0) := by decide +kernel
theorem ri_129_3 : ro_ix 129 3 = some (3, .istore_n 3, 0, 0) := by decide +kernel
theorem ri_129_4 : ro_ix 129 4 = some (4, .iload_n 3, 0, 0) := by decide +kernel
theorem ri_129_5 : ro_ix 129 5 = some (5, .bipush 6, 0, 0) := by decide +kernel
theorem ri_129_7 : ro_ix 129 7 = some (7, .if_icmp .ge 74, 0, 0) := by decide +kernel
theorem ri_129_10 : ro_ix 129 10 = some (10, .aload_n 0, 0, 0) := by decide +kernel
theorem ri_129_11 : ro_ix 129 11 = some (11, .getfield 42, 10, 0) := by decide +kernel
theorem ri_129_14 : ro_ix 129 14 = some (14, .iload_n 3, 0, 0) := by decide +kernel
theorem ri_129_15 : ro_ix 129 15 = some (15, .invokevirtual 102, 29, 0) := by decide +kernel
theorem ri_129_18 : ro_ix 129 18 = some (18, .istore 4, 0, 0) := by decide +kernel
theorem ri_129_20 : ro_ix 129 20 = some (20, .aload_n 0, 0, 0) := by decide +kernel
theorem ri_129_21 : ro_ix 129 21 = some (21, .iconst 0, 0, 0) := by decide +kernel
theorem ri_129_22 : ro_ix 129 22 = some (22, .lload_n 1, 0, 0) := by decide +kernel
theorem ri_129_23 : ro_ix 129 23 = some (23, .iload_n 3, 0, 0) := by decide +kernel
theorem ri_129_24 : ro_ix 129 24 = some (24, .iload 4, 0, 0) := by decide +kernel
theorem ri_129_26 : ro_ix 129 26 = some (26, .ifCond .eq 15, 0, 0) := by decide +kernel
theorem ri_129_29 : ro_ix 129 29 = some (29, .aload_n 0, 0, 0) := by decide +kernel
theorem ri_129_30 : ro_ix 129 30 = some (30, .getfield 42, 10, 0) := by decide +kernel
theorem ri_129_33 : ro_ix 129 33 = some (33, .iload_n 3, 0, 0) := by decide +kernel
theorem ri_129_34 : ro_ix 129 34 = some (34, .iconst 0, 0, 0) := by decide +kernel
theorem ri_129_35 : ro_ix 129 35 = some (35, .invokevirtual 147, 30, 0) := by decide +kernel
theorem ri_129_38 : ro_ix 129 38 = some (38, .goto 4, 0, 0) := by decide +kernel
theorem ri_129_41 : ro_ix 129 41 = some (41, .iconst 0, 0, 0) := by decide +kernel
theorem ri_129_42 : ro_ix 129 42 = some (42, .invokevirtual 150, 130, 0) := by decide +kernel
theorem ri_129_45 : ro_ix 129 45 = some (45, .lstore_n 1, 0, 0) := by decide +kernel
theorem ri_129_46 : ro_ix 129 46 = some (46, .aload_n 0, 0, 0) := by decide +kernel
theorem ri_129_47 : ro_ix 129 47 = some (47, .iconst 0, 0, 0) := by decide +kernel
theorem ri_129_48 : ro_ix 129 48 = some (48, .lload_n 1, 0, 0) := by decide +kernel
theorem ri_129_49 : ro_ix 129 49 = some (49, .bipush 6, 0, 0) := by decide +kernel
theorem ri_129_51 : ro_ix 129 51 = some (51, .iload_n 3, 0, 0) := by decide +kernel
theorem ri_129_52 : ro_ix 129 52 = some (52, .iadd, 0, 0) := by decide +kernel
theorem ri_129_53 : ro_ix 129 53 = some (53, .iload 4, 0, 0) := by decide +kernel
theorem ri_129_55 : ro_ix 129 55 = some (55, .ifCond .eq 15, 0, 0) := by decide +kernel
theorem ri_129_58 : ro_ix 129 58 = some (58, .aload_n 0, 0, 0) := by decide +kernel
theorem ri_129_59 : ro_ix 129 59 = some (59, .getfield 42, 10, 0) := by decide +kernel
theorem ri_129_62 : ro_ix 129 62 = some (62, .iload_n 3, 0, 0) := by decide +kernel
theorem ri_129_63 : ro_ix 129 63 = some (63, .iconst 1, 0, 0) := by decide +kernel
theorem ri_129_64 : ro_ix 129 64 = some (64, .invokevirtual 147, 30, 0) := by decide +kernel
theorem ri_129_67 : ro_ix 129 67 = some (67, .goto 4, 0, 0) := by decide +kernel
theorem ri_129_70 : ro_ix 129 70 = some (70, .iconst 0, 0, 0) := by decide +kernel
theorem ri_129_71 : ro_ix 129 71 = some (71, .invokevirtual 150, 130, 0) := by decide +kernel
theorem ri_129_74 : ro_ix 129 74 = some (74, .lstore_n 1, 0, 0) := by decide +kernel
theorem ri_129_75 : ro_ix 129 75 = some (75, .iinc 3 1, 0, 0) := by decide +kernel
theorem ri_129_78 : ro_ix 129 78 = some (78, .goto (-74), 0, 0) := by decide +kernel
theorem ri_129_81 : ro_ix 129 81 = some (81, .lload_n 1, 0, 0) := by decide +kernel
theorem ri_129_82 : ro_ix 129 82 = some (82, .lreturn, 0, 0) := by decide +kernel
/-- RefusedOnce$Ways.settle(IJII)J -/
theorem rm_130 : (ro_m 130).2.2.1 = 10 ∧ (ro_m 130).2.2.2.1 = (some .long) ∧ (ro_m 130).2.2.2.2.1 = 10 ∧ (ro_m 130).2.2.2.2.2.1 = 4 := ⟨rfl, rfl, rfl, rfl⟩
theorem ri_130_0 : ro_ix 130 0 = some (0, .lload_n 2, 0, 0) := by decide +kernel
theorem ri_130_1 : ro_ix 130 1 = some (1, .lconst 0, 0, 0) := by decide +kernel
theorem ri_130_2 : ro_ix 130 2 = some (2, .lcmp, 0, 0) := by decide +kernel
theorem ri_130_3 : ro_ix 130 3 = some (3, .ifCond .lt 25, 0, 0) := by decide +kernel
theorem ri_130_6 : ro_ix 130 6 = some (6, .iload_n 1, 0, 0) := by decide +kernel
theorem ri_130_7 : ro_ix 130 7 = some (7, .ifCond .lt 21, 0, 0) := by decide +kernel
theorem ri_130_10 : ro_ix 130 10 = some (10, .iload_n 1, 0, 0) := by decide +kernel
theorem ri_130_11 : ro_ix 130 11 = some (11, .bipush 20, 0, 0) := by decide +kernel
theorem ri_130_13 : ro_ix 130 13 = some (13, .if_icmp .gt 15, 0, 0) := by decide +kernel
theorem ri_130_16 : ro_ix 130 16 = some (16, .iload 4, 0, 0) := by decide +kernel
theorem ri_130_18 : ro_ix 130 18 = some (18, .ifCond .lt 10, 0, 0) := by decide +kernel
theorem ri_130_21 : ro_ix 130 21 = some (21, .iload 4, 0, 0) := by decide +kernel
theorem ri_130_23 : ro_ix 130 23 = some (23, .bipush 12, 0, 0) := by decide +kernel
theorem ri_130_25 : ro_ix 130 25 = some (25, .if_icmp .lt 7, 0, 0) := by decide +kernel
theorem ri_130_28 : ro_ix 130 28 = some (28, .ldc2_w 154, 0, 0) := by decide +kernel
theorem ri_130_31 : ro_ix 130 31 = some (31, .lreturn, 0, 0) := by decide +kernel
theorem ri_130_32 : ro_ix 130 32 = some (32, .iload 5, 0, 0) := by decide +kernel
theorem ri_130_34 : ro_ix 130 34 = some (34, .aload_n 0, 0, 0) := by decide +kernel
theorem ri_130_35 : ro_ix 130 35 = some (35, .getfield 13, 10, 2) := by decide +kernel
theorem ri_130_38 : ro_ix 130 38 = some (38, .iload_n 1, 0, 0) := by decide +kernel
theorem ri_130_39 : ro_ix 130 39 = some (39, .aaload, 0, 0) := by decide +kernel
theorem ri_130_40 : ro_ix 130 40 = some (40, .iload 4, 0, 0) := by decide +kernel
theorem ri_130_42 : ro_ix 130 42 = some (42, .iaload, 0, 0) := by decide +kernel
theorem ri_130_43 : ro_ix 130 43 = some (43, .if_icmp .lt 17, 0, 0) := by decide +kernel
theorem ri_130_46 : ro_ix 130 46 = some (46, .iload 5, 0, 0) := by decide +kernel
theorem ri_130_48 : ro_ix 130 48 = some (48, .aload_n 0, 0, 0) := by decide +kernel
theorem ri_130_49 : ro_ix 130 49 = some (49, .getfield 16, 10, 3) := by decide +kernel
theorem ri_130_52 : ro_ix 130 52 = some (52, .iload_n 1, 0, 0) := by decide +kernel
theorem ri_130_53 : ro_ix 130 53 = some (53, .aaload, 0, 0) := by decide +kernel
theorem ri_130_54 : ro_ix 130 54 = some (54, .iload 4, 0, 0) := by decide +kernel
theorem ri_130_56 : ro_ix 130 56 = some (56, .iaload, 0, 0) := by decide +kernel
theorem ri_130_57 : ro_ix 130 57 = some (57, .if_icmp .le 7, 0, 0) := by decide +kernel
theorem ri_130_60 : ro_ix 130 60 = some (60, .ldc2_w 154, 0, 0) := by decide +kernel
theorem ri_130_63 : ro_ix 130 63 = some (63, .lreturn, 0, 0) := by decide +kernel
theorem ri_130_64 : ro_ix 130 64 = some (64, .iload 5, 0, 0) := by decide +kernel
theorem ri_130_66 : ro_ix 130 66 = some (66, .aload_n 0, 0, 0) := by decide +kernel
theorem ri_130_67 : ro_ix 130 67 = some (67, .getfield 19, 10, 4) := by decide +kernel
theorem ri_130_70 : ro_ix 130 70 = some (70, .iload_n 1, 0, 0) := by decide +kernel
theorem ri_130_71 : ro_ix 130 71 = some (71, .aaload, 0, 0) := by decide +kernel
theorem ri_130_72 : ro_ix 130 72 = some (72, .iload 4, 0, 0) := by decide +kernel
theorem ri_130_74 : ro_ix 130 74 = some (74, .iaload, 0, 0) := by decide +kernel
theorem ri_130_75 : ro_ix 130 75 = some (75, .if_icmp .lt 21, 0, 0) := by decide +kernel
theorem ri_130_78 : ro_ix 130 78 = some (78, .iload 5, 0, 0) := by decide +kernel
theorem ri_130_80 : ro_ix 130 80 = some (80, .aload_n 0, 0, 0) := by decide +kernel
theorem ri_130_81 : ro_ix 130 81 = some (81, .getfield 22, 10, 5) := by decide +kernel
theorem ri_130_84 : ro_ix 130 84 = some (84, .iload_n 1, 0, 0) := by decide +kernel
theorem ri_130_85 : ro_ix 130 85 = some (85, .aaload, 0, 0) := by decide +kernel
theorem ri_130_86 : ro_ix 130 86 = some (86, .iload 4, 0, 0) := by decide +kernel
theorem ri_130_88 : ro_ix 130 88 = some (88, .iaload, 0, 0) := by decide +kernel
theorem ri_130_89 : ro_ix 130 89 = some (89, .if_icmp .gt 7, 0, 0) := by decide +kernel
theorem ri_130_92 : ro_ix 130 92 = some (92, .iconst 1, 0, 0) := by decide +kernel
theorem ri_130_93 : ro_ix 130 93 = some (93, .goto 4, 0, 0) := by decide +kernel
theorem ri_130_96 : ro_ix 130 96 = some (96, .iconst 0, 0, 0) := by decide +kernel
theorem ri_130_97 : ro_ix 130 97 = some (97, .istore 6, 0, 0) := by decide +kernel
theorem ri_130_99 : ro_ix 130 99 = some (99, .iload 6, 0, 0) := by decide +kernel
theorem ri_130_101 : ro_ix 130 101 = some (101, .ifCond .eq 9, 0, 0) := by decide +kernel
theorem ri_130_104 : ro_ix 130 104 = some (104, .ldc2_w 156, 0, 0) := by decide +kernel
theorem ri_130_107 : ro_ix 130 107 = some (107, .goto 6, 0, 0) := by decide +kernel
theorem ri_130_110 : ro_ix 130 110 = some (110, .iload 5, 0, 0) := by decide +kernel
theorem ri_130_112 : ro_ix 130 112 = some (112, .i2l, 0, 0) := by decide +kernel
theorem ri_130_113 : ro_ix 130 113 = some (113, .lstore 7, 0, 0) := by decide +kernel
theorem ri_130_115 : ro_ix 130 115 = some (115, .iconst 5, 0, 0) := by decide +kernel
theorem ri_130_116 : ro_ix 130 116 = some (116, .iload 4, 0, 0) := by decide +kernel
theorem ri_130_118 : ro_ix 130 118 = some (118, .imul, 0, 0) := by decide +kernel
theorem ri_130_119 : ro_ix 130 119 = some (119, .istore 9, 0, 0) := by decide +kernel
theorem ri_130_121 : ro_ix 130 121 = some (121, .lload_n 2, 0, 0) := by decide +kernel
theorem ri_130_122 : ro_ix 130 122 = some (122, .ldc2_w 156, 0, 0) := by decide +kernel
theorem ri_130_125 : ro_ix 130 125 = some (125, .iload 9, 0, 0) := by decide +kernel
theorem ri_130_127 : ro_ix 130 127 = some (127, .lshl, 0, 0) := by decide +kernel
theorem ri_130_128 : ro_ix 130 128 = some (128, .ldc2_w 154, 0, 0) := by decide +kernel
theorem ri_130_131 : ro_ix 130 131 = some (131, .lxor, 0, 0) := by decide +kernel
theorem ri_130_132 : ro_ix 130 132 = some (132, .land, 0, 0) := by decide +kernel
theorem ri_130_133 : ro_ix 130 133 = some (133, .lload 7, 0, 0) := by decide +kernel
theorem ri_130_135 : ro_ix 130 135 = some (135, .iload 9, 0, 0) := by decide +kernel
theorem ri_130_137 : ro_ix 130 137 = some (137, .lshl, 0, 0) := by decide +kernel
theorem ri_130_138 : ro_ix 130 138 = some (138, .lor, 0, 0) := by decide +kernel
theorem ri_130_139 : ro_ix 130 139 = some (139, .lreturn, 0, 0) := by decide +kernel
/-- RefusedOnce$Ways.reach(JIII)V -/
theorem rm_131 : (ro_m 131).2.2.1 = 9 ∧ (ro_m 131).2.2.2.1 = none ∧ (ro_m 131).2.2.2.2.1 = 10 ∧ (ro_m 131).2.2.2.2.2.1 = 4 := ⟨rfl, rfl, rfl, rfl⟩
theorem ri_131_0 : ro_ix 131 0 = some (0, .lload_n 1, 0, 0) := by decide +kernel
theorem ri_131_1 : ro_ix 131 1 = some (1, .invokestatic 166, 132, 0) := by decide +kernel
theorem ri_131_4 : ro_ix 131 4 = some (4, .istore 6, 0, 0) := by decide +kernel
theorem ri_131_6 : ro_ix 131 6 = some (6, .lload_n 1, 0, 0) := by decide +kernel
theorem ri_131_7 : ro_ix 131 7 = some (7, .lconst 0, 0, 0) := by decide +kernel
theorem ri_131_8 : ro_ix 131 8 = some (8, .lcmp, 0, 0) := by decide +kernel
theorem ri_131_9 : ro_ix 131 9 = some (9, .ifCond .lt 16, 0, 0) := by decide +kernel
theorem ri_131_12 : ro_ix 131 12 = some (12, .iload 6, 0, 0) := by decide +kernel
theorem ri_131_14 : ro_ix 131 14 = some (14, .ifCond .lt 11, 0, 0) := by decide +kernel
theorem ri_131_17 : ro_ix 131 17 = some (17, .iload 6, 0, 0) := by decide +kernel
theorem ri_131_19 : ro_ix 131 19 = some (19, .sipush 1024, 0, 0) := by decide +kernel
theorem ri_131_22 : ro_ix 131 22 = some (22, .if_icmp .lt 4, 0, 0) := by decide +kernel
theorem ri_131_25 : ro_ix 131 25 = some (25, .return_, 0, 0) := by decide +kernel
theorem ri_131_26 : ro_ix 131 26 = some (26, .aload_n 0, 0, 0) := by decide +kernel
theorem ri_131_27 : ro_ix 131 27 = some (27, .getfield 25, 10, 6) := by decide +kernel
theorem ri_131_30 : ro_ix 131 30 = some (30, .iload 6, 0, 0) := by decide +kernel
theorem ri_131_32 : ro_ix 131 32 = some (32, .iaload, 0, 0) := by decide +kernel
theorem ri_131_33 : ro_ix 131 33 = some (33, .iconst 1, 0, 0) := by decide +kernel
theorem ri_131_34 : ro_ix 131 34 = some (34, .isub, 0, 0) := by decide +kernel
theorem ri_131_35 : ro_ix 131 35 = some (35, .istore 7, 0, 0) := by decide +kernel
theorem ri_131_37 : ro_ix 131 37 = some (37, .iconst 0, 0, 0) := by decide +kernel
theorem ri_131_38 : ro_ix 131 38 = some (38, .istore 8, 0, 0) := by decide +kernel
theorem ri_131_40 : ro_ix 131 40 = some (40, .iload 8, 0, 0) := by decide +kernel
theorem ri_131_42 : ro_ix 131 42 = some (42, .sipush 8192, 0, 0) := by decide +kernel
theorem ri_131_45 : ro_ix 131 45 = some (45, .if_icmp .ge 115, 0, 0) := by decide +kernel
theorem ri_131_48 : ro_ix 131 48 = some (48, .iload 7, 0, 0) := by decide +kernel
theorem ri_131_50 : ro_ix 131 50 = some (50, .ifCond .lt 110, 0, 0) := by decide +kernel
theorem ri_131_53 : ro_ix 131 53 = some (53, .iload 7, 0, 0) := by decide +kernel
theorem ri_131_55 : ro_ix 131 55 = some (55, .aload_n 0, 0, 0) := by decide +kernel
theorem ri_131_56 : ro_ix 131 56 = some (56, .getfield 39, 10, 9) := by decide +kernel
theorem ri_131_59 : ro_ix 131 59 = some (59, .getfield 50, 6, 4) := by decide +kernel
theorem ri_131_62 : ro_ix 131 62 = some (62, .if_icmp .ge 98, 0, 0) := by decide +kernel
theorem ri_131_65 : ro_ix 131 65 = some (65, .iload 7, 0, 0) := by decide +kernel
theorem ri_131_67 : ro_ix 131 67 = some (67, .sipush 8192, 0, 0) := by decide +kernel
theorem ri_131_70 : ro_ix 131 70 = some (70, .if_icmp .ge 90, 0, 0) := by decide +kernel
theorem ri_131_73 : ro_ix 131 73 = some (73, .aload_n 0, 0, 0) := by decide +kernel
theorem ri_131_74 : ro_ix 131 74 = some (74, .getfield 39, 10, 9) := by decide +kernel
theorem ri_131_77 : ro_ix 131 77 = some (77, .getfield 158, 6, 0) := by decide +kernel
theorem ri_131_80 : ro_ix 131 80 = some (80, .iload 7, 0, 0) := by decide +kernel
theorem ri_131_82 : ro_ix 131 82 = some (82, .laload, 0, 0) := by decide +kernel
theorem ri_131_83 : ro_ix 131 83 = some (83, .lload_n 1, 0, 0) := by decide +kernel
theorem ri_131_84 : ro_ix 131 84 = some (84, .lcmp, 0, 0) := by decide +kernel
theorem ri_131_85 : ro_ix 131 85 = some (85, .ifCond .ne 58, 0, 0) := by decide +kernel
theorem ri_131_88 : ro_ix 131 88 = some (88, .aload_n 0, 0, 0) := by decide +kernel
theorem ri_131_89 : ro_ix 131 89 = some (89, .getfield 39, 10, 9) := by decide +kernel
theorem ri_131_92 : ro_ix 131 92 = some (92, .getfield 54, 6, 1) := by decide +kernel
theorem ri_131_95 : ro_ix 131 95 = some (95, .iload 7, 0, 0) := by decide +kernel
theorem ri_131_97 : ro_ix 131 97 = some (97, .dup2, 0, 0) := by decide +kernel
theorem ri_131_98 : ro_ix 131 98 = some (98, .iaload, 0, 0) := by decide +kernel
theorem ri_131_99 : ro_ix 131 99 = some (99, .iload_n 3, 0, 0) := by decide +kernel
theorem ri_131_100 : ro_ix 131 100 = some (100, .iadd, 0, 0) := by decide +kernel
theorem ri_131_101 : ro_ix 131 101 = some (101, .iastore, 0, 0) := by decide +kernel
theorem ri_131_102 : ro_ix 131 102 = some (102, .aload_n 0, 0, 0) := by decide +kernel
theorem ri_131_103 : ro_ix 131 103 = some (103, .getfield 39, 10, 9) := by decide +kernel
theorem ri_131_106 : ro_ix 131 106 = some (106, .getfield 57, 6, 2) := by decide +kernel
theorem ri_131_109 : ro_ix 131 109 = some (109, .iload 7, 0, 0) := by decide +kernel
theorem ri_131_111 : ro_ix 131 111 = some (111, .aload_n 0, 0, 0) := by decide +kernel
theorem ri_131_112 : ro_ix 131 112 = some (112, .getfield 39, 10, 9) := by decide +kernel
theorem ri_131_115 : ro_ix 131 115 = some (115, .getfield 57, 6, 2) := by decide +kernel
theorem ri_131_118 : ro_ix 131 118 = some (118, .iload 7, 0, 0) := by decide +kernel
theorem ri_131_120 : ro_ix 131 120 = some (120, .iaload, 0, 0) := by decide +kernel
theorem ri_131_121 : ro_ix 131 121 = some (121, .iload 4, 0, 0) := by decide +kernel
theorem ri_131_123 : ro_ix 131 123 = some (123, .invokestatic 70, 1, 3) := by decide +kernel
theorem ri_131_126 : ro_ix 131 126 = some (126, .iastore, 0, 0) := by decide +kernel
theorem ri_131_127 : ro_ix 131 127 = some (127, .aload_n 0, 0, 0) := by decide +kernel
theorem ri_131_128 : ro_ix 131 128 = some (128, .getfield 39, 10, 9) := by decide +kernel
theorem ri_131_131 : ro_ix 131 131 = some (131, .getfield 61, 6, 3) := by decide +kernel
theorem ri_131_134 : ro_ix 131 134 = some (134, .iload 7, 0, 0) := by decide +kernel
theorem ri_131_136 : ro_ix 131 136 = some (136, .dup2, 0, 0) := by decide +kernel
theorem ri_131_137 : ro_ix 131 137 = some (137, .iaload, 0, 0) := by decide +kernel
theorem ri_131_138 : ro_ix 131 138 = some (138, .iload 5, 0, 0) := by decide +kernel
theorem ri_131_140 : ro_ix 131 140 = some (140, .iand, 0, 0) := by decide +kernel
theorem ri_131_141 : ro_ix 131 141 = some (141, .iastore, 0, 0) := by decide +kernel
theorem ri_131_142 : ro_ix 131 142 = some (142, .return_, 0, 0) := by decide +kernel
theorem ri_131_143 : ro_ix 131 143 = some (143, .aload_n 0, 0, 0) := by decide +kernel
theorem ri_131_144 : ro_ix 131 144 = some (144, .getfield 29, 10, 7) := by decide +kernel
theorem ri_131_147 : ro_ix 131 147 = some (147, .iload 7, 0, 0) := by decide +kernel
theorem ri_131_149 : ro_ix 131 149 = some (149, .iaload, 0, 0) := by decide +kernel
theorem ri_131_150 : ro_ix 131 150 = some (150, .iconst 1, 0, 0) := by decide +kernel
theorem ri_131_151 : ro_ix 131 151 = some (151, .isub, 0, 0) := by decide +kernel
theorem ri_131_152 : ro_ix 131 152 = some (152, .istore 7, 0, 0) := by decide +kernel
theorem ri_131_154 : ro_ix 131 154 = some (154, .iinc 8 1, 0, 0) := by decide +kernel
theorem ri_131_157 : ro_ix 131 157 = some (157, .goto (-117), 0, 0) := by decide +kernel
theorem ri_131_160 : ro_ix 131 160 = some (160, .aload_n 0, 0, 0) := by decide +kernel
theorem ri_131_161 : ro_ix 131 161 = some (161, .getfield 39, 10, 9) := by decide +kernel
theorem ri_131_164 : ro_ix 131 164 = some (164, .getfield 50, 6, 4) := by decide +kernel
theorem ri_131_167 : ro_ix 131 167 = some (167, .istore 8, 0, 0) := by decide +kernel
theorem ri_131_169 : ro_ix 131 169 = some (169, .iload 8, 0, 0) := by decide +kernel
theorem ri_131_171 : ro_ix 131 171 = some (171, .ifCond .lt 11, 0, 0) := by decide +kernel
theorem ri_131_174 : ro_ix 131 174 = some (174, .iload 8, 0, 0) := by decide +kernel
theorem ri_131_176 : ro_ix 131 176 = some (176, .sipush 8192, 0, 0) := by decide +kernel
theorem ri_131_179 : ro_ix 131 179 = some (179, .if_icmp .lt 4, 0, 0) := by decide +kernel
theorem ri_131_182 : ro_ix 131 182 = some (182, .return_, 0, 0) := by decide +kernel
theorem ri_131_183 : ro_ix 131 183 = some (183, .aload_n 0, 0, 0) := by decide +kernel
theorem ri_131_184 : ro_ix 131 184 = some (184, .getfield 39, 10, 9) := by decide +kernel
theorem ri_131_187 : ro_ix 131 187 = some (187, .getfield 158, 6, 0) := by decide +kernel
theorem ri_131_190 : ro_ix 131 190 = some (190, .iload 8, 0, 0) := by decide +kernel
theorem ri_131_192 : ro_ix 131 192 = some (192, .lload_n 1, 0, 0) := by decide +kernel
theorem ri_131_193 : ro_ix 131 193 = some (193, .lastore, 0, 0) := by decide +kernel
theorem ri_131_194 : ro_ix 131 194 = some (194, .aload_n 0, 0, 0) := by decide +kernel
theorem ri_131_195 : ro_ix 131 195 = some (195, .getfield 39, 10, 9) := by decide +kernel
theorem ri_131_198 : ro_ix 131 198 = some (198, .getfield 54, 6, 1) := by decide +kernel
theorem ri_131_201 : ro_ix 131 201 = some (201, .iload 8, 0, 0) := by decide +kernel
theorem ri_131_203 : ro_ix 131 203 = some (203, .iload_n 3, 0, 0) := by decide +kernel
theorem ri_131_204 : ro_ix 131 204 = some (204, .iastore, 0, 0) := by decide +kernel
theorem ri_131_205 : ro_ix 131 205 = some (205, .aload_n 0, 0, 0) := by decide +kernel
theorem ri_131_206 : ro_ix 131 206 = some (206, .getfield 39, 10, 9) := by decide +kernel
theorem ri_131_209 : ro_ix 131 209 = some (209, .getfield 57, 6, 2) := by decide +kernel
theorem ri_131_212 : ro_ix 131 212 = some (212, .iload 8, 0, 0) := by decide +kernel
theorem ri_131_214 : ro_ix 131 214 = some (214, .iload 4, 0, 0) := by decide +kernel
theorem ri_131_216 : ro_ix 131 216 = some (216, .iastore, 0, 0) := by decide +kernel
theorem ri_131_217 : ro_ix 131 217 = some (217, .aload_n 0, 0, 0) := by decide +kernel
theorem ri_131_218 : ro_ix 131 218 = some (218, .getfield 39, 10, 9) := by decide +kernel
theorem ri_131_221 : ro_ix 131 221 = some (221, .getfield 61, 6, 3) := by decide +kernel
theorem ri_131_224 : ro_ix 131 224 = some (224, .iload 8, 0, 0) := by decide +kernel
theorem ri_131_226 : ro_ix 131 226 = some (226, .iload 5, 0, 0) := by decide +kernel
theorem ri_131_228 : ro_ix 131 228 = some (228, .iastore, 0, 0) := by decide +kernel
theorem ri_131_229 : ro_ix 131 229 = some (229, .aload_n 0, 0, 0) := by decide +kernel
theorem ri_131_230 : ro_ix 131 230 = some (230, .getfield 29, 10, 7) := by decide +kernel
theorem ri_131_233 : ro_ix 131 233 = some (233, .iload 8, 0, 0) := by decide +kernel
theorem ri_131_235 : ro_ix 131 235 = some (235, .aload_n 0, 0, 0) := by decide +kernel
theorem ri_131_236 : ro_ix 131 236 = some (236, .getfield 25, 10, 6) := by decide +kernel
theorem ri_131_239 : ro_ix 131 239 = some (239, .iload 6, 0, 0) := by decide +kernel
theorem ri_131_241 : ro_ix 131 241 = some (241, .iaload, 0, 0) := by decide +kernel
theorem ri_131_242 : ro_ix 131 242 = some (242, .iastore, 0, 0) := by decide +kernel
theorem ri_131_243 : ro_ix 131 243 = some (243, .aload_n 0, 0, 0) := by decide +kernel
theorem ri_131_244 : ro_ix 131 244 = some (244, .getfield 39, 10, 9) := by decide +kernel
theorem ri_131_247 : ro_ix 131 247 = some (247, .iload 8, 0, 0) := by decide +kernel
theorem ri_131_249 : ro_ix 131 249 = some (249, .iconst 1, 0, 0) := by decide +kernel
theorem ri_131_250 : ro_ix 131 250 = some (250, .iadd, 0, 0) := by decide +kernel
theorem ri_131_251 : ro_ix 131 251 = some (251, .putfield 50, 6, 4) := by decide +kernel
theorem ri_131_254 : ro_ix 131 254 = some (254, .aload_n 0, 0, 0) := by decide +kernel
theorem ri_131_255 : ro_ix 131 255 = some (255, .getfield 25, 10, 6) := by decide +kernel
theorem ri_131_258 : ro_ix 131 258 = some (258, .iload 6, 0, 0) := by decide +kernel
theorem ri_131_260 : ro_ix 131 260 = some (260, .aload_n 0, 0, 0) := by decide +kernel
theorem ri_131_261 : ro_ix 131 261 = some (261, .getfield 39, 10, 9) := by decide +kernel
theorem ri_131_264 : ro_ix 131 264 = some (264, .getfield 50, 6, 4) := by decide +kernel
theorem ri_131_267 : ro_ix 131 267 = some (267, .iastore, 0, 0) := by decide +kernel
theorem ri_131_268 : ro_ix 131 268 = some (268, .return_, 0, 0) := by decide +kernel
/-- RefusedOnce$Ways.headOf(J)I -/
theorem rm_132 : (ro_m 132).2.2.1 = 4 ∧ (ro_m 132).2.2.2.1 = (some .int) ∧ (ro_m 132).2.2.2.2.1 = 10 ∧ (ro_m 132).2.2.2.2.2.1 = 1 := ⟨rfl, rfl, rfl, rfl⟩
theorem ri_132_0 : ro_ix 132 0 = some (0, .lload_n 0, 0, 0) := by decide +kernel
theorem ri_132_1 : ro_ix 132 1 = some (1, .lload_n 0, 0, 0) := by decide +kernel
theorem ri_132_2 : ro_ix 132 2 = some (2, .bipush 32, 0, 0) := by decide +kernel
theorem ri_132_4 : ro_ix 132 4 = some (4, .lushr, 0, 0) := by decide +kernel
theorem ri_132_5 : ro_ix 132 5 = some (5, .lxor, 0, 0) := by decide +kernel
theorem ri_132_6 : ro_ix 132 6 = some (6, .ldc2_w 170, 0, 0) := by decide +kernel
theorem ri_132_9 : ro_ix 132 9 = some (9, .lmul, 0, 0) := by decide +kernel
theorem ri_132_10 : ro_ix 132 10 = some (10, .lstore_n 2, 0, 0) := by decide +kernel
theorem ri_132_11 : ro_ix 132 11 = some (11, .lload_n 2, 0, 0) := by decide +kernel
theorem ri_132_12 : ro_ix 132 12 = some (12, .bipush 40, 0, 0) := by decide +kernel
theorem ri_132_14 : ro_ix 132 14 = some (14, .lushr, 0, 0) := by decide +kernel
theorem ri_132_15 : ro_ix 132 15 = some (15, .l2i, 0, 0) := by decide +kernel
theorem ri_132_16 : ro_ix 132 16 = some (16, .sipush 1023, 0, 0) := by decide +kernel
theorem ri_132_19 : ro_ix 132 19 = some (19, .iand, 0, 0) := by decide +kernel
theorem ri_132_20 : ro_ix 132 20 = some (20, .ireturn, 0, 0) := by decide +kernel
/-- RefusedOnce$Ways.turn()V -/
theorem rm_133 : (ro_m 133).2.2.1 = 2 ∧ (ro_m 133).2.2.2.1 = none ∧ (ro_m 133).2.2.2.2.1 = 10 ∧ (ro_m 133).2.2.2.2.2.1 = 0 := ⟨rfl, rfl, rfl, rfl⟩
theorem ri_133_0 : ro_ix 133 0 = some (0, .aload_n 0, 0, 0) := by decide +kernel
theorem ri_133_1 : ro_ix 133 1 = some (1, .getfield 35, 10, 8) := by decide +kernel
theorem ri_133_4 : ro_ix 133 4 = some (4, .astore_n 1, 0, 0) := by decide +kernel
theorem ri_133_5 : ro_ix 133 5 = some (5, .aload_n 0, 0, 0) := by decide +kernel
theorem ri_133_6 : ro_ix 133 6 = some (6, .aload_n 0, 0, 0) := by decide +kernel
theorem ri_133_7 : ro_ix 133 7 = some (7, .getfield 39, 10, 9) := by decide +kernel
theorem ri_133_10 : ro_ix 133 10 = some (10, .putfield 35, 10, 8) := by decide +kernel
theorem ri_133_13 : ro_ix 133 13 = some (13, .aload_n 0, 0, 0) := by decide +kernel
theorem ri_133_14 : ro_ix 133 14 = some (14, .aload_n 1, 0, 0) := by decide +kernel
theorem ri_133_15 : ro_ix 133 15 = some (15, .putfield 39, 10, 9) := by decide +kernel
theorem ri_133_18 : ro_ix 133 18 = some (18, .return_, 0, 0) := by decide +kernel
/-- RefusedOnce$Ways.goOn(II)V -/
theorem rm_134 : (ro_m 134).2.2.1 = 15 ∧ (ro_m 134).2.2.2.1 = none ∧ (ro_m 134).2.2.2.2.1 = 10 ∧ (ro_m 134).2.2.2.2.2.1 = 2 := ⟨rfl, rfl, rfl, rfl⟩
theorem ri_134_0 : ro_ix 134 0 = some (0, .iload_n 1, 0, 0) := by decide +kernel
theorem ri_134_1 : ro_ix 134 1 = some (1, .ifCond .lt 20, 0, 0) := by decide +kernel
theorem ri_134_4 : ro_ix 134 4 = some (4, .iload_n 1, 0, 0) := by decide +kernel
theorem ri_134_5 : ro_ix 134 5 = some (5, .sipush 8192, 0, 0) := by decide +kernel
theorem ri_134_8 : ro_ix 134 8 = some (8, .if_icmp .ge 13, 0, 0) := by decide +kernel
theorem ri_134_11 : ro_ix 134 11 = some (11, .iload_n 2, 0, 0) := by decide +kernel
theorem ri_134_12 : ro_ix 134 12 = some (12, .ifCond .lt 9, 0, 0) := by decide +kernel
theorem ri_134_15 : ro_ix 134 15 = some (15, .iload_n 2, 0, 0) := by decide +kernel
theorem ri_134_16 : ro_ix 134 16 = some (16, .bipush 20, 0, 0) := by decide +kernel
theorem ri_134_18 : ro_ix 134 18 = some (18, .if_icmp .lt 4, 0, 0) := by decide +kernel
theorem ri_134_21 : ro_ix 134 21 = some (21, .return_, 0, 0) := by decide +kernel
theorem ri_134_22 : ro_ix 134 22 = some (22, .iload_n 2, 0, 0) := by decide +kernel
theorem ri_134_23 : ro_ix 134 23 = some (23, .iconst 1, 0, 0) := by decide +kernel
theorem ri_134_24 : ro_ix 134 24 = some (24, .iadd, 0, 0) := by decide +kernel
theorem ri_134_25 : ro_ix 134 25 = some (25, .istore_n 3, 0, 0) := by decide +kernel
theorem ri_134_26 : ro_ix 134 26 = some (26, .aload_n 0, 0, 0) := by decide +kernel
theorem ri_134_27 : ro_ix 134 27 = some (27, .getfield 46, 10, 1) := by decide +kernel
theorem ri_134_30 : ro_ix 134 30 = some (30, .iload_n 2, 0, 0) := by decide +kernel
theorem ri_134_31 : ro_ix 134 31 = some (31, .invokevirtual 125, 69, 0) := by decide +kernel
theorem ri_134_34 : ro_ix 134 34 = some (34, .istore 4, 0, 0) := by decide +kernel
theorem ri_134_36 : ro_ix 134 36 = some (36, .aload_n 0, 0, 0) := by decide +kernel
theorem ri_134_37 : ro_ix 134 37 = some (37, .getfield 46, 10, 1) := by decide +kernel
theorem ri_134_40 : ro_ix 134 40 = some (40, .iload_n 2, 0, 0) := by decide +kernel
theorem ri_134_41 : ro_ix 134 41 = some (41, .invokevirtual 128, 70, 0) := by decide +kernel
theorem ri_134_44 : ro_ix 134 44 = some (44, .istore 5, 0, 0) := by decide +kernel
theorem ri_134_46 : ro_ix 134 46 = some (46, .bipush 6, 0, 0) := by decide +kernel
theorem ri_134_48 : ro_ix 134 48 = some (48, .iload 4, 0, 0) := by decide +kernel
theorem ri_134_50 : ro_ix 134 50 = some (50, .iadd, 0, 0) := by decide +kernel
theorem ri_134_51 : ro_ix 134 51 = some (51, .istore 6, 0, 0) := by decide +kernel
theorem ri_134_53 : ro_ix 134 53 = some (53, .bipush 6, 0, 0) := by decide +kernel
theorem ri_134_55 : ro_ix 134 55 = some (55, .iload 5, 0, 0) := by decide +kernel
theorem ri_134_57 : ro_ix 134 57 = some (57, .iadd, 0, 0) := by decide +kernel
theorem ri_134_58 : ro_ix 134 58 = some (58, .istore 7, 0, 0) := by decide +kernel
theorem ri_134_60 : ro_ix 134 60 = some (60, .aload_n 0, 0, 0) := by decide +kernel
theorem ri_134_61 : ro_ix 134 61 = some (61, .getfield 35, 10, 8) := by decide +kernel
theorem ri_134_64 : ro_ix 134 64 = some (64, .getfield 158, 6, 0) := by decide +kernel
theorem ri_134_67 : ro_ix 134 67 = some (67, .iload_n 1, 0, 0) := by decide +kernel
theorem ri_134_68 : ro_ix 134 68 = some (68, .laload, 0, 0) := by decide +kernel
theorem ri_134_69 : ro_ix 134 69 = some (69, .lstore 8, 0, 0) := by decide +kernel
theorem ri_134_71 : ro_ix 134 71 = some (71, .aload_n 0, 0, 0) := by decide +kernel
theorem ri_134_72 : ro_ix 134 72 = some (72, .getfield 46, 10, 1) := by decide +kernel
theorem ri_134_75 : ro_ix 134 75 = some (75, .iload_n 2, 0, 0) := by decide +kernel
theorem ri_134_76 : ro_ix 134 76 = some (76, .invokevirtual 131, 71, 0) := by decide +kernel
theorem ri_134_79 : ro_ix 134 79 = some (79, .ifCond .ne 57, 0, 0) := by decide +kernel
theorem ri_134_82 : ro_ix 134 82 = some (82, .aload_n 0, 0, 0) := by decide +kernel
theorem ri_134_83 : ro_ix 134 83 = some (83, .iload_n 3, 0, 0) := by decide +kernel
theorem ri_134_84 : ro_ix 134 84 = some (84, .aload_n 0, 0, 0) := by decide +kernel
theorem ri_134_85 : ro_ix 134 85 = some (85, .iload_n 3, 0, 0) := by decide +kernel
theorem ri_134_86 : ro_ix 134 86 = some (86, .lload 8, 0, 0) := by decide +kernel
theorem ri_134_88 : ro_ix 134 88 = some (88, .iload 6, 0, 0) := by decide +kernel
theorem ri_134_90 : ro_ix 134 90 = some (90, .iconst (-1), 0, 0) := by decide +kernel
theorem ri_134_91 : ro_ix 134 91 = some (91, .invokevirtual 162, 135, 0) := by decide +kernel
theorem ri_134_94 : ro_ix 134 94 = some (94, .iload 7, 0, 0) := by decide +kernel
theorem ri_134_96 : ro_ix 134 96 = some (96, .iconst 1, 0, 0) := by decide +kernel
theorem ri_134_97 : ro_ix 134 97 = some (97, .invokevirtual 162, 135, 0) := by decide +kernel
theorem ri_134_100 : ro_ix 134 100 = some (100, .lstore 8, 0, 0) := by decide +kernel
theorem ri_134_102 : ro_ix 134 102 = some (102, .aload_n 0, 0, 0) := by decide +kernel
theorem ri_134_103 : ro_ix 134 103 = some (103, .lload 8, 0, 0) := by decide +kernel
theorem ri_134_105 : ro_ix 134 105 = some (105, .aload_n 0, 0, 0) := by decide +kernel
theorem ri_134_106 : ro_ix 134 106 = some (106, .getfield 35, 10, 8) := by decide +kernel
theorem ri_134_109 : ro_ix 134 109 = some (109, .getfield 54, 6, 1) := by decide +kernel
theorem ri_134_112 : ro_ix 134 112 = some (112, .iload_n 1, 0, 0) := by decide +kernel
theorem ri_134_113 : ro_ix 134 113 = some (113, .iaload, 0, 0) := by decide +kernel
theorem ri_134_114 : ro_ix 134 114 = some (114, .aload_n 0, 0, 0) := by decide +kernel
theorem ri_134_115 : ro_ix 134 115 = some (115, .getfield 35, 10, 8) := by decide +kernel
theorem ri_134_118 : ro_ix 134 118 = some (118, .getfield 57, 6, 2) := by decide +kernel
theorem ri_134_121 : ro_ix 134 121 = some (121, .iload_n 1, 0, 0) := by decide +kernel
theorem ri_134_122 : ro_ix 134 122 = some (122, .iaload, 0, 0) := by decide +kernel
theorem ri_134_123 : ro_ix 134 123 = some (123, .aload_n 0, 0, 0) := by decide +kernel
theorem ri_134_124 : ro_ix 134 124 = some (124, .getfield 35, 10, 8) := by decide +kernel
theorem ri_134_127 : ro_ix 134 127 = some (127, .getfield 61, 6, 3) := by decide +kernel
theorem ri_134_130 : ro_ix 134 130 = some (130, .iload_n 1, 0, 0) := by decide +kernel
theorem ri_134_131 : ro_ix 134 131 = some (131, .iaload, 0, 0) := by decide +kernel
theorem ri_134_132 : ro_ix 134 132 = some (132, .invokevirtual 91, 131, 0) := by decide +kernel
theorem ri_134_135 : ro_ix 134 135 = some (135, .return_, 0, 0) := by decide +kernel
theorem ri_134_136 : ro_ix 134 136 = some (136, .aload_n 0, 0, 0) := by decide +kernel
theorem ri_134_137 : ro_ix 134 137 = some (137, .iload_n 3, 0, 0) := by decide +kernel
theorem ri_134_138 : ro_ix 134 138 = some (138, .lload 8, 0, 0) := by decide +kernel
theorem ri_134_140 : ro_ix 134 140 = some (140, .iload 4, 0, 0) := by decide +kernel
theorem ri_134_142 : ro_ix 134 142 = some (142, .iconst (-1), 0, 0) := by decide +kernel
theorem ri_134_143 : ro_ix 134 143 = some (143, .invokevirtual 162, 135, 0) := by decide +kernel
theorem ri_134_146 : ro_ix 134 146 = some (146, .lstore 8, 0, 0) := by decide +kernel
theorem ri_134_148 : ro_ix 134 148 = some (148, .aload_n 0, 0, 0) := by decide +kernel
theorem ri_134_149 : ro_ix 134 149 = some (149, .iload_n 3, 0, 0) := by decide +kernel
theorem ri_134_150 : ro_ix 134 150 = some (150, .aload_n 0, 0, 0) := by decide +kernel
theorem ri_134_151 : ro_ix 134 151 = some (151, .iload_n 3, 0, 0) := by decide +kernel
theorem ri_134_152 : ro_ix 134 152 = some (152, .lload 8, 0, 0) := by decide +kernel
theorem ri_134_154 : ro_ix 134 154 = some (154, .iload 5, 0, 0) := by decide +kernel
theorem ri_134_156 : ro_ix 134 156 = some (156, .iconst 1, 0, 0) := by decide +kernel
theorem ri_134_157 : ro_ix 134 157 = some (157, .invokevirtual 162, 135, 0) := by decide +kernel
theorem ri_134_160 : ro_ix 134 160 = some (160, .iload 6, 0, 0) := by decide +kernel
theorem ri_134_162 : ro_ix 134 162 = some (162, .iconst 0, 0, 0) := by decide +kernel
theorem ri_134_163 : ro_ix 134 163 = some (163, .invokevirtual 162, 135, 0) := by decide +kernel
theorem ri_134_166 : ro_ix 134 166 = some (166, .lstore 10, 0, 0) := by decide +kernel
theorem ri_134_168 : ro_ix 134 168 = some (168, .aload_n 0, 0, 0) := by decide +kernel
theorem ri_134_169 : ro_ix 134 169 = some (169, .lload 10, 0, 0) := by decide +kernel
theorem ri_134_171 : ro_ix 134 171 = some (171, .aload_n 0, 0, 0) := by decide +kernel
theorem ri_134_172 : ro_ix 134 172 = some (172, .getfield 35, 10, 8) := by decide +kernel
theorem ri_134_175 : ro_ix 134 175 = some (175, .getfield 54, 6, 1) := by decide +kernel
theorem ri_134_178 : ro_ix 134 178 = some (178, .iload_n 1, 0, 0) := by decide +kernel
theorem ri_134_179 : ro_ix 134 179 = some (179, .iaload, 0, 0) := by decide +kernel
theorem ri_134_180 : ro_ix 134 180 = some (180, .aload_n 0, 0, 0) := by decide +kernel
theorem ri_134_181 : ro_ix 134 181 = some (181, .getfield 35, 10, 8) := by decide +kernel
theorem ri_134_184 : ro_ix 134 184 = some (184, .getfield 57, 6, 2) := by decide +kernel
theorem ri_134_187 : ro_ix 134 187 = some (187, .iload_n 1, 0, 0) := by decide +kernel
theorem ri_134_188 : ro_ix 134 188 = some (188, .iaload, 0, 0) := by decide +kernel
theorem ri_134_189 : ro_ix 134 189 = some (189, .aload_n 0, 0, 0) := by decide +kernel
theorem ri_134_190 : ro_ix 134 190 = some (190, .getfield 35, 10, 8) := by decide +kernel
theorem ri_134_193 : ro_ix 134 193 = some (193, .getfield 61, 6, 3) := by decide +kernel
theorem ri_134_196 : ro_ix 134 196 = some (196, .iload_n 1, 0, 0) := by decide +kernel
theorem ri_134_197 : ro_ix 134 197 = some (197, .iaload, 0, 0) := by decide +kernel
theorem ri_134_198 : ro_ix 134 198 = some (198, .invokevirtual 91, 131, 0) := by decide +kernel
theorem ri_134_201 : ro_ix 134 201 = some (201, .aload_n 0, 0, 0) := by decide +kernel
theorem ri_134_202 : ro_ix 134 202 = some (202, .iload_n 3, 0, 0) := by decide +kernel
theorem ri_134_203 : ro_ix 134 203 = some (203, .aload_n 0, 0, 0) := by decide +kernel
theorem ri_134_204 : ro_ix 134 204 = some (204, .iload_n 3, 0, 0) := by decide +kernel
theorem ri_134_205 : ro_ix 134 205 = some (205, .lload 8, 0, 0) := by decide +kernel
theorem ri_134_207 : ro_ix 134 207 = some (207, .iload 5, 0, 0) := by decide +kernel
theorem ri_134_209 : ro_ix 134 209 = some (209, .iconst 0, 0, 0) := by decide +kernel
theorem ri_134_210 : ro_ix 134 210 = some (210, .invokevirtual 162, 135, 0) := by decide +kernel
theorem ri_134_213 : ro_ix 134 213 = some (213, .iload 6, 0, 0) := by decide +kernel
theorem ri_134_215 : ro_ix 134 215 = some (215, .iconst 1, 0, 0) := by decide +kernel
theorem ri_134_216 : ro_ix 134 216 = some (216, .invokevirtual 162, 135, 0) := by decide +kernel
theorem ri_134_219 : ro_ix 134 219 = some (219, .lstore 12, 0, 0) := by decide +kernel
theorem ri_134_221 : ro_ix 134 221 = some (221, .iconst 1, 0, 0) := by decide +kernel
theorem ri_134_222 : ro_ix 134 222 = some (222, .iload_n 2, 0, 0) := by decide +kernel
theorem ri_134_223 : ro_ix 134 223 = some (223, .ishl, 0, 0) := by decide +kernel
theorem ri_134_224 : ro_ix 134 224 = some (224, .istore 14, 0, 0) := by decide +kernel
theorem ri_134_226 : ro_ix 134 226 = some (226, .aload_n 0, 0, 0) := by decide +kernel
theorem ri_134_227 : ro_ix 134 227 = some (227, .lload 12, 0, 0) := by decide +kernel
theorem ri_134_229 : ro_ix 134 229 = some (229, .aload_n 0, 0, 0) := by decide +kernel
theorem ri_134_230 : ro_ix 134 230 = some (230, .getfield 35, 10, 8) := by decide +kernel
theorem ri_134_233 : ro_ix 134 233 = some (233, .getfield 54, 6, 1) := by decide +kernel
theorem ri_134_236 : ro_ix 134 236 = some (236, .iload_n 1, 0, 0) := by decide +kernel
theorem ri_134_237 : ro_ix 134 237 = some (237, .iaload, 0, 0) := by decide +kernel
theorem ri_134_238 : ro_ix 134 238 = some (238, .aload_n 0, 0, 0) := by decide +kernel
theorem ri_134_239 : ro_ix 134 239 = some (239, .getfield 35, 10, 8) := by decide +kernel
theorem ri_134_242 : ro_ix 134 242 = some (242, .getfield 57, 6, 2) := by decide +kernel
theorem ri_134_245 : ro_ix 134 245 = some (245, .iload_n 1, 0, 0) := by decide +kernel
theorem ri_134_246 : ro_ix 134 246 = some (246, .iaload, 0, 0) := by decide +kernel
theorem ri_134_247 : ro_ix 134 247 = some (247, .ldc 165, 0, 0) := by decide +kernel
theorem ri_134_249 : ro_ix 134 249 = some (249, .iadd, 0, 0) := by decide +kernel
theorem ri_134_250 : ro_ix 134 250 = some (250, .iload 14, 0, 0) := by decide +kernel
theorem ri_134_252 : ro_ix 134 252 = some (252, .iadd, 0, 0) := by decide +kernel
theorem ri_134_253 : ro_ix 134 253 = some (253, .aload_n 0, 0, 0) := by decide +kernel
theorem ri_134_254 : ro_ix 134 254 = some (254, .getfield 35, 10, 8) := by decide +kernel
theorem ri_134_257 : ro_ix 134 257 = some (257, .getfield 61, 6, 3) := by decide +kernel
theorem ri_134_260 : ro_ix 134 260 = some (260, .iload_n 1, 0, 0) := by decide +kernel
theorem ri_134_261 : ro_ix 134 261 = some (261, .iaload, 0, 0) := by decide +kernel
theorem ri_134_262 : ro_ix 134 262 = some (262, .iload 14, 0, 0) := by decide +kernel
theorem ri_134_264 : ro_ix 134 264 = some (264, .ior, 0, 0) := by decide +kernel
theorem ri_134_265 : ro_ix 134 265 = some (265, .invokevirtual 91, 131, 0) := by decide +kernel
theorem ri_134_268 : ro_ix 134 268 = some (268, .return_, 0, 0) := by decide +kernel
/-- RefusedOnce$Ways.moved(IJII)J -/
theorem rm_135 : (ro_m 135).2.2.1 = 7 ∧ (ro_m 135).2.2.2.1 = (some .long) ∧ (ro_m 135).2.2.2.2.1 = 10 ∧ (ro_m 135).2.2.2.2.2.1 = 4 := ⟨rfl, rfl, rfl, rfl⟩
theorem ri_135_0 : ro_ix 135 0 = some (0, .lload_n 2, 0, 0) := by decide +kernel
theorem ri_135_1 : ro_ix 135 1 = some (1, .lconst 0, 0, 0) := by decide +kernel
theorem ri_135_2 : ro_ix 135 2 = some (2, .lcmp, 0, 0) := by decide +kernel
theorem ri_135_3 : ro_ix 135 3 = some (3, .ifCond .lt 15, 0, 0) := by decide +kernel
theorem ri_135_6 : ro_ix 135 6 = some (6, .iload 4, 0, 0) := by decide +kernel
theorem ri_135_8 : ro_ix 135 8 = some (8, .ifCond .lt 10, 0, 0) := by decide +kernel
theorem ri_135_11 : ro_ix 135 11 = some (11, .iload 4, 0, 0) := by decide +kernel
theorem ri_135_13 : ro_ix 135 13 = some (13, .bipush 12, 0, 0) := by decide +kernel
theorem ri_135_15 : ro_ix 135 15 = some (15, .if_icmp .lt 7, 0, 0) := by decide +kernel
theorem ri_135_18 : ro_ix 135 18 = some (18, .ldc2_w 154, 0, 0) := by decide +kernel
theorem ri_135_21 : ro_ix 135 21 = some (21, .lreturn, 0, 0) := by decide +kernel
theorem ri_135_22 : ro_ix 135 22 = some (22, .lload_n 2, 0, 0) := by decide +kernel
theorem ri_135_23 : ro_ix 135 23 = some (23, .iconst 5, 0, 0) := by decide +kernel
theorem ri_135_24 : ro_ix 135 24 = some (24, .iload 4, 0, 0) := by decide +kernel
theorem ri_135_26 : ro_ix 135 26 = some (26, .imul, 0, 0) := by decide +kernel
theorem ri_135_27 : ro_ix 135 27 = some (27, .lshr, 0, 0) := by decide +kernel
theorem ri_135_28 : ro_ix 135 28 = some (28, .l2i, 0, 0) := by decide +kernel
theorem ri_135_29 : ro_ix 135 29 = some (29, .bipush 31, 0, 0) := by decide +kernel
theorem ri_135_31 : ro_ix 135 31 = some (31, .iand, 0, 0) := by decide +kernel
theorem ri_135_32 : ro_ix 135 32 = some (32, .istore 6, 0, 0) := by decide +kernel
theorem ri_135_34 : ro_ix 135 34 = some (34, .iload 6, 0, 0) := by decide +kernel
theorem ri_135_36 : ro_ix 135 36 = some (36, .bipush 31, 0, 0) := by decide +kernel
theorem ri_135_38 : ro_ix 135 38 = some (38, .if_icmp .ne 7, 0, 0) := by decide +kernel
theorem ri_135_41 : ro_ix 135 41 = some (41, .lload_n 2, 0, 0) := by decide +kernel
theorem ri_135_42 : ro_ix 135 42 = some (42, .goto 16, 0, 0) := by decide +kernel
theorem ri_135_45 : ro_ix 135 45 = some (45, .aload_n 0, 0, 0) := by decide +kernel
theorem ri_135_46 : ro_ix 135 46 = some (46, .iload_n 1, 0, 0) := by decide +kernel
theorem ri_135_47 : ro_ix 135 47 = some (47, .lload_n 2, 0, 0) := by decide +kernel
theorem ri_135_48 : ro_ix 135 48 = some (48, .iload 4, 0, 0) := by decide +kernel
theorem ri_135_50 : ro_ix 135 50 = some (50, .iload 6, 0, 0) := by decide +kernel
theorem ri_135_52 : ro_ix 135 52 = some (52, .iload 5, 0, 0) := by decide +kernel
theorem ri_135_54 : ro_ix 135 54 = some (54, .iadd, 0, 0) := by decide +kernel
theorem ri_135_55 : ro_ix 135 55 = some (55, .invokevirtual 150, 130, 0) := by decide +kernel
theorem ri_135_58 : ro_ix 135 58 = some (58, .lreturn, 0, 0) := by decide +kernel
/-- RefusedOnce$Ways.howMany()I -/
theorem rm_136 : (ro_m 136).2.2.1 = 1 ∧ (ro_m 136).2.2.2.1 = (some .int) ∧ (ro_m 136).2.2.2.2.1 = 10 ∧ (ro_m 136).2.2.2.2.2.1 = 0 := ⟨rfl, rfl, rfl, rfl⟩
theorem ri_136_0 : ro_ix 136 0 = some (0, .aload_n 0, 0, 0) := by decide +kernel
theorem ri_136_1 : ro_ix 136 1 = some (1, .getfield 35, 10, 8) := by decide +kernel
theorem ri_136_4 : ro_ix 136 4 = some (4, .getfield 50, 6, 4) := by decide +kernel
theorem ri_136_7 : ro_ix 136 7 = some (7, .ifCond .le 15, 0, 0) := by decide +kernel
theorem ri_136_10 : ro_ix 136 10 = some (10, .aload_n 0, 0, 0) := by decide +kernel
theorem ri_136_11 : ro_ix 136 11 = some (11, .getfield 35, 10, 8) := by decide +kernel
theorem ri_136_14 : ro_ix 136 14 = some (14, .getfield 54, 6, 1) := by decide +kernel
theorem ri_136_17 : ro_ix 136 17 = some (17, .iconst 0, 0, 0) := by decide +kernel
theorem ri_136_18 : ro_ix 136 18 = some (18, .iaload, 0, 0) := by decide +kernel
theorem ri_136_19 : ro_ix 136 19 = some (19, .goto 4, 0, 0) := by decide +kernel
theorem ri_136_22 : ro_ix 136 22 = some (22, .iconst 0, 0, 0) := by decide +kernel
theorem ri_136_23 : ro_ix 136 23 = some (23, .ireturn, 0, 0) := by decide +kernel
/-- RefusedOnce$Ways.certain()I -/
theorem rm_137 : (ro_m 137).2.2.1 = 1 ∧ (ro_m 137).2.2.2.1 = (some .int) ∧ (ro_m 137).2.2.2.2.1 = 10 ∧ (ro_m 137).2.2.2.2.2.1 = 0 := ⟨rfl, rfl, rfl, rfl⟩
theorem ri_137_0 : ro_ix 137 0 = some (0, .aload_n 0, 0, 0) := by decide +kernel
theorem ri_137_1 : ro_ix 137 1 = some (1, .getfield 35, 10, 8) := by decide +kernel
theorem ri_137_4 : ro_ix 137 4 = some (4, .getfield 50, 6, 4) := by decide +kernel
theorem ri_137_7 : ro_ix 137 7 = some (7, .ifCond .le 15, 0, 0) := by decide +kernel
theorem ri_137_10 : ro_ix 137 10 = some (10, .aload_n 0, 0, 0) := by decide +kernel
theorem ri_137_11 : ro_ix 137 11 = some (11, .getfield 35, 10, 8) := by decide +kernel
theorem ri_137_14 : ro_ix 137 14 = some (14, .getfield 61, 6, 3) := by decide +kernel
theorem ri_137_17 : ro_ix 137 17 = some (17, .iconst 0, 0, 0) := by decide +kernel
theorem ri_137_18 : ro_ix 137 18 = some (18, .iaload, 0, 0) := by decide +kernel
theorem ri_137_19 : ro_ix 137 19 = some (19, .goto 4, 0, 0) := by decide +kernel
theorem ri_137_22 : ro_ix 137 22 = some (22, .iconst 0, 0, 0) := by decide +kernel
theorem ri_137_23 : ro_ix 137 23 = some (23, .ireturn, 0, 0) := by decide +kernel
/-- RefusedOnce$Ways.fewest()I -/
theorem rm_138 : (ro_m 138).2.2.1 = 1 ∧ (ro_m 138).2.2.2.1 = (some .int) ∧ (ro_m 138).2.2.2.2.1 = 10 ∧ (ro_m 138).2.2.2.2.2.1 = 0 := ⟨rfl, rfl, rfl, rfl⟩
theorem ri_138_0 : ro_ix 138 0 = some (0, .aload_n 0, 0, 0) := by decide +kernel
theorem ri_138_1 : ro_ix 138 1 = some (1, .getfield 35, 10, 8) := by decide +kernel
theorem ri_138_4 : ro_ix 138 4 = some (4, .getfield 50, 6, 4) := by decide +kernel
theorem ri_138_7 : ro_ix 138 7 = some (7, .ifCond .le 18, 0, 0) := by decide +kernel
theorem ri_138_10 : ro_ix 138 10 = some (10, .aload_n 0, 0, 0) := by decide +kernel
theorem ri_138_11 : ro_ix 138 11 = some (11, .getfield 35, 10, 8) := by decide +kernel
theorem ri_138_14 : ro_ix 138 14 = some (14, .getfield 57, 6, 2) := by decide +kernel
theorem ri_138_17 : ro_ix 138 17 = some (17, .iconst 0, 0, 0) := by decide +kernel
theorem ri_138_18 : ro_ix 138 18 = some (18, .iaload, 0, 0) := by decide +kernel
theorem ri_138_19 : ro_ix 138 19 = some (19, .bipush 20, 0, 0) := by decide +kernel
theorem ri_138_21 : ro_ix 138 21 = some (21, .ishr, 0, 0) := by decide +kernel
theorem ri_138_22 : ro_ix 138 22 = some (22, .goto 4, 0, 0) := by decide +kernel
theorem ri_138_25 : ro_ix 138 25 = some (25, .iconst 0, 0, 0) := by decide +kernel
theorem ri_138_26 : ro_ix 138 26 = some (26, .ireturn, 0, 0) := by decide +kernel
/-- RefusedOnce$Ways.fewestBits()I -/
theorem rm_139 : (ro_m 139).2.2.1 = 1 ∧ (ro_m 139).2.2.2.1 = (some .int) ∧ (ro_m 139).2.2.2.2.1 = 10 ∧ (ro_m 139).2.2.2.2.2.1 = 0 := ⟨rfl, rfl, rfl, rfl⟩
theorem ri_139_0 : ro_ix 139 0 = some (0, .aload_n 0, 0, 0) := by decide +kernel
theorem ri_139_1 : ro_ix 139 1 = some (1, .getfield 35, 10, 8) := by decide +kernel
theorem ri_139_4 : ro_ix 139 4 = some (4, .getfield 50, 6, 4) := by decide +kernel
theorem ri_139_7 : ro_ix 139 7 = some (7, .ifCond .le 18, 0, 0) := by decide +kernel
theorem ri_139_10 : ro_ix 139 10 = some (10, .aload_n 0, 0, 0) := by decide +kernel
theorem ri_139_11 : ro_ix 139 11 = some (11, .getfield 35, 10, 8) := by decide +kernel
theorem ri_139_14 : ro_ix 139 14 = some (14, .getfield 57, 6, 2) := by decide +kernel
theorem ri_139_17 : ro_ix 139 17 = some (17, .iconst 0, 0, 0) := by decide +kernel
theorem ri_139_18 : ro_ix 139 18 = some (18, .iaload, 0, 0) := by decide +kernel
theorem ri_139_19 : ro_ix 139 19 = some (19, .ldc 60, 0, 0) := by decide +kernel
theorem ri_139_21 : ro_ix 139 21 = some (21, .iand, 0, 0) := by decide +kernel
theorem ri_139_22 : ro_ix 139 22 = some (22, .goto 4, 0, 0) := by decide +kernel
theorem ri_139_25 : ro_ix 139 25 = some (25, .iconst 0, 0, 0) := by decide +kernel
theorem ri_139_26 : ro_ix 139 26 = some (26, .ireturn, 0, 0) := by decide +kernel
/-- RefusedOnce.offer(II)I -/
theorem rm_144 : (ro_m 144).2.2.1 = 6 ∧ (ro_m 144).2.2.2.1 = (some .int) ∧ (ro_m 144).2.2.2.2.1 = 11 ∧ (ro_m 144).2.2.2.2.2.1 = 2 := ⟨rfl, rfl, rfl, rfl⟩
theorem ri_144_0 : ro_ix 144 0 = some (0, .aload_n 0, 0, 0) := by decide +kernel
theorem ri_144_1 : ro_ix 144 1 = some (1, .iload_n 1, 0, 0) := by decide +kernel
theorem ri_144_2 : ro_ix 144 2 = some (2, .invokevirtual 152, 56, 0) := by decide +kernel
theorem ri_144_5 : ro_ix 144 5 = some (5, .ifCond .eq 12, 0, 0) := by decide +kernel
theorem ri_144_8 : ro_ix 144 8 = some (8, .iload_n 2, 0, 0) := by decide +kernel
theorem ri_144_9 : ro_ix 144 9 = some (9, .iconst 0, 0, 0) := by decide +kernel
theorem ri_144_10 : ro_ix 144 10 = some (10, .iconst 2, 0, 0) := by decide +kernel
theorem ri_144_11 : ro_ix 144 11 = some (11, .invokestatic 76, 13, 0) := by decide +kernel
theorem ri_144_14 : ro_ix 144 14 = some (14, .ifCond .ne 5, 0, 0) := by decide +kernel
theorem ri_144_17 : ro_ix 144 17 = some (17, .iconst (-1), 0, 0) := by decide +kernel
theorem ri_144_18 : ro_ix 144 18 = some (18, .ireturn, 0, 0) := by decide +kernel
theorem ri_144_19 : ro_ix 144 19 = some (19, .iload_n 1, 0, 0) := by decide +kernel
theorem ri_144_20 : ro_ix 144 20 = some (20, .bipush 10, 0, 0) := by decide +kernel
theorem ri_144_22 : ro_ix 144 22 = some (22, .idiv, 0, 0) := by decide +kernel
theorem ri_144_23 : ro_ix 144 23 = some (23, .istore_n 3, 0, 0) := by decide +kernel
theorem ri_144_24 : ro_ix 144 24 = some (24, .iload_n 1, 0, 0) := by decide +kernel
theorem ri_144_25 : ro_ix 144 25 = some (25, .bipush 10, 0, 0) := by decide +kernel
theorem ri_144_27 : ro_ix 144 27 = some (27, .irem, 0, 0) := by decide +kernel
theorem ri_144_28 : ro_ix 144 28 = some (28, .istore 4, 0, 0) := by decide +kernel
theorem ri_144_30 : ro_ix 144 30 = some (30, .iload_n 2, 0, 0) := by decide +kernel
theorem ri_144_31 : ro_ix 144 31 = some (31, .iconst 2, 0, 0) := by decide +kernel
theorem ri_144_32 : ro_ix 144 32 = some (32, .if_icmp .ne 19, 0, 0) := by decide +kernel
theorem ri_144_35 : ro_ix 144 35 = some (35, .aload_n 0, 0, 0) := by decide +kernel
theorem ri_144_36 : ro_ix 144 36 = some (36, .getfield 10, 11, 0) := by decide +kernel
theorem ri_144_39 : ro_ix 144 39 = some (39, .getfield 132, 4, 0) := by decide +kernel
theorem ri_144_42 : ro_ix 144 42 = some (42, .iload_n 3, 0, 0) := by decide +kernel
theorem ri_144_43 : ro_ix 144 43 = some (43, .iload 4, 0, 0) := by decide +kernel
theorem ri_144_45 : ro_ix 144 45 = some (45, .invokevirtual 255, 73, 0) := by decide +kernel
theorem ri_144_48 : ro_ix 144 48 = some (48, .goto 16, 0, 0) := by decide +kernel
theorem ri_144_51 : ro_ix 144 51 = some (51, .aload_n 0, 0, 0) := by decide +kernel
theorem ri_144_52 : ro_ix 144 52 = some (52, .getfield 10, 11, 0) := by decide +kernel
theorem ri_144_55 : ro_ix 144 55 = some (55, .getfield 132, 4, 0) := by decide +kernel
theorem ri_144_58 : ro_ix 144 58 = some (58, .iload_n 3, 0, 0) := by decide +kernel
theorem ri_144_59 : ro_ix 144 59 = some (59, .iload 4, 0, 0) := by decide +kernel
theorem ri_144_61 : ro_ix 144 61 = some (61, .invokevirtual 258, 75, 0) := by decide +kernel
theorem ri_144_64 : ro_ix 144 64 = some (64, .istore 5, 0, 0) := by decide +kernel
theorem ri_144_66 : ro_ix 144 66 = some (66, .iload 5, 0, 0) := by decide +kernel
theorem ri_144_68 : ro_ix 144 68 = some (68, .ifCond .ne 6, 0, 0) := by decide +kernel
theorem ri_144_71 : ro_ix 144 71 = some (71, .bipush (-5), 0, 0) := by decide +kernel
theorem ri_144_73 : ro_ix 144 73 = some (73, .ireturn, 0, 0) := by decide +kernel
theorem ri_144_74 : ro_ix 144 74 = some (74, .aload_n 0, 0, 0) := by decide +kernel
theorem ri_144_75 : ro_ix 144 75 = some (75, .getfield 10, 11, 0) := by decide +kernel
theorem ri_144_78 : ro_ix 144 78 = some (78, .iconst 0, 0, 0) := by decide +kernel
theorem ri_144_79 : ro_ix 144 79 = some (79, .invokevirtual 261, 145, 0) := by decide +kernel
theorem ri_144_82 : ro_ix 144 82 = some (82, .iload_n 2, 0, 0) := by decide +kernel
theorem ri_144_83 : ro_ix 144 83 = some (83, .iconst 1, 0, 0) := by decide +kernel
theorem ri_144_84 : ro_ix 144 84 = some (84, .if_icmp .ne 24, 0, 0) := by decide +kernel
theorem ri_144_87 : ro_ix 144 87 = some (87, .aload_n 0, 0, 0) := by decide +kernel
theorem ri_144_88 : ro_ix 144 88 = some (88, .getfield 10, 11, 0) := by decide +kernel
theorem ri_144_91 : ro_ix 144 91 = some (91, .getfield 132, 4, 0) := by decide +kernel
theorem ri_144_94 : ro_ix 144 94 = some (94, .iload_n 3, 0, 0) := by decide +kernel
theorem ri_144_95 : ro_ix 144 95 = some (95, .invokevirtual 264, 77, 0) := by decide +kernel
theorem ri_144_98 : ro_ix 144 98 = some (98, .aload_n 0, 0, 0) := by decide +kernel
theorem ri_144_99 : ro_ix 144 99 = some (99, .getfield 10, 11, 0) := by decide +kernel
theorem ri_144_102 : ro_ix 144 102 = some (102, .iconst 1, 0, 0) := by decide +kernel
theorem ri_144_103 : ro_ix 144 103 = some (103, .invokevirtual 261, 145, 0) := by decide +kernel
theorem ri_144_106 : ro_ix 144 106 = some (106, .iload_n 3, 0, 0) := by decide +kernel
theorem ri_144_107 : ro_ix 144 107 = some (107, .ireturn, 0, 0) := by decide +kernel
theorem ri_144_108 : ro_ix 144 108 = some (108, .iload_n 2, 0, 0) := by decide +kernel
theorem ri_144_109 : ro_ix 144 109 = some (109, .ifCond .ne 19, 0, 0) := by decide +kernel
theorem ri_144_112 : ro_ix 144 112 = some (112, .aload_n 0, 0, 0) := by decide +kernel
theorem ri_144_113 : ro_ix 144 113 = some (113, .getfield 10, 11, 0) := by decide +kernel
theorem ri_144_116 : ro_ix 144 116 = some (116, .getfield 132, 4, 0) := by decide +kernel
theorem ri_144_119 : ro_ix 144 119 = some (119, .iload_n 3, 0, 0) := by decide +kernel
theorem ri_144_120 : ro_ix 144 120 = some (120, .iload 4, 0, 0) := by decide +kernel
theorem ri_144_122 : ro_ix 144 122 = some (122, .invokevirtual 267, 78, 0) := by decide +kernel
theorem ri_144_125 : ro_ix 144 125 = some (125, .goto 16, 0, 0) := by decide +kernel
theorem ri_144_128 : ro_ix 144 128 = some (128, .aload_n 0, 0, 0) := by decide +kernel
theorem ri_144_129 : ro_ix 144 129 = some (129, .getfield 10, 11, 0) := by decide +kernel
theorem ri_144_132 : ro_ix 144 132 = some (132, .getfield 132, 4, 0) := by decide +kernel
theorem ri_144_135 : ro_ix 144 135 = some (135, .iload_n 3, 0, 0) := by decide +kernel
theorem ri_144_136 : ro_ix 144 136 = some (136, .iload 4, 0, 0) := by decide +kernel
theorem ri_144_138 : ro_ix 144 138 = some (138, .invokevirtual 271, 74, 0) := by decide +kernel
theorem ri_144_141 : ro_ix 144 141 = some (141, .iload 4, 0, 0) := by decide +kernel
theorem ri_144_143 : ro_ix 144 143 = some (143, .ireturn, 0, 0) := by decide +kernel
/-- RefusedOnce$Land.leads(I)V -/
theorem rm_145 : (ro_m 145).2.2.1 = 2 ∧ (ro_m 145).2.2.2.1 = none ∧ (ro_m 145).2.2.2.2.1 = 4 ∧ (ro_m 145).2.2.2.2.2.1 = 1 := ⟨rfl, rfl, rfl, rfl⟩
theorem ri_145_0 : ro_ix 145 0 = some (0, .iload_n 1, 0, 0) := by decide +kernel
theorem ri_145_1 : ro_ix 145 1 = some (1, .ifCond .lt 22, 0, 0) := by decide +kernel
theorem ri_145_4 : ro_ix 145 4 = some (4, .iload_n 1, 0, 0) := by decide +kernel
theorem ri_145_5 : ro_ix 145 5 = some (5, .aload_n 0, 0, 0) := by decide +kernel
theorem ri_145_6 : ro_ix 145 6 = some (6, .getfield 25, 4, 3) := by decide +kernel
theorem ri_145_9 : ro_ix 145 9 = some (9, .arraylength, 0, 0) := by decide +kernel
theorem ri_145_10 : ro_ix 145 10 = some (10, .if_icmp .ge 13, 0, 0) := by decide +kernel
theorem ri_145_13 : ro_ix 145 13 = some (13, .aload_n 0, 0, 0) := by decide +kernel
theorem ri_145_14 : ro_ix 145 14 = some (14, .getfield 25, 4, 3) := by decide +kernel
theorem ri_145_17 : ro_ix 145 17 = some (17, .iload_n 1, 0, 0) := by decide +kernel
theorem ri_145_18 : ro_ix 145 18 = some (18, .dup2, 0, 0) := by decide +kernel
theorem ri_145_19 : ro_ix 145 19 = some (19, .iaload, 0, 0) := by decide +kernel
theorem ri_145_20 : ro_ix 145 20 = some (20, .iconst 1, 0, 0) := by decide +kernel
theorem ri_145_21 : ro_ix 145 21 = some (21, .iadd, 0, 0) := by decide +kernel
theorem ri_145_22 : ro_ix 145 22 = some (22, .iastore, 0, 0) := by decide +kernel
theorem ri_145_23 : ro_ix 145 23 = some (23, .return_, 0, 0) := by decide +kernel
/-- RefusedOnce.led(I)I -/
theorem rm_148 : (ro_m 148).2.2.1 = 2 ∧ (ro_m 148).2.2.2.1 = (some .int) ∧ (ro_m 148).2.2.2.2.1 = 11 ∧ (ro_m 148).2.2.2.2.2.1 = 1 := ⟨rfl, rfl, rfl, rfl⟩
theorem ri_148_0 : ro_ix 148 0 = some (0, .iload_n 1, 0, 0) := by decide +kernel
theorem ri_148_1 : ro_ix 148 1 = some (1, .iconst 0, 0, 0) := by decide +kernel
theorem ri_148_2 : ro_ix 148 2 = some (2, .iconst 3, 0, 0) := by decide +kernel
theorem ri_148_3 : ro_ix 148 3 = some (3, .invokestatic 76, 13, 0) := by decide +kernel
theorem ri_148_6 : ro_ix 148 6 = some (6, .ifCond .eq 14, 0, 0) := by decide +kernel
theorem ri_148_9 : ro_ix 148 9 = some (9, .aload_n 0, 0, 0) := by decide +kernel
theorem ri_148_10 : ro_ix 148 10 = some (10, .getfield 10, 11, 0) := by decide +kernel
theorem ri_148_13 : ro_ix 148 13 = some (13, .iload_n 1, 0, 0) := by decide +kernel
theorem ri_148_14 : ro_ix 148 14 = some (14, .invokevirtual 274, 149, 0) := by decide +kernel
theorem ri_148_17 : ro_ix 148 17 = some (17, .goto 4, 0, 0) := by decide +kernel
theorem ri_148_20 : ro_ix 148 20 = some (20, .iconst (-1), 0, 0) := by decide +kernel
theorem ri_148_21 : ro_ix 148 21 = some (21, .ireturn, 0, 0) := by decide +kernel
/-- RefusedOnce$Land.counted(I)I -/
theorem rm_149 : (ro_m 149).2.2.1 = 2 ∧ (ro_m 149).2.2.2.1 = (some .int) ∧ (ro_m 149).2.2.2.2.1 = 4 ∧ (ro_m 149).2.2.2.2.2.1 = 1 := ⟨rfl, rfl, rfl, rfl⟩
theorem ri_149_0 : ro_ix 149 0 = some (0, .iload_n 1, 0, 0) := by decide +kernel
theorem ri_149_1 : ro_ix 149 1 = some (1, .ifCond .lt 21, 0, 0) := by decide +kernel
theorem ri_149_4 : ro_ix 149 4 = some (4, .iload_n 1, 0, 0) := by decide +kernel
theorem ri_149_5 : ro_ix 149 5 = some (5, .aload_n 0, 0, 0) := by decide +kernel
theorem ri_149_6 : ro_ix 149 6 = some (6, .getfield 25, 4, 3) := by decide +kernel
theorem ri_149_9 : ro_ix 149 9 = some (9, .arraylength, 0, 0) := by decide +kernel
theorem ri_149_10 : ro_ix 149 10 = some (10, .if_icmp .ge 12, 0, 0) := by decide +kernel
theorem ri_149_13 : ro_ix 149 13 = some (13, .aload_n 0, 0, 0) := by decide +kernel
theorem ri_149_14 : ro_ix 149 14 = some (14, .getfield 25, 4, 3) := by decide +kernel
theorem ri_149_17 : ro_ix 149 17 = some (17, .iload_n 1, 0, 0) := by decide +kernel
theorem ri_149_18 : ro_ix 149 18 = some (18, .iaload, 0, 0) := by decide +kernel
theorem ri_149_19 : ro_ix 149 19 = some (19, .goto 4, 0, 0) := by decide +kernel
theorem ri_149_22 : ro_ix 149 22 = some (22, .iconst 0, 0, 0) := by decide +kernel
theorem ri_149_23 : ro_ix 149 23 = some (23, .ireturn, 0, 0) := by decide +kernel
/-- RefusedOnce.image()I -/
theorem rm_150 : (ro_m 150).2.2.1 = 1 ∧ (ro_m 150).2.2.2.1 = (some .int) ∧ (ro_m 150).2.2.2.2.1 = 11 ∧ (ro_m 150).2.2.2.2.2.1 = 0 := ⟨rfl, rfl, rfl, rfl⟩
theorem ri_150_0 : ro_ix 150 0 = some (0, .aload_n 0, 0, 0) := by decide +kernel
theorem ri_150_1 : ro_ix 150 1 = some (1, .getfield 10, 11, 0) := by decide +kernel
theorem ri_150_4 : ro_ix 150 4 = some (4, .invokevirtual 277, 151, 0) := by decide +kernel
theorem ri_150_7 : ro_ix 150 7 = some (7, .aload_n 0, 0, 0) := by decide +kernel
theorem ri_150_8 : ro_ix 150 8 = some (8, .getfield 10, 11, 0) := by decide +kernel
theorem ri_150_11 : ro_ix 150 11 = some (11, .iconst 0, 0, 0) := by decide +kernel
theorem ri_150_12 : ro_ix 150 12 = some (12, .invokevirtual 274, 149, 0) := by decide +kernel
theorem ri_150_15 : ro_ix 150 15 = some (15, .ireturn, 0, 0) := by decide +kernel
/-- RefusedOnce$Land.keepImage()V -/
theorem rm_151 : (ro_m 151).2.2.1 = 1 ∧ (ro_m 151).2.2.2.1 = none ∧ (ro_m 151).2.2.2.2.1 = 4 ∧ (ro_m 151).2.2.2.2.2.1 = 0 := ⟨rfl, rfl, rfl, rfl⟩
theorem ri_151_0 : ro_ix 151 0 = some (0, .aload_n 0, 0, 0) := by decide +kernel
theorem ri_151_1 : ro_ix 151 1 = some (1, .getfield 38, 4, 8) := by decide +kernel
theorem ri_151_4 : ro_ix 151 4 = some (4, .aload_n 0, 0, 0) := by decide +kernel
theorem ri_151_5 : ro_ix 151 5 = some (5, .getfield 12, 4, 0) := by decide +kernel
theorem ri_151_8 : ro_ix 151 8 = some (8, .aload_n 0, 0, 0) := by decide +kernel
theorem ri_151_9 : ro_ix 151 9 = some (9, .getfield 44, 4, 4) := by decide +kernel
theorem ri_151_12 : ro_ix 151 12 = some (12, .invokevirtual 85, 68, 0) := by decide +kernel
theorem ri_151_15 : ro_ix 151 15 = some (15, .aload_n 0, 0, 0) := by decide +kernel
theorem ri_151_16 : ro_ix 151 16 = some (16, .getfield 25, 4, 3) := by decide +kernel
theorem ri_151_19 : ro_ix 151 19 = some (19, .iconst 0, 0, 0) := by decide +kernel
theorem ri_151_20 : ro_ix 151 20 = some (20, .aload_n 0, 0, 0) := by decide +kernel
theorem ri_151_21 : ro_ix 151 21 = some (21, .getfield 41, 4, 9) := by decide +kernel
theorem ri_151_24 : ro_ix 151 24 = some (24, .iconst 0, 0, 0) := by decide +kernel
theorem ri_151_25 : ro_ix 151 25 = some (25, .iconst 4, 0, 0) := by decide +kernel
theorem ri_151_26 : ro_ix 151 26 = some (26, .invokestatic 89, 0, 4) := by decide +kernel
theorem ri_151_29 : ro_ix 151 29 = some (29, .aload_n 0, 0, 0) := by decide +kernel
theorem ri_151_30 : ro_ix 151 30 = some (30, .aload_n 0, 0, 0) := by decide +kernel
theorem ri_151_31 : ro_ix 151 31 = some (31, .getfield 44, 4, 4) := by decide +kernel
theorem ri_151_34 : ro_ix 151 34 = some (34, .putfield 95, 4, 11) := by decide +kernel
theorem ri_151_37 : ro_ix 151 37 = some (37, .aload_n 0, 0, 0) := by decide +kernel
theorem ri_151_38 : ro_ix 151 38 = some (38, .aload_n 0, 0, 0) := by decide +kernel
theorem ri_151_39 : ro_ix 151 39 = some (39, .getfield 32, 4, 6) := by decide +kernel
theorem ri_151_42 : ro_ix 151 42 = some (42, .putfield 98, 4, 12) := by decide +kernel
theorem ri_151_45 : ro_ix 151 45 = some (45, .aload_n 0, 0, 0) := by decide +kernel
theorem ri_151_46 : ro_ix 151 46 = some (46, .iconst 1, 0, 0) := by decide +kernel
theorem ri_151_47 : ro_ix 151 47 = some (47, .putfield 101, 4, 10) := by decide +kernel
theorem ri_151_50 : ro_ix 151 50 = some (50, .return_, 0, 0) := by decide +kernel
/-- RefusedOnce.back()I -/
theorem rm_152 : (ro_m 152).2.2.1 = 1 ∧ (ro_m 152).2.2.2.1 = (some .int) ∧ (ro_m 152).2.2.2.2.1 = 11 ∧ (ro_m 152).2.2.2.2.2.1 = 0 := ⟨rfl, rfl, rfl, rfl⟩
theorem ri_152_0 : ro_ix 152 0 = some (0, .aload_n 0, 0, 0) := by decide +kernel
theorem ri_152_1 : ro_ix 152 1 = some (1, .getfield 10, 11, 0) := by decide +kernel
theorem ri_152_4 : ro_ix 152 4 = some (4, .invokevirtual 280, 153, 0) := by decide +kernel
theorem ri_152_7 : ro_ix 152 7 = some (7, .ifCond .eq 14, 0, 0) := by decide +kernel
theorem ri_152_10 : ro_ix 152 10 = some (10, .aload_n 0, 0, 0) := by decide +kernel
theorem ri_152_11 : ro_ix 152 11 = some (11, .getfield 10, 11, 0) := by decide +kernel
theorem ri_152_14 : ro_ix 152 14 = some (14, .iconst 0, 0, 0) := by decide +kernel
theorem ri_152_15 : ro_ix 152 15 = some (15, .invokevirtual 274, 149, 0) := by decide +kernel
theorem ri_152_18 : ro_ix 152 18 = some (18, .goto 5, 0, 0) := by decide +kernel
theorem ri_152_21 : ro_ix 152 21 = some (21, .bipush (-5), 0, 0) := by decide +kernel
theorem ri_152_23 : ro_ix 152 23 = some (23, .ireturn, 0, 0) := by decide +kernel
/-- RefusedOnce$Land.layBack()Z -/
theorem rm_153 : (ro_m 153).2.2.1 = 1 ∧ (ro_m 153).2.2.2.1 = (some .boolean) ∧ (ro_m 153).2.2.2.2.1 = 4 ∧ (ro_m 153).2.2.2.2.2.1 = 0 := ⟨rfl, rfl, rfl, rfl⟩
theorem ri_153_0 : ro_ix 153 0 = some (0, .aload_n 0, 0, 0) := by decide +kernel
theorem ri_153_1 : ro_ix 153 1 = some (1, .getfield 101, 4, 10) := by decide +kernel
theorem ri_153_4 : ro_ix 153 4 = some (4, .ifCond .ne 5, 0, 0) := by decide +kernel
theorem ri_153_7 : ro_ix 153 7 = some (7, .iconst 0, 0, 0) := by decide +kernel
theorem ri_153_8 : ro_ix 153 8 = some (8, .ireturn, 0, 0) := by decide +kernel
theorem ri_153_9 : ro_ix 153 9 = some (9, .aload_n 0, 0, 0) := by decide +kernel
theorem ri_153_10 : ro_ix 153 10 = some (10, .getfield 12, 4, 0) := by decide +kernel
theorem ri_153_13 : ro_ix 153 13 = some (13, .aload_n 0, 0, 0) := by decide +kernel
theorem ri_153_14 : ro_ix 153 14 = some (14, .getfield 38, 4, 8) := by decide +kernel
theorem ri_153_17 : ro_ix 153 17 = some (17, .aload_n 0, 0, 0) := by decide +kernel
theorem ri_153_18 : ro_ix 153 18 = some (18, .getfield 95, 4, 11) := by decide +kernel
theorem ri_153_21 : ro_ix 153 21 = some (21, .invokevirtual 85, 68, 0) := by decide +kernel
theorem ri_153_24 : ro_ix 153 24 = some (24, .aload_n 0, 0, 0) := by decide +kernel
theorem ri_153_25 : ro_ix 153 25 = some (25, .getfield 41, 4, 9) := by decide +kernel
theorem ri_153_28 : ro_ix 153 28 = some (28, .iconst 0, 0, 0) := by decide +kernel
theorem ri_153_29 : ro_ix 153 29 = some (29, .aload_n 0, 0, 0) := by decide +kernel
theorem ri_153_30 : ro_ix 153 30 = some (30, .getfield 25, 4, 3) := by decide +kernel
theorem ri_153_33 : ro_ix 153 33 = some (33, .iconst 0, 0, 0) := by decide +kernel
theorem ri_153_34 : ro_ix 153 34 = some (34, .iconst 4, 0, 0) := by decide +kernel
theorem ri_153_35 : ro_ix 153 35 = some (35, .invokestatic 89, 0, 4) := by decide +kernel
theorem ri_153_38 : ro_ix 153 38 = some (38, .aload_n 0, 0, 0) := by decide +kernel
theorem ri_153_39 : ro_ix 153 39 = some (39, .aload_n 0, 0, 0) := by decide +kernel
theorem ri_153_40 : ro_ix 153 40 = some (40, .getfield 98, 4, 12) := by decide +kernel
theorem ri_153_43 : ro_ix 153 43 = some (43, .putfield 32, 4, 6) := by decide +kernel
theorem ri_153_46 : ro_ix 153 46 = some (46, .iconst 1, 0, 0) := by decide +kernel
theorem ri_153_47 : ro_ix 153 47 = some (47, .ireturn, 0, 0) := by decide +kernel
/-- RefusedOnce$Changes.mayBeUndone()I -/
theorem rm_156 : (ro_m 156).2.2.1 = 1 ∧ (ro_m 156).2.2.2.1 = (some .int) ∧ (ro_m 156).2.2.2.2.1 = 2 ∧ (ro_m 156).2.2.2.2.2.1 = 0 := ⟨rfl, rfl, rfl, rfl⟩
theorem ri_156_0 : ro_ix 156 0 = some (0, .aload_n 0, 0, 0) := by decide +kernel
theorem ri_156_1 : ro_ix 156 1 = some (1, .getfield 22, 2, 4) := by decide +kernel
theorem ri_156_4 : ro_ix 156 4 = some (4, .ireturn, 0, 0) := by decide +kernel
/-- RefusedOnce$Bodies.howMany()I -/
theorem rm_163 : (ro_m 163).2.2.1 = 1 ∧ (ro_m 163).2.2.2.1 = (some .int) ∧ (ro_m 163).2.2.2.2.1 = 0 ∧ (ro_m 163).2.2.2.2.2.1 = 0 := ⟨rfl, rfl, rfl, rfl⟩
theorem ri_163_0 : ro_ix 163 0 = some (0, .aload_n 0, 0, 0) := by decide +kernel
theorem ri_163_1 : ro_ix 163 1 = some (1, .getfield 21, 0, 2) := by decide +kernel
theorem ri_163_4 : ro_ix 163 4 = some (4, .ireturn, 0, 0) := by decide +kernel
/-- RefusedOnce.row(III)I -/
theorem rm_177 : (ro_m 177).2.2.1 = 5 ∧ (ro_m 177).2.2.2.1 = (some .int) ∧ (ro_m 177).2.2.2.2.1 = 11 ∧ (ro_m 177).2.2.2.2.2.1 = 3 := ⟨rfl, rfl, rfl, rfl⟩
theorem ri_177_0 : ro_ix 177 0 = some (0, .aload_n 0, 0, 0) := by decide +kernel
theorem ri_177_1 : ro_ix 177 1 = some (1, .iload_n 1, 0, 0) := by decide +kernel
theorem ri_177_2 : ro_ix 177 2 = some (2, .invokevirtual 87, 20, 0) := by decide +kernel
theorem ri_177_5 : ro_ix 177 5 = some (5, .astore 4, 0, 0) := by decide +kernel
theorem ri_177_7 : ro_ix 177 7 = some (7, .aload 4, 0, 0) := by decide +kernel
theorem ri_177_9 : ro_ix 177 9 = some (9, .ifnull 18, 0, 0) := by decide +kernel
theorem ri_177_12 : ro_ix 177 12 = some (12, .iload_n 2, 0, 0) := by decide +kernel
theorem ri_177_13 : ro_ix 177 13 = some (13, .iconst 0, 0, 0) := by decide +kernel
theorem ri_177_14 : ro_ix 177 14 = some (14, .iconst 4, 0, 0) := by decide +kernel
theorem ri_177_15 : ro_ix 177 15 = some (15, .invokestatic 76, 13, 0) := by decide +kernel
theorem ri_177_18 : ro_ix 177 18 = some (18, .ifCond .eq 9, 0, 0) := by decide +kernel
theorem ri_177_21 : ro_ix 177 21 = some (21, .iload_n 3, 0, 0) := by decide +kernel
theorem ri_177_22 : ro_ix 177 22 = some (22, .bipush 60, 0, 0) := by decide +kernel
theorem ri_177_24 : ro_ix 177 24 = some (24, .if_icmp .le 5, 0, 0) := by decide +kernel
theorem ri_177_27 : ro_ix 177 27 = some (27, .iconst (-1), 0, 0) := by decide +kernel
theorem ri_177_28 : ro_ix 177 28 = some (28, .ireturn, 0, 0) := by decide +kernel
theorem ri_177_29 : ro_ix 177 29 = some (29, .iload_n 3, 0, 0) := by decide +kernel
theorem ri_177_30 : ro_ix 177 30 = some (30, .ifCond .ge 6, 0, 0) := by decide +kernel
theorem ri_177_33 : ro_ix 177 33 = some (33, .bipush (-14), 0, 0) := by decide +kernel
theorem ri_177_35 : ro_ix 177 35 = some (35, .ireturn, 0, 0) := by decide +kernel
theorem ri_177_36 : ro_ix 177 36 = some (36, .aload 4, 0, 0) := by decide +kernel
theorem ri_177_38 : ro_ix 177 38 = some (38, .iload_n 2, 0, 0) := by decide +kernel
theorem ri_177_39 : ro_ix 177 39 = some (39, .iload_n 3, 0, 0) := by decide +kernel
theorem ri_177_40 : ro_ix 177 40 = some (40, .invokevirtual 312, 178, 0) := by decide +kernel
theorem ri_177_43 : ro_ix 177 43 = some (43, .iconst 1, 0, 0) := by decide +kernel
theorem ri_177_44 : ro_ix 177 44 = some (44, .ireturn, 0, 0) := by decide +kernel
/-- RefusedOnce$Shelf.becomeRow(II)V -/
theorem rm_178 : (ro_m 178).2.2.1 = 4 ∧ (ro_m 178).2.2.2.1 = none ∧ (ro_m 178).2.2.2.2.1 = 9 ∧ (ro_m 178).2.2.2.2.2.1 = 2 := ⟨rfl, rfl, rfl, rfl⟩
theorem ri_178_0 : ro_ix 178 0 = some (0, .aload_n 0, 0, 0) := by decide +kernel
theorem ri_178_1 : ro_ix 178 1 = some (1, .iload_n 1, 0, 0) := by decide +kernel
theorem ri_178_2 : ro_ix 178 2 = some (2, .putfield 15, 9, 1) := by decide +kernel
theorem ri_178_5 : ro_ix 178 5 = some (5, .aload_n 0, 0, 0) := by decide +kernel
theorem ri_178_6 : ro_ix 178 6 = some (6, .iload_n 2, 0, 0) := by decide +kernel
theorem ri_178_7 : ro_ix 178 7 = some (7, .putfield 29, 9, 2) := by decide +kernel
theorem ri_178_10 : ro_ix 178 10 = some (10, .iconst 0, 0, 0) := by decide +kernel
theorem ri_178_11 : ro_ix 178 11 = some (11, .istore_n 3, 0, 0) := by decide +kernel
theorem ri_178_12 : ro_ix 178 12 = some (12, .iload_n 3, 0, 0) := by decide +kernel
theorem ri_178_13 : ro_ix 178 13 = some (13, .iload_n 2, 0, 0) := by decide +kernel
theorem ri_178_14 : ro_ix 178 14 = some (14, .if_icmp .ge 25, 0, 0) := by decide +kernel
theorem ri_178_17 : ro_ix 178 17 = some (17, .iload_n 3, 0, 0) := by decide +kernel
theorem ri_178_18 : ro_ix 178 18 = some (18, .aload_n 0, 0, 0) := by decide +kernel
theorem ri_178_19 : ro_ix 178 19 = some (19, .getfield 11, 9, 0) := by decide +kernel
theorem ri_178_22 : ro_ix 178 22 = some (22, .arraylength, 0, 0) := by decide +kernel
theorem ri_178_23 : ro_ix 178 23 = some (23, .if_icmp .ge 16, 0, 0) := by decide +kernel
theorem ri_178_26 : ro_ix 178 26 = some (26, .aload_n 0, 0, 0) := by decide +kernel
theorem ri_178_27 : ro_ix 178 27 = some (27, .getfield 11, 9, 0) := by decide +kernel
theorem ri_178_30 : ro_ix 178 30 = some (30, .iload_n 3, 0, 0) := by decide +kernel
theorem ri_178_31 : ro_ix 178 31 = some (31, .lconst 0, 0, 0) := by decide +kernel
theorem ri_178_32 : ro_ix 178 32 = some (32, .lastore, 0, 0) := by decide +kernel
theorem ri_178_33 : ro_ix 178 33 = some (33, .iinc 3 1, 0, 0) := by decide +kernel
theorem ri_178_36 : ro_ix 178 36 = some (36, .goto (-24), 0, 0) := by decide +kernel
theorem ri_178_39 : ro_ix 178 39 = some (39, .return_, 0, 0) := by decide +kernel
/-- RefusedOnce.put(IIJ)I -/
theorem rm_179 : (ro_m 179).2.2.1 = 6 ∧ (ro_m 179).2.2.2.1 = (some .int) ∧ (ro_m 179).2.2.2.2.1 = 11 ∧ (ro_m 179).2.2.2.2.2.1 = 3 := ⟨rfl, rfl, rfl, rfl⟩
theorem ri_179_0 : ro_ix 179 0 = some (0, .aload_n 0, 0, 0) := by decide +kernel
theorem ri_179_1 : ro_ix 179 1 = some (1, .iload_n 1, 0, 0) := by decide +kernel
theorem ri_179_2 : ro_ix 179 2 = some (2, .invokevirtual 87, 20, 0) := by decide +kernel
theorem ri_179_5 : ro_ix 179 5 = some (5, .astore 5, 0, 0) := by decide +kernel
theorem ri_179_7 : ro_ix 179 7 = some (7, .aload 5, 0, 0) := by decide +kernel
theorem ri_179_9 : ro_ix 179 9 = some (9, .ifnonnull 5, 0, 0) := by decide +kernel
theorem ri_179_12 : ro_ix 179 12 = some (12, .iconst (-1), 0, 0) := by decide +kernel
theorem ri_179_13 : ro_ix 179 13 = some (13, .ireturn, 0, 0) := by decide +kernel
theorem ri_179_14 : ro_ix 179 14 = some (14, .aload 5, 0, 0) := by decide +kernel
theorem ri_179_16 : ro_ix 179 16 = some (16, .invokevirtual 315, 180, 0) := by decide +kernel
theorem ri_179_19 : ro_ix 179 19 = some (19, .ifCond .ne 9, 0, 0) := by decide +kernel
theorem ri_179_22 : ro_ix 179 22 = some (22, .aload 5, 0, 0) := by decide +kernel
theorem ri_179_24 : ro_ix 179 24 = some (24, .invokevirtual 159, 65, 0) := by decide +kernel
theorem ri_179_27 : ro_ix 179 27 = some (27, .ireturn, 0, 0) := by decide +kernel
theorem ri_179_28 : ro_ix 179 28 = some (28, .aload 5, 0, 0) := by decide +kernel
theorem ri_179_30 : ro_ix 179 30 = some (30, .iload_n 2, 0, 0) := by decide +kernel
theorem ri_179_31 : ro_ix 179 31 = some (31, .lload_n 3, 0, 0) := by decide +kernel
theorem ri_179_32 : ro_ix 179 32 = some (32, .invokevirtual 318, 181, 0) := by decide +kernel
theorem ri_179_35 : ro_ix 179 35 = some (35, .ifCond .eq 7, 0, 0) := by decide +kernel
theorem ri_179_38 : ro_ix 179 38 = some (38, .iconst 1, 0, 0) := by decide +kernel
theorem ri_179_39 : ro_ix 179 39 = some (39, .goto 5, 0, 0) := by decide +kernel
theorem ri_179_42 : ro_ix 179 42 = some (42, .bipush (-13), 0, 0) := by decide +kernel
theorem ri_179_44 : ro_ix 179 44 = some (44, .ireturn, 0, 0) := by decide +kernel
/-- RefusedOnce$Shelf.holdsRow()Z -/
theorem rm_180 : (ro_m 180).2.2.1 = 1 ∧ (ro_m 180).2.2.2.1 = (some .boolean) ∧ (ro_m 180).2.2.2.2.1 = 9 ∧ (ro_m 180).2.2.2.2.2.1 = 0 := ⟨rfl, rfl, rfl, rfl⟩
theorem ri_180_0 : ro_ix 180 0 = some (0, .aload_n 0, 0, 0) := by decide +kernel
theorem ri_180_1 : ro_ix 180 1 = some (1, .getfield 15, 9, 1) := by decide +kernel
theorem ri_180_4 : ro_ix 180 4 = some (4, .ifCond .lt 7, 0, 0) := by decide +kernel
theorem ri_180_7 : ro_ix 180 7 = some (7, .iconst 1, 0, 0) := by decide +kernel
theorem ri_180_8 : ro_ix 180 8 = some (8, .goto 4, 0, 0) := by decide +kernel
theorem ri_180_11 : ro_ix 180 11 = some (11, .iconst 0, 0, 0) := by decide +kernel
theorem ri_180_12 : ro_ix 180 12 = some (12, .ireturn, 0, 0) := by decide +kernel
/-- RefusedOnce$Shelf.putIn(IJ)Z -/
theorem rm_181 : (ro_m 181).2.2.1 = 4 ∧ (ro_m 181).2.2.2.1 = (some .boolean) ∧ (ro_m 181).2.2.2.2.1 = 9 ∧ (ro_m 181).2.2.2.2.2.1 = 2 := ⟨rfl, rfl, rfl, rfl⟩
theorem ri_181_0 : ro_ix 181 0 = some (0, .iload_n 1, 0, 0) := by decide +kernel
theorem ri_181_1 : ro_ix 181 1 = some (1, .ifCond .lt 20, 0, 0) := by decide +kernel
theorem ri_181_4 : ro_ix 181 4 = some (4, .iload_n 1, 0, 0) := by decide +kernel
theorem ri_181_5 : ro_ix 181 5 = some (5, .aload_n 0, 0, 0) := by decide +kernel
theorem ri_181_6 : ro_ix 181 6 = some (6, .getfield 29, 9, 2) := by decide +kernel
theorem ri_181_9 : ro_ix 181 9 = some (9, .if_icmp .ge 12, 0, 0) := by decide +kernel
theorem ri_181_12 : ro_ix 181 12 = some (12, .iload_n 1, 0, 0) := by decide +kernel
theorem ri_181_13 : ro_ix 181 13 = some (13, .aload_n 0, 0, 0) := by decide +kernel
theorem ri_181_14 : ro_ix 181 14 = some (14, .getfield 11, 9, 0) := by decide +kernel
theorem ri_181_17 : ro_ix 181 17 = some (17, .arraylength, 0, 0) := by decide +kernel
theorem ri_181_18 : ro_ix 181 18 = some (18, .if_icmp .lt 5, 0, 0) := by decide +kernel
theorem ri_181_21 : ro_ix 181 21 = some (21, .iconst 0, 0, 0) := by decide +kernel
theorem ri_181_22 : ro_ix 181 22 = some (22, .ireturn, 0, 0) := by decide +kernel
theorem ri_181_23 : ro_ix 181 23 = some (23, .aload_n 0, 0, 0) := by decide +kernel
theorem ri_181_24 : ro_ix 181 24 = some (24, .getfield 11, 9, 0) := by decide +kernel
theorem ri_181_27 : ro_ix 181 27 = some (27, .iload_n 1, 0, 0) := by decide +kernel
theorem ri_181_28 : ro_ix 181 28 = some (28, .aload_n 0, 0, 0) := by decide +kernel
theorem ri_181_29 : ro_ix 181 29 = some (29, .lload_n 2, 0, 0) := by decide +kernel
theorem ri_181_30 : ro_ix 181 30 = some (30, .invokevirtual 36, 182, 0) := by decide +kernel
theorem ri_181_33 : ro_ix 181 33 = some (33, .lastore, 0, 0) := by decide +kernel
theorem ri_181_34 : ro_ix 181 34 = some (34, .iconst 1, 0, 0) := by decide +kernel
theorem ri_181_35 : ro_ix 181 35 = some (35, .ireturn, 0, 0) := by decide +kernel
/-- RefusedOnce$Shelf.lowest(J)J -/
theorem rm_182 : (ro_m 182).2.2.1 = 3 ∧ (ro_m 182).2.2.2.1 = (some .long) ∧ (ro_m 182).2.2.2.2.1 = 9 ∧ (ro_m 182).2.2.2.2.2.1 = 1 := ⟨rfl, rfl, rfl, rfl⟩
theorem ri_182_0 : ro_ix 182 0 = some (0, .aload_n 0, 0, 0) := by decide +kernel
theorem ri_182_1 : ro_ix 182 1 = some (1, .getfield 15, 9, 1) := by decide +kernel
theorem ri_182_4 : ro_ix 182 4 = some (4, .tableswitch 48 0 3 #[32, 37, 42, 46], 0, 0) := by decide +kernel
theorem ri_182_36 : ro_ix 182 36 = some (36, .lload_n 1, 0, 0) := by decide +kernel
theorem ri_182_37 : ro_ix 182 37 = some (37, .l2i, 0, 0) := by decide +kernel
theorem ri_182_38 : ro_ix 182 38 = some (38, .i2b, 0, 0) := by decide +kernel
theorem ri_182_39 : ro_ix 182 39 = some (39, .i2l, 0, 0) := by decide +kernel
theorem ri_182_40 : ro_ix 182 40 = some (40, .lreturn, 0, 0) := by decide +kernel
theorem ri_182_41 : ro_ix 182 41 = some (41, .lload_n 1, 0, 0) := by decide +kernel
theorem ri_182_42 : ro_ix 182 42 = some (42, .l2i, 0, 0) := by decide +kernel
theorem ri_182_43 : ro_ix 182 43 = some (43, .i2s, 0, 0) := by decide +kernel
theorem ri_182_44 : ro_ix 182 44 = some (44, .i2l, 0, 0) := by decide +kernel
theorem ri_182_45 : ro_ix 182 45 = some (45, .lreturn, 0, 0) := by decide +kernel
theorem ri_182_46 : ro_ix 182 46 = some (46, .lload_n 1, 0, 0) := by decide +kernel
theorem ri_182_47 : ro_ix 182 47 = some (47, .l2i, 0, 0) := by decide +kernel
theorem ri_182_48 : ro_ix 182 48 = some (48, .i2l, 0, 0) := by decide +kernel
theorem ri_182_49 : ro_ix 182 49 = some (49, .lreturn, 0, 0) := by decide +kernel
theorem ri_182_50 : ro_ix 182 50 = some (50, .lload_n 1, 0, 0) := by decide +kernel
theorem ri_182_51 : ro_ix 182 51 = some (51, .lreturn, 0, 0) := by decide +kernel
theorem ri_182_52 : ro_ix 182 52 = some (52, .lload_n 1, 0, 0) := by decide +kernel
theorem ri_182_53 : ro_ix 182 53 = some (53, .lconst 0, 0, 0) := by decide +kernel
theorem ri_182_54 : ro_ix 182 54 = some (54, .lcmp, 0, 0) := by decide +kernel
theorem ri_182_55 : ro_ix 182 55 = some (55, .ifCond .eq 7, 0, 0) := by decide +kernel
theorem ri_182_58 : ro_ix 182 58 = some (58, .lconst 1, 0, 0) := by decide +kernel
theorem ri_182_59 : ro_ix 182 59 = some (59, .goto 4, 0, 0) := by decide +kernel
theorem ri_182_62 : ro_ix 182 62 = some (62, .lconst 0, 0, 0) := by decide +kernel
theorem ri_182_63 : ro_ix 182 63 = some (63, .lreturn, 0, 0) := by decide +kernel
/-- RefusedOnce.count(I)I -/
theorem rm_190 : (ro_m 190).2.2.1 = 2 ∧ (ro_m 190).2.2.2.1 = (some .int) ∧ (ro_m 190).2.2.2.2.1 = 11 ∧ (ro_m 190).2.2.2.2.2.1 = 1 := ⟨rfl, rfl, rfl, rfl⟩
theorem ri_190_0 : ro_ix 190 0 = some (0, .iload_n 1, 0, 0) := by decide +kernel
theorem ri_190_1 : ro_ix 190 1 = some (1, .tableswitch 101 0 6 #[43, 51, 60, 69, 77, 85, 93], 0, 0) := by decide +kernel
theorem ri_190_44 : ro_ix 190 44 = some (44, .aload_n 0, 0, 0) := by decide +kernel
theorem ri_190_45 : ro_ix 190 45 = some (45, .getfield 10, 11, 0) := by decide +kernel
theorem ri_190_48 : ro_ix 190 48 = some (48, .invokevirtual 83, 18, 0) := by decide +kernel
theorem ri_190_51 : ro_ix 190 51 = some (51, .ireturn, 0, 0) := by decide +kernel
theorem ri_190_52 : ro_ix 190 52 = some (52, .aload_n 0, 0, 0) := by decide +kernel
theorem ri_190_53 : ro_ix 190 53 = some (53, .getfield 10, 11, 0) := by decide +kernel
theorem ri_190_56 : ro_ix 190 56 = some (56, .iconst 0, 0, 0) := by decide +kernel
theorem ri_190_57 : ro_ix 190 57 = some (57, .invokevirtual 342, 191, 0) := by decide +kernel
theorem ri_190_60 : ro_ix 190 60 = some (60, .ireturn, 0, 0) := by decide +kernel
theorem ri_190_61 : ro_ix 190 61 = some (61, .aload_n 0, 0, 0) := by decide +kernel
theorem ri_190_62 : ro_ix 190 62 = some (62, .getfield 10, 11, 0) := by decide +kernel
theorem ri_190_65 : ro_ix 190 65 = some (65, .iconst 1, 0, 0) := by decide +kernel
theorem ri_190_66 : ro_ix 190 66 = some (66, .invokevirtual 342, 191, 0) := by decide +kernel
theorem ri_190_69 : ro_ix 190 69 = some (69, .ireturn, 0, 0) := by decide +kernel
theorem ri_190_70 : ro_ix 190 70 = some (70, .aload_n 0, 0, 0) := by decide +kernel
theorem ri_190_71 : ro_ix 190 71 = some (71, .getfield 19, 11, 1) := by decide +kernel
theorem ri_190_74 : ro_ix 190 74 = some (74, .invokevirtual 146, 42, 0) := by decide +kernel
theorem ri_190_77 : ro_ix 190 77 = some (77, .ireturn, 0, 0) := by decide +kernel
theorem ri_190_78 : ro_ix 190 78 = some (78, .aload_n 0, 0, 0) := by decide +kernel
theorem ri_190_79 : ro_ix 190 79 = some (79, .getfield 56, 11, 6) := by decide +kernel
theorem ri_190_82 : ro_ix 190 82 = some (82, .invokevirtual 287, 156, 0) := by decide +kernel
theorem ri_190_85 : ro_ix 190 85 = some (85, .ireturn, 0, 0) := by decide +kernel
theorem ri_190_86 : ro_ix 190 86 = some (86, .aload_n 0, 0, 0) := by decide +kernel
theorem ri_190_87 : ro_ix 190 87 = some (87, .getfield 63, 11, 7) := by decide +kernel
theorem ri_190_90 : ro_ix 190 90 = some (90, .invokevirtual 301, 163, 0) := by decide +kernel
theorem ri_190_93 : ro_ix 190 93 = some (93, .ireturn, 0, 0) := by decide +kernel
theorem ri_190_94 : ro_ix 190 94 = some (94, .aload_n 0, 0, 0) := by decide +kernel
theorem ri_190_95 : ro_ix 190 95 = some (95, .getfield 63, 11, 7) := by decide +kernel
theorem ri_190_98 : ro_ix 190 98 = some (98, .invokevirtual 345, 192, 0) := by decide +kernel
theorem ri_190_101 : ro_ix 190 101 = some (101, .ireturn, 0, 0) := by decide +kernel
theorem ri_190_102 : ro_ix 190 102 = some (102, .iconst (-1), 0, 0) := by decide +kernel
theorem ri_190_103 : ro_ix 190 103 = some (103, .ireturn, 0, 0) := by decide +kernel
/-- RefusedOnce$Land.allOf(I)I -/
theorem rm_191 : (ro_m 191).2.2.1 = 4 ∧ (ro_m 191).2.2.2.1 = (some .int) ∧ (ro_m 191).2.2.2.2.1 = 4 ∧ (ro_m 191).2.2.2.2.2.1 = 1 := ⟨rfl, rfl, rfl, rfl⟩
theorem ri_191_0 : ro_ix 191 0 = some (0, .iconst 0, 0, 0) := by decide +kernel
theorem ri_191_1 : ro_ix 191 1 = some (1, .istore_n 2, 0, 0) := by decide +kernel
theorem ri_191_2 : ro_ix 191 2 = some (2, .iconst 0, 0, 0) := by decide +kernel
theorem ri_191_3 : ro_ix 191 3 = some (3, .istore_n 3, 0, 0) := by decide +kernel
theorem ri_191_4 : ro_ix 191 4 = some (4, .iload_n 3, 0, 0) := by decide +kernel
theorem ri_191_5 : ro_ix 191 5 = some (5, .aload_n 0, 0, 0) := by decide +kernel
theorem ri_191_6 : ro_ix 191 6 = some (6, .getfield 44, 4, 4) := by decide +kernel
theorem ri_191_9 : ro_ix 191 9 = some (9, .if_icmp .ge 18, 0, 0) := by decide +kernel
theorem ri_191_12 : ro_ix 191 12 = some (12, .iload_n 2, 0, 0) := by decide +kernel
theorem ri_191_13 : ro_ix 191 13 = some (13, .aload_n 0, 0, 0) := by decide +kernel
theorem ri_191_14 : ro_ix 191 14 = some (14, .iload_n 3, 0, 0) := by decide +kernel
theorem ri_191_15 : ro_ix 191 15 = some (15, .iload_n 1, 0, 0) := by decide +kernel
theorem ri_191_16 : ro_ix 191 16 = some (16, .invokevirtual 72, 30, 0) := by decide +kernel
theorem ri_191_19 : ro_ix 191 19 = some (19, .iadd, 0, 0) := by decide +kernel
theorem ri_191_20 : ro_ix 191 20 = some (20, .istore_n 2, 0, 0) := by decide +kernel
theorem ri_191_21 : ro_ix 191 21 = some (21, .iinc 3 1, 0, 0) := by decide +kernel
theorem ri_191_24 : ro_ix 191 24 = some (24, .goto (-20), 0, 0) := by decide +kernel
theorem ri_191_27 : ro_ix 191 27 = some (27, .iload_n 2, 0, 0) := by decide +kernel
theorem ri_191_28 : ro_ix 191 28 = some (28, .ireturn, 0, 0) := by decide +kernel
/-- RefusedOnce$Bodies.ranLately()I -/
theorem rm_192 : (ro_m 192).2.2.1 = 1 ∧ (ro_m 192).2.2.2.1 = (some .int) ∧ (ro_m 192).2.2.2.2.1 = 0 ∧ (ro_m 192).2.2.2.2.2.1 = 0 := ⟨rfl, rfl, rfl, rfl⟩
theorem ri_192_0 : ro_ix 192 0 = some (0, .aload_n 0, 0, 0) := by decide +kernel
theorem ri_192_1 : ro_ix 192 1 = some (1, .getfield 25, 0, 3) := by decide +kernel
theorem ri_192_4 : ro_ix 192 4 = some (4, .ireturn, 0, 0) := by decide +kernel
/-- RefusedOnceLaw.cell([II)I -/
theorem rm_193 : (ro_m 193).2.2.1 = 2 ∧ (ro_m 193).2.2.2.1 = (some .int) ∧ (ro_m 193).2.2.2.2.1 = 15 ∧ (ro_m 193).2.2.2.2.2.1 = 2 := ⟨rfl, rfl, rfl, rfl⟩
theorem ri_193_0 : ro_ix 193 0 = some (0, .iload_n 1, 0, 0) := by decide +kernel
theorem ri_193_1 : ro_ix 193 1 = some (1, .aload_n 0, 0, 0) := by decide +kernel
theorem ri_193_2 : ro_ix 193 2 = some (2, .arraylength, 0, 0) := by decide +kernel
theorem ri_193_3 : ro_ix 193 3 = some (3, .if_icmp .ge 12, 0, 0) := by decide +kernel
theorem ri_193_6 : ro_ix 193 6 = some (6, .aload_n 0, 0, 0) := by decide +kernel
theorem ri_193_7 : ro_ix 193 7 = some (7, .iload_n 1, 0, 0) := by decide +kernel
theorem ri_193_8 : ro_ix 193 8 = some (8, .iaload, 0, 0) := by decide +kernel
theorem ri_193_9 : ro_ix 193 9 = some (9, .ldc 16, 0, 0) := by decide +kernel
theorem ri_193_11 : ro_ix 193 11 = some (11, .iand, 0, 0) := by decide +kernel
theorem ri_193_12 : ro_ix 193 12 = some (12, .goto 8, 0, 0) := by decide +kernel
theorem ri_193_15 : ro_ix 193 15 = some (15, .iload_n 1, 0, 0) := by decide +kernel
theorem ri_193_16 : ro_ix 193 16 = some (16, .sipush 9007, 0, 0) := by decide +kernel
theorem ri_193_19 : ro_ix 193 19 = some (19, .imul, 0, 0) := by decide +kernel
theorem ri_193_20 : ro_ix 193 20 = some (20, .ireturn, 0, 0) := by decide +kernel
/-- RefusedOnceLaw.many([I)I -/
theorem rm_194 : (ro_m 194).2.2.1 = 1 ∧ (ro_m 194).2.2.2.1 = (some .int) ∧ (ro_m 194).2.2.2.2.1 = 15 ∧ (ro_m 194).2.2.2.2.2.1 = 1 := ⟨rfl, rfl, rfl, rfl⟩
theorem ri_194_0 : ro_ix 194 0 = some (0, .aload_n 0, 0, 0) := by decide +kernel
theorem ri_194_1 : ro_ix 194 1 = some (1, .iconst 0, 0, 0) := by decide +kernel
theorem ri_194_2 : ro_ix 194 2 = some (2, .invokestatic 17, 193, 0) := by decide +kernel
theorem ri_194_5 : ro_ix 194 5 = some (5, .bipush 7, 0, 0) := by decide +kernel
theorem ri_194_7 : ro_ix 194 7 = some (7, .irem, 0, 0) := by decide +kernel
theorem ri_194_8 : ro_ix 194 8 = some (8, .ireturn, 0, 0) := by decide +kernel
/-- RefusedOnceLaw.one([III)I -/
theorem rm_195 : (ro_m 195).2.2.1 = 4 ∧ (ro_m 195).2.2.2.1 = (some .int) ∧ (ro_m 195).2.2.2.2.1 = 15 ∧ (ro_m 195).2.2.2.2.2.1 = 3 := ⟨rfl, rfl, rfl, rfl⟩
theorem ri_195_0 : ro_ix 195 0 = some (0, .aload_n 0, 0, 0) := by decide +kernel
theorem ri_195_1 : ro_ix 195 1 = some (1, .iconst 1, 0, 0) := by decide +kernel
theorem ri_195_2 : ro_ix 195 2 = some (2, .iload_n 1, 0, 0) := by decide +kernel
theorem ri_195_3 : ro_ix 195 3 = some (3, .iadd, 0, 0) := by decide +kernel
theorem ri_195_4 : ro_ix 195 4 = some (4, .invokestatic 17, 193, 0) := by decide +kernel
theorem ri_195_7 : ro_ix 195 7 = some (7, .istore_n 3, 0, 0) := by decide +kernel
theorem ri_195_8 : ro_ix 195 8 = some (8, .iload_n 2, 0, 0) := by decide +kernel
theorem ri_195_9 : ro_ix 195 9 = some (9, .ifCond .ne 24, 0, 0) := by decide +kernel
theorem ri_195_12 : ro_ix 195 12 = some (12, .iload_n 3, 0, 0) := by decide +kernel
theorem ri_195_13 : ro_ix 195 13 = some (13, .iload_n 3, 0, 0) := by decide +kernel
theorem ri_195_14 : ro_ix 195 14 = some (14, .bipush 9, 0, 0) := by decide +kernel
theorem ri_195_16 : ro_ix 195 16 = some (16, .ishr, 0, 0) := by decide +kernel
theorem ri_195_17 : ro_ix 195 17 = some (17, .iconst 3, 0, 0) := by decide +kernel
theorem ri_195_18 : ro_ix 195 18 = some (18, .iand, 0, 0) := by decide +kernel
theorem ri_195_19 : ro_ix 195 19 = some (19, .ifCond .ne 8, 0, 0) := by decide +kernel
theorem ri_195_22 : ro_ix 195 22 = some (22, .bipush 21, 0, 0) := by decide +kernel
theorem ri_195_24 : ro_ix 195 24 = some (24, .goto 5, 0, 0) := by decide +kernel
theorem ri_195_27 : ro_ix 195 27 = some (27, .bipush 6, 0, 0) := by decide +kernel
theorem ri_195_29 : ro_ix 195 29 = some (29, .irem, 0, 0) := by decide +kernel
theorem ri_195_30 : ro_ix 195 30 = some (30, .goto 53, 0, 0) := by decide +kernel
theorem ri_195_33 : ro_ix 195 33 = some (33, .iload_n 2, 0, 0) := by decide +kernel
theorem ri_195_34 : ro_ix 195 34 = some (34, .iconst 1, 0, 0) := by decide +kernel
theorem ri_195_35 : ro_ix 195 35 = some (35, .if_icmp .ne 26, 0, 0) := by decide +kernel
theorem ri_195_38 : ro_ix 195 38 = some (38, .iload_n 3, 0, 0) := by decide +kernel
theorem ri_195_39 : ro_ix 195 39 = some (39, .iconst 5, 0, 0) := by decide +kernel
theorem ri_195_40 : ro_ix 195 40 = some (40, .ishr, 0, 0) := by decide +kernel
theorem ri_195_41 : ro_ix 195 41 = some (41, .iload_n 3, 0, 0) := by decide +kernel
theorem ri_195_42 : ro_ix 195 42 = some (42, .bipush 11, 0, 0) := by decide +kernel
theorem ri_195_44 : ro_ix 195 44 = some (44, .ishr, 0, 0) := by decide +kernel
theorem ri_195_45 : ro_ix 195 45 = some (45, .iconst 3, 0, 0) := by decide +kernel
theorem ri_195_46 : ro_ix 195 46 = some (46, .iand, 0, 0) := by decide +kernel
theorem ri_195_47 : ro_ix 195 47 = some (47, .ifCond .ne 8, 0, 0) := by decide +kernel
theorem ri_195_50 : ro_ix 195 50 = some (50, .bipush 21, 0, 0) := by decide +kernel
theorem ri_195_52 : ro_ix 195 52 = some (52, .goto 5, 0, 0) := by decide +kernel
theorem ri_195_55 : ro_ix 195 55 = some (55, .bipush 6, 0, 0) := by decide +kernel
theorem ri_195_57 : ro_ix 195 57 = some (57, .irem, 0, 0) := by decide +kernel
theorem ri_195_58 : ro_ix 195 58 = some (58, .goto 25, 0, 0) := by decide +kernel
theorem ri_195_61 : ro_ix 195 61 = some (61, .iload_n 2, 0, 0) := by decide +kernel
theorem ri_195_62 : ro_ix 195 62 = some (62, .iconst 2, 0, 0) := by decide +kernel
theorem ri_195_63 : ro_ix 195 63 = some (63, .if_icmp .ne 13, 0, 0) := by decide +kernel
theorem ri_195_66 : ro_ix 195 66 = some (66, .iload_n 3, 0, 0) := by decide +kernel
theorem ri_195_67 : ro_ix 195 67 = some (67, .bipush 13, 0, 0) := by decide +kernel
theorem ri_195_69 : ro_ix 195 69 = some (69, .ishr, 0, 0) := by decide +kernel
theorem ri_195_70 : ro_ix 195 70 = some (70, .bipush 13, 0, 0) := by decide +kernel
theorem ri_195_72 : ro_ix 195 72 = some (72, .irem, 0, 0) := by decide +kernel
theorem ri_195_73 : ro_ix 195 73 = some (73, .goto 10, 0, 0) := by decide +kernel
theorem ri_195_76 : ro_ix 195 76 = some (76, .iload_n 3, 0, 0) := by decide +kernel
theorem ri_195_77 : ro_ix 195 77 = some (77, .bipush 17, 0, 0) := by decide +kernel
theorem ri_195_79 : ro_ix 195 79 = some (79, .ishr, 0, 0) := by decide +kernel
theorem ri_195_80 : ro_ix 195 80 = some (80, .bipush 9, 0, 0) := by decide +kernel
theorem ri_195_82 : ro_ix 195 82 = some (82, .irem, 0, 0) := by decide +kernel
theorem ri_195_83 : ro_ix 195 83 = some (83, .ireturn, 0, 0) := by decide +kernel
/-- RefusedOnceLaw.built(LRefusedOnce;[I)Z -/
theorem rm_196 : (ro_m 196).2.2.1 = 3 ∧ (ro_m 196).2.2.2.1 = (some .boolean) ∧ (ro_m 196).2.2.2.2.1 = 15 ∧ (ro_m 196).2.2.2.2.2.1 = 2 := ⟨rfl, rfl, rfl, rfl⟩
theorem ri_196_0 : ro_ix 196 0 = some (0, .iconst 0, 0, 0) := by decide +kernel
theorem ri_196_1 : ro_ix 196 1 = some (1, .istore_n 2, 0, 0) := by decide +kernel
theorem ri_196_2 : ro_ix 196 2 = some (2, .iload_n 2, 0, 0) := by decide +kernel
theorem ri_196_3 : ro_ix 196 3 = some (3, .aload_n 1, 0, 0) := by decide +kernel
theorem ri_196_4 : ro_ix 196 4 = some (4, .invokestatic 23, 194, 0) := by decide +kernel
theorem ri_196_7 : ro_ix 196 7 = some (7, .if_icmp .ge 71, 0, 0) := by decide +kernel
theorem ri_196_10 : ro_ix 196 10 = some (10, .aload_n 0, 0, 0) := by decide +kernel
theorem ri_196_11 : ro_ix 196 11 = some (11, .aload_n 1, 0, 0) := by decide +kernel
theorem ri_196_12 : ro_ix 196 12 = some (12, .iload_n 2, 0, 0) := by decide +kernel
theorem ri_196_13 : ro_ix 196 13 = some (13, .iconst 0, 0, 0) := by decide +kernel
theorem ri_196_14 : ro_ix 196 14 = some (14, .invokestatic 27, 195, 0) := by decide +kernel
theorem ri_196_17 : ro_ix 196 17 = some (17, .invokevirtual 31, 12, 0) := by decide +kernel
theorem ri_196_20 : ro_ix 196 20 = some (20, .iload_n 2, 0, 0) := by decide +kernel
theorem ri_196_21 : ro_ix 196 21 = some (21, .if_icmp .ne 49, 0, 0) := by decide +kernel
theorem ri_196_24 : ro_ix 196 24 = some (24, .aload_n 0, 0, 0) := by decide +kernel
theorem ri_196_25 : ro_ix 196 25 = some (25, .iload_n 2, 0, 0) := by decide +kernel
theorem ri_196_26 : ro_ix 196 26 = some (26, .iconst 1, 0, 0) := by decide +kernel
theorem ri_196_27 : ro_ix 196 27 = some (27, .aload_n 1, 0, 0) := by decide +kernel
theorem ri_196_28 : ro_ix 196 28 = some (28, .iload_n 2, 0, 0) := by decide +kernel
theorem ri_196_29 : ro_ix 196 29 = some (29, .iconst 1, 0, 0) := by decide +kernel
theorem ri_196_30 : ro_ix 196 30 = some (30, .invokestatic 27, 195, 0) := by decide +kernel
theorem ri_196_33 : ro_ix 196 33 = some (33, .invokevirtual 34, 27, 0) := by decide +kernel
theorem ri_196_36 : ro_ix 196 36 = some (36, .ifCond .ne 34, 0, 0) := by decide +kernel
theorem ri_196_39 : ro_ix 196 39 = some (39, .aload_n 0, 0, 0) := by decide +kernel
theorem ri_196_40 : ro_ix 196 40 = some (40, .iload_n 2, 0, 0) := by decide +kernel
theorem ri_196_41 : ro_ix 196 41 = some (41, .iconst 2, 0, 0) := by decide +kernel
theorem ri_196_42 : ro_ix 196 42 = some (42, .aload_n 1, 0, 0) := by decide +kernel
theorem ri_196_43 : ro_ix 196 43 = some (43, .iload_n 2, 0, 0) := by decide +kernel
theorem ri_196_44 : ro_ix 196 44 = some (44, .iconst 2, 0, 0) := by decide +kernel
theorem ri_196_45 : ro_ix 196 45 = some (45, .invokestatic 27, 195, 0) := by decide +kernel
theorem ri_196_48 : ro_ix 196 48 = some (48, .invokevirtual 34, 27, 0) := by decide +kernel
theorem ri_196_51 : ro_ix 196 51 = some (51, .iconst 3, 0, 0) := by decide +kernel
theorem ri_196_52 : ro_ix 196 52 = some (52, .if_icmp .ne 18, 0, 0) := by decide +kernel
theorem ri_196_55 : ro_ix 196 55 = some (55, .aload_n 0, 0, 0) := by decide +kernel
theorem ri_196_56 : ro_ix 196 56 = some (56, .iload_n 2, 0, 0) := by decide +kernel
theorem ri_196_57 : ro_ix 196 57 = some (57, .iconst 3, 0, 0) := by decide +kernel
theorem ri_196_58 : ro_ix 196 58 = some (58, .aload_n 1, 0, 0) := by decide +kernel
theorem ri_196_59 : ro_ix 196 59 = some (59, .iload_n 2, 0, 0) := by decide +kernel
theorem ri_196_60 : ro_ix 196 60 = some (60, .iconst 3, 0, 0) := by decide +kernel
theorem ri_196_61 : ro_ix 196 61 = some (61, .invokestatic 27, 195, 0) := by decide +kernel
theorem ri_196_64 : ro_ix 196 64 = some (64, .invokevirtual 34, 27, 0) := by decide +kernel
theorem ri_196_67 : ro_ix 196 67 = some (67, .ifCond .eq 5, 0, 0) := by decide +kernel
theorem ri_196_70 : ro_ix 196 70 = some (70, .iconst 0, 0, 0) := by decide +kernel
theorem ri_196_71 : ro_ix 196 71 = some (71, .ireturn, 0, 0) := by decide +kernel
theorem ri_196_72 : ro_ix 196 72 = some (72, .iinc 2 1, 0, 0) := by decide +kernel
theorem ri_196_75 : ro_ix 196 75 = some (75, .goto (-73), 0, 0) := by decide +kernel
theorem ri_196_78 : ro_ix 196 78 = some (78, .iconst 0, 0, 0) := by decide +kernel
theorem ri_196_79 : ro_ix 196 79 = some (79, .istore_n 2, 0, 0) := by decide +kernel
theorem ri_196_80 : ro_ix 196 80 = some (80, .iload_n 2, 0, 0) := by decide +kernel
theorem ri_196_81 : ro_ix 196 81 = some (81, .iconst 3, 0, 0) := by decide +kernel
theorem ri_196_82 : ro_ix 196 82 = some (82, .if_icmp .ge 32, 0, 0) := by decide +kernel
theorem ri_196_85 : ro_ix 196 85 = some (85, .aload_n 0, 0, 0) := by decide +kernel
theorem ri_196_86 : ro_ix 196 86 = some (86, .iconst 0, 0, 0) := by decide +kernel
theorem ri_196_87 : ro_ix 196 87 = some (87, .iconst 4, 0, 0) := by decide +kernel
theorem ri_196_88 : ro_ix 196 88 = some (88, .iload_n 2, 0, 0) := by decide +kernel
theorem ri_196_89 : ro_ix 196 89 = some (89, .iadd, 0, 0) := by decide +kernel
theorem ri_196_90 : ro_ix 196 90 = some (90, .aload_n 1, 0, 0) := by decide +kernel
theorem ri_196_91 : ro_ix 196 91 = some (91, .iload_n 2, 0, 0) := by decide +kernel
theorem ri_196_92 : ro_ix 196 92 = some (92, .invokestatic 38, 197, 0) := by decide +kernel
theorem ri_196_95 : ro_ix 196 95 = some (95, .invokevirtual 34, 27, 0) := by decide +kernel
theorem ri_196_98 : ro_ix 196 98 = some (98, .getstatic 41, 2, 0) := by decide +kernel
theorem ri_196_101 : ro_ix 196 101 = some (101, .iload_n 2, 0, 0) := by decide +kernel
theorem ri_196_102 : ro_ix 196 102 = some (102, .iaload, 0, 0) := by decide +kernel
theorem ri_196_103 : ro_ix 196 103 = some (103, .if_icmp .eq 5, 0, 0) := by decide +kernel
theorem ri_196_106 : ro_ix 196 106 = some (106, .iconst 0, 0, 0) := by decide +kernel
theorem ri_196_107 : ro_ix 196 107 = some (107, .ireturn, 0, 0) := by decide +kernel
theorem ri_196_108 : ro_ix 196 108 = some (108, .iinc 2 1, 0, 0) := by decide +kernel
theorem ri_196_111 : ro_ix 196 111 = some (111, .goto (-31), 0, 0) := by decide +kernel
theorem ri_196_114 : ro_ix 196 114 = some (114, .aload_n 1, 0, 0) := by decide +kernel
theorem ri_196_115 : ro_ix 196 115 = some (115, .invokestatic 45, 198, 0) := by decide +kernel
theorem ri_196_118 : ro_ix 196 118 = some (118, .ifCond .ne 5, 0, 0) := by decide +kernel
theorem ri_196_121 : ro_ix 196 121 = some (121, .iconst 1, 0, 0) := by decide +kernel
theorem ri_196_122 : ro_ix 196 122 = some (122, .ireturn, 0, 0) := by decide +kernel
theorem ri_196_123 : ro_ix 196 123 = some (123, .bipush 19, 0, 0) := by decide +kernel
theorem ri_196_125 : ro_ix 196 125 = some (125, .newarray .int, 0, 0) := by decide +kernel
theorem ri_196_127 : ro_ix 196 127 = some (127, .dup, 0, 0) := by decide +kernel
theorem ri_196_128 : ro_ix 196 128 = some (128, .iconst 0, 0, 0) := by decide +kernel
theorem ri_196_129 : ro_ix 196 129 = some (129, .bipush 112, 0, 0) := by decide +kernel
theorem ri_196_131 : ro_ix 196 131 = some (131, .iastore, 0, 0) := by decide +kernel
theorem ri_196_132 : ro_ix 196 132 = some (132, .dup, 0, 0) := by decide +kernel
theorem ri_196_133 : ro_ix 196 133 = some (133, .iconst 1, 0, 0) := by decide +kernel
theorem ri_196_134 : ro_ix 196 134 = some (134, .bipush 45, 0, 0) := by decide +kernel
theorem ri_196_136 : ro_ix 196 136 = some (136, .iastore, 0, 0) := by decide +kernel
theorem ri_196_137 : ro_ix 196 137 = some (137, .dup, 0, 0) := by decide +kernel
theorem ri_196_138 : ro_ix 196 138 = some (138, .iconst 2, 0, 0) := by decide +kernel
theorem ri_196_139 : ro_ix 196 139 = some (139, .bipush 98, 0, 0) := by decide +kernel
theorem ri_196_141 : ro_ix 196 141 = some (141, .iastore, 0, 0) := by decide +kernel
theorem ri_196_142 : ro_ix 196 142 = some (142, .dup, 0, 0) := by decide +kernel
theorem ri_196_143 : ro_ix 196 143 = some (143, .iconst 3, 0, 0) := by decide +kernel
theorem ri_196_144 : ro_ix 196 144 = some (144, .bipush 47, 0, 0) := by decide +kernel
theorem ri_196_146 : ro_ix 196 146 = some (146, .iastore, 0, 0) := by decide +kernel
theorem ri_196_147 : ro_ix 196 147 = some (147, .dup, 0, 0) := by decide +kernel
theorem ri_196_148 : ro_ix 196 148 = some (148, .iconst 4, 0, 0) := by decide +kernel
theorem ri_196_149 : ro_ix 196 149 = some (149, .bipush 50, 0, 0) := by decide +kernel
theorem ri_196_151 : ro_ix 196 151 = some (151, .iastore, 0, 0) := by decide +kernel
theorem ri_196_152 : ro_ix 196 152 = some (152, .dup, 0, 0) := by decide +kernel
theorem ri_196_153 : ro_ix 196 153 = some (153, .iconst 5, 0, 0) := by decide +kernel
theorem ri_196_154 : ro_ix 196 154 = some (154, .bipush 43, 0, 0) := by decide +kernel
theorem ri_196_156 : ro_ix 196 156 = some (156, .iastore, 0, 0) := by decide +kernel
theorem ri_196_157 : ro_ix 196 157 = some (157, .dup, 0, 0) := by decide +kernel
theorem ri_196_158 : ro_ix 196 158 = some (158, .bipush 6, 0, 0) := by decide +kernel
theorem ri_196_160 : ro_ix 196 160 = some (160, .bipush 119, 0, 0) := by decide +kernel
theorem ri_196_162 : ro_ix 196 162 = some (162, .iastore, 0, 0) := by decide +kernel
theorem ri_196_163 : ro_ix 196 163 = some (163, .dup, 0, 0) := by decide +kernel
theorem ri_196_164 : ro_ix 196 164 = some (164, .bipush 7, 0, 0) := by decide +kernel
theorem ri_196_166 : ro_ix 196 166 = some (166, .bipush 47, 0, 0) := by decide +kernel
theorem ri_196_168 : ro_ix 196 168 = some (168, .iastore, 0, 0) := by decide +kernel
theorem ri_196_169 : ro_ix 196 169 = some (169, .dup, 0, 0) := by decide +kernel
theorem ri_196_170 : ro_ix 196 170 = some (170, .bipush 8, 0, 0) := by decide +kernel
theorem ri_196_172 : ro_ix 196 172 = some (172, .bipush 52, 0, 0) := by decide +kernel
theorem ri_196_174 : ro_ix 196 174 = some (174, .iastore, 0, 0) := by decide +kernel
theorem ri_196_175 : ro_ix 196 175 = some (175, .dup, 0, 0) := by decide +kernel
theorem ri_196_176 : ro_ix 196 176 = some (176, .bipush 9, 0, 0) := by decide +kernel
theorem ri_196_178 : ro_ix 196 178 = some (178, .bipush 45, 0, 0) := by decide +kernel
theorem ri_196_180 : ro_ix 196 180 = some (180, .iastore, 0, 0) := by decide +kernel
theorem ri_196_181 : ro_ix 196 181 = some (181, .dup, 0, 0) := by decide +kernel
theorem ri_196_182 : ro_ix 196 182 = some (182, .bipush 10, 0, 0) := by decide +kernel
theorem ri_196_184 : ro_ix 196 184 = some (184, .bipush 99, 0, 0) := by decide +kernel
theorem ri_196_186 : ro_ix 196 186 = some (186, .iastore, 0, 0) := by decide +kernel
theorem ri_196_187 : ro_ix 196 187 = some (187, .dup, 0, 0) := by decide +kernel
theorem ri_196_188 : ro_ix 196 188 = some (188, .bipush 11, 0, 0) := by decide +kernel
theorem ri_196_190 : ro_ix 196 190 = some (190, .bipush 47, 0, 0) := by decide +kernel
theorem ri_196_192 : ro_ix 196 192 = some (192, .iastore, 0, 0) := by decide +kernel
theorem ri_196_193 : ro_ix 196 193 = some (193, .dup, 0, 0) := by decide +kernel
theorem ri_196_194 : ro_ix 196 194 = some (194, .bipush 12, 0, 0) := by decide +kernel
theorem ri_196_196 : ro_ix 196 196 = some (196, .bipush 51, 0, 0) := by decide +kernel
theorem ri_196_198 : ro_ix 196 198 = some (198, .iastore, 0, 0) := by decide +kernel
theorem ri_196_199 : ro_ix 196 199 = some (199, .dup, 0, 0) := by decide +kernel
theorem ri_196_200 : ro_ix 196 200 = some (200, .bipush 13, 0, 0) := by decide +kernel
theorem ri_196_202 : ro_ix 196 202 = some (202, .bipush 43, 0, 0) := by decide +kernel
theorem ri_196_204 : ro_ix 196 204 = some (204, .iastore, 0, 0) := by decide +kernel
theorem ri_196_205 : ro_ix 196 205 = some (205, .dup, 0, 0) := by decide +kernel
theorem ri_196_206 : ro_ix 196 206 = some (206, .bipush 14, 0, 0) := by decide +kernel
theorem ri_196_208 : ro_ix 196 208 = some (208, .bipush 104, 0, 0) := by decide +kernel
theorem ri_196_210 : ro_ix 196 210 = some (210, .iastore, 0, 0) := by decide +kernel
theorem ri_196_211 : ro_ix 196 211 = some (211, .dup, 0, 0) := by decide +kernel
theorem ri_196_212 : ro_ix 196 212 = some (212, .bipush 15, 0, 0) := by decide +kernel
theorem ri_196_214 : ro_ix 196 214 = some (214, .bipush 37, 0, 0) := by decide +kernel
theorem ri_196_216 : ro_ix 196 216 = some (216, .iastore, 0, 0) := by decide +kernel
theorem ri_196_217 : ro_ix 196 217 = some (217, .dup, 0, 0) := by decide +kernel
theorem ri_196_218 : ro_ix 196 218 = some (218, .bipush 16, 0, 0) := by decide +kernel
theorem ri_196_220 : ro_ix 196 220 = some (220, .bipush 51, 0, 0) := by decide +kernel
theorem ri_196_222 : ro_ix 196 222 = some (222, .iastore, 0, 0) := by decide +kernel
theorem ri_196_223 : ro_ix 196 223 = some (223, .dup, 0, 0) := by decide +kernel
theorem ri_196_224 : ro_ix 196 224 = some (224, .bipush 17, 0, 0) := by decide +kernel
theorem ri_196_226 : ro_ix 196 226 = some (226, .bipush 43, 0, 0) := by decide +kernel
theorem ri_196_228 : ro_ix 196 228 = some (228, .iastore, 0, 0) := by decide +kernel
theorem ri_196_229 : ro_ix 196 229 = some (229, .dup, 0, 0) := by decide +kernel
theorem ri_196_230 : ro_ix 196 230 = some (230, .bipush 18, 0, 0) := by decide +kernel
theorem ri_196_232 : ro_ix 196 232 = some (232, .bipush 110, 0, 0) := by decide +kernel
theorem ri_196_234 : ro_ix 196 234 = some (234, .iastore, 0, 0) := by decide +kernel
theorem ri_196_235 : ro_ix 196 235 = some (235, .astore_n 2, 0, 0) := by decide +kernel
theorem ri_196_236 : ro_ix 196 236 = some (236, .aload_n 0, 0, 0) := by decide +kernel
theorem ri_196_237 : ro_ix 196 237 = some (237, .aload_n 2, 0, 0) := by decide +kernel
theorem ri_196_238 : ro_ix 196 238 = some (238, .aload_n 2, 0, 0) := by decide +kernel
theorem ri_196_239 : ro_ix 196 239 = some (239, .arraylength, 0, 0) := by decide +kernel
theorem ri_196_240 : ro_ix 196 240 = some (240, .invokestatic 49, 199, 0) := by decide +kernel
theorem ri_196_243 : ro_ix 196 243 = some (243, .ifCond .eq 15, 0, 0) := by decide +kernel
theorem ri_196_246 : ro_ix 196 246 = some (246, .aload_n 0, 0, 0) := by decide +kernel
theorem ri_196_247 : ro_ix 196 247 = some (247, .invokevirtual 53, 43, 0) := by decide +kernel
theorem ri_196_250 : ro_ix 196 250 = some (250, .iconst 1, 0, 0) := by decide +kernel
theorem ri_196_251 : ro_ix 196 251 = some (251, .if_icmp .ne 7, 0, 0) := by decide +kernel
theorem ri_196_254 : ro_ix 196 254 = some (254, .iconst 1, 0, 0) := by decide +kernel
theorem ri_196_255 : ro_ix 196 255 = some (255, .goto 4, 0, 0) := by decide +kernel
theorem ri_196_258 : ro_ix 196 258 = some (258, .iconst 0, 0, 0) := by decide +kernel
theorem ri_196_259 : ro_ix 196 259 = some (259, .ireturn, 0, 0) := by decide +kernel
/-- RefusedOnceLaw.told([II)I -/
theorem rm_197 : (ro_m 197).2.2.1 = 3 ∧ (ro_m 197).2.2.2.1 = (some .int) ∧ (ro_m 197).2.2.2.2.1 = 15 ∧ (ro_m 197).2.2.2.2.2.1 = 2 := ⟨rfl, rfl, rfl, rfl⟩
theorem ri_197_0 : ro_ix 197 0 = some (0, .aload_n 0, 0, 0) := by decide +kernel
theorem ri_197_1 : ro_ix 197 1 = some (1, .bipush 7, 0, 0) := by decide +kernel
theorem ri_197_3 : ro_ix 197 3 = some (3, .invokestatic 17, 193, 0) := by decide +kernel
theorem ri_197_6 : ro_ix 197 6 = some (6, .istore_n 2, 0, 0) := by decide +kernel
theorem ri_197_7 : ro_ix 197 7 = some (7, .iload_n 1, 0, 0) := by decide +kernel
theorem ri_197_8 : ro_ix 197 8 = some (8, .ifCond .ne 9, 0, 0) := by decide +kernel
theorem ri_197_11 : ro_ix 197 11 = some (11, .iload_n 2, 0, 0) := by decide +kernel
theorem ri_197_12 : ro_ix 197 12 = some (12, .iconst 5, 0, 0) := by decide +kernel
theorem ri_197_13 : ro_ix 197 13 = some (13, .irem, 0, 0) := by decide +kernel
theorem ri_197_14 : ro_ix 197 14 = some (14, .goto 24, 0, 0) := by decide +kernel
theorem ri_197_17 : ro_ix 197 17 = some (17, .iload_n 1, 0, 0) := by decide +kernel
theorem ri_197_18 : ro_ix 197 18 = some (18, .iconst 1, 0, 0) := by decide +kernel
theorem ri_197_19 : ro_ix 197 19 = some (19, .if_icmp .ne 12, 0, 0) := by decide +kernel
theorem ri_197_22 : ro_ix 197 22 = some (22, .iload_n 2, 0, 0) := by decide +kernel
theorem ri_197_23 : ro_ix 197 23 = some (23, .iconst 3, 0, 0) := by decide +kernel
theorem ri_197_24 : ro_ix 197 24 = some (24, .ishr, 0, 0) := by decide +kernel
theorem ri_197_25 : ro_ix 197 25 = some (25, .bipush 12, 0, 0) := by decide +kernel
theorem ri_197_27 : ro_ix 197 27 = some (27, .irem, 0, 0) := by decide +kernel
theorem ri_197_28 : ro_ix 197 28 = some (28, .goto 10, 0, 0) := by decide +kernel
theorem ri_197_31 : ro_ix 197 31 = some (31, .iload_n 2, 0, 0) := by decide +kernel
theorem ri_197_32 : ro_ix 197 32 = some (32, .bipush 7, 0, 0) := by decide +kernel
theorem ri_197_34 : ro_ix 197 34 = some (34, .ishr, 0, 0) := by decide +kernel
theorem ri_197_35 : ro_ix 197 35 = some (35, .bipush 13, 0, 0) := by decide +kernel
theorem ri_197_37 : ro_ix 197 37 = some (37, .irem, 0, 0) := by decide +kernel
theorem ri_197_38 : ro_ix 197 38 = some (38, .ireturn, 0, 0) := by decide +kernel
/-- RefusedOnceLaw.hasLaw([I)Z -/
theorem rm_198 : (ro_m 198).2.2.1 = 1 ∧ (ro_m 198).2.2.2.1 = (some .boolean) ∧ (ro_m 198).2.2.2.2.1 = 15 ∧ (ro_m 198).2.2.2.2.2.1 = 1 := ⟨rfl, rfl, rfl, rfl⟩
theorem ri_198_0 : ro_ix 198 0 = some (0, .aload_n 0, 0, 0) := by decide +kernel
theorem ri_198_1 : ro_ix 198 1 = some (1, .iconst 0, 0, 0) := by decide +kernel
theorem ri_198_2 : ro_ix 198 2 = some (2, .invokestatic 17, 193, 0) := by decide +kernel
theorem ri_198_5 : ro_ix 198 5 = some (5, .iconst 3, 0, 0) := by decide +kernel
theorem ri_198_6 : ro_ix 198 6 = some (6, .ishr, 0, 0) := by decide +kernel
theorem ri_198_7 : ro_ix 198 7 = some (7, .iconst 1, 0, 0) := by decide +kernel
theorem ri_198_8 : ro_ix 198 8 = some (8, .iand, 0, 0) := by decide +kernel
theorem ri_198_9 : ro_ix 198 9 = some (9, .iconst 1, 0, 0) := by decide +kernel
theorem ri_198_10 : ro_ix 198 10 = some (10, .if_icmp .ne 7, 0, 0) := by decide +kernel
theorem ri_198_13 : ro_ix 198 13 = some (13, .iconst 1, 0, 0) := by decide +kernel
theorem ri_198_14 : ro_ix 198 14 = some (14, .goto 4, 0, 0) := by decide +kernel
theorem ri_198_17 : ro_ix 198 17 = some (17, .iconst 0, 0, 0) := by decide +kernel
theorem ri_198_18 : ro_ix 198 18 = some (18, .ireturn, 0, 0) := by decide +kernel
/-- RefusedOnceLaw.tell(LRefusedOnce;[II)Z -/
theorem rm_199 : (ro_m 199).2.2.1 = 4 ∧ (ro_m 199).2.2.2.1 = (some .boolean) ∧ (ro_m 199).2.2.2.2.1 = 15 ∧ (ro_m 199).2.2.2.2.2.1 = 3 := ⟨rfl, rfl, rfl, rfl⟩
theorem ri_199_0 : ro_ix 199 0 = some (0, .iconst 0, 0, 0) := by decide +kernel
theorem ri_199_1 : ro_ix 199 1 = some (1, .istore_n 3, 0, 0) := by decide +kernel
theorem ri_199_2 : ro_ix 199 2 = some (2, .iload_n 3, 0, 0) := by decide +kernel
theorem ri_199_3 : ro_ix 199 3 = some (3, .iload_n 2, 0, 0) := by decide +kernel
theorem ri_199_4 : ro_ix 199 4 = some (4, .if_icmp .ge 24, 0, 0) := by decide +kernel
theorem ri_199_7 : ro_ix 199 7 = some (7, .aload_n 0, 0, 0) := by decide +kernel
theorem ri_199_8 : ro_ix 199 8 = some (8, .aload_n 1, 0, 0) := by decide +kernel
theorem ri_199_9 : ro_ix 199 9 = some (9, .iload_n 3, 0, 0) := by decide +kernel
theorem ri_199_10 : ro_ix 199 10 = some (10, .iaload, 0, 0) := by decide +kernel
theorem ri_199_11 : ro_ix 199 11 = some (11, .invokevirtual 7, 40, 0) := by decide +kernel
theorem ri_199_14 : ro_ix 199 14 = some (14, .iload_n 3, 0, 0) := by decide +kernel
theorem ri_199_15 : ro_ix 199 15 = some (15, .iconst 1, 0, 0) := by decide +kernel
theorem ri_199_16 : ro_ix 199 16 = some (16, .iadd, 0, 0) := by decide +kernel
theorem ri_199_17 : ro_ix 199 17 = some (17, .if_icmp .eq 5, 0, 0) := by decide +kernel
theorem ri_199_20 : ro_ix 199 20 = some (20, .iconst 0, 0, 0) := by decide +kernel
theorem ri_199_21 : ro_ix 199 21 = some (21, .ireturn, 0, 0) := by decide +kernel
theorem ri_199_22 : ro_ix 199 22 = some (22, .iinc 3 1, 0, 0) := by decide +kernel
theorem ri_199_25 : ro_ix 199 25 = some (25, .goto (-23), 0, 0) := by decide +kernel
theorem ri_199_28 : ro_ix 199 28 = some (28, .aload_n 0, 0, 0) := by decide +kernel
theorem ri_199_29 : ro_ix 199 29 = some (29, .iconst 3, 0, 0) := by decide +kernel
theorem ri_199_30 : ro_ix 199 30 = some (30, .invokevirtual 13, 190, 0) := by decide +kernel
theorem ri_199_33 : ro_ix 199 33 = some (33, .iload_n 2, 0, 0) := by decide +kernel
theorem ri_199_34 : ro_ix 199 34 = some (34, .if_icmp .ne 7, 0, 0) := by decide +kernel
theorem ri_199_37 : ro_ix 199 37 = some (37, .iconst 1, 0, 0) := by decide +kernel
theorem ri_199_38 : ro_ix 199 38 = some (38, .goto 4, 0, 0) := by decide +kernel
theorem ri_199_41 : ro_ix 199 41 = some (41, .iconst 0, 0, 0) := by decide +kernel
theorem ri_199_42 : ro_ix 199 42 = some (42, .ireturn, 0, 0) := by decide +kernel
/-- RefusedOnceLaw.put(LRefusedOnce;I[I)Z -/
theorem rm_200 : (ro_m 200).2.2.1 = 4 ∧ (ro_m 200).2.2.2.1 = (some .boolean) ∧ (ro_m 200).2.2.2.2.1 = 15 ∧ (ro_m 200).2.2.2.2.2.1 = 3 := ⟨rfl, rfl, rfl, rfl⟩
theorem ri_200_0 : ro_ix 200 0 = some (0, .aload_n 0, 0, 0) := by decide +kernel
theorem ri_200_1 : ro_ix 200 1 = some (1, .iload_n 1, 0, 0) := by decide +kernel
theorem ri_200_2 : ro_ix 200 2 = some (2, .iconst 0, 0, 0) := by decide +kernel
theorem ri_200_3 : ro_ix 200 3 = some (3, .aload_n 2, 0, 0) := by decide +kernel
theorem ri_200_4 : ro_ix 200 4 = some (4, .arraylength, 0, 0) := by decide +kernel
theorem ri_200_5 : ro_ix 200 5 = some (5, .invokevirtual 57, 177, 0) := by decide +kernel
theorem ri_200_8 : ro_ix 200 8 = some (8, .iconst 1, 0, 0) := by decide +kernel
theorem ri_200_9 : ro_ix 200 9 = some (9, .if_icmp .eq 5, 0, 0) := by decide +kernel
theorem ri_200_12 : ro_ix 200 12 = some (12, .iconst 0, 0, 0) := by decide +kernel
theorem ri_200_13 : ro_ix 200 13 = some (13, .ireturn, 0, 0) := by decide +kernel
theorem ri_200_14 : ro_ix 200 14 = some (14, .iconst 0, 0, 0) := by decide +kernel
theorem ri_200_15 : ro_ix 200 15 = some (15, .istore_n 3, 0, 0) := by decide +kernel
theorem ri_200_16 : ro_ix 200 16 = some (16, .iload_n 3, 0, 0) := by decide +kernel
theorem ri_200_17 : ro_ix 200 17 = some (17, .aload_n 2, 0, 0) := by decide +kernel
theorem ri_200_18 : ro_ix 200 18 = some (18, .arraylength, 0, 0) := by decide +kernel
theorem ri_200_19 : ro_ix 200 19 = some (19, .if_icmp .ge 25, 0, 0) := by decide +kernel
theorem ri_200_22 : ro_ix 200 22 = some (22, .aload_n 0, 0, 0) := by decide +kernel
theorem ri_200_23 : ro_ix 200 23 = some (23, .iload_n 1, 0, 0) := by decide +kernel
theorem ri_200_24 : ro_ix 200 24 = some (24, .iload_n 3, 0, 0) := by decide +kernel
theorem ri_200_25 : ro_ix 200 25 = some (25, .aload_n 2, 0, 0) := by decide +kernel
theorem ri_200_26 : ro_ix 200 26 = some (26, .iload_n 3, 0, 0) := by decide +kernel
theorem ri_200_27 : ro_ix 200 27 = some (27, .iaload, 0, 0) := by decide +kernel
theorem ri_200_28 : ro_ix 200 28 = some (28, .i2l, 0, 0) := by decide +kernel
theorem ri_200_29 : ro_ix 200 29 = some (29, .invokevirtual 60, 179, 0) := by decide +kernel
theorem ri_200_32 : ro_ix 200 32 = some (32, .iconst 1, 0, 0) := by decide +kernel
theorem ri_200_33 : ro_ix 200 33 = some (33, .if_icmp .eq 5, 0, 0) := by decide +kernel
theorem ri_200_36 : ro_ix 200 36 = some (36, .iconst 0, 0, 0) := by decide +kernel
theorem ri_200_37 : ro_ix 200 37 = some (37, .ireturn, 0, 0) := by decide +kernel
theorem ri_200_38 : ro_ix 200 38 = some (38, .iinc 3 1, 0, 0) := by decide +kernel
theorem ri_200_41 : ro_ix 200 41 = some (41, .goto (-25), 0, 0) := by decide +kernel
theorem ri_200_44 : ro_ix 200 44 = some (44, .iconst 1, 0, 0) := by decide +kernel
theorem ri_200_45 : ro_ix 200 45 = some (45, .ireturn, 0, 0) := by decide +kernel
/-- RefusedOnceLaw.evening([III)[I -/
theorem rm_201 : (ro_m 201).2.2.1 = 9 ∧ (ro_m 201).2.2.2.1 = (some (.array .int)) ∧ (ro_m 201).2.2.2.2.1 = 15 ∧ (ro_m 201).2.2.2.2.2.1 = 3 := ⟨rfl, rfl, rfl, rfl⟩
theorem ri_201_0 : ro_ix 201 0 = some (0, .aload_n 0, 0, 0) := by decide +kernel
theorem ri_201_1 : ro_ix 201 1 = some (1, .invokestatic 23, 194, 0) := by decide +kernel
theorem ri_201_4 : ro_ix 201 4 = some (4, .istore_n 3, 0, 0) := by decide +kernel
theorem ri_201_5 : ro_ix 201 5 = some (5, .aload_n 0, 0, 0) := by decide +kernel
theorem ri_201_6 : ro_ix 201 6 = some (6, .iload_n 1, 0, 0) := by decide +kernel
theorem ri_201_7 : ro_ix 201 7 = some (7, .invokestatic 17, 193, 0) := by decide +kernel
theorem ri_201_10 : ro_ix 201 10 = some (10, .iload_n 2, 0, 0) := by decide +kernel
theorem ri_201_11 : ro_ix 201 11 = some (11, .iconst 1, 0, 0) := by decide +kernel
theorem ri_201_12 : ro_ix 201 12 = some (12, .iadd, 0, 0) := by decide +kernel
theorem ri_201_13 : ro_ix 201 13 = some (13, .irem, 0, 0) := by decide +kernel
theorem ri_201_14 : ro_ix 201 14 = some (14, .newarray .int, 0, 0) := by decide +kernel
theorem ri_201_16 : ro_ix 201 16 = some (16, .astore 4, 0, 0) := by decide +kernel
theorem ri_201_18 : ro_ix 201 18 = some (18, .iconst 0, 0, 0) := by decide +kernel
theorem ri_201_19 : ro_ix 201 19 = some (19, .istore 5, 0, 0) := by decide +kernel
theorem ri_201_21 : ro_ix 201 21 = some (21, .iload 5, 0, 0) := by decide +kernel
theorem ri_201_23 : ro_ix 201 23 = some (23, .aload 4, 0, 0) := by decide +kernel
theorem ri_201_25 : ro_ix 201 25 = some (25, .arraylength, 0, 0) := by decide +kernel
theorem ri_201_26 : ro_ix 201 26 = some (26, .if_icmp .ge 114, 0, 0) := by decide +kernel
theorem ri_201_29 : ro_ix 201 29 = some (29, .aload_n 0, 0, 0) := by decide +kernel
theorem ri_201_30 : ro_ix 201 30 = some (30, .iload_n 1, 0, 0) := by decide +kernel
theorem ri_201_31 : ro_ix 201 31 = some (31, .iconst 1, 0, 0) := by decide +kernel
theorem ri_201_32 : ro_ix 201 32 = some (32, .iadd, 0, 0) := by decide +kernel
theorem ri_201_33 : ro_ix 201 33 = some (33, .iload 5, 0, 0) := by decide +kernel
theorem ri_201_35 : ro_ix 201 35 = some (35, .iconst 3, 0, 0) := by decide +kernel
theorem ri_201_36 : ro_ix 201 36 = some (36, .irem, 0, 0) := by decide +kernel
theorem ri_201_37 : ro_ix 201 37 = some (37, .iadd, 0, 0) := by decide +kernel
theorem ri_201_38 : ro_ix 201 38 = some (38, .invokestatic 17, 193, 0) := by decide +kernel
theorem ri_201_41 : ro_ix 201 41 = some (41, .iload 5, 0, 0) := by decide +kernel
theorem ri_201_43 : ro_ix 201 43 = some (43, .ishr, 0, 0) := by decide +kernel
theorem ri_201_44 : ro_ix 201 44 = some (44, .istore 6, 0, 0) := by decide +kernel
theorem ri_201_46 : ro_ix 201 46 = some (46, .iload_n 3, 0, 0) := by decide +kernel
theorem ri_201_47 : ro_ix 201 47 = some (47, .iconst 2, 0, 0) := by decide +kernel
theorem ri_201_48 : ro_ix 201 48 = some (48, .if_icmp .ge 7, 0, 0) := by decide +kernel
theorem ri_201_51 : ro_ix 201 51 = some (51, .iconst 0, 0, 0) := by decide +kernel
theorem ri_201_52 : ro_ix 201 52 = some (52, .goto 7, 0, 0) := by decide +kernel
theorem ri_201_55 : ro_ix 201 55 = some (55, .iload 6, 0, 0) := by decide +kernel
theorem ri_201_57 : ro_ix 201 57 = some (57, .iload_n 3, 0, 0) := by decide +kernel
theorem ri_201_58 : ro_ix 201 58 = some (58, .irem, 0, 0) := by decide +kernel
theorem ri_201_59 : ro_ix 201 59 = some (59, .istore 7, 0, 0) := by decide +kernel
theorem ri_201_61 : ro_ix 201 61 = some (61, .iload_n 3, 0, 0) := by decide +kernel
theorem ri_201_62 : ro_ix 201 62 = some (62, .iconst 2, 0, 0) := by decide +kernel
theorem ri_201_63 : ro_ix 201 63 = some (63, .if_icmp .ge 7, 0, 0) := by decide +kernel
theorem ri_201_66 : ro_ix 201 66 = some (66, .iconst 1, 0, 0) := by decide +kernel
theorem ri_201_67 : ro_ix 201 67 = some (67, .goto 18, 0, 0) := by decide +kernel
theorem ri_201_70 : ro_ix 201 70 = some (70, .iload 7, 0, 0) := by decide +kernel
theorem ri_201_72 : ro_ix 201 72 = some (72, .iconst 1, 0, 0) := by decide +kernel
theorem ri_201_73 : ro_ix 201 73 = some (73, .iadd, 0, 0) := by decide +kernel
theorem ri_201_74 : ro_ix 201 74 = some (74, .iload 6, 0, 0) := by decide +kernel
theorem ri_201_76 : ro_ix 201 76 = some (76, .iconst 3, 0, 0) := by decide +kernel
theorem ri_201_77 : ro_ix 201 77 = some (77, .ishr, 0, 0) := by decide +kernel
theorem ri_201_78 : ro_ix 201 78 = some (78, .iload_n 3, 0, 0) := by decide +kernel
theorem ri_201_79 : ro_ix 201 79 = some (79, .iconst 1, 0, 0) := by decide +kernel
theorem ri_201_80 : ro_ix 201 80 = some (80, .isub, 0, 0) := by decide +kernel
theorem ri_201_81 : ro_ix 201 81 = some (81, .irem, 0, 0) := by decide +kernel
theorem ri_201_82 : ro_ix 201 82 = some (82, .iadd, 0, 0) := by decide +kernel
theorem ri_201_83 : ro_ix 201 83 = some (83, .iload_n 3, 0, 0) := by decide +kernel
theorem ri_201_84 : ro_ix 201 84 = some (84, .irem, 0, 0) := by decide +kernel
theorem ri_201_85 : ro_ix 201 85 = some (85, .istore 8, 0, 0) := by decide +kernel
theorem ri_201_87 : ro_ix 201 87 = some (87, .aload 4, 0, 0) := by decide +kernel
theorem ri_201_89 : ro_ix 201 89 = some (89, .iload 5, 0, 0) := by decide +kernel
theorem ri_201_91 : ro_ix 201 91 = some (91, .iload 6, 0, 0) := by decide +kernel
theorem ri_201_93 : ro_ix 201 93 = some (93, .bipush 67, 0, 0) := by decide +kernel
theorem ri_201_95 : ro_ix 201 95 = some (95, .irem, 0, 0) := by decide +kernel
theorem ri_201_96 : ro_ix 201 96 = some (96, .bipush 66, 0, 0) := by decide +kernel
theorem ri_201_98 : ro_ix 201 98 = some (98, .if_icmp .ne 8, 0, 0) := by decide +kernel
theorem ri_201_101 : ro_ix 201 101 = some (101, .bipush 120, 0, 0) := by decide +kernel
theorem ri_201_103 : ro_ix 201 103 = some (103, .goto 30, 0, 0) := by decide +kernel
theorem ri_201_106 : ro_ix 201 106 = some (106, .bipush 20, 0, 0) := by decide +kernel
theorem ri_201_108 : ro_ix 201 108 = some (108, .iload 7, 0, 0) := by decide +kernel
theorem ri_201_110 : ro_ix 201 110 = some (110, .imul, 0, 0) := by decide +kernel
theorem ri_201_111 : ro_ix 201 111 = some (111, .iconst 2, 0, 0) := by decide +kernel
theorem ri_201_112 : ro_ix 201 112 = some (112, .iload 8, 0, 0) := by decide +kernel
theorem ri_201_114 : ro_ix 201 114 = some (114, .imul, 0, 0) := by decide +kernel
theorem ri_201_115 : ro_ix 201 115 = some (115, .iadd, 0, 0) := by decide +kernel
theorem ri_201_116 : ro_ix 201 116 = some (116, .iload 6, 0, 0) := by decide +kernel
theorem ri_201_118 : ro_ix 201 118 = some (118, .bipush 6, 0, 0) := by decide +kernel
theorem ri_201_120 : ro_ix 201 120 = some (120, .ishr, 0, 0) := by decide +kernel
theorem ri_201_121 : ro_ix 201 121 = some (121, .iconst 3, 0, 0) := by decide +kernel
theorem ri_201_122 : ro_ix 201 122 = some (122, .iand, 0, 0) := by decide +kernel
theorem ri_201_123 : ro_ix 201 123 = some (123, .iconst 3, 0, 0) := by decide +kernel
theorem ri_201_124 : ro_ix 201 124 = some (124, .if_icmp .ne 7, 0, 0) := by decide +kernel
theorem ri_201_127 : ro_ix 201 127 = some (127, .iconst 1, 0, 0) := by decide +kernel
theorem ri_201_128 : ro_ix 201 128 = some (128, .goto 4, 0, 0) := by decide +kernel
theorem ri_201_131 : ro_ix 201 131 = some (131, .iconst 0, 0, 0) := by decide +kernel
theorem ri_201_132 : ro_ix 201 132 = some (132, .iadd, 0, 0) := by decide +kernel
theorem ri_201_133 : ro_ix 201 133 = some (133, .iastore, 0, 0) := by decide +kernel
theorem ri_201_134 : ro_ix 201 134 = some (134, .iinc 5 1, 0, 0) := by decide +kernel
theorem ri_201_137 : ro_ix 201 137 = some (137, .goto (-116), 0, 0) := by decide +kernel
theorem ri_201_140 : ro_ix 201 140 = some (140, .aload 4, 0, 0) := by decide +kernel
theorem ri_201_142 : ro_ix 201 142 = some (142, .areturn, 0, 0) := by decide +kernel
/-- RefusedOnceLaw.counting([I[I)I -/
theorem rm_202 : (ro_m 202).2.2.1 = 3 ∧ (ro_m 202).2.2.2.1 = (some .int) ∧ (ro_m 202).2.2.2.2.1 = 15 ∧ (ro_m 202).2.2.2.2.2.1 = 2 := ⟨rfl, rfl, rfl, rfl⟩
theorem ri_202_0 : ro_ix 202 0 = some (0, .iconst 0, 0, 0) := by decide +kernel
theorem ri_202_1 : ro_ix 202 1 = some (1, .istore_n 2, 0, 0) := by decide +kernel
theorem ri_202_2 : ro_ix 202 2 = some (2, .iload_n 2, 0, 0) := by decide +kernel
theorem ri_202_3 : ro_ix 202 3 = some (3, .bipush 20, 0, 0) := by decide +kernel
theorem ri_202_5 : ro_ix 202 5 = some (5, .if_icmp .ge 25, 0, 0) := by decide +kernel
theorem ri_202_8 : ro_ix 202 8 = some (8, .iload_n 2, 0, 0) := by decide +kernel
theorem ri_202_9 : ro_ix 202 9 = some (9, .aload_n 1, 0, 0) := by decide +kernel
theorem ri_202_10 : ro_ix 202 10 = some (10, .arraylength, 0, 0) := by decide +kernel
theorem ri_202_11 : ro_ix 202 11 = some (11, .if_icmp .ge 19, 0, 0) := by decide +kernel
theorem ri_202_14 : ro_ix 202 14 = some (14, .aload_n 0, 0, 0) := by decide +kernel
theorem ri_202_15 : ro_ix 202 15 = some (15, .aload_n 1, 0, 0) := by decide +kernel
theorem ri_202_16 : ro_ix 202 16 = some (16, .iload_n 2, 0, 0) := by decide +kernel
theorem ri_202_17 : ro_ix 202 17 = some (17, .iaload, 0, 0) := by decide +kernel
theorem ri_202_18 : ro_ix 202 18 = some (18, .invokestatic 64, 203, 0) := by decide +kernel
theorem ri_202_21 : ro_ix 202 21 = some (21, .ifCond .eq 9, 0, 0) := by decide +kernel
theorem ri_202_24 : ro_ix 202 24 = some (24, .iinc 2 1, 0, 0) := by decide +kernel
theorem ri_202_27 : ro_ix 202 27 = some (27, .goto (-25), 0, 0) := by decide +kernel
theorem ri_202_30 : ro_ix 202 30 = some (30, .iload_n 2, 0, 0) := by decide +kernel
theorem ri_202_31 : ro_ix 202 31 = some (31, .ireturn, 0, 0) := by decide +kernel
/-- RefusedOnceLaw.offer([II)Z -/
theorem rm_203 : (ro_m 203).2.2.1 = 2 ∧ (ro_m 203).2.2.2.1 = (some .boolean) ∧ (ro_m 203).2.2.2.2.1 = 15 ∧ (ro_m 203).2.2.2.2.2.1 = 2 := ⟨rfl, rfl, rfl, rfl⟩
theorem ri_203_0 : ro_ix 203 0 = some (0, .iload_n 1, 0, 0) := by decide +kernel
theorem ri_203_1 : ro_ix 203 1 = some (1, .ifCond .lt 44, 0, 0) := by decide +kernel
theorem ri_203_4 : ro_ix 203 4 = some (4, .iload_n 1, 0, 0) := by decide +kernel
theorem ri_203_5 : ro_ix 203 5 = some (5, .bipush 20, 0, 0) := by decide +kernel
theorem ri_203_7 : ro_ix 203 7 = some (7, .idiv, 0, 0) := by decide +kernel
theorem ri_203_8 : ro_ix 203 8 = some (8, .aload_n 0, 0, 0) := by decide +kernel
theorem ri_203_9 : ro_ix 203 9 = some (9, .invokestatic 23, 194, 0) := by decide +kernel
theorem ri_203_12 : ro_ix 203 12 = some (12, .if_icmp .ge 33, 0, 0) := by decide +kernel
theorem ri_203_15 : ro_ix 203 15 = some (15, .iload_n 1, 0, 0) := by decide +kernel
theorem ri_203_16 : ro_ix 203 16 = some (16, .bipush 20, 0, 0) := by decide +kernel
theorem ri_203_18 : ro_ix 203 18 = some (18, .irem, 0, 0) := by decide +kernel
theorem ri_203_19 : ro_ix 203 19 = some (19, .iconst 2, 0, 0) := by decide +kernel
theorem ri_203_20 : ro_ix 203 20 = some (20, .idiv, 0, 0) := by decide +kernel
theorem ri_203_21 : ro_ix 203 21 = some (21, .aload_n 0, 0, 0) := by decide +kernel
theorem ri_203_22 : ro_ix 203 22 = some (22, .invokestatic 23, 194, 0) := by decide +kernel
theorem ri_203_25 : ro_ix 203 25 = some (25, .if_icmp .ge 20, 0, 0) := by decide +kernel
theorem ri_203_28 : ro_ix 203 28 = some (28, .iload_n 1, 0, 0) := by decide +kernel
theorem ri_203_29 : ro_ix 203 29 = some (29, .bipush 20, 0, 0) := by decide +kernel
theorem ri_203_31 : ro_ix 203 31 = some (31, .idiv, 0, 0) := by decide +kernel
theorem ri_203_32 : ro_ix 203 32 = some (32, .iload_n 1, 0, 0) := by decide +kernel
theorem ri_203_33 : ro_ix 203 33 = some (33, .bipush 20, 0, 0) := by decide +kernel
theorem ri_203_35 : ro_ix 203 35 = some (35, .irem, 0, 0) := by decide +kernel
theorem ri_203_36 : ro_ix 203 36 = some (36, .iconst 2, 0, 0) := by decide +kernel
theorem ri_203_37 : ro_ix 203 37 = some (37, .idiv, 0, 0) := by decide +kernel
theorem ri_203_38 : ro_ix 203 38 = some (38, .if_icmp .eq 7, 0, 0) := by decide +kernel
theorem ri_203_41 : ro_ix 203 41 = some (41, .iconst 1, 0, 0) := by decide +kernel
theorem ri_203_42 : ro_ix 203 42 = some (42, .goto 4, 0, 0) := by decide +kernel
theorem ri_203_45 : ro_ix 203 45 = some (45, .iconst 0, 0, 0) := by decide +kernel
theorem ri_203_46 : ro_ix 203 46 = some (46, .ireturn, 0, 0) := by decide +kernel
/-- java/lang/Integer.bitCount(I)I -/
theorem rm_204 : (ro_m 204).2.2.1 = 1 ∧ (ro_m 204).2.2.2.1 = (some .int) ∧ (ro_m 204).2.2.2.2.1 = 17 ∧ (ro_m 204).2.2.2.2.2.1 = 1 := ⟨rfl, rfl, rfl, rfl⟩
theorem ri_204_0 : ro_ix 204 0 = some (0, .iload_n 0, 0, 0) := by decide +kernel
theorem ri_204_1 : ro_ix 204 1 = some (1, .iload_n 0, 0, 0) := by decide +kernel
theorem ri_204_2 : ro_ix 204 2 = some (2, .iconst 1, 0, 0) := by decide +kernel
theorem ri_204_3 : ro_ix 204 3 = some (3, .iushr, 0, 0) := by decide +kernel
theorem ri_204_4 : ro_ix 204 4 = some (4, .ldc_w 265, 0, 0) := by decide +kernel
theorem ri_204_7 : ro_ix 204 7 = some (7, .iand, 0, 0) := by decide +kernel
theorem ri_204_8 : ro_ix 204 8 = some (8, .isub, 0, 0) := by decide +kernel
theorem ri_204_9 : ro_ix 204 9 = some (9, .istore_n 0, 0, 0) := by decide +kernel
theorem ri_204_10 : ro_ix 204 10 = some (10, .iload_n 0, 0, 0) := by decide +kernel
theorem ri_204_11 : ro_ix 204 11 = some (11, .ldc_w 266, 0, 0) := by decide +kernel
theorem ri_204_14 : ro_ix 204 14 = some (14, .iand, 0, 0) := by decide +kernel
theorem ri_204_15 : ro_ix 204 15 = some (15, .iload_n 0, 0, 0) := by decide +kernel
theorem ri_204_16 : ro_ix 204 16 = some (16, .iconst 2, 0, 0) := by decide +kernel
theorem ri_204_17 : ro_ix 204 17 = some (17, .iushr, 0, 0) := by decide +kernel
theorem ri_204_18 : ro_ix 204 18 = some (18, .ldc_w 266, 0, 0) := by decide +kernel
theorem ri_204_21 : ro_ix 204 21 = some (21, .iand, 0, 0) := by decide +kernel
theorem ri_204_22 : ro_ix 204 22 = some (22, .iadd, 0, 0) := by decide +kernel
theorem ri_204_23 : ro_ix 204 23 = some (23, .istore_n 0, 0, 0) := by decide +kernel
theorem ri_204_24 : ro_ix 204 24 = some (24, .iload_n 0, 0, 0) := by decide +kernel
theorem ri_204_25 : ro_ix 204 25 = some (25, .iload_n 0, 0, 0) := by decide +kernel
theorem ri_204_26 : ro_ix 204 26 = some (26, .iconst 4, 0, 0) := by decide +kernel
theorem ri_204_27 : ro_ix 204 27 = some (27, .iushr, 0, 0) := by decide +kernel
theorem ri_204_28 : ro_ix 204 28 = some (28, .iadd, 0, 0) := by decide +kernel
theorem ri_204_29 : ro_ix 204 29 = some (29, .ldc_w 267, 0, 0) := by decide +kernel
theorem ri_204_32 : ro_ix 204 32 = some (32, .iand, 0, 0) := by decide +kernel
theorem ri_204_33 : ro_ix 204 33 = some (33, .istore_n 0, 0, 0) := by decide +kernel
theorem ri_204_34 : ro_ix 204 34 = some (34, .iload_n 0, 0, 0) := by decide +kernel
theorem ri_204_35 : ro_ix 204 35 = some (35, .iload_n 0, 0, 0) := by decide +kernel
theorem ri_204_36 : ro_ix 204 36 = some (36, .bipush 8, 0, 0) := by decide +kernel
theorem ri_204_38 : ro_ix 204 38 = some (38, .iushr, 0, 0) := by decide +kernel
theorem ri_204_39 : ro_ix 204 39 = some (39, .iadd, 0, 0) := by decide +kernel
theorem ri_204_40 : ro_ix 204 40 = some (40, .istore_n 0, 0, 0) := by decide +kernel
theorem ri_204_41 : ro_ix 204 41 = some (41, .iload_n 0, 0, 0) := by decide +kernel
theorem ri_204_42 : ro_ix 204 42 = some (42, .iload_n 0, 0, 0) := by decide +kernel
theorem ri_204_43 : ro_ix 204 43 = some (43, .bipush 16, 0, 0) := by decide +kernel
theorem ri_204_45 : ro_ix 204 45 = some (45, .iushr, 0, 0) := by decide +kernel
theorem ri_204_46 : ro_ix 204 46 = some (46, .iadd, 0, 0) := by decide +kernel
theorem ri_204_47 : ro_ix 204 47 = some (47, .istore_n 0, 0, 0) := by decide +kernel
theorem ri_204_48 : ro_ix 204 48 = some (48, .iload_n 0, 0, 0) := by decide +kernel
theorem ri_204_49 : ro_ix 204 49 = some (49, .bipush 63, 0, 0) := by decide +kernel
theorem ri_204_51 : ro_ix 204 51 = some (51, .iand, 0, 0) := by decide +kernel
theorem ri_204_52 : ro_ix 204 52 = some (52, .ireturn, 0, 0) := by decide +kernel
/-- java/util/Arrays.copyOf([II)[I -/
theorem rm_205 : (ro_m 205).2.2.1 = 3 ∧ (ro_m 205).2.2.2.1 = (some (.array .int)) ∧ (ro_m 205).2.2.2.2.1 = 18 ∧ (ro_m 205).2.2.2.2.2.1 = 2 := ⟨rfl, rfl, rfl, rfl⟩
theorem ri_205_0 : ro_ix 205 0 = some (0, .iload_n 1, 0, 0) := by decide +kernel
theorem ri_205_1 : ro_ix 205 1 = some (1, .aload_n 0, 0, 0) := by decide +kernel
theorem ri_205_2 : ro_ix 205 2 = some (2, .arraylength, 0, 0) := by decide +kernel
theorem ri_205_3 : ro_ix 205 3 = some (3, .if_icmp .ne 11, 0, 0) := by decide +kernel
theorem ri_205_6 : ro_ix 205 6 = some (6, .aload_n 0, 0, 0) := by decide +kernel
theorem ri_205_7 : ro_ix 205 7 = some (7, .invokevirtual 316, 0, 7) := by decide +kernel
theorem ri_205_10 : ro_ix 205 10 = some (10, .checkcast 317, 0, 0) := by decide +kernel
theorem ri_205_13 : ro_ix 205 13 = some (13, .areturn, 0, 0) := by decide +kernel
theorem ri_205_14 : ro_ix 205 14 = some (14, .iload_n 1, 0, 0) := by decide +kernel
theorem ri_205_15 : ro_ix 205 15 = some (15, .newarray .int, 0, 0) := by decide +kernel
theorem ri_205_17 : ro_ix 205 17 = some (17, .astore_n 2, 0, 0) := by decide +kernel
theorem ri_205_18 : ro_ix 205 18 = some (18, .aload_n 0, 0, 0) := by decide +kernel
theorem ri_205_19 : ro_ix 205 19 = some (19, .iconst 0, 0, 0) := by decide +kernel
theorem ri_205_20 : ro_ix 205 20 = some (20, .aload_n 2, 0, 0) := by decide +kernel
theorem ri_205_21 : ro_ix 205 21 = some (21, .iconst 0, 0, 0) := by decide +kernel
theorem ri_205_22 : ro_ix 205 22 = some (22, .aload_n 0, 0, 0) := by decide +kernel
theorem ri_205_23 : ro_ix 205 23 = some (23, .arraylength, 0, 0) := by decide +kernel
theorem ri_205_24 : ro_ix 205 24 = some (24, .iload_n 1, 0, 0) := by decide +kernel
theorem ri_205_25 : ro_ix 205 25 = some (25, .invokestatic 304, 1, 3) := by decide +kernel
theorem ri_205_28 : ro_ix 205 28 = some (28, .invokestatic 150, 0, 4) := by decide +kernel
theorem ri_205_31 : ro_ix 205 31 = some (31, .aload_n 2, 0, 0) := by decide +kernel
theorem ri_205_32 : ro_ix 205 32 = some (32, .areturn, 0, 0) := by decide +kernel
/-- RefusedOnceLaw.law([I)Z -/
theorem rm_206 : (ro_m 206).2.2.1 = 31 ∧ (ro_m 206).2.2.2.1 = (some .boolean) ∧ (ro_m 206).2.2.2.2.1 = 15 ∧ (ro_m 206).2.2.2.2.2.1 = 1 := ⟨rfl, rfl, rfl, rfl⟩
theorem ri_206_0 : ro_ix 206 0 = some (0, .new 8, 11, 0) := by decide +kernel
theorem ri_206_3 : ro_ix 206 3 = some (3, .dup, 0, 0) := by decide +kernel
theorem ri_206_4 : ro_ix 206 4 = some (4, .invokespecial 87, 0, 0) := by decide +kernel
theorem ri_206_7 : ro_ix 206 7 = some (7, .astore_n 1, 0, 0) := by decide +kernel
theorem ri_206_8 : ro_ix 206 8 = some (8, .aload_n 1, 0, 0) := by decide +kernel
theorem ri_206_9 : ro_ix 206 9 = some (9, .aload_n 0, 0, 0) := by decide +kernel
theorem ri_206_10 : ro_ix 206 10 = some (10, .invokestatic 88, 196, 0) := by decide +kernel
theorem ri_206_13 : ro_ix 206 13 = some (13, .ifCond .ne 5, 0, 0) := by decide +kernel
theorem ri_206_16 : ro_ix 206 16 = some (16, .iconst 0, 0, 0) := by decide +kernel
theorem ri_206_17 : ro_ix 206 17 = some (17, .ireturn, 0, 0) := by decide +kernel
theorem ri_206_18 : ro_ix 206 18 = some (18, .aload_n 0, 0, 0) := by decide +kernel
theorem ri_206_19 : ro_ix 206 19 = some (19, .invokestatic 23, 194, 0) := by decide +kernel
theorem ri_206_22 : ro_ix 206 22 = some (22, .istore_n 2, 0, 0) := by decide +kernel
theorem ri_206_23 : ro_ix 206 23 = some (23, .aload_n 0, 0, 0) := by decide +kernel
theorem ri_206_24 : ro_ix 206 24 = some (24, .bipush 8, 0, 0) := by decide +kernel
theorem ri_206_26 : ro_ix 206 26 = some (26, .bipush 10, 0, 0) := by decide +kernel
theorem ri_206_28 : ro_ix 206 28 = some (28, .invokestatic 92, 201, 0) := by decide +kernel
theorem ri_206_31 : ro_ix 206 31 = some (31, .astore_n 3, 0, 0) := by decide +kernel
theorem ri_206_32 : ro_ix 206 32 = some (32, .aload_n 0, 0, 0) := by decide +kernel
theorem ri_206_33 : ro_ix 206 33 = some (33, .aload_n 3, 0, 0) := by decide +kernel
theorem ri_206_34 : ro_ix 206 34 = some (34, .invokestatic 96, 202, 0) := by decide +kernel
theorem ri_206_37 : ro_ix 206 37 = some (37, .istore 4, 0, 0) := by decide +kernel
theorem ri_206_39 : ro_ix 206 39 = some (39, .aload_n 1, 0, 0) := by decide +kernel
theorem ri_206_40 : ro_ix 206 40 = some (40, .iconst 0, 0, 0) := by decide +kernel
theorem ri_206_41 : ro_ix 206 41 = some (41, .iconst 0, 0, 0) := by decide +kernel
theorem ri_206_42 : ro_ix 206 42 = some (42, .iconst 0, 0, 0) := by decide +kernel
theorem ri_206_43 : ro_ix 206 43 = some (43, .invokevirtual 57, 177, 0) := by decide +kernel
theorem ri_206_46 : ro_ix 206 46 = some (46, .iconst 1, 0, 0) := by decide +kernel
theorem ri_206_47 : ro_ix 206 47 = some (47, .if_icmp .ne 23, 0, 0) := by decide +kernel
theorem ri_206_50 : ro_ix 206 50 = some (50, .aload_n 1, 0, 0) := by decide +kernel
theorem ri_206_51 : ro_ix 206 51 = some (51, .iconst 0, 0, 0) := by decide +kernel
theorem ri_206_52 : ro_ix 206 52 = some (52, .aload_n 3, 0, 0) := by decide +kernel
theorem ri_206_53 : ro_ix 206 53 = some (53, .invokestatic 100, 200, 0) := by decide +kernel
theorem ri_206_56 : ro_ix 206 56 = some (56, .ifCond .eq 14, 0, 0) := by decide +kernel
theorem ri_206_59 : ro_ix 206 59 = some (59, .aload_n 1, 0, 0) := by decide +kernel
theorem ri_206_60 : ro_ix 206 60 = some (60, .iconst 0, 0, 0) := by decide +kernel
theorem ri_206_61 : ro_ix 206 61 = some (61, .bipush 20, 0, 0) := by decide +kernel
theorem ri_206_63 : ro_ix 206 63 = some (63, .iconst 1, 0, 0) := by decide +kernel
theorem ri_206_64 : ro_ix 206 64 = some (64, .invokevirtual 103, 79, 0) := by decide +kernel
theorem ri_206_67 : ro_ix 206 67 = some (67, .goto 5, 0, 0) := by decide +kernel
theorem ri_206_70 : ro_ix 206 70 = some (70, .bipush (-9), 0, 0) := by decide +kernel
theorem ri_206_72 : ro_ix 206 72 = some (72, .istore 5, 0, 0) := by decide +kernel
theorem ri_206_74 : ro_ix 206 74 = some (74, .iload 5, 0, 0) := by decide +kernel
theorem ri_206_76 : ro_ix 206 76 = some (76, .bipush (-9), 0, 0) := by decide +kernel
theorem ri_206_78 : ro_ix 206 78 = some (78, .if_icmp .ne 5, 0, 0) := by decide +kernel
theorem ri_206_81 : ro_ix 206 81 = some (81, .iconst 0, 0, 0) := by decide +kernel
theorem ri_206_82 : ro_ix 206 82 = some (82, .ireturn, 0, 0) := by decide +kernel
theorem ri_206_83 : ro_ix 206 83 = some (83, .iload 5, 0, 0) := by decide +kernel
theorem ri_206_85 : ro_ix 206 85 = some (85, .ifCond .ge 8, 0, 0) := by decide +kernel
theorem ri_206_88 : ro_ix 206 88 = some (88, .iload 4, 0, 0) := by decide +kernel
theorem ri_206_90 : ro_ix 206 90 = some (90, .goto 5, 0, 0) := by decide +kernel
theorem ri_206_93 : ro_ix 206 93 = some (93, .iload 5, 0, 0) := by decide +kernel
theorem ri_206_95 : ro_ix 206 95 = some (95, .istore 6, 0, 0) := by decide +kernel
theorem ri_206_97 : ro_ix 206 97 = some (97, .aload_n 3, 0, 0) := by decide +kernel
theorem ri_206_98 : ro_ix 206 98 = some (98, .iload 6, 0, 0) := by decide +kernel
theorem ri_206_100 : ro_ix 206 100 = some (100, .invokestatic 105, 205, 0) := by decide +kernel
theorem ri_206_103 : ro_ix 206 103 = some (103, .astore 7, 0, 0) := by decide +kernel
theorem ri_206_105 : ro_ix 206 105 = some (105, .aload_n 1, 0, 0) := by decide +kernel
theorem ri_206_106 : ro_ix 206 106 = some (106, .iconst 0, 0, 0) := by decide +kernel
theorem ri_206_107 : ro_ix 206 107 = some (107, .aload 7, 0, 0) := by decide +kernel
theorem ri_206_109 : ro_ix 206 109 = some (109, .invokestatic 100, 200, 0) := by decide +kernel
theorem ri_206_112 : ro_ix 206 112 = some (112, .ifCond .ne 5, 0, 0) := by decide +kernel
theorem ri_206_115 : ro_ix 206 115 = some (115, .iconst 0, 0, 0) := by decide +kernel
theorem ri_206_116 : ro_ix 206 116 = some (116, .ireturn, 0, 0) := by decide +kernel
theorem ri_206_117 : ro_ix 206 117 = some (117, .aload_n 1, 0, 0) := by decide +kernel
theorem ri_206_118 : ro_ix 206 118 = some (118, .iconst 0, 0, 0) := by decide +kernel
theorem ri_206_119 : ro_ix 206 119 = some (119, .bipush 20, 0, 0) := by decide +kernel
theorem ri_206_121 : ro_ix 206 121 = some (121, .iconst 0, 0, 0) := by decide +kernel
theorem ri_206_122 : ro_ix 206 122 = some (122, .invokevirtual 103, 79, 0) := by decide +kernel
theorem ri_206_125 : ro_ix 206 125 = some (125, .istore 8, 0, 0) := by decide +kernel
theorem ri_206_127 : ro_ix 206 127 = some (127, .aload_n 1, 0, 0) := by decide +kernel
theorem ri_206_128 : ro_ix 206 128 = some (128, .iconst 0, 0, 0) := by decide +kernel
theorem ri_206_129 : ro_ix 206 129 = some (129, .bipush 20, 0, 0) := by decide +kernel
theorem ri_206_131 : ro_ix 206 131 = some (131, .iconst 2, 0, 0) := by decide +kernel
theorem ri_206_132 : ro_ix 206 132 = some (132, .invokevirtual 103, 79, 0) := by decide +kernel
theorem ri_206_135 : ro_ix 206 135 = some (135, .istore 9, 0, 0) := by decide +kernel
theorem ri_206_137 : ro_ix 206 137 = some (137, .iconst 2, 0, 0) := by decide +kernel
theorem ri_206_138 : ro_ix 206 138 = some (138, .iload_n 2, 0, 0) := by decide +kernel
theorem ri_206_139 : ro_ix 206 139 = some (139, .imul, 0, 0) := by decide +kernel
theorem ri_206_140 : ro_ix 206 140 = some (140, .newarray .int, 0, 0) := by decide +kernel
theorem ri_206_142 : ro_ix 206 142 = some (142, .astore 10, 0, 0) := by decide +kernel
theorem ri_206_144 : ro_ix 206 144 = some (144, .iconst 0, 0, 0) := by decide +kernel
theorem ri_206_145 : ro_ix 206 145 = some (145, .istore 11, 0, 0) := by decide +kernel
theorem ri_206_147 : ro_ix 206 147 = some (147, .iconst 0, 0, 0) := by decide +kernel
theorem ri_206_148 : ro_ix 206 148 = some (148, .istore 12, 0, 0) := by decide +kernel
theorem ri_206_150 : ro_ix 206 150 = some (150, .iconst 0, 0, 0) := by decide +kernel
theorem ri_206_151 : ro_ix 206 151 = some (151, .istore 13, 0, 0) := by decide +kernel
theorem ri_206_153 : ro_ix 206 153 = some (153, .iload 13, 0, 0) := by decide +kernel
theorem ri_206_155 : ro_ix 206 155 = some (155, .iload_n 2, 0, 0) := by decide +kernel
theorem ri_206_156 : ro_ix 206 156 = some (156, .if_icmp .ge 147, 0, 0) := by decide +kernel
theorem ri_206_159 : ro_ix 206 159 = some (159, .aload 10, 0, 0) := by decide +kernel
theorem ri_206_161 : ro_ix 206 161 = some (161, .iconst 2, 0, 0) := by decide +kernel
theorem ri_206_162 : ro_ix 206 162 = some (162, .iload 13, 0, 0) := by decide +kernel
theorem ri_206_164 : ro_ix 206 164 = some (164, .imul, 0, 0) := by decide +kernel
theorem ri_206_165 : ro_ix 206 165 = some (165, .aload_n 1, 0, 0) := by decide +kernel
theorem ri_206_166 : ro_ix 206 166 = some (166, .iconst 0, 0, 0) := by decide +kernel
theorem ri_206_167 : ro_ix 206 167 = some (167, .bipush 20, 0, 0) := by decide +kernel
theorem ri_206_169 : ro_ix 206 169 = some (169, .iload 13, 0, 0) := by decide +kernel
theorem ri_206_171 : ro_ix 206 171 = some (171, .iconst 0, 0, 0) := by decide +kernel
theorem ri_206_172 : ro_ix 206 172 = some (172, .invokevirtual 111, 64, 0) := by decide +kernel
theorem ri_206_175 : ro_ix 206 175 = some (175, .iastore, 0, 0) := by decide +kernel
theorem ri_206_176 : ro_ix 206 176 = some (176, .aload 10, 0, 0) := by decide +kernel
theorem ri_206_178 : ro_ix 206 178 = some (178, .iconst 2, 0, 0) := by decide +kernel
theorem ri_206_179 : ro_ix 206 179 = some (179, .iload 13, 0, 0) := by decide +kernel
theorem ri_206_181 : ro_ix 206 181 = some (181, .imul, 0, 0) := by decide +kernel
theorem ri_206_182 : ro_ix 206 182 = some (182, .iconst 1, 0, 0) := by decide +kernel
theorem ri_206_183 : ro_ix 206 183 = some (183, .iadd, 0, 0) := by decide +kernel
theorem ri_206_184 : ro_ix 206 184 = some (184, .aload_n 1, 0, 0) := by decide +kernel
theorem ri_206_185 : ro_ix 206 185 = some (185, .iconst 0, 0, 0) := by decide +kernel
theorem ri_206_186 : ro_ix 206 186 = some (186, .bipush 20, 0, 0) := by decide +kernel
theorem ri_206_188 : ro_ix 206 188 = some (188, .iload 13, 0, 0) := by decide +kernel
theorem ri_206_190 : ro_ix 206 190 = some (190, .iconst 1, 0, 0) := by decide +kernel
theorem ri_206_191 : ro_ix 206 191 = some (191, .invokevirtual 111, 64, 0) := by decide +kernel
theorem ri_206_194 : ro_ix 206 194 = some (194, .iastore, 0, 0) := by decide +kernel
theorem ri_206_195 : ro_ix 206 195 = some (195, .iload 11, 0, 0) := by decide +kernel
theorem ri_206_197 : ro_ix 206 197 = some (197, .aload 10, 0, 0) := by decide +kernel
theorem ri_206_199 : ro_ix 206 199 = some (199, .iconst 2, 0, 0) := by decide +kernel
theorem ri_206_200 : ro_ix 206 200 = some (200, .iload 13, 0, 0) := by decide +kernel
theorem ri_206_202 : ro_ix 206 202 = some (202, .imul, 0, 0) := by decide +kernel
theorem ri_206_203 : ro_ix 206 203 = some (203, .iaload, 0, 0) := by decide +kernel
theorem ri_206_204 : ro_ix 206 204 = some (204, .aload 10, 0, 0) := by decide +kernel
theorem ri_206_206 : ro_ix 206 206 = some (206, .iconst 2, 0, 0) := by decide +kernel
theorem ri_206_207 : ro_ix 206 207 = some (207, .iload 13, 0, 0) := by decide +kernel
theorem ri_206_209 : ro_ix 206 209 = some (209, .imul, 0, 0) := by decide +kernel
theorem ri_206_210 : ro_ix 206 210 = some (210, .iconst 1, 0, 0) := by decide +kernel
theorem ri_206_211 : ro_ix 206 211 = some (211, .iadd, 0, 0) := by decide +kernel
theorem ri_206_212 : ro_ix 206 212 = some (212, .iaload, 0, 0) := by decide +kernel
theorem ri_206_213 : ro_ix 206 213 = some (213, .iadd, 0, 0) := by decide +kernel
theorem ri_206_214 : ro_ix 206 214 = some (214, .iadd, 0, 0) := by decide +kernel
theorem ri_206_215 : ro_ix 206 215 = some (215, .istore 11, 0, 0) := by decide +kernel
theorem ri_206_217 : ro_ix 206 217 = some (217, .iload 12, 0, 0) := by decide +kernel
theorem ri_206_219 : ro_ix 206 219 = some (219, .aload_n 1, 0, 0) := by decide +kernel
theorem ri_206_220 : ro_ix 206 220 = some (220, .iload 13, 0, 0) := by decide +kernel
theorem ri_206_222 : ro_ix 206 222 = some (222, .iconst 0, 0, 0) := by decide +kernel
theorem ri_206_223 : ro_ix 206 223 = some (223, .invokevirtual 115, 36, 0) := by decide +kernel
theorem ri_206_226 : ro_ix 206 226 = some (226, .aload_n 1, 0, 0) := by decide +kernel
theorem ri_206_227 : ro_ix 206 227 = some (227, .iload 13, 0, 0) := by decide +kernel
theorem ri_206_229 : ro_ix 206 229 = some (229, .iconst 1, 0, 0) := by decide +kernel
theorem ri_206_230 : ro_ix 206 230 = some (230, .invokevirtual 115, 36, 0) := by decide +kernel
theorem ri_206_233 : ro_ix 206 233 = some (233, .iadd, 0, 0) := by decide +kernel
theorem ri_206_234 : ro_ix 206 234 = some (234, .iadd, 0, 0) := by decide +kernel
theorem ri_206_235 : ro_ix 206 235 = some (235, .istore 12, 0, 0) := by decide +kernel
theorem ri_206_237 : ro_ix 206 237 = some (237, .aload_n 1, 0, 0) := by decide +kernel
theorem ri_206_238 : ro_ix 206 238 = some (238, .iconst 0, 0, 0) := by decide +kernel
theorem ri_206_239 : ro_ix 206 239 = some (239, .bipush 20, 0, 0) := by decide +kernel
theorem ri_206_241 : ro_ix 206 241 = some (241, .iload 13, 0, 0) := by decide +kernel
theorem ri_206_243 : ro_ix 206 243 = some (243, .iconst 2, 0, 0) := by decide +kernel
theorem ri_206_244 : ro_ix 206 244 = some (244, .invokevirtual 111, 64, 0) := by decide +kernel
theorem ri_206_247 : ro_ix 206 247 = some (247, .iconst 4, 0, 0) := by decide +kernel
theorem ri_206_248 : ro_ix 206 248 = some (248, .aload 10, 0, 0) := by decide +kernel
theorem ri_206_250 : ro_ix 206 250 = some (250, .iconst 2, 0, 0) := by decide +kernel
theorem ri_206_251 : ro_ix 206 251 = some (251, .iload 13, 0, 0) := by decide +kernel
theorem ri_206_253 : ro_ix 206 253 = some (253, .imul, 0, 0) := by decide +kernel
theorem ri_206_254 : ro_ix 206 254 = some (254, .iaload, 0, 0) := by decide +kernel
theorem ri_206_255 : ro_ix 206 255 = some (255, .imul, 0, 0) := by decide +kernel
theorem ri_206_256 : ro_ix 206 256 = some (256, .aload_n 1, 0, 0) := by decide +kernel
theorem ri_206_257 : ro_ix 206 257 = some (257, .iconst 0, 0, 0) := by decide +kernel
theorem ri_206_258 : ro_ix 206 258 = some (258, .iconst 4, 0, 0) := by decide +kernel
theorem ri_206_259 : ro_ix 206 259 = some (259, .invokevirtual 115, 36, 0) := by decide +kernel
theorem ri_206_262 : ro_ix 206 262 = some (262, .aload 10, 0, 0) := by decide +kernel
theorem ri_206_264 : ro_ix 206 264 = some (264, .iconst 2, 0, 0) := by decide +kernel
theorem ri_206_265 : ro_ix 206 265 = some (265, .iload 13, 0, 0) := by decide +kernel
theorem ri_206_267 : ro_ix 206 267 = some (267, .imul, 0, 0) := by decide +kernel
theorem ri_206_268 : ro_ix 206 268 = some (268, .iconst 1, 0, 0) := by decide +kernel
theorem ri_206_269 : ro_ix 206 269 = some (269, .iadd, 0, 0) := by decide +kernel
theorem ri_206_270 : ro_ix 206 270 = some (270, .iaload, 0, 0) := by decide +kernel
theorem ri_206_271 : ro_ix 206 271 = some (271, .imul, 0, 0) := by decide +kernel
theorem ri_206_272 : ro_ix 206 272 = some (272, .iadd, 0, 0) := by decide +kernel
theorem ri_206_273 : ro_ix 206 273 = some (273, .if_icmp .ne 22, 0, 0) := by decide +kernel
theorem ri_206_276 : ro_ix 206 276 = some (276, .aload_n 1, 0, 0) := by decide +kernel
theorem ri_206_277 : ro_ix 206 277 = some (277, .iconst 0, 0, 0) := by decide +kernel
theorem ri_206_278 : ro_ix 206 278 = some (278, .iconst 0, 0, 0) := by decide +kernel
theorem ri_206_279 : ro_ix 206 279 = some (279, .iload 13, 0, 0) := by decide +kernel
theorem ri_206_281 : ro_ix 206 281 = some (281, .iconst 0, 0, 0) := by decide +kernel
theorem ri_206_282 : ro_ix 206 282 = some (282, .invokevirtual 111, 64, 0) := by decide +kernel
theorem ri_206_285 : ro_ix 206 285 = some (285, .aload_n 1, 0, 0) := by decide +kernel
theorem ri_206_286 : ro_ix 206 286 = some (286, .iload 13, 0, 0) := by decide +kernel
theorem ri_206_288 : ro_ix 206 288 = some (288, .iconst 0, 0, 0) := by decide +kernel
theorem ri_206_289 : ro_ix 206 289 = some (289, .invokevirtual 115, 36, 0) := by decide +kernel
theorem ri_206_292 : ro_ix 206 292 = some (292, .if_icmp .eq 5, 0, 0) := by decide +kernel
theorem ri_206_295 : ro_ix 206 295 = some (295, .iconst 0, 0, 0) := by decide +kernel
theorem ri_206_296 : ro_ix 206 296 = some (296, .ireturn, 0, 0) := by decide +kernel
theorem ri_206_297 : ro_ix 206 297 = some (297, .iinc 13 1, 0, 0) := by decide +kernel
theorem ri_206_300 : ro_ix 206 300 = some (300, .goto (-147), 0, 0) := by decide +kernel
theorem ri_206_303 : ro_ix 206 303 = some (303, .iload 11, 0, 0) := by decide +kernel
theorem ri_206_305 : ro_ix 206 305 = some (305, .iload 12, 0, 0) := by decide +kernel
theorem ri_206_307 : ro_ix 206 307 = some (307, .if_icmp .ne 13, 0, 0) := by decide +kernel
theorem ri_206_310 : ro_ix 206 310 = some (310, .iload 9, 0, 0) := by decide +kernel
theorem ri_206_312 : ro_ix 206 312 = some (312, .invokestatic 119, 204, 0) := by decide +kernel
theorem ri_206_315 : ro_ix 206 315 = some (315, .iload 8, 0, 0) := by decide +kernel
theorem ri_206_317 : ro_ix 206 317 = some (317, .if_icmp .le 5, 0, 0) := by decide +kernel
theorem ri_206_320 : ro_ix 206 320 = some (320, .iconst 0, 0, 0) := by decide +kernel
theorem ri_206_321 : ro_ix 206 321 = some (321, .ireturn, 0, 0) := by decide +kernel
theorem ri_206_322 : ro_ix 206 322 = some (322, .aload_n 1, 0, 0) := by decide +kernel
theorem ri_206_323 : ro_ix 206 323 = some (323, .iconst 1, 0, 0) := by decide +kernel
theorem ri_206_324 : ro_ix 206 324 = some (324, .aload 10, 0, 0) := by decide +kernel
theorem ri_206_326 : ro_ix 206 326 = some (326, .invokestatic 100, 200, 0) := by decide +kernel
theorem ri_206_329 : ro_ix 206 329 = some (329, .ifCond .ne 5, 0, 0) := by decide +kernel
theorem ri_206_332 : ro_ix 206 332 = some (332, .iconst 0, 0, 0) := by decide +kernel
theorem ri_206_333 : ro_ix 206 333 = some (333, .ireturn, 0, 0) := by decide +kernel
theorem ri_206_334 : ro_ix 206 334 = some (334, .aload_n 1, 0, 0) := by decide +kernel
theorem ri_206_335 : ro_ix 206 335 = some (335, .iconst 0, 0, 0) := by decide +kernel
theorem ri_206_336 : ro_ix 206 336 = some (336, .iconst 1, 0, 0) := by decide +kernel
theorem ri_206_337 : ro_ix 206 337 = some (337, .iconst 0, 0, 0) := by decide +kernel
theorem ri_206_338 : ro_ix 206 338 = some (338, .invokevirtual 124, 119, 0) := by decide +kernel
theorem ri_206_341 : ro_ix 206 341 = some (341, .istore 13, 0, 0) := by decide +kernel
theorem ri_206_343 : ro_ix 206 343 = some (343, .iload 13, 0, 0) := by decide +kernel
theorem ri_206_345 : ro_ix 206 345 = some (345, .iconst 1, 0, 0) := by decide +kernel
theorem ri_206_346 : ro_ix 206 346 = some (346, .if_icmp .lt 35, 0, 0) := by decide +kernel
theorem ri_206_349 : ro_ix 206 349 = some (349, .aload_n 1, 0, 0) := by decide +kernel
theorem ri_206_350 : ro_ix 206 350 = some (350, .iconst 0, 0, 0) := by decide +kernel
theorem ri_206_351 : ro_ix 206 351 = some (351, .iconst 1, 0, 0) := by decide +kernel
theorem ri_206_352 : ro_ix 206 352 = some (352, .iconst 1, 0, 0) := by decide +kernel
theorem ri_206_353 : ro_ix 206 353 = some (353, .invokevirtual 124, 119, 0) := by decide +kernel
theorem ri_206_356 : ro_ix 206 356 = some (356, .iload 8, 0, 0) := by decide +kernel
theorem ri_206_358 : ro_ix 206 358 = some (358, .if_icmp .gt 23, 0, 0) := by decide +kernel
theorem ri_206_361 : ro_ix 206 361 = some (361, .aload_n 1, 0, 0) := by decide +kernel
theorem ri_206_362 : ro_ix 206 362 = some (362, .iconst 0, 0, 0) := by decide +kernel
theorem ri_206_363 : ro_ix 206 363 = some (363, .iconst 1, 0, 0) := by decide +kernel
theorem ri_206_364 : ro_ix 206 364 = some (364, .iconst 2, 0, 0) := by decide +kernel
theorem ri_206_365 : ro_ix 206 365 = some (365, .invokevirtual 124, 119, 0) := by decide +kernel
theorem ri_206_368 : ro_ix 206 368 = some (368, .invokestatic 119, 204, 0) := by decide +kernel
theorem ri_206_371 : ro_ix 206 371 = some (371, .aload_n 1, 0, 0) := by decide +kernel
theorem ri_206_372 : ro_ix 206 372 = some (372, .iconst 0, 0, 0) := by decide +kernel
theorem ri_206_373 : ro_ix 206 373 = some (373, .iconst 1, 0, 0) := by decide +kernel
theorem ri_206_374 : ro_ix 206 374 = some (374, .iconst 1, 0, 0) := by decide +kernel
theorem ri_206_375 : ro_ix 206 375 = some (375, .invokevirtual 124, 119, 0) := by decide +kernel
theorem ri_206_378 : ro_ix 206 378 = some (378, .if_icmp .eq 5, 0, 0) := by decide +kernel
theorem ri_206_381 : ro_ix 206 381 = some (381, .iconst 0, 0, 0) := by decide +kernel
theorem ri_206_382 : ro_ix 206 382 = some (382, .ireturn, 0, 0) := by decide +kernel
theorem ri_206_383 : ro_ix 206 383 = some (383, .aload_n 1, 0, 0) := by decide +kernel
theorem ri_206_384 : ro_ix 206 384 = some (384, .iconst 0, 0, 0) := by decide +kernel
theorem ri_206_385 : ro_ix 206 385 = some (385, .iconst 1, 0, 0) := by decide +kernel
theorem ri_206_386 : ro_ix 206 386 = some (386, .iconst 3, 0, 0) := by decide +kernel
theorem ri_206_387 : ro_ix 206 387 = some (387, .invokevirtual 124, 119, 0) := by decide +kernel
theorem ri_206_390 : ro_ix 206 390 = some (390, .istore 14, 0, 0) := by decide +kernel
theorem ri_206_392 : ro_ix 206 392 = some (392, .iload 14, 0, 0) := by decide +kernel
theorem ri_206_394 : ro_ix 206 394 = some (394, .aload_n 1, 0, 0) := by decide +kernel
theorem ri_206_395 : ro_ix 206 395 = some (395, .iconst 0, 0, 0) := by decide +kernel
theorem ri_206_396 : ro_ix 206 396 = some (396, .iconst 1, 0, 0) := by decide +kernel
theorem ri_206_397 : ro_ix 206 397 = some (397, .iconst 2, 0, 0) := by decide +kernel
theorem ri_206_398 : ro_ix 206 398 = some (398, .invokevirtual 124, 119, 0) := by decide +kernel
theorem ri_206_401 : ro_ix 206 401 = some (401, .iconst (-1), 0, 0) := by decide +kernel
theorem ri_206_402 : ro_ix 206 402 = some (402, .ixor, 0, 0) := by decide +kernel
theorem ri_206_403 : ro_ix 206 403 = some (403, .iand, 0, 0) := by decide +kernel
theorem ri_206_404 : ro_ix 206 404 = some (404, .ifCond .eq 5, 0, 0) := by decide +kernel
theorem ri_206_407 : ro_ix 206 407 = some (407, .iconst 0, 0, 0) := by decide +kernel
theorem ri_206_408 : ro_ix 206 408 = some (408, .ireturn, 0, 0) := by decide +kernel
theorem ri_206_409 : ro_ix 206 409 = some (409, .aload_n 1, 0, 0) := by decide +kernel
theorem ri_206_410 : ro_ix 206 410 = some (410, .invokevirtual 127, 150, 0) := by decide +kernel
theorem ri_206_413 : ro_ix 206 413 = some (413, .ifCond .eq 5, 0, 0) := by decide +kernel
theorem ri_206_416 : ro_ix 206 416 = some (416, .iconst 0, 0, 0) := by decide +kernel
theorem ri_206_417 : ro_ix 206 417 = some (417, .ireturn, 0, 0) := by decide +kernel
theorem ri_206_418 : ro_ix 206 418 = some (418, .iconst 0, 0, 0) := by decide +kernel
theorem ri_206_419 : ro_ix 206 419 = some (419, .istore 15, 0, 0) := by decide +kernel
theorem ri_206_421 : ro_ix 206 421 = some (421, .iconst 0, 0, 0) := by decide +kernel
theorem ri_206_422 : ro_ix 206 422 = some (422, .istore 16, 0, 0) := by decide +kernel
theorem ri_206_424 : ro_ix 206 424 = some (424, .iconst 0, 0, 0) := by decide +kernel
theorem ri_206_425 : ro_ix 206 425 = some (425, .istore 17, 0, 0) := by decide +kernel
theorem ri_206_427 : ro_ix 206 427 = some (427, .iload 17, 0, 0) := by decide +kernel
theorem ri_206_429 : ro_ix 206 429 = some (429, .iload 6, 0, 0) := by decide +kernel
theorem ri_206_431 : ro_ix 206 431 = some (431, .if_icmp .ge 111, 0, 0) := by decide +kernel
theorem ri_206_434 : ro_ix 206 434 = some (434, .bipush 10, 0, 0) := by decide +kernel
theorem ri_206_436 : ro_ix 206 436 = some (436, .aload 7, 0, 0) := by decide +kernel
theorem ri_206_438 : ro_ix 206 438 = some (438, .iload 17, 0, 0) := by decide +kernel
theorem ri_206_440 : ro_ix 206 440 = some (440, .iaload, 0, 0) := by decide +kernel
theorem ri_206_441 : ro_ix 206 441 = some (441, .bipush 20, 0, 0) := by decide +kernel
theorem ri_206_443 : ro_ix 206 443 = some (443, .idiv, 0, 0) := by decide +kernel
theorem ri_206_444 : ro_ix 206 444 = some (444, .imul, 0, 0) := by decide +kernel
theorem ri_206_445 : ro_ix 206 445 = some (445, .aload 7, 0, 0) := by decide +kernel
theorem ri_206_447 : ro_ix 206 447 = some (447, .iload 17, 0, 0) := by decide +kernel
theorem ri_206_449 : ro_ix 206 449 = some (449, .iaload, 0, 0) := by decide +kernel
theorem ri_206_450 : ro_ix 206 450 = some (450, .bipush 20, 0, 0) := by decide +kernel
theorem ri_206_452 : ro_ix 206 452 = some (452, .irem, 0, 0) := by decide +kernel
theorem ri_206_453 : ro_ix 206 453 = some (453, .iconst 2, 0, 0) := by decide +kernel
theorem ri_206_454 : ro_ix 206 454 = some (454, .idiv, 0, 0) := by decide +kernel
theorem ri_206_455 : ro_ix 206 455 = some (455, .iadd, 0, 0) := by decide +kernel
theorem ri_206_456 : ro_ix 206 456 = some (456, .istore 18, 0, 0) := by decide +kernel
theorem ri_206_458 : ro_ix 206 458 = some (458, .aload 7, 0, 0) := by decide +kernel
theorem ri_206_460 : ro_ix 206 460 = some (460, .iload 17, 0, 0) := by decide +kernel
theorem ri_206_462 : ro_ix 206 462 = some (462, .iaload, 0, 0) := by decide +kernel
theorem ri_206_463 : ro_ix 206 463 = some (463, .iconst 2, 0, 0) := by decide +kernel
theorem ri_206_464 : ro_ix 206 464 = some (464, .irem, 0, 0) := by decide +kernel
theorem ri_206_465 : ro_ix 206 465 = some (465, .iconst 1, 0, 0) := by decide +kernel
theorem ri_206_466 : ro_ix 206 466 = some (466, .if_icmp .ne 7, 0, 0) := by decide +kernel
theorem ri_206_469 : ro_ix 206 469 = some (469, .iconst 2, 0, 0) := by decide +kernel
theorem ri_206_470 : ro_ix 206 470 = some (470, .goto 24, 0, 0) := by decide +kernel
theorem ri_206_473 : ro_ix 206 473 = some (473, .aload_n 1, 0, 0) := by decide +kernel
theorem ri_206_474 : ro_ix 206 474 = some (474, .iload 18, 0, 0) := by decide +kernel
theorem ri_206_476 : ro_ix 206 476 = some (476, .invokevirtual 130, 55, 0) := by decide +kernel
theorem ri_206_479 : ro_ix 206 479 = some (479, .aload_n 1, 0, 0) := by decide +kernel
theorem ri_206_480 : ro_ix 206 480 = some (480, .iconst 0, 0, 0) := by decide +kernel
theorem ri_206_481 : ro_ix 206 481 = some (481, .bipush 6, 0, 0) := by decide +kernel
theorem ri_206_483 : ro_ix 206 483 = some (483, .invokevirtual 115, 36, 0) := by decide +kernel
theorem ri_206_486 : ro_ix 206 486 = some (486, .if_icmp .lt 7, 0, 0) := by decide +kernel
theorem ri_206_489 : ro_ix 206 489 = some (489, .iconst 1, 0, 0) := by decide +kernel
theorem ri_206_490 : ro_ix 206 490 = some (490, .goto 4, 0, 0) := by decide +kernel
theorem ri_206_493 : ro_ix 206 493 = some (493, .iconst 0, 0, 0) := by decide +kernel
theorem ri_206_494 : ro_ix 206 494 = some (494, .istore 19, 0, 0) := by decide +kernel
theorem ri_206_496 : ro_ix 206 496 = some (496, .aload_n 1, 0, 0) := by decide +kernel
theorem ri_206_497 : ro_ix 206 497 = some (497, .iload 18, 0, 0) := by decide +kernel
theorem ri_206_499 : ro_ix 206 499 = some (499, .iload 19, 0, 0) := by decide +kernel
theorem ri_206_501 : ro_ix 206 501 = some (501, .invokevirtual 133, 144, 0) := by decide +kernel
theorem ri_206_504 : ro_ix 206 504 = some (504, .ifCond .ge 5, 0, 0) := by decide +kernel
theorem ri_206_507 : ro_ix 206 507 = some (507, .iconst 0, 0, 0) := by decide +kernel
theorem ri_206_508 : ro_ix 206 508 = some (508, .ireturn, 0, 0) := by decide +kernel
theorem ri_206_509 : ro_ix 206 509 = some (509, .iload 19, 0, 0) := by decide +kernel
theorem ri_206_511 : ro_ix 206 511 = some (511, .iconst 1, 0, 0) := by decide +kernel
theorem ri_206_512 : ro_ix 206 512 = some (512, .if_icmp .ne 24, 0, 0) := by decide +kernel
theorem ri_206_515 : ro_ix 206 515 = some (515, .iload 15, 0, 0) := by decide +kernel
theorem ri_206_517 : ro_ix 206 517 = some (517, .iconst 1, 0, 0) := by decide +kernel
theorem ri_206_518 : ro_ix 206 518 = some (518, .iload 17, 0, 0) := by decide +kernel
theorem ri_206_520 : ro_ix 206 520 = some (520, .ishl, 0, 0) := by decide +kernel
theorem ri_206_521 : ro_ix 206 521 = some (521, .ior, 0, 0) := by decide +kernel
theorem ri_206_522 : ro_ix 206 522 = some (522, .istore 15, 0, 0) := by decide +kernel
theorem ri_206_524 : ro_ix 206 524 = some (524, .iload 16, 0, 0) := by decide +kernel
theorem ri_206_526 : ro_ix 206 526 = some (526, .iconst 1, 0, 0) := by decide +kernel
theorem ri_206_527 : ro_ix 206 527 = some (527, .iload 18, 0, 0) := by decide +kernel
theorem ri_206_529 : ro_ix 206 529 = some (529, .bipush 10, 0, 0) := by decide +kernel
theorem ri_206_531 : ro_ix 206 531 = some (531, .irem, 0, 0) := by decide +kernel
theorem ri_206_532 : ro_ix 206 532 = some (532, .ishl, 0, 0) := by decide +kernel
theorem ri_206_533 : ro_ix 206 533 = some (533, .ior, 0, 0) := by decide +kernel
theorem ri_206_534 : ro_ix 206 534 = some (534, .istore 16, 0, 0) := by decide +kernel
theorem ri_206_536 : ro_ix 206 536 = some (536, .iinc 17 1, 0, 0) := by decide +kernel
theorem ri_206_539 : ro_ix 206 539 = some (539, .goto (-112), 0, 0) := by decide +kernel
theorem ri_206_542 : ro_ix 206 542 = some (542, .iload 14, 0, 0) := by decide +kernel
theorem ri_206_544 : ro_ix 206 544 = some (544, .iload 15, 0, 0) := by decide +kernel
theorem ri_206_546 : ro_ix 206 546 = some (546, .iconst (-1), 0, 0) := by decide +kernel
theorem ri_206_547 : ro_ix 206 547 = some (547, .ixor, 0, 0) := by decide +kernel
theorem ri_206_548 : ro_ix 206 548 = some (548, .iand, 0, 0) := by decide +kernel
theorem ri_206_549 : ro_ix 206 549 = some (549, .ifCond .ne 30, 0, 0) := by decide +kernel
theorem ri_206_552 : ro_ix 206 552 = some (552, .iload 16, 0, 0) := by decide +kernel
theorem ri_206_554 : ro_ix 206 554 = some (554, .iload 9, 0, 0) := by decide +kernel
theorem ri_206_556 : ro_ix 206 556 = some (556, .if_icmp .ne 23, 0, 0) := by decide +kernel
theorem ri_206_559 : ro_ix 206 559 = some (559, .aload_n 1, 0, 0) := by decide +kernel
theorem ri_206_560 : ro_ix 206 560 = some (560, .iconst 1, 0, 0) := by decide +kernel
theorem ri_206_561 : ro_ix 206 561 = some (561, .invokevirtual 135, 148, 0) := by decide +kernel
theorem ri_206_564 : ro_ix 206 564 = some (564, .iload 8, 0, 0) := by decide +kernel
theorem ri_206_566 : ro_ix 206 566 = some (566, .if_icmp .ne 13, 0, 0) := by decide +kernel
theorem ri_206_569 : ro_ix 206 569 = some (569, .aload_n 1, 0, 0) := by decide +kernel
theorem ri_206_570 : ro_ix 206 570 = some (570, .iconst 0, 0, 0) := by decide +kernel
theorem ri_206_571 : ro_ix 206 571 = some (571, .invokevirtual 135, 148, 0) := by decide +kernel
theorem ri_206_574 : ro_ix 206 574 = some (574, .iload 6, 0, 0) := by decide +kernel
theorem ri_206_576 : ro_ix 206 576 = some (576, .if_icmp .eq 5, 0, 0) := by decide +kernel
theorem ri_206_579 : ro_ix 206 579 = some (579, .iconst 0, 0, 0) := by decide +kernel
theorem ri_206_580 : ro_ix 206 580 = some (580, .ireturn, 0, 0) := by decide +kernel
theorem ri_206_581 : ro_ix 206 581 = some (581, .iconst 0, 0, 0) := by decide +kernel
theorem ri_206_582 : ro_ix 206 582 = some (582, .istore 17, 0, 0) := by decide +kernel
theorem ri_206_584 : ro_ix 206 584 = some (584, .iload 17, 0, 0) := by decide +kernel
theorem ri_206_586 : ro_ix 206 586 = some (586, .iload_n 2, 0, 0) := by decide +kernel
theorem ri_206_587 : ro_ix 206 587 = some (587, .if_icmp .ge 47, 0, 0) := by decide +kernel
theorem ri_206_590 : ro_ix 206 590 = some (590, .aload_n 1, 0, 0) := by decide +kernel
theorem ri_206_591 : ro_ix 206 591 = some (591, .iload 17, 0, 0) := by decide +kernel
theorem ri_206_593 : ro_ix 206 593 = some (593, .iconst 0, 0, 0) := by decide +kernel
theorem ri_206_594 : ro_ix 206 594 = some (594, .invokevirtual 115, 36, 0) := by decide +kernel
theorem ri_206_597 : ro_ix 206 597 = some (597, .aload 10, 0, 0) := by decide +kernel
theorem ri_206_599 : ro_ix 206 599 = some (599, .iconst 2, 0, 0) := by decide +kernel
theorem ri_206_600 : ro_ix 206 600 = some (600, .iload 17, 0, 0) := by decide +kernel
theorem ri_206_602 : ro_ix 206 602 = some (602, .imul, 0, 0) := by decide +kernel
theorem ri_206_603 : ro_ix 206 603 = some (603, .iaload, 0, 0) := by decide +kernel
theorem ri_206_604 : ro_ix 206 604 = some (604, .if_icmp .ne 22, 0, 0) := by decide +kernel
theorem ri_206_607 : ro_ix 206 607 = some (607, .aload_n 1, 0, 0) := by decide +kernel
theorem ri_206_608 : ro_ix 206 608 = some (608, .iload 17, 0, 0) := by decide +kernel
theorem ri_206_610 : ro_ix 206 610 = some (610, .iconst 1, 0, 0) := by decide +kernel
theorem ri_206_611 : ro_ix 206 611 = some (611, .invokevirtual 115, 36, 0) := by decide +kernel
theorem ri_206_614 : ro_ix 206 614 = some (614, .aload 10, 0, 0) := by decide +kernel
theorem ri_206_616 : ro_ix 206 616 = some (616, .iconst 2, 0, 0) := by decide +kernel
theorem ri_206_617 : ro_ix 206 617 = some (617, .iload 17, 0, 0) := by decide +kernel
theorem ri_206_619 : ro_ix 206 619 = some (619, .imul, 0, 0) := by decide +kernel
theorem ri_206_620 : ro_ix 206 620 = some (620, .iconst 1, 0, 0) := by decide +kernel
theorem ri_206_621 : ro_ix 206 621 = some (621, .iadd, 0, 0) := by decide +kernel
theorem ri_206_622 : ro_ix 206 622 = some (622, .iaload, 0, 0) := by decide +kernel
theorem ri_206_623 : ro_ix 206 623 = some (623, .if_icmp .eq 5, 0, 0) := by decide +kernel
theorem ri_206_626 : ro_ix 206 626 = some (626, .iconst 0, 0, 0) := by decide +kernel
theorem ri_206_627 : ro_ix 206 627 = some (627, .ireturn, 0, 0) := by decide +kernel
theorem ri_206_628 : ro_ix 206 628 = some (628, .iinc 17 1, 0, 0) := by decide +kernel
theorem ri_206_631 : ro_ix 206 631 = some (631, .goto (-47), 0, 0) := by decide +kernel
theorem ri_206_634 : ro_ix 206 634 = some (634, .aload_n 1, 0, 0) := by decide +kernel
theorem ri_206_635 : ro_ix 206 635 = some (635, .iconst 1, 0, 0) := by decide +kernel
theorem ri_206_636 : ro_ix 206 636 = some (636, .invokevirtual 13, 190, 0) := by decide +kernel
theorem ri_206_639 : ro_ix 206 639 = some (639, .aload_n 1, 0, 0) := by decide +kernel
theorem ri_206_640 : ro_ix 206 640 = some (640, .iconst 2, 0, 0) := by decide +kernel
theorem ri_206_641 : ro_ix 206 641 = some (641, .invokevirtual 13, 190, 0) := by decide +kernel
theorem ri_206_644 : ro_ix 206 644 = some (644, .iadd, 0, 0) := by decide +kernel
theorem ri_206_645 : ro_ix 206 645 = some (645, .iload 12, 0, 0) := by decide +kernel
theorem ri_206_647 : ro_ix 206 647 = some (647, .if_icmp .ne 10, 0, 0) := by decide +kernel
theorem ri_206_650 : ro_ix 206 650 = some (650, .aload_n 1, 0, 0) := by decide +kernel
theorem ri_206_651 : ro_ix 206 651 = some (651, .invokevirtual 138, 152, 0) := by decide +kernel
theorem ri_206_654 : ro_ix 206 654 = some (654, .ifCond .eq 5, 0, 0) := by decide +kernel
theorem ri_206_657 : ro_ix 206 657 = some (657, .iconst 0, 0, 0) := by decide +kernel
theorem ri_206_658 : ro_ix 206 658 = some (658, .ireturn, 0, 0) := by decide +kernel
theorem ri_206_659 : ro_ix 206 659 = some (659, .iconst 0, 0, 0) := by decide +kernel
theorem ri_206_660 : ro_ix 206 660 = some (660, .istore 17, 0, 0) := by decide +kernel
theorem ri_206_662 : ro_ix 206 662 = some (662, .iload 17, 0, 0) := by decide +kernel
theorem ri_206_664 : ro_ix 206 664 = some (664, .iload_n 2, 0, 0) := by decide +kernel
theorem ri_206_665 : ro_ix 206 665 = some (665, .if_icmp .ge 45, 0, 0) := by decide +kernel
theorem ri_206_668 : ro_ix 206 668 = some (668, .aload_n 1, 0, 0) := by decide +kernel
theorem ri_206_669 : ro_ix 206 669 = some (669, .iload 17, 0, 0) := by decide +kernel
theorem ri_206_671 : ro_ix 206 671 = some (671, .iconst 0, 0, 0) := by decide +kernel
theorem ri_206_672 : ro_ix 206 672 = some (672, .invokevirtual 115, 36, 0) := by decide +kernel
theorem ri_206_675 : ro_ix 206 675 = some (675, .aload_n 0, 0, 0) := by decide +kernel
theorem ri_206_676 : ro_ix 206 676 = some (676, .iload 17, 0, 0) := by decide +kernel
theorem ri_206_678 : ro_ix 206 678 = some (678, .iconst 0, 0, 0) := by decide +kernel
theorem ri_206_679 : ro_ix 206 679 = some (679, .invokestatic 27, 195, 0) := by decide +kernel
theorem ri_206_682 : ro_ix 206 682 = some (682, .if_icmp .ne 20, 0, 0) := by decide +kernel
theorem ri_206_685 : ro_ix 206 685 = some (685, .aload_n 1, 0, 0) := by decide +kernel
theorem ri_206_686 : ro_ix 206 686 = some (686, .iload 17, 0, 0) := by decide +kernel
theorem ri_206_688 : ro_ix 206 688 = some (688, .iconst 1, 0, 0) := by decide +kernel
theorem ri_206_689 : ro_ix 206 689 = some (689, .invokevirtual 115, 36, 0) := by decide +kernel
theorem ri_206_692 : ro_ix 206 692 = some (692, .aload_n 0, 0, 0) := by decide +kernel
theorem ri_206_693 : ro_ix 206 693 = some (693, .iload 17, 0, 0) := by decide +kernel
theorem ri_206_695 : ro_ix 206 695 = some (695, .iconst 1, 0, 0) := by decide +kernel
theorem ri_206_696 : ro_ix 206 696 = some (696, .invokestatic 27, 195, 0) := by decide +kernel
theorem ri_206_699 : ro_ix 206 699 = some (699, .if_icmp .eq 5, 0, 0) := by decide +kernel
theorem ri_206_702 : ro_ix 206 702 = some (702, .iconst 0, 0, 0) := by decide +kernel
theorem ri_206_703 : ro_ix 206 703 = some (703, .ireturn, 0, 0) := by decide +kernel
theorem ri_206_704 : ro_ix 206 704 = some (704, .iinc 17 1, 0, 0) := by decide +kernel
theorem ri_206_707 : ro_ix 206 707 = some (707, .goto (-45), 0, 0) := by decide +kernel
theorem ri_206_710 : ro_ix 206 710 = some (710, .iload_n 2, 0, 0) := by decide +kernel
theorem ri_206_711 : ro_ix 206 711 = some (711, .iconst 2, 0, 0) := by decide +kernel
theorem ri_206_712 : ro_ix 206 712 = some (712, .if_icmp .ge 7, 0, 0) := by decide +kernel
theorem ri_206_715 : ro_ix 206 715 = some (715, .iconst 0, 0, 0) := by decide +kernel
theorem ri_206_716 : ro_ix 206 716 = some (716, .goto 14, 0, 0) := by decide +kernel
theorem ri_206_719 : ro_ix 206 719 = some (719, .iconst 2, 0, 0) := by decide +kernel
theorem ri_206_720 : ro_ix 206 720 = some (720, .aload_n 0, 0, 0) := by decide +kernel
theorem ri_206_721 : ro_ix 206 721 = some (721, .bipush 12, 0, 0) := by decide +kernel
theorem ri_206_723 : ro_ix 206 723 = some (723, .invokestatic 17, 193, 0) := by decide +kernel
theorem ri_206_726 : ro_ix 206 726 = some (726, .bipush 6, 0, 0) := by decide +kernel
theorem ri_206_728 : ro_ix 206 728 = some (728, .irem, 0, 0) := by decide +kernel
theorem ri_206_729 : ro_ix 206 729 = some (729, .imul, 0, 0) := by decide +kernel
theorem ri_206_730 : ro_ix 206 730 = some (730, .newarray .int, 0, 0) := by decide +kernel
theorem ri_206_732 : ro_ix 206 732 = some (732, .astore 17, 0, 0) := by decide +kernel
theorem ri_206_734 : ro_ix 206 734 = some (734, .iconst 0, 0, 0) := by decide +kernel
theorem ri_206_735 : ro_ix 206 735 = some (735, .istore 18, 0, 0) := by decide +kernel
theorem ri_206_737 : ro_ix 206 737 = some (737, .iload 18, 0, 0) := by decide +kernel
theorem ri_206_739 : ro_ix 206 739 = some (739, .aload 17, 0, 0) := by decide +kernel
theorem ri_206_741 : ro_ix 206 741 = some (741, .arraylength, 0, 0) := by decide +kernel
theorem ri_206_742 : ro_ix 206 742 = some (742, .if_icmp .ge 59, 0, 0) := by decide +kernel
theorem ri_206_745 : ro_ix 206 745 = some (745, .aload_n 0, 0, 0) := by decide +kernel
theorem ri_206_746 : ro_ix 206 746 = some (746, .bipush 13, 0, 0) := by decide +kernel
theorem ri_206_748 : ro_ix 206 748 = some (748, .invokestatic 17, 193, 0) := by decide +kernel
theorem ri_206_751 : ro_ix 206 751 = some (751, .iload 18, 0, 0) := by decide +kernel
theorem ri_206_753 : ro_ix 206 753 = some (753, .ishr, 0, 0) := by decide +kernel
theorem ri_206_754 : ro_ix 206 754 = some (754, .istore 19, 0, 0) := by decide +kernel
theorem ri_206_756 : ro_ix 206 756 = some (756, .aload 17, 0, 0) := by decide +kernel
theorem ri_206_758 : ro_ix 206 758 = some (758, .iload 18, 0, 0) := by decide +kernel
theorem ri_206_760 : ro_ix 206 760 = some (760, .iload 18, 0, 0) := by decide +kernel
theorem ri_206_762 : ro_ix 206 762 = some (762, .iconst 2, 0, 0) := by decide +kernel
theorem ri_206_763 : ro_ix 206 763 = some (763, .irem, 0, 0) := by decide +kernel
theorem ri_206_764 : ro_ix 206 764 = some (764, .ifCond .ne 10, 0, 0) := by decide +kernel
theorem ri_206_767 : ro_ix 206 767 = some (767, .iload 19, 0, 0) := by decide +kernel
theorem ri_206_769 : ro_ix 206 769 = some (769, .iload_n 2, 0, 0) := by decide +kernel
theorem ri_206_770 : ro_ix 206 770 = some (770, .irem, 0, 0) := by decide +kernel
theorem ri_206_771 : ro_ix 206 771 = some (771, .goto 23, 0, 0) := by decide +kernel
theorem ri_206_774 : ro_ix 206 774 = some (774, .aload 17, 0, 0) := by decide +kernel
theorem ri_206_776 : ro_ix 206 776 = some (776, .iload 18, 0, 0) := by decide +kernel
theorem ri_206_778 : ro_ix 206 778 = some (778, .iconst 1, 0, 0) := by decide +kernel
theorem ri_206_779 : ro_ix 206 779 = some (779, .isub, 0, 0) := by decide +kernel
theorem ri_206_780 : ro_ix 206 780 = some (780, .iaload, 0, 0) := by decide +kernel
theorem ri_206_781 : ro_ix 206 781 = some (781, .iconst 1, 0, 0) := by decide +kernel
theorem ri_206_782 : ro_ix 206 782 = some (782, .iadd, 0, 0) := by decide +kernel
theorem ri_206_783 : ro_ix 206 783 = some (783, .iload 19, 0, 0) := by decide +kernel
theorem ri_206_785 : ro_ix 206 785 = some (785, .iconst 3, 0, 0) := by decide +kernel
theorem ri_206_786 : ro_ix 206 786 = some (786, .ishr, 0, 0) := by decide +kernel
theorem ri_206_787 : ro_ix 206 787 = some (787, .iload_n 2, 0, 0) := by decide +kernel
theorem ri_206_788 : ro_ix 206 788 = some (788, .iconst 1, 0, 0) := by decide +kernel
theorem ri_206_789 : ro_ix 206 789 = some (789, .isub, 0, 0) := by decide +kernel
theorem ri_206_790 : ro_ix 206 790 = some (790, .irem, 0, 0) := by decide +kernel
theorem ri_206_791 : ro_ix 206 791 = some (791, .iadd, 0, 0) := by decide +kernel
theorem ri_206_792 : ro_ix 206 792 = some (792, .iload_n 2, 0, 0) := by decide +kernel
theorem ri_206_793 : ro_ix 206 793 = some (793, .irem, 0, 0) := by decide +kernel
theorem ri_206_794 : ro_ix 206 794 = some (794, .iastore, 0, 0) := by decide +kernel
theorem ri_206_795 : ro_ix 206 795 = some (795, .iinc 18 1, 0, 0) := by decide +kernel
theorem ri_206_798 : ro_ix 206 798 = some (798, .goto (-61), 0, 0) := by decide +kernel
theorem ri_206_801 : ro_ix 206 801 = some (801, .aload_n 1, 0, 0) := by decide +kernel
theorem ri_206_802 : ro_ix 206 802 = some (802, .iconst 2, 0, 0) := by decide +kernel
theorem ri_206_803 : ro_ix 206 803 = some (803, .aload 17, 0, 0) := by decide +kernel
theorem ri_206_805 : ro_ix 206 805 = some (805, .invokestatic 100, 200, 0) := by decide +kernel
theorem ri_206_808 : ro_ix 206 808 = some (808, .ifCond .ne 5, 0, 0) := by decide +kernel
theorem ri_206_811 : ro_ix 206 811 = some (811, .iconst 0, 0, 0) := by decide +kernel
theorem ri_206_812 : ro_ix 206 812 = some (812, .ireturn, 0, 0) := by decide +kernel
theorem ri_206_813 : ro_ix 206 813 = some (813, .aload_n 1, 0, 0) := by decide +kernel
theorem ri_206_814 : ro_ix 206 814 = some (814, .iconst 2, 0, 0) := by decide +kernel
theorem ri_206_815 : ro_ix 206 815 = some (815, .iconst (-1), 0, 0) := by decide +kernel
theorem ri_206_816 : ro_ix 206 816 = some (816, .invokevirtual 141, 83, 0) := by decide +kernel
theorem ri_206_819 : ro_ix 206 819 = some (819, .istore 18, 0, 0) := by decide +kernel
theorem ri_206_821 : ro_ix 206 821 = some (821, .aload_n 1, 0, 0) := by decide +kernel
theorem ri_206_822 : ro_ix 206 822 = some (822, .iconst 2, 0, 0) := by decide +kernel
theorem ri_206_823 : ro_ix 206 823 = some (823, .invokevirtual 144, 93, 0) := by decide +kernel
theorem ri_206_826 : ro_ix 206 826 = some (826, .istore 19, 0, 0) := by decide +kernel
theorem ri_206_828 : ro_ix 206 828 = some (828, .iload 18, 0, 0) := by decide +kernel
theorem ri_206_830 : ro_ix 206 830 = some (830, .ifCond .lt 230, 0, 0) := by decide +kernel
theorem ri_206_833 : ro_ix 206 833 = some (833, .iconst 0, 0, 0) := by decide +kernel
theorem ri_206_834 : ro_ix 206 834 = some (834, .istore 20, 0, 0) := by decide +kernel
theorem ri_206_836 : ro_ix 206 836 = some (836, .aload 17, 0, 0) := by decide +kernel
theorem ri_206_838 : ro_ix 206 838 = some (838, .arraylength, 0, 0) := by decide +kernel
theorem ri_206_839 : ro_ix 206 839 = some (839, .iconst 2, 0, 0) := by decide +kernel
theorem ri_206_840 : ro_ix 206 840 = some (840, .idiv, 0, 0) := by decide +kernel
theorem ri_206_841 : ro_ix 206 841 = some (841, .newarray .int, 0, 0) := by decide +kernel
theorem ri_206_843 : ro_ix 206 843 = some (843, .astore 21, 0, 0) := by decide +kernel
theorem ri_206_845 : ro_ix 206 845 = some (845, .iconst 0, 0, 0) := by decide +kernel
theorem ri_206_846 : ro_ix 206 846 = some (846, .istore 22, 0, 0) := by decide +kernel
theorem ri_206_848 : ro_ix 206 848 = some (848, .iload 22, 0, 0) := by decide +kernel
theorem ri_206_850 : ro_ix 206 850 = some (850, .aload 21, 0, 0) := by decide +kernel
theorem ri_206_852 : ro_ix 206 852 = some (852, .arraylength, 0, 0) := by decide +kernel
theorem ri_206_853 : ro_ix 206 853 = some (853, .if_icmp .ge 21, 0, 0) := by decide +kernel
theorem ri_206_856 : ro_ix 206 856 = some (856, .aload 21, 0, 0) := by decide +kernel
theorem ri_206_858 : ro_ix 206 858 = some (858, .iload 22, 0, 0) := by decide +kernel
theorem ri_206_860 : ro_ix 206 860 = some (860, .aload_n 1, 0, 0) := by decide +kernel
theorem ri_206_861 : ro_ix 206 861 = some (861, .iconst 2, 0, 0) := by decide +kernel
theorem ri_206_862 : ro_ix 206 862 = some (862, .iload 22, 0, 0) := by decide +kernel
theorem ri_206_864 : ro_ix 206 864 = some (864, .invokevirtual 141, 83, 0) := by decide +kernel
theorem ri_206_867 : ro_ix 206 867 = some (867, .iastore, 0, 0) := by decide +kernel
theorem ri_206_868 : ro_ix 206 868 = some (868, .iinc 22 1, 0, 0) := by decide +kernel
theorem ri_206_871 : ro_ix 206 871 = some (871, .goto (-23), 0, 0) := by decide +kernel
theorem ri_206_874 : ro_ix 206 874 = some (874, .iconst 0, 0, 0) := by decide +kernel
theorem ri_206_875 : ro_ix 206 875 = some (875, .istore 22, 0, 0) := by decide +kernel
theorem ri_206_877 : ro_ix 206 877 = some (877, .iconst 2, 0, 0) := by decide +kernel
theorem ri_206_878 : ro_ix 206 878 = some (878, .iload 22, 0, 0) := by decide +kernel
theorem ri_206_880 : ro_ix 206 880 = some (880, .imul, 0, 0) := by decide +kernel
theorem ri_206_881 : ro_ix 206 881 = some (881, .aload 17, 0, 0) := by decide +kernel
theorem ri_206_883 : ro_ix 206 883 = some (883, .arraylength, 0, 0) := by decide +kernel
theorem ri_206_884 : ro_ix 206 884 = some (884, .if_icmp .ge 136, 0, 0) := by decide +kernel
theorem ri_206_887 : ro_ix 206 887 = some (887, .bipush 10, 0, 0) := by decide +kernel
theorem ri_206_889 : ro_ix 206 889 = some (889, .aload 17, 0, 0) := by decide +kernel
theorem ri_206_891 : ro_ix 206 891 = some (891, .iconst 2, 0, 0) := by decide +kernel
theorem ri_206_892 : ro_ix 206 892 = some (892, .iload 22, 0, 0) := by decide +kernel
theorem ri_206_894 : ro_ix 206 894 = some (894, .imul, 0, 0) := by decide +kernel
theorem ri_206_895 : ro_ix 206 895 = some (895, .iaload, 0, 0) := by decide +kernel
theorem ri_206_896 : ro_ix 206 896 = some (896, .imul, 0, 0) := by decide +kernel
theorem ri_206_897 : ro_ix 206 897 = some (897, .aload 17, 0, 0) := by decide +kernel
theorem ri_206_899 : ro_ix 206 899 = some (899, .iconst 2, 0, 0) := by decide +kernel
theorem ri_206_900 : ro_ix 206 900 = some (900, .iload 22, 0, 0) := by decide +kernel
theorem ri_206_902 : ro_ix 206 902 = some (902, .imul, 0, 0) := by decide +kernel
theorem ri_206_903 : ro_ix 206 903 = some (903, .iconst 1, 0, 0) := by decide +kernel
theorem ri_206_904 : ro_ix 206 904 = some (904, .iadd, 0, 0) := by decide +kernel
theorem ri_206_905 : ro_ix 206 905 = some (905, .iaload, 0, 0) := by decide +kernel
theorem ri_206_906 : ro_ix 206 906 = some (906, .iadd, 0, 0) := by decide +kernel
theorem ri_206_907 : ro_ix 206 907 = some (907, .istore 23, 0, 0) := by decide +kernel
theorem ri_206_909 : ro_ix 206 909 = some (909, .aload 21, 0, 0) := by decide +kernel
theorem ri_206_911 : ro_ix 206 911 = some (911, .iload 22, 0, 0) := by decide +kernel
theorem ri_206_913 : ro_ix 206 913 = some (913, .iaload, 0, 0) := by decide +kernel
theorem ri_206_914 : ro_ix 206 914 = some (914, .istore 24, 0, 0) := by decide +kernel
theorem ri_206_916 : ro_ix 206 916 = some (916, .iload 24, 0, 0) := by decide +kernel
theorem ri_206_918 : ro_ix 206 918 = some (918, .ifCond .ge 5, 0, 0) := by decide +kernel
theorem ri_206_921 : ro_ix 206 921 = some (921, .iconst 0, 0, 0) := by decide +kernel
theorem ri_206_922 : ro_ix 206 922 = some (922, .ireturn, 0, 0) := by decide +kernel
theorem ri_206_923 : ro_ix 206 923 = some (923, .iload 24, 0, 0) := by decide +kernel
theorem ri_206_925 : ro_ix 206 925 = some (925, .iconst 1, 0, 0) := by decide +kernel
theorem ri_206_926 : ro_ix 206 926 = some (926, .if_icmp .ne 20, 0, 0) := by decide +kernel
theorem ri_206_929 : ro_ix 206 929 = some (929, .aload_n 1, 0, 0) := by decide +kernel
theorem ri_206_930 : ro_ix 206 930 = some (930, .iload 23, 0, 0) := by decide +kernel
theorem ri_206_932 : ro_ix 206 932 = some (932, .iconst 2, 0, 0) := by decide +kernel
theorem ri_206_933 : ro_ix 206 933 = some (933, .invokevirtual 133, 144, 0) := by decide +kernel
theorem ri_206_936 : ro_ix 206 936 = some (936, .iload 23, 0, 0) := by decide +kernel
theorem ri_206_938 : ro_ix 206 938 = some (938, .bipush 10, 0, 0) := by decide +kernel
theorem ri_206_940 : ro_ix 206 940 = some (940, .irem, 0, 0) := by decide +kernel
theorem ri_206_941 : ro_ix 206 941 = some (941, .if_icmp .eq 73, 0, 0) := by decide +kernel
theorem ri_206_944 : ro_ix 206 944 = some (944, .iconst 0, 0, 0) := by decide +kernel
theorem ri_206_945 : ro_ix 206 945 = some (945, .ireturn, 0, 0) := by decide +kernel
theorem ri_206_946 : ro_ix 206 946 = some (946, .aload_n 1, 0, 0) := by decide +kernel
theorem ri_206_947 : ro_ix 206 947 = some (947, .iload 23, 0, 0) := by decide +kernel
theorem ri_206_949 : ro_ix 206 949 = some (949, .invokevirtual 130, 55, 0) := by decide +kernel
theorem ri_206_952 : ro_ix 206 952 = some (952, .aload_n 1, 0, 0) := by decide +kernel
theorem ri_206_953 : ro_ix 206 953 = some (953, .iconst 0, 0, 0) := by decide +kernel
theorem ri_206_954 : ro_ix 206 954 = some (954, .bipush 6, 0, 0) := by decide +kernel
theorem ri_206_956 : ro_ix 206 956 = some (956, .invokevirtual 115, 36, 0) := by decide +kernel
theorem ri_206_959 : ro_ix 206 959 = some (959, .if_icmp .lt 38, 0, 0) := by decide +kernel
theorem ri_206_962 : ro_ix 206 962 = some (962, .iinc 20 1, 0, 0) := by decide +kernel
theorem ri_206_965 : ro_ix 206 965 = some (965, .aload_n 1, 0, 0) := by decide +kernel
theorem ri_206_966 : ro_ix 206 966 = some (966, .iload 23, 0, 0) := by decide +kernel
theorem ri_206_968 : ro_ix 206 968 = some (968, .iconst 1, 0, 0) := by decide +kernel
theorem ri_206_969 : ro_ix 206 969 = some (969, .invokevirtual 133, 144, 0) := by decide +kernel
theorem ri_206_972 : ro_ix 206 972 = some (972, .iload 23, 0, 0) := by decide +kernel
theorem ri_206_974 : ro_ix 206 974 = some (974, .bipush 10, 0, 0) := by decide +kernel
theorem ri_206_976 : ro_ix 206 976 = some (976, .idiv, 0, 0) := by decide +kernel
theorem ri_206_977 : ro_ix 206 977 = some (977, .if_icmp .ne 18, 0, 0) := by decide +kernel
theorem ri_206_980 : ro_ix 206 980 = some (980, .aload_n 1, 0, 0) := by decide +kernel
theorem ri_206_981 : ro_ix 206 981 = some (981, .iload 23, 0, 0) := by decide +kernel
theorem ri_206_983 : ro_ix 206 983 = some (983, .iconst 2, 0, 0) := by decide +kernel
theorem ri_206_984 : ro_ix 206 984 = some (984, .invokevirtual 133, 144, 0) := by decide +kernel
theorem ri_206_987 : ro_ix 206 987 = some (987, .iload 23, 0, 0) := by decide +kernel
theorem ri_206_989 : ro_ix 206 989 = some (989, .bipush 10, 0, 0) := by decide +kernel
theorem ri_206_991 : ro_ix 206 991 = some (991, .irem, 0, 0) := by decide +kernel
theorem ri_206_992 : ro_ix 206 992 = some (992, .if_icmp .eq 22, 0, 0) := by decide +kernel
theorem ri_206_995 : ro_ix 206 995 = some (995, .iconst 0, 0, 0) := by decide +kernel
theorem ri_206_996 : ro_ix 206 996 = some (996, .ireturn, 0, 0) := by decide +kernel
theorem ri_206_997 : ro_ix 206 997 = some (997, .aload_n 1, 0, 0) := by decide +kernel
theorem ri_206_998 : ro_ix 206 998 = some (998, .iload 23, 0, 0) := by decide +kernel
theorem ri_206_1000 : ro_ix 206 1000 = some (1000, .iconst 0, 0, 0) := by decide +kernel
theorem ri_206_1001 : ro_ix 206 1001 = some (1001, .invokevirtual 133, 144, 0) := by decide +kernel
theorem ri_206_1004 : ro_ix 206 1004 = some (1004, .iload 23, 0, 0) := by decide +kernel
theorem ri_206_1006 : ro_ix 206 1006 = some (1006, .bipush 10, 0, 0) := by decide +kernel
theorem ri_206_1008 : ro_ix 206 1008 = some (1008, .irem, 0, 0) := by decide +kernel
theorem ri_206_1009 : ro_ix 206 1009 = some (1009, .if_icmp .eq 5, 0, 0) := by decide +kernel
theorem ri_206_1012 : ro_ix 206 1012 = some (1012, .iconst 0, 0, 0) := by decide +kernel
theorem ri_206_1013 : ro_ix 206 1013 = some (1013, .ireturn, 0, 0) := by decide +kernel
theorem ri_206_1014 : ro_ix 206 1014 = some (1014, .iinc 22 1, 0, 0) := by decide +kernel
theorem ri_206_1017 : ro_ix 206 1017 = some (1017, .goto (-140), 0, 0) := by decide +kernel
theorem ri_206_1020 : ro_ix 206 1020 = some (1020, .iload 20, 0, 0) := by decide +kernel
theorem ri_206_1022 : ro_ix 206 1022 = some (1022, .iload 18, 0, 0) := by decide +kernel
theorem ri_206_1024 : ro_ix 206 1024 = some (1024, .if_icmp .ne 31, 0, 0) := by decide +kernel
theorem ri_206_1027 : ro_ix 206 1027 = some (1027, .aload 17, 0, 0) := by decide +kernel
theorem ri_206_1029 : ro_ix 206 1029 = some (1029, .arraylength, 0, 0) := by decide +kernel
theorem ri_206_1030 : ro_ix 206 1030 = some (1030, .ifCond .le 18, 0, 0) := by decide +kernel
theorem ri_206_1033 : ro_ix 206 1033 = some (1033, .aload_n 1, 0, 0) := by decide +kernel
theorem ri_206_1034 : ro_ix 206 1034 = some (1034, .aload 17, 0, 0) := by decide +kernel
theorem ri_206_1036 : ro_ix 206 1036 = some (1036, .iconst 0, 0, 0) := by decide +kernel
theorem ri_206_1037 : ro_ix 206 1037 = some (1037, .iaload, 0, 0) := by decide +kernel
theorem ri_206_1038 : ro_ix 206 1038 = some (1038, .bipush 7, 0, 0) := by decide +kernel
theorem ri_206_1040 : ro_ix 206 1040 = some (1040, .invokevirtual 115, 36, 0) := by decide +kernel
theorem ri_206_1043 : ro_ix 206 1043 = some (1043, .iload 19, 0, 0) := by decide +kernel
theorem ri_206_1045 : ro_ix 206 1045 = some (1045, .if_icmp .gt 10, 0, 0) := by decide +kernel
theorem ri_206_1048 : ro_ix 206 1048 = some (1048, .aload_n 1, 0, 0) := by decide +kernel
theorem ri_206_1049 : ro_ix 206 1049 = some (1049, .invokevirtual 138, 152, 0) := by decide +kernel
theorem ri_206_1052 : ro_ix 206 1052 = some (1052, .ifCond .eq 5, 0, 0) := by decide +kernel
theorem ri_206_1055 : ro_ix 206 1055 = some (1055, .iconst 0, 0, 0) := by decide +kernel
theorem ri_206_1056 : ro_ix 206 1056 = some (1056, .ireturn, 0, 0) := by decide +kernel
theorem ri_206_1057 : ro_ix 206 1057 = some (1057, .goto 10, 0, 0) := by decide +kernel
theorem ri_206_1060 : ro_ix 206 1060 = some (1060, .iload 19, 0, 0) := by decide +kernel
theorem ri_206_1062 : ro_ix 206 1062 = some (1062, .ifCond .lt 5, 0, 0) := by decide +kernel
theorem ri_206_1065 : ro_ix 206 1065 = some (1065, .iconst 0, 0, 0) := by decide +kernel
theorem ri_206_1066 : ro_ix 206 1066 = some (1066, .ireturn, 0, 0) := by decide +kernel
theorem ri_206_1067 : ro_ix 206 1067 = some (1067, .iconst 0, 0, 0) := by decide +kernel
theorem ri_206_1068 : ro_ix 206 1068 = some (1068, .istore 20, 0, 0) := by decide +kernel
theorem ri_206_1070 : ro_ix 206 1070 = some (1070, .iload 20, 0, 0) := by decide +kernel
theorem ri_206_1072 : ro_ix 206 1072 = some (1072, .iload_n 2, 0, 0) := by decide +kernel
theorem ri_206_1073 : ro_ix 206 1073 = some (1073, .if_icmp .ge 403, 0, 0) := by decide +kernel
theorem ri_206_1076 : ro_ix 206 1076 = some (1076, .iconst 0, 0, 0) := by decide +kernel
theorem ri_206_1077 : ro_ix 206 1077 = some (1077, .istore 21, 0, 0) := by decide +kernel
theorem ri_206_1079 : ro_ix 206 1079 = some (1079, .iload 21, 0, 0) := by decide +kernel
theorem ri_206_1081 : ro_ix 206 1081 = some (1081, .iload_n 2, 0, 0) := by decide +kernel
theorem ri_206_1082 : ro_ix 206 1082 = some (1082, .if_icmp .ge 209, 0, 0) := by decide +kernel
theorem ri_206_1085 : ro_ix 206 1085 = some (1085, .iload 20, 0, 0) := by decide +kernel
theorem ri_206_1087 : ro_ix 206 1087 = some (1087, .iload 21, 0, 0) := by decide +kernel
theorem ri_206_1089 : ro_ix 206 1089 = some (1089, .if_icmp .ne 6, 0, 0) := by decide +kernel
theorem ri_206_1092 : ro_ix 206 1092 = some (1092, .goto 193, 0, 0) := by decide +kernel
theorem ri_206_1095 : ro_ix 206 1095 = some (1095, .bipush 10, 0, 0) := by decide +kernel
theorem ri_206_1097 : ro_ix 206 1097 = some (1097, .iload 20, 0, 0) := by decide +kernel
theorem ri_206_1099 : ro_ix 206 1099 = some (1099, .imul, 0, 0) := by decide +kernel
theorem ri_206_1100 : ro_ix 206 1100 = some (1100, .iload 21, 0, 0) := by decide +kernel
theorem ri_206_1102 : ro_ix 206 1102 = some (1102, .iadd, 0, 0) := by decide +kernel
theorem ri_206_1103 : ro_ix 206 1103 = some (1103, .istore 22, 0, 0) := by decide +kernel
theorem ri_206_1105 : ro_ix 206 1105 = some (1105, .aload_n 0, 0, 0) := by decide +kernel
theorem ri_206_1106 : ro_ix 206 1106 = some (1106, .bipush 14, 0, 0) := by decide +kernel
theorem ri_206_1108 : ro_ix 206 1108 = some (1108, .iload 20, 0, 0) := by decide +kernel
theorem ri_206_1110 : ro_ix 206 1110 = some (1110, .iadd, 0, 0) := by decide +kernel
theorem ri_206_1111 : ro_ix 206 1111 = some (1111, .invokestatic 17, 193, 0) := by decide +kernel
theorem ri_206_1114 : ro_ix 206 1114 = some (1114, .bipush 6, 0, 0) := by decide +kernel
theorem ri_206_1116 : ro_ix 206 1116 = some (1116, .irem, 0, 0) := by decide +kernel
theorem ri_206_1117 : ro_ix 206 1117 = some (1117, .istore 23, 0, 0) := by decide +kernel
theorem ri_206_1119 : ro_ix 206 1119 = some (1119, .dconst 0, 0, 0) := by decide +kernel
theorem ri_206_1120 : ro_ix 206 1120 = some (1120, .dstore 24, 0, 0) := by decide +kernel
theorem ri_206_1122 : ro_ix 206 1122 = some (1122, .dconst 0, 0, 0) := by decide +kernel
theorem ri_206_1123 : ro_ix 206 1123 = some (1123, .dstore 26, 0, 0) := by decide +kernel
theorem ri_206_1125 : ro_ix 206 1125 = some (1125, .iconst 0, 0, 0) := by decide +kernel
theorem ri_206_1126 : ro_ix 206 1126 = some (1126, .istore 28, 0, 0) := by decide +kernel
theorem ri_206_1128 : ro_ix 206 1128 = some (1128, .iload 28, 0, 0) := by decide +kernel
theorem ri_206_1130 : ro_ix 206 1130 = some (1130, .bipush 9, 0, 0) := by decide +kernel
theorem ri_206_1132 : ro_ix 206 1132 = some (1132, .if_icmp .ge 103, 0, 0) := by decide +kernel
theorem ri_206_1135 : ro_ix 206 1135 = some (1135, .aload_n 1, 0, 0) := by decide +kernel
theorem ri_206_1136 : ro_ix 206 1136 = some (1136, .iload 22, 0, 0) := by decide +kernel
theorem ri_206_1138 : ro_ix 206 1138 = some (1138, .iload 23, 0, 0) := by decide +kernel
theorem ri_206_1140 : ro_ix 206 1140 = some (1140, .iload 28, 0, 0) := by decide +kernel
theorem ri_206_1142 : ro_ix 206 1142 = some (1142, .iconst 0, 0, 0) := by decide +kernel
theorem ri_206_1143 : ro_ix 206 1143 = some (1143, .invokevirtual 147, 94, 0) := by decide +kernel
theorem ri_206_1146 : ro_ix 206 1146 = some (1146, .l2d, 0, 0) := by decide +kernel
theorem ri_206_1147 : ro_ix 206 1147 = some (1147, .aload_n 1, 0, 0) := by decide +kernel
theorem ri_206_1148 : ro_ix 206 1148 = some (1148, .iload 22, 0, 0) := by decide +kernel
theorem ri_206_1150 : ro_ix 206 1150 = some (1150, .iload 23, 0, 0) := by decide +kernel
theorem ri_206_1152 : ro_ix 206 1152 = some (1152, .iload 28, 0, 0) := by decide +kernel
theorem ri_206_1154 : ro_ix 206 1154 = some (1154, .iconst 1, 0, 0) := by decide +kernel
theorem ri_206_1155 : ro_ix 206 1155 = some (1155, .invokevirtual 147, 94, 0) := by decide +kernel
theorem ri_206_1158 : ro_ix 206 1158 = some (1158, .l2d, 0, 0) := by decide +kernel
theorem ri_206_1159 : ro_ix 206 1159 = some (1159, .ddiv, 0, 0) := by decide +kernel
theorem ri_206_1160 : ro_ix 206 1160 = some (1160, .dstore 29, 0, 0) := by decide +kernel
theorem ri_206_1162 : ro_ix 206 1162 = some (1162, .dload 29, 0, 0) := by decide +kernel
theorem ri_206_1164 : ro_ix 206 1164 = some (1164, .dconst 0, 0, 0) := by decide +kernel
theorem ri_206_1165 : ro_ix 206 1165 = some (1165, .dcmp .g, 0, 0) := by decide +kernel
theorem ri_206_1166 : ro_ix 206 1166 = some (1166, .ifCond .lt 43, 0, 0) := by decide +kernel
theorem ri_206_1169 : ro_ix 206 1169 = some (1169, .dload 29, 0, 0) := by decide +kernel
theorem ri_206_1171 : ro_ix 206 1171 = some (1171, .dconst 1, 0, 0) := by decide +kernel
theorem ri_206_1172 : ro_ix 206 1172 = some (1172, .dcmp .l, 0, 0) := by decide +kernel
theorem ri_206_1173 : ro_ix 206 1173 = some (1173, .ifCond .gt 36, 0, 0) := by decide +kernel
theorem ri_206_1176 : ro_ix 206 1176 = some (1176, .iload 28, 0, 0) := by decide +kernel
theorem ri_206_1178 : ro_ix 206 1178 = some (1178, .iload 23, 0, 0) := by decide +kernel
theorem ri_206_1180 : ro_ix 206 1180 = some (1180, .if_icmp .le 10, 0, 0) := by decide +kernel
theorem ri_206_1183 : ro_ix 206 1183 = some (1183, .dload 29, 0, 0) := by decide +kernel
theorem ri_206_1185 : ro_ix 206 1185 = some (1185, .dconst 0, 0, 0) := by decide +kernel
theorem ri_206_1186 : ro_ix 206 1186 = some (1186, .dcmp .l, 0, 0) := by decide +kernel
theorem ri_206_1187 : ro_ix 206 1187 = some (1187, .ifCond .ne 22, 0, 0) := by decide +kernel
theorem ri_206_1190 : ro_ix 206 1190 = some (1190, .iload 28, 0, 0) := by decide +kernel
theorem ri_206_1192 : ro_ix 206 1192 = some (1192, .aload_n 0, 0, 0) := by decide +kernel
theorem ri_206_1193 : ro_ix 206 1193 = some (1193, .iload 20, 0, 0) := by decide +kernel
theorem ri_206_1195 : ro_ix 206 1195 = some (1195, .iconst 0, 0, 0) := by decide +kernel
theorem ri_206_1196 : ro_ix 206 1196 = some (1196, .invokestatic 27, 195, 0) := by decide +kernel
theorem ri_206_1199 : ro_ix 206 1199 = some (1199, .if_icmp .le 12, 0, 0) := by decide +kernel
theorem ri_206_1202 : ro_ix 206 1202 = some (1202, .dload 29, 0, 0) := by decide +kernel
theorem ri_206_1204 : ro_ix 206 1204 = some (1204, .dconst 0, 0, 0) := by decide +kernel
theorem ri_206_1205 : ro_ix 206 1205 = some (1205, .dcmp .l, 0, 0) := by decide +kernel
theorem ri_206_1206 : ro_ix 206 1206 = some (1206, .ifCond .eq 5, 0, 0) := by decide +kernel
theorem ri_206_1209 : ro_ix 206 1209 = some (1209, .iconst 0, 0, 0) := by decide +kernel
theorem ri_206_1210 : ro_ix 206 1210 = some (1210, .ireturn, 0, 0) := by decide +kernel
theorem ri_206_1211 : ro_ix 206 1211 = some (1211, .dload 24, 0, 0) := by decide +kernel
theorem ri_206_1213 : ro_ix 206 1213 = some (1213, .dload 29, 0, 0) := by decide +kernel
theorem ri_206_1215 : ro_ix 206 1215 = some (1215, .dadd, 0, 0) := by decide +kernel
theorem ri_206_1216 : ro_ix 206 1216 = some (1216, .dstore 24, 0, 0) := by decide +kernel
theorem ri_206_1218 : ro_ix 206 1218 = some (1218, .dload 26, 0, 0) := by decide +kernel
theorem ri_206_1220 : ro_ix 206 1220 = some (1220, .iload 28, 0, 0) := by decide +kernel
theorem ri_206_1222 : ro_ix 206 1222 = some (1222, .i2d, 0, 0) := by decide +kernel
theorem ri_206_1223 : ro_ix 206 1223 = some (1223, .dload 29, 0, 0) := by decide +kernel
theorem ri_206_1225 : ro_ix 206 1225 = some (1225, .dmul, 0, 0) := by decide +kernel
theorem ri_206_1226 : ro_ix 206 1226 = some (1226, .dadd, 0, 0) := by decide +kernel
theorem ri_206_1227 : ro_ix 206 1227 = some (1227, .dstore 26, 0, 0) := by decide +kernel
theorem ri_206_1229 : ro_ix 206 1229 = some (1229, .iinc 28 1, 0, 0) := by decide +kernel
theorem ri_206_1232 : ro_ix 206 1232 = some (1232, .goto (-104), 0, 0) := by decide +kernel
theorem ri_206_1235 : ro_ix 206 1235 = some (1235, .dload 24, 0, 0) := by decide +kernel
theorem ri_206_1237 : ro_ix 206 1237 = some (1237, .dconst 1, 0, 0) := by decide +kernel
theorem ri_206_1238 : ro_ix 206 1238 = some (1238, .dsub, 0, 0) := by decide +kernel
theorem ri_206_1239 : ro_ix 206 1239 = some (1239, .invokestatic 151, 0, 5) := by decide +kernel
theorem ri_206_1242 : ro_ix 206 1242 = some (1242, .ldc2_w 157, 1, 0) := by decide +kernel
theorem ri_206_1245 : ro_ix 206 1245 = some (1245, .dcmp .l, 0, 0) := by decide +kernel
theorem ri_206_1246 : ro_ix 206 1246 = some (1246, .ifCond .gt 37, 0, 0) := by decide +kernel
theorem ri_206_1249 : ro_ix 206 1249 = some (1249, .dload 26, 0, 0) := by decide +kernel
theorem ri_206_1251 : ro_ix 206 1251 = some (1251, .aload_n 1, 0, 0) := by decide +kernel
theorem ri_206_1252 : ro_ix 206 1252 = some (1252, .iload 22, 0, 0) := by decide +kernel
theorem ri_206_1254 : ro_ix 206 1254 = some (1254, .iload 23, 0, 0) := by decide +kernel
theorem ri_206_1256 : ro_ix 206 1256 = some (1256, .iconst 0, 0, 0) := by decide +kernel
theorem ri_206_1257 : ro_ix 206 1257 = some (1257, .invokevirtual 159, 103, 0) := by decide +kernel
theorem ri_206_1260 : ro_ix 206 1260 = some (1260, .l2d, 0, 0) := by decide +kernel
theorem ri_206_1261 : ro_ix 206 1261 = some (1261, .aload_n 1, 0, 0) := by decide +kernel
theorem ri_206_1262 : ro_ix 206 1262 = some (1262, .iload 22, 0, 0) := by decide +kernel
theorem ri_206_1264 : ro_ix 206 1264 = some (1264, .iload 23, 0, 0) := by decide +kernel
theorem ri_206_1266 : ro_ix 206 1266 = some (1266, .iconst 1, 0, 0) := by decide +kernel
theorem ri_206_1267 : ro_ix 206 1267 = some (1267, .invokevirtual 159, 103, 0) := by decide +kernel
theorem ri_206_1270 : ro_ix 206 1270 = some (1270, .l2d, 0, 0) := by decide +kernel
theorem ri_206_1271 : ro_ix 206 1271 = some (1271, .ddiv, 0, 0) := by decide +kernel
theorem ri_206_1272 : ro_ix 206 1272 = some (1272, .dsub, 0, 0) := by decide +kernel
theorem ri_206_1273 : ro_ix 206 1273 = some (1273, .invokestatic 151, 0, 5) := by decide +kernel
theorem ri_206_1276 : ro_ix 206 1276 = some (1276, .ldc2_w 157, 1, 0) := by decide +kernel
theorem ri_206_1279 : ro_ix 206 1279 = some (1279, .dcmp .l, 0, 0) := by decide +kernel
theorem ri_206_1280 : ro_ix 206 1280 = some (1280, .ifCond .le 5, 0, 0) := by decide +kernel
theorem ri_206_1283 : ro_ix 206 1283 = some (1283, .iconst 0, 0, 0) := by decide +kernel
theorem ri_206_1284 : ro_ix 206 1284 = some (1284, .ireturn, 0, 0) := by decide +kernel
theorem ri_206_1285 : ro_ix 206 1285 = some (1285, .iinc 21 1, 0, 0) := by decide +kernel
theorem ri_206_1288 : ro_ix 206 1288 = some (1288, .goto (-209), 0, 0) := by decide +kernel
theorem ri_206_1291 : ro_ix 206 1291 = some (1291, .dconst 0, 0, 0) := by decide +kernel
theorem ri_206_1292 : ro_ix 206 1292 = some (1292, .dstore 21, 0, 0) := by decide +kernel
theorem ri_206_1294 : ro_ix 206 1294 = some (1294, .iconst 0, 0, 0) := by decide +kernel
theorem ri_206_1295 : ro_ix 206 1295 = some (1295, .istore 23, 0, 0) := by decide +kernel
theorem ri_206_1297 : ro_ix 206 1297 = some (1297, .iload 23, 0, 0) := by decide +kernel
theorem ri_206_1299 : ro_ix 206 1299 = some (1299, .bipush 21, 0, 0) := by decide +kernel
theorem ri_206_1301 : ro_ix 206 1301 = some (1301, .if_icmp .ge 101, 0, 0) := by decide +kernel
theorem ri_206_1304 : ro_ix 206 1304 = some (1304, .aload_n 1, 0, 0) := by decide +kernel
theorem ri_206_1305 : ro_ix 206 1305 = some (1305, .iload 20, 0, 0) := by decide +kernel
theorem ri_206_1307 : ro_ix 206 1307 = some (1307, .iload 23, 0, 0) := by decide +kernel
theorem ri_206_1309 : ro_ix 206 1309 = some (1309, .iconst 0, 0, 0) := by decide +kernel
theorem ri_206_1310 : ro_ix 206 1310 = some (1310, .invokevirtual 163, 111, 0) := by decide +kernel
theorem ri_206_1313 : ro_ix 206 1313 = some (1313, .l2d, 0, 0) := by decide +kernel
theorem ri_206_1314 : ro_ix 206 1314 = some (1314, .aload_n 1, 0, 0) := by decide +kernel
theorem ri_206_1315 : ro_ix 206 1315 = some (1315, .iload 20, 0, 0) := by decide +kernel
theorem ri_206_1317 : ro_ix 206 1317 = some (1317, .iload 23, 0, 0) := by decide +kernel
theorem ri_206_1319 : ro_ix 206 1319 = some (1319, .iconst 1, 0, 0) := by decide +kernel
theorem ri_206_1320 : ro_ix 206 1320 = some (1320, .invokevirtual 163, 111, 0) := by decide +kernel
theorem ri_206_1323 : ro_ix 206 1323 = some (1323, .l2d, 0, 0) := by decide +kernel
theorem ri_206_1324 : ro_ix 206 1324 = some (1324, .ddiv, 0, 0) := by decide +kernel
theorem ri_206_1325 : ro_ix 206 1325 = some (1325, .dstore 24, 0, 0) := by decide +kernel
theorem ri_206_1327 : ro_ix 206 1327 = some (1327, .dload 24, 0, 0) := by decide +kernel
theorem ri_206_1329 : ro_ix 206 1329 = some (1329, .ldc2_w 166, 1, 0) := by decide +kernel
theorem ri_206_1332 : ro_ix 206 1332 = some (1332, .dadd, 0, 0) := by decide +kernel
theorem ri_206_1333 : ro_ix 206 1333 = some (1333, .dload 21, 0, 0) := by decide +kernel
theorem ri_206_1335 : ro_ix 206 1335 = some (1335, .dcmp .g, 0, 0) := by decide +kernel
theorem ri_206_1336 : ro_ix 206 1336 = some (1336, .ifCond .lt 54, 0, 0) := by decide +kernel
theorem ri_206_1339 : ro_ix 206 1339 = some (1339, .dload 24, 0, 0) := by decide +kernel
theorem ri_206_1341 : ro_ix 206 1341 = some (1341, .dconst 1, 0, 0) := by decide +kernel
theorem ri_206_1342 : ro_ix 206 1342 = some (1342, .dcmp .l, 0, 0) := by decide +kernel
theorem ri_206_1343 : ro_ix 206 1343 = some (1343, .ifCond .gt 47, 0, 0) := by decide +kernel
theorem ri_206_1346 : ro_ix 206 1346 = some (1346, .dload 24, 0, 0) := by decide +kernel
theorem ri_206_1348 : ro_ix 206 1348 = some (1348, .aload_n 1, 0, 0) := by decide +kernel
theorem ri_206_1349 : ro_ix 206 1349 = some (1349, .iload 20, 0, 0) := by decide +kernel
theorem ri_206_1351 : ro_ix 206 1351 = some (1351, .bipush 10, 0, 0) := by decide +kernel
theorem ri_206_1353 : ro_ix 206 1353 = some (1353, .iload 23, 0, 0) := by decide +kernel
theorem ri_206_1355 : ro_ix 206 1355 = some (1355, .imul, 0, 0) := by decide +kernel
theorem ri_206_1356 : ro_ix 206 1356 = some (1356, .iconst 1, 0, 0) := by decide +kernel
theorem ri_206_1357 : ro_ix 206 1357 = some (1357, .iadd, 0, 0) := by decide +kernel
theorem ri_206_1358 : ro_ix 206 1358 = some (1358, .iconst 0, 0, 0) := by decide +kernel
theorem ri_206_1359 : ro_ix 206 1359 = some (1359, .invokevirtual 168, 115, 0) := by decide +kernel
theorem ri_206_1362 : ro_ix 206 1362 = some (1362, .l2d, 0, 0) := by decide +kernel
theorem ri_206_1363 : ro_ix 206 1363 = some (1363, .aload_n 1, 0, 0) := by decide +kernel
theorem ri_206_1364 : ro_ix 206 1364 = some (1364, .iload 20, 0, 0) := by decide +kernel
theorem ri_206_1366 : ro_ix 206 1366 = some (1366, .bipush 10, 0, 0) := by decide +kernel
theorem ri_206_1368 : ro_ix 206 1368 = some (1368, .iload 23, 0, 0) := by decide +kernel
theorem ri_206_1370 : ro_ix 206 1370 = some (1370, .imul, 0, 0) := by decide +kernel
theorem ri_206_1371 : ro_ix 206 1371 = some (1371, .iconst 1, 0, 0) := by decide +kernel
theorem ri_206_1372 : ro_ix 206 1372 = some (1372, .iadd, 0, 0) := by decide +kernel
theorem ri_206_1373 : ro_ix 206 1373 = some (1373, .iconst 1, 0, 0) := by decide +kernel
theorem ri_206_1374 : ro_ix 206 1374 = some (1374, .invokevirtual 168, 115, 0) := by decide +kernel
theorem ri_206_1377 : ro_ix 206 1377 = some (1377, .l2d, 0, 0) := by decide +kernel
theorem ri_206_1378 : ro_ix 206 1378 = some (1378, .ddiv, 0, 0) := by decide +kernel
theorem ri_206_1379 : ro_ix 206 1379 = some (1379, .dsub, 0, 0) := by decide +kernel
theorem ri_206_1380 : ro_ix 206 1380 = some (1380, .invokestatic 151, 0, 5) := by decide +kernel
theorem ri_206_1383 : ro_ix 206 1383 = some (1383, .ldc2_w 166, 1, 0) := by decide +kernel
theorem ri_206_1386 : ro_ix 206 1386 = some (1386, .dcmp .l, 0, 0) := by decide +kernel
theorem ri_206_1387 : ro_ix 206 1387 = some (1387, .ifCond .le 5, 0, 0) := by decide +kernel
theorem ri_206_1390 : ro_ix 206 1390 = some (1390, .iconst 0, 0, 0) := by decide +kernel
theorem ri_206_1391 : ro_ix 206 1391 = some (1391, .ireturn, 0, 0) := by decide +kernel
theorem ri_206_1392 : ro_ix 206 1392 = some (1392, .dload 24, 0, 0) := by decide +kernel
theorem ri_206_1394 : ro_ix 206 1394 = some (1394, .dstore 21, 0, 0) := by decide +kernel
theorem ri_206_1396 : ro_ix 206 1396 = some (1396, .iinc 23 1, 0, 0) := by decide +kernel
theorem ri_206_1399 : ro_ix 206 1399 = some (1399, .goto (-102), 0, 0) := by decide +kernel
theorem ri_206_1402 : ro_ix 206 1402 = some (1402, .aload_n 1, 0, 0) := by decide +kernel
theorem ri_206_1403 : ro_ix 206 1403 = some (1403, .iload 20, 0, 0) := by decide +kernel
theorem ri_206_1405 : ro_ix 206 1405 = some (1405, .bipush 8, 0, 0) := by decide +kernel
theorem ri_206_1407 : ro_ix 206 1407 = some (1407, .invokevirtual 115, 36, 0) := by decide +kernel
theorem ri_206_1410 : ro_ix 206 1410 = some (1410, .ifCond .le 7, 0, 0) := by decide +kernel
theorem ri_206_1413 : ro_ix 206 1413 = some (1413, .iconst 1, 0, 0) := by decide +kernel
theorem ri_206_1414 : ro_ix 206 1414 = some (1414, .goto 4, 0, 0) := by decide +kernel
theorem ri_206_1417 : ro_ix 206 1417 = some (1417, .iconst 0, 0, 0) := by decide +kernel
theorem ri_206_1418 : ro_ix 206 1418 = some (1418, .dload 21, 0, 0) := by decide +kernel
theorem ri_206_1420 : ro_ix 206 1420 = some (1420, .dconst 1, 0, 0) := by decide +kernel
theorem ri_206_1421 : ro_ix 206 1421 = some (1421, .dcmp .l, 0, 0) := by decide +kernel
theorem ri_206_1422 : ro_ix 206 1422 = some (1422, .ifCond .ne 7, 0, 0) := by decide +kernel
theorem ri_206_1425 : ro_ix 206 1425 = some (1425, .iconst 1, 0, 0) := by decide +kernel
theorem ri_206_1426 : ro_ix 206 1426 = some (1426, .goto 4, 0, 0) := by decide +kernel
theorem ri_206_1429 : ro_ix 206 1429 = some (1429, .iconst 0, 0, 0) := by decide +kernel
theorem ri_206_1430 : ro_ix 206 1430 = some (1430, .if_icmp .ne 38, 0, 0) := by decide +kernel
theorem ri_206_1433 : ro_ix 206 1433 = some (1433, .aload_n 1, 0, 0) := by decide +kernel
theorem ri_206_1434 : ro_ix 206 1434 = some (1434, .iload 20, 0, 0) := by decide +kernel
theorem ri_206_1436 : ro_ix 206 1436 = some (1436, .bipush 12, 0, 0) := by decide +kernel
theorem ri_206_1438 : ro_ix 206 1438 = some (1438, .invokevirtual 171, 114, 0) := by decide +kernel
theorem ri_206_1441 : ro_ix 206 1441 = some (1441, .ifCond .lt 7, 0, 0) := by decide +kernel
theorem ri_206_1444 : ro_ix 206 1444 = some (1444, .iconst 1, 0, 0) := by decide +kernel
theorem ri_206_1445 : ro_ix 206 1445 = some (1445, .goto 4, 0, 0) := by decide +kernel
theorem ri_206_1448 : ro_ix 206 1448 = some (1448, .iconst 0, 0, 0) := by decide +kernel
theorem ri_206_1449 : ro_ix 206 1449 = some (1449, .aload_n 1, 0, 0) := by decide +kernel
theorem ri_206_1450 : ro_ix 206 1450 = some (1450, .iload 20, 0, 0) := by decide +kernel
theorem ri_206_1452 : ro_ix 206 1452 = some (1452, .bipush 8, 0, 0) := by decide +kernel
theorem ri_206_1454 : ro_ix 206 1454 = some (1454, .invokevirtual 115, 36, 0) := by decide +kernel
theorem ri_206_1457 : ro_ix 206 1457 = some (1457, .ifCond .le 7, 0, 0) := by decide +kernel
theorem ri_206_1460 : ro_ix 206 1460 = some (1460, .iconst 1, 0, 0) := by decide +kernel
theorem ri_206_1461 : ro_ix 206 1461 = some (1461, .goto 4, 0, 0) := by decide +kernel
theorem ri_206_1464 : ro_ix 206 1464 = some (1464, .iconst 0, 0, 0) := by decide +kernel
theorem ri_206_1465 : ro_ix 206 1465 = some (1465, .if_icmp .eq 5, 0, 0) := by decide +kernel
theorem ri_206_1468 : ro_ix 206 1468 = some (1468, .iconst 0, 0, 0) := by decide +kernel
theorem ri_206_1469 : ro_ix 206 1469 = some (1469, .ireturn, 0, 0) := by decide +kernel
theorem ri_206_1470 : ro_ix 206 1470 = some (1470, .iinc 20 1, 0, 0) := by decide +kernel
theorem ri_206_1473 : ro_ix 206 1473 = some (1473, .goto (-403), 0, 0) := by decide +kernel
theorem ri_206_1476 : ro_ix 206 1476 = some (1476, .dconst 1, 0, 0) := by decide +kernel
theorem ri_206_1477 : ro_ix 206 1477 = some (1477, .dstore 20, 0, 0) := by decide +kernel
theorem ri_206_1479 : ro_ix 206 1479 = some (1479, .iconst 0, 0, 0) := by decide +kernel
theorem ri_206_1480 : ro_ix 206 1480 = some (1480, .istore 22, 0, 0) := by decide +kernel
theorem ri_206_1482 : ro_ix 206 1482 = some (1482, .iload 22, 0, 0) := by decide +kernel
theorem ri_206_1484 : ro_ix 206 1484 = some (1484, .iconst 3, 0, 0) := by decide +kernel
theorem ri_206_1485 : ro_ix 206 1485 = some (1485, .if_icmp .ge 53, 0, 0) := by decide +kernel
theorem ri_206_1488 : ro_ix 206 1488 = some (1488, .aload_n 1, 0, 0) := by decide +kernel
theorem ri_206_1489 : ro_ix 206 1489 = some (1489, .iload 22, 0, 0) := by decide +kernel
theorem ri_206_1491 : ro_ix 206 1491 = some (1491, .iconst 0, 0, 0) := by decide +kernel
theorem ri_206_1492 : ro_ix 206 1492 = some (1492, .invokevirtual 174, 105, 0) := by decide +kernel
theorem ri_206_1495 : ro_ix 206 1495 = some (1495, .l2d, 0, 0) := by decide +kernel
theorem ri_206_1496 : ro_ix 206 1496 = some (1496, .aload_n 1, 0, 0) := by decide +kernel
theorem ri_206_1497 : ro_ix 206 1497 = some (1497, .iload 22, 0, 0) := by decide +kernel
theorem ri_206_1499 : ro_ix 206 1499 = some (1499, .iconst 1, 0, 0) := by decide +kernel
theorem ri_206_1500 : ro_ix 206 1500 = some (1500, .invokevirtual 174, 105, 0) := by decide +kernel
theorem ri_206_1503 : ro_ix 206 1503 = some (1503, .l2d, 0, 0) := by decide +kernel
theorem ri_206_1504 : ro_ix 206 1504 = some (1504, .ddiv, 0, 0) := by decide +kernel
theorem ri_206_1505 : ro_ix 206 1505 = some (1505, .dstore 23, 0, 0) := by decide +kernel
theorem ri_206_1507 : ro_ix 206 1507 = some (1507, .dload 23, 0, 0) := by decide +kernel
theorem ri_206_1509 : ro_ix 206 1509 = some (1509, .dload 20, 0, 0) := by decide +kernel
theorem ri_206_1511 : ro_ix 206 1511 = some (1511, .ldc2_w 166, 1, 0) := by decide +kernel
theorem ri_206_1514 : ro_ix 206 1514 = some (1514, .dadd, 0, 0) := by decide +kernel
theorem ri_206_1515 : ro_ix 206 1515 = some (1515, .dcmp .l, 0, 0) := by decide +kernel
theorem ri_206_1516 : ro_ix 206 1516 = some (1516, .ifCond .gt 10, 0, 0) := by decide +kernel
theorem ri_206_1519 : ro_ix 206 1519 = some (1519, .dload 23, 0, 0) := by decide +kernel
theorem ri_206_1521 : ro_ix 206 1521 = some (1521, .dconst 0, 0, 0) := by decide +kernel
theorem ri_206_1522 : ro_ix 206 1522 = some (1522, .dcmp .g, 0, 0) := by decide +kernel
theorem ri_206_1523 : ro_ix 206 1523 = some (1523, .ifCond .ge 5, 0, 0) := by decide +kernel
theorem ri_206_1526 : ro_ix 206 1526 = some (1526, .iconst 0, 0, 0) := by decide +kernel
theorem ri_206_1527 : ro_ix 206 1527 = some (1527, .ireturn, 0, 0) := by decide +kernel
theorem ri_206_1528 : ro_ix 206 1528 = some (1528, .dload 23, 0, 0) := by decide +kernel
theorem ri_206_1530 : ro_ix 206 1530 = some (1530, .dstore 20, 0, 0) := by decide +kernel
theorem ri_206_1532 : ro_ix 206 1532 = some (1532, .iinc 22 1, 0, 0) := by decide +kernel
theorem ri_206_1535 : ro_ix 206 1535 = some (1535, .goto (-53), 0, 0) := by decide +kernel
theorem ri_206_1538 : ro_ix 206 1538 = some (1538, .iconst 0, 0, 0) := by decide +kernel
theorem ri_206_1539 : ro_ix 206 1539 = some (1539, .istore 22, 0, 0) := by decide +kernel
theorem ri_206_1541 : ro_ix 206 1541 = some (1541, .iconst 0, 0, 0) := by decide +kernel
theorem ri_206_1542 : ro_ix 206 1542 = some (1542, .istore 23, 0, 0) := by decide +kernel
theorem ri_206_1544 : ro_ix 206 1544 = some (1544, .iload 23, 0, 0) := by decide +kernel
theorem ri_206_1546 : ro_ix 206 1546 = some (1546, .iload_n 2, 0, 0) := by decide +kernel
theorem ri_206_1547 : ro_ix 206 1547 = some (1547, .if_icmp .ge 34, 0, 0) := by decide +kernel
theorem ri_206_1550 : ro_ix 206 1550 = some (1550, .iload 22, 0, 0) := by decide +kernel
theorem ri_206_1552 : ro_ix 206 1552 = some (1552, .aload_n 1, 0, 0) := by decide +kernel
theorem ri_206_1553 : ro_ix 206 1553 = some (1553, .iload 23, 0, 0) := by decide +kernel
theorem ri_206_1555 : ro_ix 206 1555 = some (1555, .invokevirtual 178, 117, 0) := by decide +kernel
theorem ri_206_1558 : ro_ix 206 1558 = some (1558, .iand, 0, 0) := by decide +kernel
theorem ri_206_1559 : ro_ix 206 1559 = some (1559, .ifCond .eq 5, 0, 0) := by decide +kernel
theorem ri_206_1562 : ro_ix 206 1562 = some (1562, .iconst 0, 0, 0) := by decide +kernel
theorem ri_206_1563 : ro_ix 206 1563 = some (1563, .ireturn, 0, 0) := by decide +kernel
theorem ri_206_1564 : ro_ix 206 1564 = some (1564, .iload 22, 0, 0) := by decide +kernel
theorem ri_206_1566 : ro_ix 206 1566 = some (1566, .aload_n 1, 0, 0) := by decide +kernel
theorem ri_206_1567 : ro_ix 206 1567 = some (1567, .iload 23, 0, 0) := by decide +kernel
theorem ri_206_1569 : ro_ix 206 1569 = some (1569, .invokevirtual 178, 117, 0) := by decide +kernel
theorem ri_206_1572 : ro_ix 206 1572 = some (1572, .ior, 0, 0) := by decide +kernel
theorem ri_206_1573 : ro_ix 206 1573 = some (1573, .istore 22, 0, 0) := by decide +kernel
theorem ri_206_1575 : ro_ix 206 1575 = some (1575, .iinc 23 1, 0, 0) := by decide +kernel
theorem ri_206_1578 : ro_ix 206 1578 = some (1578, .goto (-34), 0, 0) := by decide +kernel
theorem ri_206_1581 : ro_ix 206 1581 = some (1581, .iload 22, 0, 0) := by decide +kernel
theorem ri_206_1583 : ro_ix 206 1583 = some (1583, .iload_n 2, 0, 0) := by decide +kernel
theorem ri_206_1584 : ro_ix 206 1584 = some (1584, .ifCond .ne 7, 0, 0) := by decide +kernel
theorem ri_206_1587 : ro_ix 206 1587 = some (1587, .iconst 0, 0, 0) := by decide +kernel
theorem ri_206_1588 : ro_ix 206 1588 = some (1588, .goto 5, 0, 0) := by decide +kernel
theorem ri_206_1591 : ro_ix 206 1591 = some (1591, .bipush 31, 0, 0) := by decide +kernel
theorem ri_206_1593 : ro_ix 206 1593 = some (1593, .if_icmp .ne 7, 0, 0) := by decide +kernel
theorem ri_206_1596 : ro_ix 206 1596 = some (1596, .iconst 1, 0, 0) := by decide +kernel
theorem ri_206_1597 : ro_ix 206 1597 = some (1597, .goto 4, 0, 0) := by decide +kernel
theorem ri_206_1600 : ro_ix 206 1600 = some (1600, .iconst 0, 0, 0) := by decide +kernel
theorem ri_206_1601 : ro_ix 206 1601 = some (1601, .ireturn, 0, 0) := by decide +kernel
