/-! the code of each method: place, instruction, two numbers that its link comes to (a field: its class, its slot; a call: the method; 1 a nest mate's, 2 Object, 3 Math, 4 arraycopy); by program, wip/p43/gen03.py; checked by the kernel against decode and the tables of links -/
abbrev ro_In : Type := Nat × Instr × Nat × Nat
/-- RefusedOnce.<init>()V -/
def ro_c0_0 : List ro_In := [(0, .aload_n 0, 0, 0), (1, .invokespecial 1, 0, 2), (4, .aload_n 0, 0, 0), (5, .new 7, 4, 0), (8, .dup, 0, 0), (9, .invokespecial 9, 1, 1), (12, .putfield 10, 11, 0), (15, .aload_n 0, 0, 0), (16, .new 16, 5, 0), (19, .dup, 0, 0), (20, .invokespecial 18, 3, 1), (23, .putfield 19, 11, 1), (26, .aload_n 0, 0, 0), (27, .bipush 6, 0, 0), (29, .anewarray 23, 0, 0), (32, .putfield 25, 11, 2), (35, .iconst 0, 0, 0), (36, .istore_n 1, 0, 0), (37, .iload_n 1, 0, 0), (38, .bipush 6, 0, 0), (40, .if_icmp .ge 22, 0, 0), (43, .aload_n 0, 0, 0), (44, .getfield 25, 11, 2), (47, .iload_n 1, 0, 0), (48, .new 23, 9, 0), (51, .dup, 0, 0), (52, .invokespecial 29, 4, 1), (55, .aastore, 0, 0), (56, .iinc 1 1, 0, 0), (59, .goto (-22), 0, 0), (62, .aload_n 0, 0, 0), (63, .new 30, 3, 0), (66, .dup, 0, 0), (67, .aload_n 0, 0, 0), (68, .getfield 10, 11, 0), (71, .aload_n 0, 0, 0), (72, .getfield 19, 11, 1), (75, .invokespecial 32, 5, 0), (78, .putfield 35, 11, 3), (81, .aload_n 0, 0, 0), (82, .new 39, 7, 0), (85, .dup, 0, 0), (86, .aload_n 0, 0, 0), (87, .getfield 10, 11, 0), (90, .aload_n 0, 0, 0), (91, .getfield 19, 11, 1), (94, .invokespecial 41, 6, 0), (97, .putfield 42, 11, 4), (100, .aload_n 0, 0, 0), (101, .new 46, 1, 0), (104, .dup, 0, 0), (105, .aload_n 0, 0, 0), (106, .getfield 10, 11, 0), (109, .aload_n 0, 0, 0), (110, .getfield 19, 11, 1), (113, .invokespecial 48, 7, 0), (116, .putfield 49, 11, 5), (119, .aload_n 0, 0, 0), (120, .new 53, 2, 0), (123, .dup, 0, 0)]
def ro_c0_1 : List ro_In := [(124, .invokespecial 55, 8, 1), (127, .putfield 56, 11, 6), (130, .aload_n 0, 0, 0), (131, .new 60, 0, 0), (134, .dup, 0, 0), (135, .invokespecial 62, 9, 1), (138, .putfield 63, 11, 7), (141, .aload_n 0, 0, 0), (142, .new 67, 10, 0), (145, .dup, 0, 0), (146, .aload_n 0, 0, 0), (147, .getfield 10, 11, 0), (150, .aload_n 0, 0, 0), (151, .getfield 35, 11, 3), (154, .invokespecial 69, 10, 0), (157, .putfield 72, 11, 8), (160, .return_, 0, 0)]
def ro_c0 : List ro_In := ro_c0_0 ++ (ro_c0_1)
/-- RefusedOnce$Land.<init>()V -/
def ro_c1 : List ro_In := [(0, .aload_n 0, 0, 0), (1, .invokespecial 3, 0, 2), (4, .aload_n 0, 0, 0), (5, .new 9, 8, 0), (8, .dup, 0, 0), (9, .invokespecial 11, 2, 1), (12, .putfield 12, 4, 0), (15, .aload_n 0, 0, 0), (16, .bipush 6, 0, 0), (18, .newarray .int, 0, 0), (20, .putfield 18, 4, 1), (23, .aload_n 0, 0, 0), (24, .bipush 6, 0, 0), (26, .newarray .int, 0, 0), (28, .putfield 22, 4, 2), (31, .aload_n 0, 0, 0), (32, .iconst 4, 0, 0), (33, .newarray .int, 0, 0), (35, .putfield 25, 4, 3), (38, .aload_n 0, 0, 0), (39, .iconst 3, 0, 0), (40, .putfield 28, 4, 5), (43, .aload_n 0, 0, 0), (44, .iconst 0, 0, 0), (45, .putfield 32, 4, 6), (48, .aload_n 0, 0, 0), (49, .bipush 6, 0, 0), (51, .putfield 35, 4, 7), (54, .aload_n 0, 0, 0), (55, .new 9, 8, 0), (58, .dup, 0, 0), (59, .invokespecial 11, 2, 1), (62, .putfield 38, 4, 8), (65, .aload_n 0, 0, 0), (66, .iconst 4, 0, 0), (67, .newarray .int, 0, 0), (69, .putfield 41, 4, 9), (72, .return_, 0, 0)]
/-- RefusedOnce$Purses.<init>()V -/
def ro_c2 : List ro_In := [(0, .aload_n 0, 0, 0), (1, .invokespecial 3, 0, 2), (4, .aload_n 0, 0, 0), (5, .bipush 6, 0, 0), (7, .newarray .int, 0, 0), (9, .putfield 9, 8, 0), (12, .aload_n 0, 0, 0), (13, .bipush 6, 0, 0), (15, .newarray .int, 0, 0), (17, .putfield 15, 8, 1), (20, .return_, 0, 0)]
/-- RefusedOnce$Law.<init>()V -/
def ro_c3 : List ro_In := [(0, .aload_n 0, 0, 0), (1, .invokespecial 5, 0, 2), (4, .aload_n 0, 0, 0), (5, .bipush 120, 0, 0), (7, .newarray .int, 0, 0), (9, .putfield 11, 5, 0), (12, .aload_n 0, 0, 0), (13, .bipush 121, 0, 0), (15, .newarray .int, 0, 0), (17, .putfield 15, 5, 1), (20, .aload_n 0, 0, 0), (21, .bipush 121, 0, 0), (23, .newarray .int, 0, 0), (25, .putfield 18, 5, 2), (28, .aload_n 0, 0, 0), (29, .bipush 121, 0, 0), (31, .newarray .int, 0, 0), (33, .putfield 21, 5, 3), (36, .aload_n 0, 0, 0), (37, .bipush 6, 0, 0), (39, .newarray .int, 0, 0), (41, .putfield 24, 5, 4), (44, .return_, 0, 0)]
/-- RefusedOnce$Shelf.<init>()V -/
def ro_c4 : List ro_In := [(0, .aload_n 0, 0, 0), (1, .invokespecial 3, 0, 2), (4, .aload_n 0, 0, 0), (5, .bipush 60, 0, 0), (7, .newarray .long, 0, 0), (9, .putfield 11, 9, 0), (12, .aload_n 0, 0, 0), (13, .bipush (-2), 0, 0), (15, .putfield 15, 9, 1), (18, .return_, 0, 0)]
/-- RefusedOnce$Evening.<init>(LRefusedOnce$Land;LRefusedOnce$Law;)V -/
def ro_c5 : List ro_In := [(0, .aload_n 0, 0, 0), (1, .invokespecial 3, 0, 2), (4, .aload_n 0, 0, 0), (5, .new 9, 8, 0), (8, .dup, 0, 0), (9, .invokespecial 11, 2, 1), (12, .putfield 12, 3, 2), (15, .aload_n 0, 0, 0), (16, .bipush 20, 0, 0), (18, .newarray .int, 0, 0), (20, .putfield 18, 3, 3), (23, .aload_n 0, 0, 0), (24, .bipush 20, 0, 0), (26, .newarray .int, 0, 0), (28, .putfield 22, 3, 4), (31, .aload_n 0, 0, 0), (32, .bipush 20, 0, 0), (34, .newarray .int, 0, 0), (36, .putfield 25, 3, 5), (39, .aload_n 0, 0, 0), (40, .aload_n 1, 0, 0), (41, .putfield 28, 3, 0), (44, .aload_n 0, 0, 0), (45, .aload_n 2, 0, 0), (46, .putfield 32, 3, 1), (49, .return_, 0, 0)]
/-- RefusedOnce$Payings.<init>(LRefusedOnce$Land;LRefusedOnce$Law;)V -/
def ro_c6 : List ro_In := [(0, .aload_n 0, 0, 0), (1, .invokespecial 3, 0, 2), (4, .aload_n 0, 0, 0), (5, .new 9, 8, 0), (8, .dup, 0, 0), (9, .invokespecial 11, 2, 1), (12, .putfield 12, 7, 2), (15, .aload_n 0, 0, 0), (16, .bipush 10, 0, 0), (18, .newarray .int, 0, 0), (20, .putfield 18, 7, 3), (23, .aload_n 0, 0, 0), (24, .bipush 10, 0, 0), (26, .newarray .int, 0, 0), (28, .putfield 22, 7, 4), (31, .aload_n 0, 0, 0), (32, .aload_n 1, 0, 0), (33, .putfield 25, 7, 0), (36, .aload_n 0, 0, 0), (37, .aload_n 2, 0, 0), (38, .putfield 29, 7, 1), (41, .return_, 0, 0)]
/-- RefusedOnce$Chances.<init>(LRefusedOnce$Land;LRefusedOnce$Law;)V -/
def ro_c7 : List ro_In := [(0, .aload_n 0, 0, 0), (1, .invokespecial 3, 0, 2), (4, .aload_n 0, 0, 0), (5, .new 9, 8, 0), (8, .dup, 0, 0), (9, .invokespecial 11, 2, 1), (12, .putfield 12, 1, 2), (15, .aload_n 0, 0, 0), (16, .bipush 9, 0, 0), (18, .newarray .long, 0, 0), (20, .putfield 18, 1, 3), (23, .aload_n 0, 0, 0), (24, .bipush 9, 0, 0), (26, .newarray .long, 0, 0), (28, .putfield 22, 1, 4), (31, .aload_n 0, 0, 0), (32, .lconst 1, 0, 0), (33, .putfield 25, 1, 6), (36, .aload_n 0, 0, 0), (37, .aload_n 1, 0, 0), (38, .putfield 29, 1, 0), (41, .aload_n 0, 0, 0), (42, .aload_n 2, 0, 0), (43, .putfield 33, 1, 1), (46, .return_, 0, 0)]
/-- RefusedOnce$Changes.<init>()V -/
def ro_c8 : List ro_In := [(0, .aload_n 0, 0, 0), (1, .invokespecial 1, 0, 2), (4, .aload_n 0, 0, 0), (5, .bipush 40, 0, 0), (7, .newarray .int, 0, 0), (9, .putfield 9, 2, 0), (12, .aload_n 0, 0, 0), (13, .bipush 40, 0, 0), (15, .newarray .int, 0, 0), (17, .putfield 13, 2, 1), (20, .aload_n 0, 0, 0), (21, .bipush 40, 0, 0), (23, .newarray .int, 0, 0), (25, .putfield 16, 2, 2), (28, .aload_n 0, 0, 0), (29, .bipush 40, 0, 0), (31, .newarray .int, 0, 0), (33, .putfield 19, 2, 3), (36, .return_, 0, 0)]
/-- RefusedOnce$Bodies.<init>()V -/
def ro_c9 : List ro_In := [(0, .aload_n 0, 0, 0), (1, .invokespecial 3, 0, 2), (4, .aload_n 0, 0, 0), (5, .bipush 50, 0, 0), (7, .newarray .int, 0, 0), (9, .putfield 11, 0, 0), (12, .aload_n 0, 0, 0), (13, .bipush 24, 0, 0), (15, .newarray .int, 0, 0), (17, .putfield 15, 0, 1), (20, .return_, 0, 0)]
/-- RefusedOnce$Ways.<init>(LRefusedOnce$Land;LRefusedOnce$Evening;)V -/
def ro_c10 : List ro_In := [(0, .aload_n 0, 0, 0), (1, .invokespecial 3, 0, 2), (4, .aload_n 0, 0, 0), (5, .bipush 21, 0, 0), (7, .bipush 12, 0, 0), (9, .multianewarray 11 2, 0, 0), (13, .putfield 13, 10, 2), (16, .aload_n 0, 0, 0), (17, .bipush 21, 0, 0), (19, .bipush 12, 0, 0), (21, .multianewarray 11 2, 0, 0), (25, .putfield 16, 10, 3), (28, .aload_n 0, 0, 0), (29, .bipush 21, 0, 0), (31, .bipush 12, 0, 0), (33, .multianewarray 11 2, 0, 0), (37, .putfield 19, 10, 4), (40, .aload_n 0, 0, 0), (41, .bipush 21, 0, 0), (43, .bipush 12, 0, 0), (45, .multianewarray 11 2, 0, 0), (49, .putfield 22, 10, 5), (52, .aload_n 0, 0, 0), (53, .sipush 1024, 0, 0), (56, .newarray .int, 0, 0), (58, .putfield 25, 10, 6), (61, .aload_n 0, 0, 0), (62, .sipush 8192, 0, 0), (65, .newarray .int, 0, 0), (67, .putfield 29, 10, 7), (70, .aload_n 0, 0, 0), (71, .new 32, 6, 0), (74, .dup, 0, 0), (75, .invokespecial 34, 11, 1), (78, .putfield 35, 10, 8), (81, .aload_n 0, 0, 0), (82, .new 32, 6, 0), (85, .dup, 0, 0), (86, .invokespecial 34, 11, 1), (89, .putfield 39, 10, 9), (92, .aload_n 0, 0, 0), (93, .aload_n 1, 0, 0), (94, .putfield 42, 10, 0), (97, .aload_n 0, 0, 0), (98, .aload_n 2, 0, 0), (99, .putfield 46, 10, 1), (102, .return_, 0, 0)]
/-- RefusedOnce$Level.<init>()V -/
def ro_c11 : List ro_In := [(0, .aload_n 0, 0, 0), (1, .invokespecial 1, 0, 2), (4, .aload_n 0, 0, 0), (5, .sipush 8192, 0, 0), (8, .newarray .long, 0, 0), (10, .putfield 9, 6, 0), (13, .aload_n 0, 0, 0), (14, .sipush 8192, 0, 0), (17, .newarray .int, 0, 0), (19, .putfield 15, 6, 1), (22, .aload_n 0, 0, 0), (23, .sipush 8192, 0, 0), (26, .newarray .int, 0, 0), (28, .putfield 19, 6, 2), (31, .aload_n 0, 0, 0), (32, .sipush 8192, 0, 0), (35, .newarray .int, 0, 0), (37, .putfield 22, 6, 3), (40, .return_, 0, 0)]
/-- RefusedOnce.person(I)I -/
def ro_c12 : List ro_In := [(0, .iload_n 1, 0, 0), (1, .iconst 0, 0, 0), (2, .bipush 20, 0, 0), (4, .invokestatic 76, 13, 0), (7, .ifCond .ne 5, 0, 0), (10, .iconst (-1), 0, 0), (11, .ireturn, 0, 0), (12, .aload_n 0, 0, 0), (13, .getfield 10, 11, 0), (16, .iload_n 1, 0, 0), (17, .iconst 0, 0, 0), (18, .iconst 3, 0, 0), (19, .invokevirtual 80, 14, 0), (22, .ifCond .eq 15, 0, 0), (25, .aload_n 0, 0, 0), (26, .getfield 10, 11, 0), (29, .invokevirtual 83, 18, 0), (32, .iconst 1, 0, 0), (33, .isub, 0, 0), (34, .goto 5, 0, 0), (37, .bipush (-3), 0, 0), (39, .ireturn, 0, 0)]
/-- RefusedOnce.within(III)Z -/
def ro_c13 : List ro_In := [(0, .iload_n 0, 0, 0), (1, .iload_n 1, 0, 0), (2, .if_icmp .lt 12, 0, 0), (5, .iload_n 0, 0, 0), (6, .iload_n 2, 0, 0), (7, .if_icmp .gt 7, 0, 0), (10, .iconst 1, 0, 0), (11, .goto 4, 0, 0), (14, .iconst 0, 0, 0), (15, .ireturn, 0, 0)]
/-- RefusedOnce$Land.comes(III)Z -/
def ro_c14 : List ro_In := [(0, .iconst 0, 0, 0), (1, .iload_n 1, 0, 0), (2, .invokestatic 54, 15, 0), (5, .ifCond .eq 23, 0, 0), (8, .iconst 1, 0, 0), (9, .iload_n 2, 0, 0), (10, .invokestatic 54, 15, 0), (13, .ifCond .eq 15, 0, 0), (16, .iconst 2, 0, 0), (17, .iload_n 3, 0, 0), (18, .invokestatic 54, 15, 0), (21, .ifCond .eq 7, 0, 0), (24, .iconst 1, 0, 0), (25, .goto 4, 0, 0), (28, .iconst 0, 0, 0), (29, .istore 4, 0, 0), (31, .iload 4, 0, 0), (33, .ifCond .eq 19, 0, 0), (36, .aload_n 0, 0, 0), (37, .getfield 44, 4, 4), (40, .ifCond .lt 12, 0, 0), (43, .aload_n 0, 0, 0), (44, .getfield 44, 4, 4), (47, .bipush 6, 0, 0), (49, .if_icmp .lt 5, 0, 0), (52, .iconst 0, 0, 0), (53, .ireturn, 0, 0), (54, .aload_n 0, 0, 0), (55, .getfield 12, 4, 0), (58, .aload_n 0, 0, 0), (59, .getfield 44, 4, 4), (62, .iload_n 1, 0, 0), (63, .invokevirtual 58, 16, 0), (66, .aload_n 0, 0, 0), (67, .getfield 12, 4, 0), (70, .aload_n 0, 0, 0), (71, .getfield 44, 4, 4), (74, .iload_n 2, 0, 0), (75, .invokevirtual 62, 17, 0), (78, .aload_n 0, 0, 0), (79, .getfield 18, 4, 1), (82, .aload_n 0, 0, 0), (83, .getfield 44, 4, 4), (86, .iload_n 3, 0, 0), (87, .iastore, 0, 0), (88, .aload_n 0, 0, 0), (89, .getfield 22, 4, 2), (92, .aload_n 0, 0, 0), (93, .getfield 44, 4, 4), (96, .iconst 0, 0, 0), (97, .iastore, 0, 0), (98, .aload_n 0, 0, 0), (99, .dup, 0, 0), (100, .getfield 44, 4, 4), (103, .iconst 1, 0, 0), (104, .iadd, 0, 0), (105, .putfield 44, 4, 4), (108, .iconst 1, 0, 0), (109, .ireturn, 0, 0)]
/-- RefusedOnce$Land.allows(II)Z -/
def ro_c15 : List ro_In := [(0, .iload_n 0, 0, 0), (1, .ifCond .lt 28, 0, 0), (4, .iload_n 0, 0, 0), (5, .getstatic 51, 1, 0), (8, .arraylength, 0, 0), (9, .if_icmp .ge 20, 0, 0), (12, .iload_n 1, 0, 0), (13, .ifCond .lt 16, 0, 0), (16, .iload_n 1, 0, 0), (17, .getstatic 51, 1, 0), (20, .iload_n 0, 0, 0), (21, .iaload, 0, 0), (22, .if_icmp .gt 7, 0, 0), (25, .iconst 1, 0, 0), (26, .goto 4, 0, 0), (29, .iconst 0, 0, 0), (30, .ireturn, 0, 0)]
/-- RefusedOnce$Purses.setWhole(II)V -/
def ro_c16 : List ro_In := [(0, .iload_n 1, 0, 0), (1, .ifCond .lt 19, 0, 0), (4, .iload_n 1, 0, 0), (5, .aload_n 0, 0, 0), (6, .getfield 9, 8, 0), (9, .arraylength, 0, 0), (10, .if_icmp .ge 10, 0, 0), (13, .aload_n 0, 0, 0), (14, .getfield 9, 8, 0), (17, .iload_n 1, 0, 0), (18, .iload_n 2, 0, 0), (19, .iastore, 0, 0), (20, .return_, 0, 0)]
/-- RefusedOnce$Purses.setCut(II)V -/
def ro_c17 : List ro_In := [(0, .iload_n 1, 0, 0), (1, .ifCond .lt 19, 0, 0), (4, .iload_n 1, 0, 0), (5, .aload_n 0, 0, 0), (6, .getfield 15, 8, 1), (9, .arraylength, 0, 0), (10, .if_icmp .ge 10, 0, 0), (13, .aload_n 0, 0, 0), (14, .getfield 15, 8, 1), (17, .iload_n 1, 0, 0), (18, .iload_n 2, 0, 0), (19, .iastore, 0, 0), (20, .return_, 0, 0)]
/-- RefusedOnce$Land.howMany()I -/
def ro_c18 : List ro_In := [(0, .aload_n 0, 0, 0), (1, .getfield 44, 4, 4), (4, .ireturn, 0, 0)]
/-- RefusedOnce.within(III)Z -/
def ro_c19 : List ro_In := []
/-- RefusedOnce.shelfAt(I)LRefusedOnce$Shelf; -/
def ro_c20 : List ro_In := [(0, .iload_n 1, 0, 0), (1, .ifCond .lt 21, 0, 0), (4, .iload_n 1, 0, 0), (5, .aload_n 0, 0, 0), (6, .getfield 25, 11, 2), (9, .arraylength, 0, 0), (10, .if_icmp .ge 12, 0, 0), (13, .aload_n 0, 0, 0), (14, .getfield 25, 11, 2), (17, .iload_n 1, 0, 0), (18, .aaload, 0, 0), (19, .goto 4, 0, 0), (22, .aconst_null, 0, 0), (23, .areturn, 0, 0)]
/-- RefusedOnce$Shelf.isEmpty()Z -/
def ro_c21 : List ro_In := [(0, .aload_n 0, 0, 0), (1, .getfield 15, 9, 1), (4, .bipush (-2), 0, 0), (6, .if_icmp .ne 7, 0, 0), (9, .iconst 1, 0, 0), (10, .goto 4, 0, 0), (13, .iconst 0, 0, 0), (14, .ireturn, 0, 0)]
/-- RefusedOnce$Shelf.holdsBytes()Z -/
def ro_c22 : List ro_In := [(0, .aload_n 0, 0, 0), (1, .getfield 15, 9, 1), (4, .ifCond .ne 7, 0, 0), (7, .iconst 1, 0, 0), (8, .goto 4, 0, 0), (11, .iconst 0, 0, 0), (12, .ireturn, 0, 0)]
/-- RefusedOnce.within(III)Z -/
def ro_c23 : List ro_In := []
/-- RefusedOnce$Shelf.length()I -/
def ro_c24 : List ro_In := [(0, .aload_n 0, 0, 0), (1, .getfield 29, 9, 2), (4, .ireturn, 0, 0)]
/-- RefusedOnce$Shelf.byteAt(I)I -/
def ro_c25 : List ro_In := [(0, .aload_n 0, 0, 0), (1, .iload_n 1, 0, 0), (2, .invokevirtual 32, 26, 0), (5, .l2i, 0, 0), (6, .ireturn, 0, 0)]
/-- RefusedOnce$Shelf.longAt(I)J -/
def ro_c26 : List ro_In := [(0, .iload_n 1, 0, 0), (1, .ifCond .lt 29, 0, 0), (4, .iload_n 1, 0, 0), (5, .aload_n 0, 0, 0), (6, .getfield 29, 9, 2), (9, .if_icmp .ge 21, 0, 0), (12, .iload_n 1, 0, 0), (13, .aload_n 0, 0, 0), (14, .getfield 11, 9, 0), (17, .arraylength, 0, 0), (18, .if_icmp .ge 12, 0, 0), (21, .aload_n 0, 0, 0), (22, .getfield 11, 9, 0), (25, .iload_n 1, 0, 0), (26, .laload, 0, 0), (27, .goto 4, 0, 0), (30, .lconst 0, 0, 0), (31, .lreturn, 0, 0)]
/-- RefusedOnce.mend(III)I -/
def ro_c27 : List ro_In := [(0, .aload_n 0, 0, 0), (1, .getfield 10, 11, 0), (4, .iload_n 1, 0, 0), (5, .iload_n 2, 0, 0), (6, .invokevirtual 109, 28, 0), (9, .ifCond .eq 11, 0, 0), (12, .iload_n 2, 0, 0), (13, .iload_n 3, 0, 0), (14, .invokestatic 113, 15, 0), (17, .ifCond .ne 5, 0, 0), (20, .iconst (-1), 0, 0), (21, .ireturn, 0, 0), (22, .aload_n 0, 0, 0), (23, .getfield 10, 11, 0), (26, .iload_n 1, 0, 0), (27, .iload_n 2, 0, 0), (28, .invokevirtual 116, 30, 0), (31, .istore 4, 0, 0), (33, .iload 4, 0, 0), (35, .iload_n 3, 0, 0), (36, .if_icmp .eq 25, 0, 0), (39, .aload_n 0, 0, 0), (40, .getfield 10, 11, 0), (43, .iload_n 1, 0, 0), (44, .iload_n 2, 0, 0), (45, .iload_n 3, 0, 0), (46, .invokevirtual 120, 33, 0), (49, .aload_n 0, 0, 0), (50, .getfield 56, 11, 6), (53, .iload_n 1, 0, 0), (54, .iload_n 2, 0, 0), (55, .iload 4, 0, 0), (57, .iload_n 3, 0, 0), (58, .invokevirtual 124, 34, 0), (61, .iload 4, 0, 0), (63, .ireturn, 0, 0)]
/-- RefusedOnce$Land.has(II)Z -/
def ro_c28 : List ro_In := [(0, .iload_n 2, 0, 0), (1, .ifCond .lt 14, 0, 0), (4, .iload_n 2, 0, 0), (5, .iconst 3, 0, 0), (6, .if_icmp .gt 9, 0, 0), (9, .aload_n 0, 0, 0), (10, .iload_n 1, 0, 0), (11, .invokevirtual 47, 29, 0), (14, .ireturn, 0, 0), (15, .iload_n 2, 0, 0), (16, .iconst 4, 0, 0), (17, .if_icmp .lt 17, 0, 0), (20, .iload_n 2, 0, 0), (21, .bipush 6, 0, 0), (23, .if_icmp .gt 11, 0, 0), (26, .iload_n 1, 0, 0), (27, .ifCond .ne 7, 0, 0), (30, .iconst 1, 0, 0), (31, .goto 4, 0, 0), (34, .iconst 0, 0, 0), (35, .ireturn, 0, 0)]
/-- RefusedOnce$Land.isPerson(I)Z -/
def ro_c29 : List ro_In := [(0, .iload_n 1, 0, 0), (1, .ifCond .lt 21, 0, 0), (4, .iload_n 1, 0, 0), (5, .aload_n 0, 0, 0), (6, .getfield 44, 4, 4), (9, .if_icmp .ge 13, 0, 0), (12, .iload_n 1, 0, 0), (13, .bipush 6, 0, 0), (15, .if_icmp .ge 7, 0, 0), (18, .iconst 1, 0, 0), (19, .goto 4, 0, 0), (22, .iconst 0, 0, 0), (23, .ireturn, 0, 0)]
/-- RefusedOnce$Land.told(II)I -/
def ro_c30 : List ro_In := [(0, .iload_n 2, 0, 0), (1, .tableswitch 124 0 6 #[43, 52, 61, 85, 109, 114, 119], 0, 0), (44, .aload_n 0, 0, 0), (45, .getfield 12, 4, 0), (48, .iload_n 1, 0, 0), (49, .invokevirtual 65, 31, 0), (52, .ireturn, 0, 0), (53, .aload_n 0, 0, 0), (54, .getfield 12, 4, 0), (57, .iload_n 1, 0, 0), (58, .invokevirtual 69, 32, 0), (61, .ireturn, 0, 0), (62, .iload_n 1, 0, 0), (63, .ifCond .lt 21, 0, 0), (66, .iload_n 1, 0, 0), (67, .aload_n 0, 0, 0), (68, .getfield 18, 4, 1), (71, .arraylength, 0, 0), (72, .if_icmp .ge 12, 0, 0), (75, .aload_n 0, 0, 0), (76, .getfield 18, 4, 1), (79, .iload_n 1, 0, 0), (80, .iaload, 0, 0), (81, .goto 4, 0, 0), (84, .iconst 0, 0, 0), (85, .ireturn, 0, 0), (86, .iload_n 1, 0, 0), (87, .ifCond .lt 21, 0, 0), (90, .iload_n 1, 0, 0), (91, .aload_n 0, 0, 0), (92, .getfield 22, 4, 2), (95, .arraylength, 0, 0), (96, .if_icmp .ge 12, 0, 0), (99, .aload_n 0, 0, 0), (100, .getfield 22, 4, 2), (103, .iload_n 1, 0, 0), (104, .iaload, 0, 0), (105, .goto 4, 0, 0), (108, .iconst 0, 0, 0), (109, .ireturn, 0, 0), (110, .aload_n 0, 0, 0), (111, .getfield 28, 4, 5), (114, .ireturn, 0, 0), (115, .aload_n 0, 0, 0), (116, .getfield 32, 4, 6), (119, .ireturn, 0, 0), (120, .aload_n 0, 0, 0), (121, .getfield 35, 4, 7), (124, .ireturn, 0, 0), (125, .iconst 0, 0, 0), (126, .ireturn, 0, 0)]
/-- RefusedOnce$Purses.wholeOf(I)I -/
def ro_c31 : List ro_In := [(0, .iload_n 1, 0, 0), (1, .ifCond .lt 21, 0, 0), (4, .iload_n 1, 0, 0), (5, .aload_n 0, 0, 0), (6, .getfield 9, 8, 0), (9, .arraylength, 0, 0), (10, .if_icmp .ge 12, 0, 0), (13, .aload_n 0, 0, 0), (14, .getfield 9, 8, 0), (17, .iload_n 1, 0, 0), (18, .iaload, 0, 0), (19, .goto 4, 0, 0), (22, .iconst 0, 0, 0), (23, .ireturn, 0, 0)]
/-- RefusedOnce$Purses.cutOf(I)I -/
def ro_c32 : List ro_In := [(0, .iload_n 1, 0, 0), (1, .ifCond .lt 21, 0, 0), (4, .iload_n 1, 0, 0), (5, .aload_n 0, 0, 0), (6, .getfield 15, 8, 1), (9, .arraylength, 0, 0), (10, .if_icmp .ge 12, 0, 0), (13, .aload_n 0, 0, 0), (14, .getfield 15, 8, 1), (17, .iload_n 1, 0, 0), (18, .iaload, 0, 0), (19, .goto 4, 0, 0), (22, .iconst 0, 0, 0), (23, .ireturn, 0, 0)]
/-- RefusedOnce$Land.tell(III)V -/
def ro_c33 : List ro_In := [(0, .iload_n 2, 0, 0), (1, .tableswitch 137 0 6 #[43, 55, 67, 90, 113, 121, 129], 0, 0), (44, .aload_n 0, 0, 0), (45, .getfield 12, 4, 0), (48, .iload_n 1, 0, 0), (49, .iload_n 3, 0, 0), (50, .invokevirtual 58, 16, 0), (53, .goto 85, 0, 0), (56, .aload_n 0, 0, 0), (57, .getfield 12, 4, 0), (60, .iload_n 1, 0, 0), (61, .iload_n 3, 0, 0), (62, .invokevirtual 62, 17, 0), (65, .goto 73, 0, 0), (68, .iload_n 1, 0, 0), (69, .ifCond .lt 69, 0, 0), (72, .iload_n 1, 0, 0), (73, .aload_n 0, 0, 0), (74, .getfield 18, 4, 1), (77, .arraylength, 0, 0), (78, .if_icmp .ge 60, 0, 0), (81, .aload_n 0, 0, 0), (82, .getfield 18, 4, 1), (85, .iload_n 1, 0, 0), (86, .iload_n 3, 0, 0), (87, .iastore, 0, 0), (88, .goto 50, 0, 0), (91, .iload_n 1, 0, 0), (92, .ifCond .lt 46, 0, 0), (95, .iload_n 1, 0, 0), (96, .aload_n 0, 0, 0), (97, .getfield 22, 4, 2), (100, .arraylength, 0, 0), (101, .if_icmp .ge 37, 0, 0), (104, .aload_n 0, 0, 0), (105, .getfield 22, 4, 2), (108, .iload_n 1, 0, 0), (109, .iload_n 3, 0, 0), (110, .iastore, 0, 0), (111, .goto 27, 0, 0), (114, .aload_n 0, 0, 0), (115, .iload_n 3, 0, 0), (116, .putfield 28, 4, 5), (119, .goto 19, 0, 0), (122, .aload_n 0, 0, 0), (123, .iload_n 3, 0, 0), (124, .putfield 32, 4, 6), (127, .goto 11, 0, 0), (130, .aload_n 0, 0, 0), (131, .iload_n 3, 0, 0), (132, .putfield 35, 4, 7), (135, .goto 3, 0, 0), (138, .return_, 0, 0)]
/-- RefusedOnce$Changes.note(IIII)V -/
def ro_c34 : List ro_In := [(0, .aload_n 0, 0, 0), (1, .getfield 22, 2, 4), (4, .bipush 40, 0, 0), (6, .if_icmp .lt 7, 0, 0), (9, .aload_n 0, 0, 0), (10, .invokevirtual 26, 35, 0), (13, .aload_n 0, 0, 0), (14, .getfield 22, 2, 4), (17, .ifCond .lt 63, 0, 0), (20, .aload_n 0, 0, 0), (21, .getfield 22, 2, 4), (24, .bipush 40, 0, 0), (26, .if_icmp .ge 54, 0, 0), (29, .aload_n 0, 0, 0), (30, .getfield 9, 2, 0), (33, .aload_n 0, 0, 0), (34, .getfield 22, 2, 4), (37, .iload_n 1, 0, 0), (38, .iastore, 0, 0), (39, .aload_n 0, 0, 0), (40, .getfield 13, 2, 1), (43, .aload_n 0, 0, 0), (44, .getfield 22, 2, 4), (47, .iload_n 2, 0, 0), (48, .iastore, 0, 0), (49, .aload_n 0, 0, 0), (50, .getfield 16, 2, 2), (53, .aload_n 0, 0, 0), (54, .getfield 22, 2, 4), (57, .iload_n 3, 0, 0), (58, .iastore, 0, 0), (59, .aload_n 0, 0, 0), (60, .getfield 19, 2, 3), (63, .aload_n 0, 0, 0), (64, .getfield 22, 2, 4), (67, .iload 4, 0, 0), (69, .iastore, 0, 0), (70, .aload_n 0, 0, 0), (71, .dup, 0, 0), (72, .getfield 22, 2, 4), (75, .iconst 1, 0, 0), (76, .iadd, 0, 0), (77, .putfield 22, 2, 4), (80, .aload_n 0, 0, 0), (81, .iconst 0, 0, 0), (82, .putfield 29, 2, 5), (85, .return_, 0, 0)]
/-- RefusedOnce$Changes.forgetOldest()V -/
def ro_c35 : List ro_In := [(0, .aload_n 0, 0, 0), (1, .bipush 39, 0, 0), (3, .putfield 22, 2, 4), (6, .aload_n 0, 0, 0), (7, .getfield 9, 2, 0), (10, .iconst 1, 0, 0), (11, .aload_n 0, 0, 0), (12, .getfield 9, 2, 0), (15, .iconst 0, 0, 0), (16, .bipush 39, 0, 0), (18, .invokestatic 32, 0, 4), (21, .aload_n 0, 0, 0), (22, .getfield 13, 2, 1), (25, .iconst 1, 0, 0), (26, .aload_n 0, 0, 0), (27, .getfield 13, 2, 1), (30, .iconst 0, 0, 0), (31, .bipush 39, 0, 0), (33, .invokestatic 32, 0, 4), (36, .aload_n 0, 0, 0), (37, .getfield 16, 2, 2), (40, .iconst 1, 0, 0), (41, .aload_n 0, 0, 0), (42, .getfield 16, 2, 2), (45, .iconst 0, 0, 0), (46, .bipush 39, 0, 0), (48, .invokestatic 32, 0, 4), (51, .aload_n 0, 0, 0), (52, .getfield 19, 2, 3), (55, .iconst 1, 0, 0), (56, .aload_n 0, 0, 0), (57, .getfield 19, 2, 3), (60, .iconst 0, 0, 0), (61, .bipush 39, 0, 0), (63, .invokestatic 32, 0, 4), (66, .return_, 0, 0)]
/-- RefusedOnce.of(II)I -/
def ro_c36 : List ro_In := [(0, .aload_n 0, 0, 0), (1, .getfield 10, 11, 0), (4, .iload_n 1, 0, 0), (5, .iload_n 2, 0, 0), (6, .invokevirtual 109, 28, 0), (9, .ifCond .eq 13, 0, 0), (12, .aload_n 0, 0, 0), (13, .getfield 10, 11, 0), (16, .iload_n 1, 0, 0), (17, .iload_n 2, 0, 0), (18, .invokevirtual 116, 30, 0), (21, .ireturn, 0, 0), (22, .aload_n 0, 0, 0), (23, .getfield 10, 11, 0), (26, .iload_n 1, 0, 0), (27, .invokevirtual 128, 29, 0), (30, .ifCond .ne 5, 0, 0), (33, .iconst (-1), 0, 0), (34, .ireturn, 0, 0), (35, .iload_n 2, 0, 0), (36, .bipush 7, 0, 0), (38, .if_icmp .ne 19, 0, 0), (41, .aload_n 0, 0, 0), (42, .getfield 10, 11, 0), (45, .aload_n 0, 0, 0), (46, .getfield 10, 11, 0), (49, .getfield 132, 4, 0), (52, .iload_n 1, 0, 0), (53, .invokevirtual 136, 37, 0), (56, .ireturn, 0, 0), (57, .iload_n 2, 0, 0), (58, .bipush 8, 0, 0), (60, .if_icmp .ne 14, 0, 0), (63, .aload_n 0, 0, 0), (64, .getfield 10, 11, 0), (67, .iload_n 1, 0, 0), (68, .invokevirtual 140, 39, 0), (71, .goto 4, 0, 0), (74, .iconst (-1), 0, 0), (75, .ireturn, 0, 0)]
/-- RefusedOnce$Land.farthings(LRefusedOnce$Purses;I)I -/
def ro_c37 : List ro_In := [(0, .aload_n 1, 0, 0), (1, .iload_n 2, 0, 0), (2, .aload_n 0, 0, 0), (3, .getfield 28, 4, 5), (6, .invokestatic 81, 38, 0), (9, .ireturn, 0, 0)]
/-- RefusedOnce$Land.farthingsBy(LRefusedOnce$Purses;II)I -/
def ro_c38 : List ro_In := [(0, .iconst 4, 0, 0), (1, .aload_n 0, 0, 0), (2, .iload_n 1, 0, 0), (3, .invokevirtual 65, 31, 0), (6, .imul, 0, 0), (7, .iload_n 2, 0, 0), (8, .aload_n 0, 0, 0), (9, .iload_n 1, 0, 0), (10, .invokevirtual 69, 32, 0), (13, .imul, 0, 0), (14, .iadd, 0, 0), (15, .ireturn, 0, 0)]
/-- RefusedOnce$Land.forgedThatCount(I)I -/
def ro_c39 : List ro_In := [(0, .aload_n 0, 0, 0), (1, .iload_n 1, 0, 0), (2, .iconst 3, 0, 0), (3, .invokevirtual 72, 30, 0), (6, .aload_n 0, 0, 0), (7, .getfield 12, 4, 0), (10, .iload_n 1, 0, 0), (11, .invokevirtual 69, 32, 0), (14, .invokestatic 76, 1, 3), (17, .ireturn, 0, 0)]
/-- RefusedOnce.feed(I)I -/
def ro_c40 : List ro_In := [(0, .iload_n 1, 0, 0), (1, .iconst 0, 0, 0), (2, .sipush 255, 0, 0), (5, .invokestatic 76, 13, 0), (8, .ifCond .ne 5, 0, 0), (11, .iconst (-1), 0, 0), (12, .ireturn, 0, 0), (13, .aload_n 0, 0, 0), (14, .getfield 19, 11, 1), (17, .iload_n 1, 0, 0), (18, .invokevirtual 143, 41, 0), (21, .ifCond .eq 13, 0, 0), (24, .aload_n 0, 0, 0), (25, .getfield 19, 11, 1), (28, .invokevirtual 146, 42, 0), (31, .goto 5, 0, 0), (34, .bipush (-3), 0, 0), (36, .ireturn, 0, 0)]
/-- RefusedOnce$Law.takesByte(I)Z -/
def ro_c41 : List ro_In := [(0, .aload_n 0, 0, 0), (1, .getfield 27, 5, 5), (4, .ifCond .lt 15, 0, 0), (7, .aload_n 0, 0, 0), (8, .getfield 27, 5, 5), (11, .aload_n 0, 0, 0), (12, .getfield 11, 5, 0), (15, .arraylength, 0, 0), (16, .if_icmp .lt 5, 0, 0), (19, .iconst 0, 0, 0), (20, .ireturn, 0, 0), (21, .aload_n 0, 0, 0), (22, .getfield 11, 5, 0), (25, .aload_n 0, 0, 0), (26, .getfield 27, 5, 5), (29, .iload_n 1, 0, 0), (30, .iastore, 0, 0), (31, .aload_n 0, 0, 0), (32, .dup, 0, 0), (33, .getfield 27, 5, 5), (36, .iconst 1, 0, 0), (37, .iadd, 0, 0), (38, .putfield 27, 5, 5), (41, .iconst 1, 0, 0), (42, .ireturn, 0, 0)]
/-- RefusedOnce$Law.fedBytes()I -/
def ro_c42 : List ro_In := [(0, .aload_n 0, 0, 0), (1, .getfield 27, 5, 5), (4, .ireturn, 0, 0)]
/-- RefusedOnce.law()I -/
def ro_c43 : List ro_In := [(0, .aload_n 0, 0, 0), (1, .getfield 19, 11, 1), (4, .invokevirtual 149, 44, 0), (7, .istore_n 1, 0, 0), (8, .iload_n 1, 0, 0), (9, .ifCond .ge 7, 0, 0), (12, .iconst 1, 0, 0), (13, .goto 7, 0, 0), (16, .bipush (-100), 0, 0), (18, .iload_n 1, 0, 0), (19, .isub, 0, 0), (20, .ireturn, 0, 0)]
/-- RefusedOnce$Law.read()I -/
def ro_c44 : List ro_In := [(0, .aload_n 0, 0, 0), (1, .iconst 0, 0, 0), (2, .putfield 31, 5, 6), (5, .aload_n 0, 0, 0), (6, .iconst 0, 0, 0), (7, .putfield 34, 5, 7), (10, .aload_n 0, 0, 0), (11, .invokevirtual 37, 45, 0), (14, .istore_n 1, 0, 0), (15, .aload_n 0, 0, 0), (16, .iconst 0, 0, 0), (17, .putfield 27, 5, 5), (20, .iload_n 1, 0, 0), (21, .ifCond .ne 8, 0, 0), (24, .aload_n 0, 0, 0), (25, .getfield 31, 5, 6), (28, .ireturn, 0, 0), (29, .iconst 0, 0, 0), (30, .istore_n 2, 0, 0), (31, .iload_n 2, 0, 0), (32, .aload_n 0, 0, 0), (33, .getfield 34, 5, 7), (36, .if_icmp .ge 27, 0, 0), (39, .iload_n 2, 0, 0), (40, .bipush 121, 0, 0), (42, .if_icmp .ge 21, 0, 0), (45, .aload_n 0, 0, 0), (46, .getfield 18, 5, 2), (49, .iload_n 2, 0, 0), (50, .aload_n 0, 0, 0), (51, .getfield 15, 5, 1), (54, .iload_n 2, 0, 0), (55, .iaload, 0, 0), (56, .iastore, 0, 0), (57, .iinc 2 1, 0, 0), (60, .goto (-29), 0, 0), (63, .aload_n 0, 0, 0), (64, .aload_n 0, 0, 0), (65, .getfield 34, 5, 7), (68, .putfield 41, 5, 8), (71, .iconst (-1), 0, 0), (72, .ireturn, 0, 0)]
/-- RefusedOnce$Law.lines()Z -/
def ro_c45 : List ro_In := [(0, .iconst 0, 0, 0), (1, .istore_n 1, 0, 0), (2, .iload_n 1, 0, 0), (3, .bipush 120, 0, 0), (5, .if_icmp .gt 97, 0, 0), (8, .bipush (-59), 0, 0), (10, .istore_n 2, 0, 0), (11, .aload_n 0, 0, 0), (12, .iconst 0, 0, 0), (13, .iconst 0, 0, 0), (14, .invokevirtual 44, 46, 0), (17, .ifCond .ne 5, 0, 0), (20, .iconst 0, 0, 0), (21, .ireturn, 0, 0), (22, .aload_n 0, 0, 0), (23, .invokevirtual 48, 48, 0), (26, .bipush 63, 0, 0), (28, .if_icmp .ne 27, 0, 0), (31, .aload_n 0, 0, 0), (32, .dup, 0, 0), (33, .getfield 31, 5, 6), (36, .iconst 1, 0, 0), (37, .iadd, 0, 0), (38, .putfield 31, 5, 6), (41, .bipush (-63), 0, 0), (43, .istore_n 2, 0, 0), (44, .aload_n 0, 0, 0), (45, .iconst 0, 0, 0), (46, .iconst 0, 0, 0), (47, .invokevirtual 44, 46, 0), (50, .ifCond .ne 5, 0, 0), (53, .iconst 0, 0, 0), (54, .ireturn, 0, 0), (55, .aload_n 0, 0, 0), (56, .iload_n 2, 0, 0), (57, .invokevirtual 52, 51, 0), (60, .aload_n 0, 0, 0), (61, .invokevirtual 48, 48, 0), (64, .bipush 59, 0, 0), (66, .if_icmp .eq 20, 0, 0), (69, .aload_n 0, 0, 0), (70, .getfield 31, 5, 6), (73, .aload_n 0, 0, 0), (74, .getfield 27, 5, 5), (77, .if_icmp .ne 7, 0, 0), (80, .iconst 1, 0, 0), (81, .goto 4, 0, 0), (84, .iconst 0, 0, 0), (85, .ireturn, 0, 0), (86, .aload_n 0, 0, 0), (87, .dup, 0, 0), (88, .getfield 31, 5, 6), (91, .iconst 1, 0, 0), (92, .iadd, 0, 0), (93, .putfield 31, 5, 6), (96, .iinc 1 1, 0, 0), (99, .goto (-97), 0, 0), (102, .iconst 0, 0, 0), (103, .ireturn, 0, 0)]
/-- RefusedOnce$Law.joined(II)Z -/
def ro_c46 : List ro_In := [(0, .iload_n 1, 0, 0), (1, .iconst 4, 0, 0), (2, .if_icmp .le 9, 0, 0), (5, .aload_n 0, 0, 0), (6, .iload_n 2, 0, 0), (7, .invokevirtual 56, 47, 0), (10, .ireturn, 0, 0), (11, .aload_n 0, 0, 0), (12, .iload_n 1, 0, 0), (13, .iconst 1, 0, 0), (14, .iadd, 0, 0), (15, .iload_n 2, 0, 0), (16, .invokevirtual 44, 46, 0), (19, .ifCond .ne 5, 0, 0), (22, .iconst 0, 0, 0), (23, .ireturn, 0, 0), (24, .iconst 0, 0, 0), (25, .istore_n 3, 0, 0), (26, .iload_n 3, 0, 0), (27, .bipush 120, 0, 0), (29, .if_icmp .ge 63, 0, 0), (32, .iload_n 1, 0, 0), (33, .aload_n 0, 0, 0), (34, .invokevirtual 48, 48, 0), (37, .invokestatic 60, 54, 0), (40, .ifCond .eq 52, 0, 0), (43, .aload_n 0, 0, 0), (44, .invokevirtual 48, 48, 0), (47, .istore 4, 0, 0), (49, .aload_n 0, 0, 0), (50, .dup, 0, 0), (51, .getfield 31, 5, 6), (54, .iconst 1, 0, 0), (55, .iadd, 0, 0), (56, .putfield 31, 5, 6), (59, .aload_n 0, 0, 0), (60, .iload_n 1, 0, 0), (61, .iconst 1, 0, 0), (62, .iadd, 0, 0), (63, .iload_n 2, 0, 0), (64, .invokevirtual 44, 46, 0), (67, .ifCond .ne 5, 0, 0), (70, .iconst 0, 0, 0), (71, .ireturn, 0, 0), (72, .aload_n 0, 0, 0), (73, .iload 4, 0, 0), (75, .ineg, 0, 0), (76, .invokevirtual 52, 51, 0), (79, .iload_n 1, 0, 0), (80, .iconst 2, 0, 0), (81, .if_icmp .ne 5, 0, 0), (84, .iconst 1, 0, 0), (85, .ireturn, 0, 0), (86, .iinc 3 1, 0, 0), (89, .goto (-63), 0, 0), (92, .iconst 1, 0, 0), (93, .ireturn, 0, 0)]
/-- RefusedOnce$Law.operand(I)Z -/
def ro_c47_0 : List ro_In := [(0, .aload_n 0, 0, 0), (1, .invokevirtual 48, 48, 0), (4, .istore_n 2, 0, 0), (5, .iload_n 2, 0, 0), (6, .invokestatic 63, 49, 0), (9, .ifCond .eq 9, 0, 0), (12, .aload_n 0, 0, 0), (13, .invokevirtual 66, 50, 0), (16, .iconst 1, 0, 0), (17, .ireturn, 0, 0), (18, .iload_n 2, 0, 0), (19, .invokestatic 69, 52, 0), (22, .ifCond .lt 21, 0, 0), (25, .aload_n 0, 0, 0), (26, .dup, 0, 0), (27, .getfield 31, 5, 6), (30, .iconst 1, 0, 0), (31, .iadd, 0, 0), (32, .putfield 31, 5, 6), (35, .aload_n 0, 0, 0), (36, .iload_n 2, 0, 0), (37, .ineg, 0, 0), (38, .invokevirtual 52, 51, 0), (41, .iconst 1, 0, 0), (42, .ireturn, 0, 0), (43, .iload_n 1, 0, 0), (44, .bipush 6, 0, 0), (46, .if_icmp .lt 5, 0, 0), (49, .iconst 0, 0, 0), (50, .ireturn, 0, 0), (51, .iload_n 2, 0, 0), (52, .bipush 40, 0, 0), (54, .if_icmp .ne 11, 0, 0), (57, .aload_n 0, 0, 0), (58, .iload_n 1, 0, 0), (59, .iconst 1, 0, 0), (60, .iadd, 0, 0), (61, .invokevirtual 73, 53, 0), (64, .ireturn, 0, 0), (65, .iload_n 2, 0, 0), (66, .bipush 33, 0, 0), (68, .if_icmp .eq 11, 0, 0), (71, .iload_n 2, 0, 0), (72, .bipush 45, 0, 0), (74, .if_icmp .eq 5, 0, 0), (77, .iconst 0, 0, 0), (78, .ireturn, 0, 0), (79, .aload_n 0, 0, 0), (80, .dup, 0, 0), (81, .getfield 31, 5, 6), (84, .iconst 1, 0, 0), (85, .iadd, 0, 0), (86, .putfield 31, 5, 6), (89, .aload_n 0, 0, 0), (90, .iload_n 1, 0, 0), (91, .iconst 1, 0, 0), (92, .iadd, 0, 0), (93, .invokevirtual 56, 47, 0), (96, .ifCond .ne 5, 0, 0), (99, .iconst 0, 0, 0)]
def ro_c47_1 : List ro_In := [(100, .ireturn, 0, 0), (101, .aload_n 0, 0, 0), (102, .iload_n 2, 0, 0), (103, .bipush 33, 0, 0), (105, .if_icmp .ne 8, 0, 0), (108, .bipush (-33), 0, 0), (110, .goto 5, 0, 0), (113, .bipush (-126), 0, 0), (115, .invokevirtual 52, 51, 0), (118, .iconst 1, 0, 0), (119, .ireturn, 0, 0)]
def ro_c47 : List ro_In := ro_c47_0 ++ (ro_c47_1)
/-- RefusedOnce$Law.next()I -/
def ro_c48 : List ro_In := [(0, .aload_n 0, 0, 0), (1, .getfield 31, 5, 6), (4, .ifCond .lt 38, 0, 0), (7, .aload_n 0, 0, 0), (8, .getfield 31, 5, 6), (11, .aload_n 0, 0, 0), (12, .getfield 27, 5, 5), (15, .if_icmp .ge 27, 0, 0), (18, .aload_n 0, 0, 0), (19, .getfield 31, 5, 6), (22, .aload_n 0, 0, 0), (23, .getfield 11, 5, 0), (26, .arraylength, 0, 0), (27, .if_icmp .ge 15, 0, 0), (30, .aload_n 0, 0, 0), (31, .getfield 11, 5, 0), (34, .aload_n 0, 0, 0), (35, .getfield 31, 5, 6), (38, .iaload, 0, 0), (39, .goto 4, 0, 0), (42, .iconst (-1), 0, 0), (43, .ireturn, 0, 0)]
/-- RefusedOnce$Law.isDigit(I)Z -/
def ro_c49 : List ro_In := [(0, .iload_n 0, 0, 0), (1, .bipush 48, 0, 0), (3, .if_icmp .lt 13, 0, 0), (6, .iload_n 0, 0, 0), (7, .bipush 57, 0, 0), (9, .if_icmp .gt 7, 0, 0), (12, .iconst 1, 0, 0), (13, .goto 4, 0, 0), (16, .iconst 0, 0, 0), (17, .ireturn, 0, 0)]
/-- RefusedOnce$Law.number()V -/
def ro_c50 : List ro_In := [(0, .iconst 0, 0, 0), (1, .istore_n 1, 0, 0), (2, .iconst 0, 0, 0), (3, .istore_n 2, 0, 0), (4, .iload_n 2, 0, 0), (5, .iconst 4, 0, 0), (6, .if_icmp .ge 42, 0, 0), (9, .aload_n 0, 0, 0), (10, .invokevirtual 48, 48, 0), (13, .invokestatic 63, 49, 0), (16, .ifCond .eq 32, 0, 0), (19, .iload_n 1, 0, 0), (20, .bipush 10, 0, 0), (22, .imul, 0, 0), (23, .aload_n 0, 0, 0), (24, .invokevirtual 48, 48, 0), (27, .iadd, 0, 0), (28, .bipush 48, 0, 0), (30, .isub, 0, 0), (31, .istore_n 1, 0, 0), (32, .aload_n 0, 0, 0), (33, .dup, 0, 0), (34, .getfield 31, 5, 6), (37, .iconst 1, 0, 0), (38, .iadd, 0, 0), (39, .putfield 31, 5, 6), (42, .iinc 2 1, 0, 0), (45, .goto (-41), 0, 0), (48, .aload_n 0, 0, 0), (49, .iload_n 1, 0, 0), (50, .invokevirtual 52, 51, 0), (53, .return_, 0, 0)]
/-- RefusedOnce$Law.write(I)V -/
def ro_c51 : List ro_In := [(0, .aload_n 0, 0, 0), (1, .getfield 34, 5, 7), (4, .ifCond .lt 35, 0, 0), (7, .aload_n 0, 0, 0), (8, .getfield 34, 5, 7), (11, .aload_n 0, 0, 0), (12, .getfield 15, 5, 1), (15, .arraylength, 0, 0), (16, .if_icmp .ge 23, 0, 0), (19, .aload_n 0, 0, 0), (20, .getfield 15, 5, 1), (23, .aload_n 0, 0, 0), (24, .getfield 34, 5, 7), (27, .iload_n 1, 0, 0), (28, .iastore, 0, 0), (29, .aload_n 0, 0, 0), (30, .dup, 0, 0), (31, .getfield 34, 5, 7), (34, .iconst 1, 0, 0), (35, .iadd, 0, 0), (36, .putfield 34, 5, 7), (39, .return_, 0, 0)]
/-- RefusedOnce$Law.nameOf(I)I -/
def ro_c52 : List ro_In := [(0, .iload_n 0, 0, 0), (1, .lookupswitch 71 #[(98, 61), (99, 65), (104, 67), (110, 69), (112, 59), (119, 63)], 0, 0), (60, .iconst 0, 0, 0), (61, .ireturn, 0, 0), (62, .iconst 1, 0, 0), (63, .ireturn, 0, 0), (64, .iconst 2, 0, 0), (65, .ireturn, 0, 0), (66, .iconst 3, 0, 0), (67, .ireturn, 0, 0), (68, .iconst 4, 0, 0), (69, .ireturn, 0, 0), (70, .iconst 5, 0, 0), (71, .ireturn, 0, 0), (72, .iconst (-1), 0, 0), (73, .ireturn, 0, 0)]
/-- RefusedOnce$Law.inner(I)Z -/
def ro_c53 : List ro_In := [(0, .aload_n 0, 0, 0), (1, .dup, 0, 0), (2, .getfield 31, 5, 6), (5, .iconst 1, 0, 0), (6, .iadd, 0, 0), (7, .putfield 31, 5, 6), (10, .aload_n 0, 0, 0), (11, .iconst 0, 0, 0), (12, .iload_n 1, 0, 0), (13, .invokevirtual 44, 46, 0), (16, .ifCond .eq 12, 0, 0), (19, .aload_n 0, 0, 0), (20, .invokevirtual 48, 48, 0), (23, .bipush 41, 0, 0), (25, .if_icmp .eq 5, 0, 0), (28, .iconst 0, 0, 0), (29, .ireturn, 0, 0), (30, .aload_n 0, 0, 0), (31, .dup, 0, 0), (32, .getfield 31, 5, 6), (35, .iconst 1, 0, 0), (36, .iadd, 0, 0), (37, .putfield 31, 5, 6), (40, .iconst 1, 0, 0), (41, .ireturn, 0, 0)]
/-- RefusedOnce$Law.joins(II)Z -/
def ro_c54 : List ro_In := [(0, .iload_n 1, 0, 0), (1, .lookupswitch 145 #[(37, 134), (38, 101), (42, 134), (43, 123), (45, 123), (47, 134), (60, 112), (61, 112), (62, 112), (124, 91)], 0, 0), (92, .iload_n 0, 0, 0), (93, .ifCond .ne 7, 0, 0), (96, .iconst 1, 0, 0), (97, .goto 4, 0, 0), (100, .iconst 0, 0, 0), (101, .ireturn, 0, 0), (102, .iload_n 0, 0, 0), (103, .iconst 1, 0, 0), (104, .if_icmp .ne 7, 0, 0), (107, .iconst 1, 0, 0), (108, .goto 4, 0, 0), (111, .iconst 0, 0, 0), (112, .ireturn, 0, 0), (113, .iload_n 0, 0, 0), (114, .iconst 2, 0, 0), (115, .if_icmp .ne 7, 0, 0), (118, .iconst 1, 0, 0), (119, .goto 4, 0, 0), (122, .iconst 0, 0, 0), (123, .ireturn, 0, 0), (124, .iload_n 0, 0, 0), (125, .iconst 3, 0, 0), (126, .if_icmp .ne 7, 0, 0), (129, .iconst 1, 0, 0), (130, .goto 4, 0, 0), (133, .iconst 0, 0, 0), (134, .ireturn, 0, 0), (135, .iload_n 0, 0, 0), (136, .iconst 4, 0, 0), (137, .if_icmp .ne 7, 0, 0), (140, .iconst 1, 0, 0), (141, .goto 4, 0, 0), (144, .iconst 0, 0, 0), (145, .ireturn, 0, 0), (146, .iconst 0, 0, 0), (147, .ireturn, 0, 0)]
/-- RefusedOnce.odds(I)I -/
def ro_c55 : List ro_In := [(0, .aload_n 0, 0, 0), (1, .iload_n 1, 0, 0), (2, .invokevirtual 152, 56, 0), (5, .ifCond .eq 32, 0, 0), (8, .aload_n 0, 0, 0), (9, .getfield 19, 11, 1), (12, .aload_n 0, 0, 0), (13, .getfield 10, 11, 0), (16, .aload_n 0, 0, 0), (17, .getfield 10, 11, 0), (20, .getfield 132, 4, 0), (23, .iload_n 1, 0, 0), (24, .bipush 10, 0, 0), (26, .idiv, 0, 0), (27, .iload_n 1, 0, 0), (28, .bipush 10, 0, 0), (30, .irem, 0, 0), (31, .invokevirtual 155, 58, 0), (34, .goto 4, 0, 0), (37, .iconst (-1), 0, 0), (38, .ireturn, 0, 0)]
/-- RefusedOnce.areTwo(I)Z -/
def ro_c56 : List ro_In := [(0, .iload_n 1, 0, 0), (1, .ifCond .lt 25, 0, 0), (4, .aload_n 0, 0, 0), (5, .getfield 10, 11, 0), (8, .iload_n 1, 0, 0), (9, .bipush 10, 0, 0), (11, .idiv, 0, 0), (12, .iload_n 1, 0, 0), (13, .bipush 10, 0, 0), (15, .irem, 0, 0), (16, .invokevirtual 348, 57, 0), (19, .ifCond .eq 7, 0, 0), (22, .iconst 1, 0, 0), (23, .goto 4, 0, 0), (26, .iconst 0, 0, 0), (27, .ireturn, 0, 0)]
/-- RefusedOnce$Land.areTwo(II)Z -/
def ro_c57 : List ro_In := [(0, .iload_n 1, 0, 0), (1, .iload_n 2, 0, 0), (2, .if_icmp .eq 23, 0, 0), (5, .aload_n 0, 0, 0), (6, .iload_n 1, 0, 0), (7, .invokevirtual 47, 29, 0), (10, .ifCond .eq 15, 0, 0), (13, .aload_n 0, 0, 0), (14, .iload_n 2, 0, 0), (15, .invokevirtual 47, 29, 0), (18, .ifCond .eq 7, 0, 0), (21, .iconst 1, 0, 0), (22, .goto 4, 0, 0), (25, .iconst 0, 0, 0), (26, .ireturn, 0, 0)]
/-- RefusedOnce$Law.twelfths(LRefusedOnce$Land;LRefusedOnce$Purses;II)I -/
def ro_c58_0 : List ro_In := [(0, .aload_n 1, 0, 0), (1, .iload 4, 0, 0), (3, .iconst 2, 0, 0), (4, .invokevirtual 76, 30, 0), (7, .istore 5, 0, 0), (9, .aload_n 1, 0, 0), (10, .iload_n 3, 0, 0), (11, .iconst 2, 0, 0), (12, .invokevirtual 76, 30, 0), (15, .istore 6, 0, 0), (17, .aload_n 1, 0, 0), (18, .iconst 0, 0, 0), (19, .iconst 5, 0, 0), (20, .invokevirtual 76, 30, 0), (23, .istore 7, 0, 0), (25, .aload_n 0, 0, 0), (26, .getfield 41, 5, 8), (29, .ifCond .gt 19, 0, 0), (32, .iload 5, 0, 0), (34, .iload 7, 0, 0), (36, .iconst 3, 0, 0), (37, .idiv, 0, 0), (38, .iadd, 0, 0), (39, .iload 6, 0, 0), (41, .iconst 4, 0, 0), (42, .idiv, 0, 0), (43, .isub, 0, 0), (44, .invokestatic 82, 59, 0), (47, .ireturn, 0, 0), (48, .aload_n 0, 0, 0), (49, .getfield 24, 5, 4), (52, .iconst 0, 0, 0), (53, .iload 5, 0, 0), (55, .iastore, 0, 0), (56, .aload_n 0, 0, 0), (57, .getfield 24, 5, 4), (60, .iconst 1, 0, 0), (61, .iload 6, 0, 0), (63, .iastore, 0, 0), (64, .aload_n 0, 0, 0), (65, .getfield 24, 5, 4), (68, .iconst 2, 0, 0), (69, .aload_n 2, 0, 0), (70, .iload 4, 0, 0), (72, .invokevirtual 85, 31, 0), (75, .iastore, 0, 0), (76, .aload_n 0, 0, 0), (77, .getfield 24, 5, 4), (80, .iconst 3, 0, 0), (81, .aload_n 2, 0, 0), (82, .iload 4, 0, 0), (84, .invokevirtual 90, 32, 0), (87, .iastore, 0, 0), (88, .aload_n 0, 0, 0), (89, .getfield 24, 5, 4), (92, .iconst 4, 0, 0), (93, .iload 7, 0, 0), (95, .iastore, 0, 0), (96, .aload_n 0, 0, 0), (97, .getfield 24, 5, 4)]
def ro_c58_1 : List ro_In := [(100, .iconst 5, 0, 0), (101, .aload_n 1, 0, 0), (102, .iconst 0, 0, 0), (103, .iconst 4, 0, 0), (104, .invokevirtual 76, 30, 0), (107, .iastore, 0, 0), (108, .aload_n 0, 0, 0), (109, .invokevirtual 93, 60, 0), (112, .invokestatic 82, 59, 0), (115, .ireturn, 0, 0)]
def ro_c58 : List ro_In := ro_c58_0 ++ (ro_c58_1)
/-- RefusedOnce$Law.held(I)I -/
def ro_c59 : List ro_In := [(0, .iconst 0, 0, 0), (1, .bipush 12, 0, 0), (3, .iload_n 0, 0, 0), (4, .invokestatic 96, 1, 3), (7, .invokestatic 101, 0, 3), (10, .ireturn, 0, 0)]
/-- RefusedOnce$Law.worked()I -/
def ro_c60_0 : List ro_In := [(0, .aload_n 0, 0, 0), (1, .iconst 0, 0, 0), (2, .putfield 104, 5, 9), (5, .iconst 0, 0, 0), (6, .istore_n 1, 0, 0), (7, .iload_n 1, 0, 0), (8, .aload_n 0, 0, 0), (9, .getfield 41, 5, 8), (12, .if_icmp .ge 169, 0, 0), (15, .iload_n 1, 0, 0), (16, .aload_n 0, 0, 0), (17, .getfield 18, 5, 2), (20, .arraylength, 0, 0), (21, .if_icmp .ge 160, 0, 0), (24, .aload_n 0, 0, 0), (25, .getfield 18, 5, 2), (28, .iload_n 1, 0, 0), (29, .iaload, 0, 0), (30, .istore_n 2, 0, 0), (31, .iload_n 2, 0, 0), (32, .ineg, 0, 0), (33, .invokestatic 69, 52, 0), (36, .istore_n 3, 0, 0), (37, .iload_n 2, 0, 0), (38, .bipush (-59), 0, 0), (40, .if_icmp .ne 8, 0, 0), (43, .aload_n 0, 0, 0), (44, .invokevirtual 107, 61, 0), (47, .ireturn, 0, 0), (48, .iload_n 2, 0, 0), (49, .bipush (-63), 0, 0), (51, .if_icmp .ne 22, 0, 0), (54, .aload_n 0, 0, 0), (55, .invokevirtual 107, 61, 0), (58, .istore 4, 0, 0), (60, .aload_n 0, 0, 0), (61, .invokevirtual 107, 61, 0), (64, .ifCond .eq 6, 0, 0), (67, .iload 4, 0, 0), (69, .ireturn, 0, 0), (70, .goto 105, 0, 0), (73, .iload_n 2, 0, 0), (74, .ifCond .lt 11, 0, 0), (77, .aload_n 0, 0, 0), (78, .iload_n 2, 0, 0), (79, .invokevirtual 110, 62, 0), (82, .goto 93, 0, 0), (85, .iload_n 3, 0, 0), (86, .ifCond .lt 25, 0, 0), (89, .iload_n 3, 0, 0), (90, .aload_n 0, 0, 0), (91, .getfield 24, 5, 4), (94, .arraylength, 0, 0), (95, .if_icmp .ge 16, 0, 0), (98, .aload_n 0, 0, 0), (99, .aload_n 0, 0, 0), (100, .getfield 24, 5, 4), (103, .iload_n 3, 0, 0), (104, .iaload, 0, 0), (105, .invokevirtual 110, 62, 0)]
def ro_c60_1 : List ro_In := [(108, .goto 67, 0, 0), (111, .iload_n 2, 0, 0), (112, .bipush (-33), 0, 0), (114, .if_icmp .ne 22, 0, 0), (117, .aload_n 0, 0, 0), (118, .aload_n 0, 0, 0), (119, .invokevirtual 107, 61, 0), (122, .ifCond .ne 7, 0, 0), (125, .iconst 1, 0, 0), (126, .goto 4, 0, 0), (129, .iconst 0, 0, 0), (130, .invokevirtual 110, 62, 0), (133, .goto 42, 0, 0), (136, .iload_n 2, 0, 0), (137, .bipush (-126), 0, 0), (139, .if_icmp .ne 15, 0, 0), (142, .aload_n 0, 0, 0), (143, .aload_n 0, 0, 0), (144, .invokevirtual 107, 61, 0), (147, .ineg, 0, 0), (148, .invokevirtual 110, 62, 0), (151, .goto 24, 0, 0), (154, .aload_n 0, 0, 0), (155, .invokevirtual 107, 61, 0), (158, .istore 4, 0, 0), (160, .aload_n 0, 0, 0), (161, .iload_n 2, 0, 0), (162, .ineg, 0, 0), (163, .aload_n 0, 0, 0), (164, .invokevirtual 107, 61, 0), (167, .iload 4, 0, 0), (169, .invokestatic 113, 63, 0), (172, .invokevirtual 110, 62, 0), (175, .iinc 1 1, 0, 0), (178, .goto (-171), 0, 0), (181, .iconst 0, 0, 0), (182, .ireturn, 0, 0)]
def ro_c60 : List ro_In := ro_c60_0 ++ (ro_c60_1)
/-- RefusedOnce$Law.pop()I -/
def ro_c61 : List ro_In := [(0, .aload_n 0, 0, 0), (1, .getfield 104, 5, 9), (4, .ifCond .le 15, 0, 0), (7, .aload_n 0, 0, 0), (8, .getfield 104, 5, 9), (11, .aload_n 0, 0, 0), (12, .getfield 21, 5, 3), (15, .arraylength, 0, 0), (16, .if_icmp .le 5, 0, 0), (19, .iconst 0, 0, 0), (20, .ireturn, 0, 0), (21, .aload_n 0, 0, 0), (22, .dup, 0, 0), (23, .getfield 104, 5, 9), (26, .iconst 1, 0, 0), (27, .isub, 0, 0), (28, .putfield 104, 5, 9), (31, .aload_n 0, 0, 0), (32, .getfield 21, 5, 3), (35, .aload_n 0, 0, 0), (36, .getfield 104, 5, 9), (39, .iaload, 0, 0), (40, .ireturn, 0, 0)]
/-- RefusedOnce$Law.push(I)V -/
def ro_c62 : List ro_In := [(0, .aload_n 0, 0, 0), (1, .getfield 104, 5, 9), (4, .ifCond .lt 35, 0, 0), (7, .aload_n 0, 0, 0), (8, .getfield 104, 5, 9), (11, .aload_n 0, 0, 0), (12, .getfield 21, 5, 3), (15, .arraylength, 0, 0), (16, .if_icmp .ge 23, 0, 0), (19, .aload_n 0, 0, 0), (20, .getfield 21, 5, 3), (23, .aload_n 0, 0, 0), (24, .getfield 104, 5, 9), (27, .iload_n 1, 0, 0), (28, .iastore, 0, 0), (29, .aload_n 0, 0, 0), (30, .dup, 0, 0), (31, .getfield 104, 5, 9), (34, .iconst 1, 0, 0), (35, .iadd, 0, 0), (36, .putfield 104, 5, 9), (39, .return_, 0, 0)]
/-- RefusedOnce$Law.both(III)I -/
def ro_c63_0 : List ro_In := [(0, .iload_n 0, 0, 0), (1, .lookupswitch 168 #[(38, 97), (42, 152), (43, 144), (45, 148), (47, 156), (60, 111), (61, 122), (62, 133), (124, 83)], 0, 0), (84, .iload_n 1, 0, 0), (85, .ifCond .ne 7, 0, 0), (88, .iload_n 2, 0, 0), (89, .ifCond .eq 7, 0, 0), (92, .iconst 1, 0, 0), (93, .goto 4, 0, 0), (96, .iconst 0, 0, 0), (97, .ireturn, 0, 0), (98, .iload_n 1, 0, 0), (99, .ifCond .eq 11, 0, 0), (102, .iload_n 2, 0, 0), (103, .ifCond .eq 7, 0, 0), (106, .iconst 1, 0, 0), (107, .goto 4, 0, 0), (110, .iconst 0, 0, 0), (111, .ireturn, 0, 0), (112, .iload_n 1, 0, 0), (113, .iload_n 2, 0, 0), (114, .if_icmp .ge 7, 0, 0), (117, .iconst 1, 0, 0), (118, .goto 4, 0, 0), (121, .iconst 0, 0, 0), (122, .ireturn, 0, 0), (123, .iload_n 1, 0, 0), (124, .iload_n 2, 0, 0), (125, .if_icmp .ne 7, 0, 0), (128, .iconst 1, 0, 0), (129, .goto 4, 0, 0), (132, .iconst 0, 0, 0), (133, .ireturn, 0, 0), (134, .iload_n 1, 0, 0), (135, .iload_n 2, 0, 0), (136, .if_icmp .le 7, 0, 0), (139, .iconst 1, 0, 0), (140, .goto 4, 0, 0), (143, .iconst 0, 0, 0), (144, .ireturn, 0, 0), (145, .iload_n 1, 0, 0), (146, .iload_n 2, 0, 0), (147, .iadd, 0, 0), (148, .ireturn, 0, 0), (149, .iload_n 1, 0, 0), (150, .iload_n 2, 0, 0), (151, .isub, 0, 0), (152, .ireturn, 0, 0), (153, .iload_n 1, 0, 0), (154, .iload_n 2, 0, 0), (155, .imul, 0, 0), (156, .ireturn, 0, 0), (157, .iload_n 2, 0, 0), (158, .ifCond .ne 7, 0, 0), (161, .iconst 0, 0, 0), (162, .goto 6, 0, 0), (165, .iload_n 1, 0, 0), (166, .iload_n 2, 0, 0), (167, .idiv, 0, 0), (168, .ireturn, 0, 0), (169, .iload_n 2, 0, 0)]
def ro_c63_1 : List ro_In := [(170, .ifCond .ne 7, 0, 0), (173, .iconst 0, 0, 0), (174, .goto 6, 0, 0), (177, .iload_n 1, 0, 0), (178, .iload_n 2, 0, 0), (179, .irem, 0, 0), (180, .ireturn, 0, 0)]
def ro_c63 : List ro_In := ro_c63_0 ++ (ro_c63_1)
/-- RefusedOnce.later(IIII)I -/
def ro_c64_0 : List ro_In := [(0, .aload_n 0, 0, 0), (1, .iload_n 1, 0, 0), (2, .invokevirtual 87, 20, 0), (5, .astore 5, 0, 0), (7, .aload 5, 0, 0), (9, .ifnull 34, 0, 0), (12, .iload_n 2, 0, 0), (13, .iconst 0, 0, 0), (14, .bipush 20, 0, 0), (16, .invokestatic 76, 13, 0), (19, .ifCond .eq 24, 0, 0), (22, .aload_n 0, 0, 0), (23, .getfield 10, 11, 0), (26, .iload_n 3, 0, 0), (27, .invokevirtual 128, 29, 0), (30, .ifCond .eq 13, 0, 0), (33, .iload 4, 0, 0), (35, .iconst 0, 0, 0), (36, .iconst 2, 0, 0), (37, .invokestatic 76, 13, 0), (40, .ifCond .ne 5, 0, 0), (43, .iconst (-1), 0, 0), (44, .ireturn, 0, 0), (45, .aload 5, 0, 0), (47, .invokevirtual 95, 22, 0), (50, .ifCond .ne 9, 0, 0), (53, .aload 5, 0, 0), (55, .invokevirtual 159, 65, 0), (58, .ireturn, 0, 0), (59, .aload_n 0, 0, 0), (60, .getfield 35, 11, 3), (63, .aload 5, 0, 0), (65, .invokevirtual 162, 66, 0), (68, .aload_n 0, 0, 0), (69, .getfield 35, 11, 3), (72, .iload_n 2, 0, 0), (73, .invokevirtual 165, 67, 0), (76, .iload 4, 0, 0), (78, .iconst 2, 0, 0), (79, .if_icmp .ne 19, 0, 0), (82, .aload_n 0, 0, 0), (83, .getfield 10, 11, 0), (86, .aload_n 0, 0, 0), (87, .getfield 35, 11, 3), (90, .getfield 169, 3, 2), (93, .iload_n 3, 0, 0), (94, .invokevirtual 136, 37, 0), (97, .ireturn, 0, 0), (98, .iload 4, 0, 0), (100, .ifCond .ne 17, 0, 0), (103, .aload_n 0, 0, 0), (104, .getfield 35, 11, 3), (107, .getfield 169, 3, 2), (110, .iload_n 3, 0, 0), (111, .invokevirtual 172, 31, 0), (114, .goto 14, 0, 0), (117, .aload_n 0, 0, 0), (118, .getfield 35, 11, 3), (121, .getfield 169, 3, 2), (124, .iload_n 3, 0, 0)]
def ro_c64_1 : List ro_In := [(125, .invokevirtual 177, 32, 0), (128, .ireturn, 0, 0)]
def ro_c64 : List ro_In := ro_c64_0 ++ (ro_c64_1)
/-- RefusedOnce$Shelf.refusal()I -/
def ro_c65 : List ro_In := [(0, .aload_n 0, 0, 0), (1, .invokevirtual 23, 21, 0), (4, .ifCond .eq 8, 0, 0), (7, .bipush (-11), 0, 0), (9, .goto 5, 0, 0), (12, .bipush (-12), 0, 0), (14, .ireturn, 0, 0)]
/-- RefusedOnce$Evening.read(LRefusedOnce$Shelf;)V -/
def ro_c66_0 : List ro_In := [(0, .aload_n 0, 0, 0), (1, .iconst 0, 0, 0), (2, .putfield 36, 3, 6), (5, .aload_n 0, 0, 0), (6, .getfield 36, 3, 6), (9, .bipush 20, 0, 0), (11, .if_icmp .ge 101, 0, 0), (14, .aload_n 0, 0, 0), (15, .getfield 36, 3, 6), (18, .aload_n 1, 0, 0), (19, .invokevirtual 40, 24, 0), (22, .if_icmp .ge 90, 0, 0), (25, .aload_n 1, 0, 0), (26, .aload_n 0, 0, 0), (27, .getfield 36, 3, 6), (30, .invokevirtual 45, 25, 0), (33, .istore_n 2, 0, 0), (34, .iload_n 2, 0, 0), (35, .ifCond .lt 23, 0, 0), (38, .aload_n 0, 0, 0), (39, .getfield 28, 3, 0), (42, .iload_n 2, 0, 0), (43, .bipush 20, 0, 0), (45, .idiv, 0, 0), (46, .iload_n 2, 0, 0), (47, .bipush 20, 0, 0), (49, .irem, 0, 0), (50, .iconst 2, 0, 0), (51, .idiv, 0, 0), (52, .invokevirtual 49, 57, 0), (55, .ifCond .ne 4, 0, 0), (58, .return_, 0, 0), (59, .aload_n 0, 0, 0), (60, .getfield 18, 3, 3), (63, .aload_n 0, 0, 0), (64, .getfield 36, 3, 6), (67, .iload_n 2, 0, 0), (68, .bipush 20, 0, 0), (70, .idiv, 0, 0), (71, .iastore, 0, 0), (72, .aload_n 0, 0, 0), (73, .getfield 22, 3, 4), (76, .aload_n 0, 0, 0), (77, .getfield 36, 3, 6), (80, .iload_n 2, 0, 0), (81, .bipush 20, 0, 0), (83, .irem, 0, 0), (84, .iconst 2, 0, 0), (85, .idiv, 0, 0), (86, .iastore, 0, 0), (87, .aload_n 0, 0, 0), (88, .getfield 25, 3, 5), (91, .aload_n 0, 0, 0), (92, .getfield 36, 3, 6), (95, .iload_n 2, 0, 0), (96, .iconst 2, 0, 0), (97, .irem, 0, 0), (98, .iastore, 0, 0), (99, .aload_n 0, 0, 0), (100, .dup, 0, 0)]
def ro_c66_1 : List ro_In := [(101, .getfield 36, 3, 6), (104, .iconst 1, 0, 0), (105, .iadd, 0, 0), (106, .putfield 36, 3, 6), (109, .goto (-104), 0, 0), (112, .return_, 0, 0)]
def ro_c66 : List ro_In := ro_c66_0 ++ (ro_c66_1)
/-- RefusedOnce$Evening.play(I)V -/
def ro_c67 : List ro_In := [(0, .aload_n 0, 0, 0), (1, .getfield 12, 3, 2), (4, .aload_n 0, 0, 0), (5, .getfield 28, 3, 0), (8, .getfield 55, 4, 0), (11, .aload_n 0, 0, 0), (12, .getfield 28, 3, 0), (15, .invokevirtual 58, 18, 0), (18, .invokevirtual 61, 68, 0), (21, .aload_n 0, 0, 0), (22, .iconst 0, 0, 0), (23, .putfield 65, 3, 7), (26, .aload_n 0, 0, 0), (27, .bipush (-2), 0, 0), (29, .putfield 68, 3, 8), (32, .aload_n 0, 0, 0), (33, .iconst 0, 0, 0), (34, .putfield 71, 3, 9), (37, .iconst 0, 0, 0), (38, .istore_n 2, 0, 0), (39, .iload_n 2, 0, 0), (40, .iload_n 1, 0, 0), (41, .if_icmp .ge 53, 0, 0), (44, .iload_n 2, 0, 0), (45, .aload_n 0, 0, 0), (46, .getfield 36, 3, 6), (49, .if_icmp .ge 45, 0, 0), (52, .aload_n 0, 0, 0), (53, .aload_n 0, 0, 0), (54, .iload_n 2, 0, 0), (55, .invokevirtual 74, 69, 0), (58, .aload_n 0, 0, 0), (59, .iload_n 2, 0, 0), (60, .invokevirtual 77, 70, 0), (63, .aload_n 0, 0, 0), (64, .iload_n 2, 0, 0), (65, .invokevirtual 80, 71, 0), (68, .invokevirtual 84, 72, 0), (71, .ifCond .ne 17, 0, 0), (74, .aload_n 0, 0, 0), (75, .getfield 68, 3, 8), (78, .bipush (-2), 0, 0), (80, .if_icmp .ne 8, 0, 0), (83, .aload_n 0, 0, 0), (84, .iload_n 2, 0, 0), (85, .putfield 68, 3, 8), (88, .iinc 2 1, 0, 0), (91, .goto (-52), 0, 0), (94, .return_, 0, 0)]
/-- RefusedOnce$Purses.copyFirst(LRefusedOnce$Purses;I)V -/
def ro_c68 : List ro_In := [(0, .iconst 0, 0, 0), (1, .istore_n 3, 0, 0), (2, .iload_n 3, 0, 0), (3, .iload_n 2, 0, 0), (4, .if_icmp .ge 35, 0, 0), (7, .iload_n 3, 0, 0), (8, .bipush 6, 0, 0), (10, .if_icmp .ge 29, 0, 0), (13, .aload_n 0, 0, 0), (14, .iload_n 3, 0, 0), (15, .aload_n 1, 0, 0), (16, .iload_n 3, 0, 0), (17, .invokevirtual 18, 31, 0), (20, .invokevirtual 22, 16, 0), (23, .aload_n 0, 0, 0), (24, .iload_n 3, 0, 0), (25, .aload_n 1, 0, 0), (26, .iload_n 3, 0, 0), (27, .invokevirtual 26, 32, 0), (30, .invokevirtual 29, 17, 0), (33, .iinc 3 1, 0, 0), (36, .goto (-34), 0, 0), (39, .return_, 0, 0)]
/-- RefusedOnce$Evening.byAt(I)I -/
def ro_c69 : List ro_In := [(0, .iload_n 1, 0, 0), (1, .ifCond .lt 21, 0, 0), (4, .iload_n 1, 0, 0), (5, .aload_n 0, 0, 0), (6, .getfield 18, 3, 3), (9, .arraylength, 0, 0), (10, .if_icmp .ge 12, 0, 0), (13, .aload_n 0, 0, 0), (14, .getfield 18, 3, 3), (17, .iload_n 1, 0, 0), (18, .iaload, 0, 0), (19, .goto 4, 0, 0), (22, .iconst 0, 0, 0), (23, .ireturn, 0, 0)]
/-- RefusedOnce$Evening.toAt(I)I -/
def ro_c70 : List ro_In := [(0, .iload_n 1, 0, 0), (1, .ifCond .lt 21, 0, 0), (4, .iload_n 1, 0, 0), (5, .aload_n 0, 0, 0), (6, .getfield 22, 3, 4), (9, .arraylength, 0, 0), (10, .if_icmp .ge 12, 0, 0), (13, .aload_n 0, 0, 0), (14, .getfield 22, 3, 4), (17, .iload_n 1, 0, 0), (18, .iaload, 0, 0), (19, .goto 4, 0, 0), (22, .iconst 0, 0, 0), (23, .ireturn, 0, 0)]
/-- RefusedOnce$Evening.isWholeAt(I)Z -/
def ro_c71 : List ro_In := [(0, .iload_n 1, 0, 0), (1, .ifCond .lt 25, 0, 0), (4, .iload_n 1, 0, 0), (5, .aload_n 0, 0, 0), (6, .getfield 25, 3, 5), (9, .arraylength, 0, 0), (10, .if_icmp .ge 16, 0, 0), (13, .aload_n 0, 0, 0), (14, .getfield 25, 3, 5), (17, .iload_n 1, 0, 0), (18, .iaload, 0, 0), (19, .ifCond .ne 7, 0, 0), (22, .iconst 1, 0, 0), (23, .goto 4, 0, 0), (26, .iconst 0, 0, 0), (27, .ireturn, 0, 0)]
/-- RefusedOnce$Evening.isOffered(IIZ)Z -/
def ro_c72 : List ro_In := [(0, .iload_n 3, 0, 0), (1, .ifCond .ne 31, 0, 0), (4, .aload_n 0, 0, 0), (5, .getfield 12, 3, 2), (8, .iload_n 1, 0, 0), (9, .iload_n 2, 0, 0), (10, .invokevirtual 88, 73, 0), (13, .istore 4, 0, 0), (15, .iload 4, 0, 0), (17, .ifCond .eq 12, 0, 0), (20, .aload_n 0, 0, 0), (21, .getfield 12, 3, 2), (24, .iload_n 1, 0, 0), (25, .iload_n 2, 0, 0), (26, .invokevirtual 91, 74, 0), (29, .iload 4, 0, 0), (31, .ireturn, 0, 0), (32, .aload_n 0, 0, 0), (33, .getfield 12, 3, 2), (36, .iload_n 1, 0, 0), (37, .iload_n 2, 0, 0), (38, .invokevirtual 95, 75, 0), (41, .ifCond .ne 5, 0, 0), (44, .iconst 0, 0, 0), (45, .ireturn, 0, 0), (46, .aload_n 0, 0, 0), (47, .iload_n 1, 0, 0), (48, .iload_n 2, 0, 0), (49, .aload_n 0, 0, 0), (50, .getfield 32, 3, 1), (53, .aload_n 0, 0, 0), (54, .getfield 28, 3, 0), (57, .aload_n 0, 0, 0), (58, .getfield 12, 3, 2), (61, .iload_n 1, 0, 0), (62, .iload_n 2, 0, 0), (63, .invokevirtual 98, 58, 0), (66, .aload_n 0, 0, 0), (67, .getfield 28, 3, 0), (70, .iconst 0, 0, 0), (71, .bipush 6, 0, 0), (73, .invokevirtual 104, 30, 0), (76, .if_icmp .lt 7, 0, 0), (79, .iconst 1, 0, 0), (80, .goto 4, 0, 0), (83, .iconst 0, 0, 0), (84, .invokevirtual 108, 76, 0), (87, .iconst 1, 0, 0), (88, .ireturn, 0, 0)]
/-- RefusedOnce$Purses.mayOfferCut(II)Z -/
def ro_c73 : List ro_In := [(0, .aload_n 0, 0, 0), (1, .iload_n 1, 0, 0), (2, .invokevirtual 26, 32, 0), (5, .ifCond .le 17, 0, 0), (8, .aload_n 0, 0, 0), (9, .iload_n 2, 0, 0), (10, .invokevirtual 26, 32, 0), (13, .bipush 20, 0, 0), (15, .if_icmp .ge 7, 0, 0), (18, .iconst 1, 0, 0), (19, .goto 4, 0, 0), (22, .iconst 0, 0, 0), (23, .ireturn, 0, 0)]
/-- RefusedOnce$Purses.giveCut(II)V -/
def ro_c74 : List ro_In := [(0, .aload_n 0, 0, 0), (1, .iload_n 1, 0, 0), (2, .aload_n 0, 0, 0), (3, .iload_n 1, 0, 0), (4, .invokevirtual 26, 32, 0), (7, .iconst 1, 0, 0), (8, .isub, 0, 0), (9, .invokevirtual 29, 17, 0), (12, .aload_n 0, 0, 0), (13, .iload_n 2, 0, 0), (14, .aload_n 0, 0, 0), (15, .iload_n 2, 0, 0), (16, .invokevirtual 26, 32, 0), (19, .iconst 1, 0, 0), (20, .iadd, 0, 0), (21, .invokevirtual 29, 17, 0), (24, .return_, 0, 0)]
/-- RefusedOnce$Purses.mayOfferWhole(II)Z -/
def ro_c75 : List ro_In := [(0, .aload_n 0, 0, 0), (1, .iload_n 1, 0, 0), (2, .invokevirtual 18, 31, 0), (5, .ifCond .le 27, 0, 0), (8, .aload_n 0, 0, 0), (9, .iload_n 2, 0, 0), (10, .invokevirtual 18, 31, 0), (13, .bipush 20, 0, 0), (15, .if_icmp .ge 17, 0, 0), (18, .aload_n 0, 0, 0), (19, .iload_n 1, 0, 0), (20, .invokevirtual 26, 32, 0), (23, .bipush 20, 0, 0), (25, .if_icmp .ge 7, 0, 0), (28, .iconst 1, 0, 0), (29, .goto 4, 0, 0), (32, .iconst 0, 0, 0), (33, .ireturn, 0, 0)]
/-- RefusedOnce$Evening.answer(IIZ)V -/
def ro_c76 : List ro_In := [(0, .iload_n 3, 0, 0), (1, .ifCond .eq 36, 0, 0), (4, .aload_n 0, 0, 0), (5, .getfield 12, 3, 2), (8, .iload_n 1, 0, 0), (9, .invokevirtual 112, 77, 0), (12, .aload_n 0, 0, 0), (13, .dup, 0, 0), (14, .getfield 65, 3, 7), (17, .iconst 1, 0, 0), (18, .iadd, 0, 0), (19, .putfield 65, 3, 7), (22, .aload_n 0, 0, 0), (23, .dup, 0, 0), (24, .getfield 71, 3, 9), (27, .iconst 1, 0, 0), (28, .iload_n 2, 0, 0), (29, .ishl, 0, 0), (30, .ior, 0, 0), (31, .putfield 71, 3, 9), (34, .goto 12, 0, 0), (37, .aload_n 0, 0, 0), (38, .getfield 12, 3, 2), (41, .iload_n 1, 0, 0), (42, .iload_n 2, 0, 0), (43, .invokevirtual 116, 78, 0), (46, .return_, 0, 0)]
/-- RefusedOnce$Purses.refuse(I)V -/
def ro_c77 : List ro_In := [(0, .aload_n 0, 0, 0), (1, .iload_n 1, 0, 0), (2, .aload_n 0, 0, 0), (3, .iload_n 1, 0, 0), (4, .invokevirtual 18, 31, 0), (7, .iconst 1, 0, 0), (8, .isub, 0, 0), (9, .invokevirtual 22, 16, 0), (12, .aload_n 0, 0, 0), (13, .iload_n 1, 0, 0), (14, .aload_n 0, 0, 0), (15, .iload_n 1, 0, 0), (16, .invokevirtual 26, 32, 0), (19, .iconst 1, 0, 0), (20, .iadd, 0, 0), (21, .invokevirtual 29, 17, 0), (24, .return_, 0, 0)]
/-- RefusedOnce$Purses.giveWhole(II)V -/
def ro_c78 : List ro_In := [(0, .aload_n 0, 0, 0), (1, .iload_n 1, 0, 0), (2, .aload_n 0, 0, 0), (3, .iload_n 1, 0, 0), (4, .invokevirtual 18, 31, 0), (7, .iconst 1, 0, 0), (8, .isub, 0, 0), (9, .invokevirtual 22, 16, 0), (12, .aload_n 0, 0, 0), (13, .iload_n 2, 0, 0), (14, .aload_n 0, 0, 0), (15, .iload_n 2, 0, 0), (16, .invokevirtual 18, 31, 0), (19, .iconst 1, 0, 0), (20, .iadd, 0, 0), (21, .invokevirtual 22, 16, 0), (24, .return_, 0, 0)]
/-- RefusedOnce.evening(III)I -/
def ro_c79 : List ro_In := [(0, .aload_n 0, 0, 0), (1, .iload_n 1, 0, 0), (2, .invokevirtual 87, 20, 0), (5, .astore 4, 0, 0), (7, .aload 4, 0, 0), (9, .ifnull 22, 0, 0), (12, .iload_n 2, 0, 0), (13, .iconst 0, 0, 0), (14, .bipush 20, 0, 0), (16, .invokestatic 76, 13, 0), (19, .ifCond .eq 12, 0, 0), (22, .iload_n 3, 0, 0), (23, .iconst 0, 0, 0), (24, .iconst 2, 0, 0), (25, .invokestatic 76, 13, 0), (28, .ifCond .ne 5, 0, 0), (31, .iconst (-1), 0, 0), (32, .ireturn, 0, 0), (33, .aload 4, 0, 0), (35, .invokevirtual 95, 22, 0), (38, .ifCond .ne 9, 0, 0), (41, .aload 4, 0, 0), (43, .invokevirtual 159, 65, 0), (46, .ireturn, 0, 0), (47, .aload_n 0, 0, 0), (48, .getfield 35, 11, 3), (51, .aload 4, 0, 0), (53, .invokevirtual 162, 66, 0), (56, .aload_n 0, 0, 0), (57, .getfield 35, 11, 3), (60, .iload_n 2, 0, 0), (61, .invokevirtual 165, 67, 0), (64, .iload_n 3, 0, 0), (65, .ifCond .ne 11, 0, 0), (68, .aload_n 0, 0, 0), (69, .getfield 35, 11, 3), (72, .invokevirtual 180, 80, 0), (75, .ireturn, 0, 0), (76, .iload_n 3, 0, 0), (77, .iconst 1, 0, 0), (78, .if_icmp .ne 13, 0, 0), (81, .aload_n 0, 0, 0), (82, .getfield 35, 11, 3), (85, .invokevirtual 183, 81, 0), (88, .goto 10, 0, 0), (91, .aload_n 0, 0, 0), (92, .getfield 35, 11, 3), (95, .invokevirtual 186, 82, 0), (98, .ireturn, 0, 0)]
/-- RefusedOnce$Evening.refusals()I -/
def ro_c80 : List ro_In := [(0, .aload_n 0, 0, 0), (1, .getfield 65, 3, 7), (4, .ireturn, 0, 0)]
/-- RefusedOnce$Evening.firstThatCannotBe()I -/
def ro_c81 : List ro_In := [(0, .aload_n 0, 0, 0), (1, .getfield 68, 3, 8), (4, .ireturn, 0, 0)]
/-- RefusedOnce$Evening.whoRefused()I -/
def ro_c82 : List ro_In := [(0, .aload_n 0, 0, 0), (1, .getfield 71, 3, 9), (4, .ireturn, 0, 0)]
/-- RefusedOnce.round(II)I -/
def ro_c83 : List ro_In := [(0, .aload_n 0, 0, 0), (1, .iload_n 1, 0, 0), (2, .invokevirtual 87, 20, 0), (5, .astore_n 3, 0, 0), (6, .aload_n 3, 0, 0), (7, .ifnull 8, 0, 0), (10, .iload_n 2, 0, 0), (11, .iconst (-1), 0, 0), (12, .if_icmp .ge 5, 0, 0), (15, .iconst (-1), 0, 0), (16, .ireturn, 0, 0), (17, .aload_n 3, 0, 0), (18, .invokevirtual 95, 22, 0), (21, .ifCond .ne 8, 0, 0), (24, .aload_n 3, 0, 0), (25, .invokevirtual 159, 65, 0), (28, .ireturn, 0, 0), (29, .aload_n 0, 0, 0), (30, .getfield 42, 11, 4), (33, .aload_n 3, 0, 0), (34, .invokevirtual 189, 84, 0), (37, .iload_n 2, 0, 0), (38, .aload_n 0, 0, 0), (39, .getfield 42, 11, 4), (42, .invokevirtual 190, 85, 0), (45, .if_icmp .ge 14, 0, 0), (48, .aload_n 0, 0, 0), (49, .getfield 42, 11, 4), (52, .iconst 0, 0, 0), (53, .invokevirtual 191, 86, 0), (56, .ifCond .ne 6, 0, 0), (59, .bipush (-2), 0, 0), (61, .ireturn, 0, 0), (62, .iload_n 2, 0, 0), (63, .ifCond .ge 13, 0, 0), (66, .aload_n 0, 0, 0), (67, .getfield 42, 11, 4), (70, .invokevirtual 195, 91, 0), (73, .goto 11, 0, 0), (76, .aload_n 0, 0, 0), (77, .getfield 42, 11, 4), (80, .iload_n 2, 0, 0), (81, .invokevirtual 198, 92, 0), (84, .ireturn, 0, 0)]
/-- RefusedOnce$Payings.read(LRefusedOnce$Shelf;)V -/
def ro_c84 : List ro_In := [(0, .aload_n 0, 0, 0), (1, .iconst 0, 0, 0), (2, .putfield 33, 7, 5), (5, .aload_n 0, 0, 0), (6, .getfield 33, 7, 5), (9, .bipush 10, 0, 0), (11, .if_icmp .ge 88, 0, 0), (14, .iconst 2, 0, 0), (15, .aload_n 0, 0, 0), (16, .getfield 33, 7, 5), (19, .imul, 0, 0), (20, .iconst 1, 0, 0), (21, .iadd, 0, 0), (22, .aload_n 1, 0, 0), (23, .invokevirtual 37, 24, 0), (26, .if_icmp .ge 73, 0, 0), (29, .aload_n 1, 0, 0), (30, .iconst 2, 0, 0), (31, .aload_n 0, 0, 0), (32, .getfield 33, 7, 5), (35, .imul, 0, 0), (36, .invokevirtual 42, 25, 0), (39, .istore_n 2, 0, 0), (40, .aload_n 1, 0, 0), (41, .iconst 2, 0, 0), (42, .aload_n 0, 0, 0), (43, .getfield 33, 7, 5), (46, .imul, 0, 0), (47, .iconst 1, 0, 0), (48, .iadd, 0, 0), (49, .invokevirtual 42, 25, 0), (52, .istore_n 3, 0, 0), (53, .aload_n 0, 0, 0), (54, .getfield 25, 7, 0), (57, .iload_n 2, 0, 0), (58, .iload_n 3, 0, 0), (59, .invokevirtual 46, 57, 0), (62, .ifCond .ne 4, 0, 0), (65, .return_, 0, 0), (66, .aload_n 0, 0, 0), (67, .getfield 18, 7, 3), (70, .aload_n 0, 0, 0), (71, .getfield 33, 7, 5), (74, .iload_n 2, 0, 0), (75, .iastore, 0, 0), (76, .aload_n 0, 0, 0), (77, .getfield 22, 7, 4), (80, .aload_n 0, 0, 0), (81, .getfield 33, 7, 5), (84, .iload_n 3, 0, 0), (85, .iastore, 0, 0), (86, .aload_n 0, 0, 0), (87, .dup, 0, 0), (88, .getfield 33, 7, 5), (91, .iconst 1, 0, 0), (92, .iadd, 0, 0), (93, .putfield 33, 7, 5), (96, .goto (-91), 0, 0), (99, .return_, 0, 0)]
/-- RefusedOnce$Payings.length()I -/
def ro_c85 : List ro_In := [(0, .aload_n 0, 0, 0), (1, .getfield 33, 7, 5), (4, .ireturn, 0, 0)]
/-- RefusedOnce$Payings.find(Z)Z -/
def ro_c86 : List ro_In := [(0, .aload_n 0, 0, 0), (1, .getfield 12, 7, 2), (4, .aload_n 0, 0, 0), (5, .getfield 25, 7, 0), (8, .getfield 52, 4, 0), (11, .aload_n 0, 0, 0), (12, .getfield 25, 7, 0), (15, .invokevirtual 55, 18, 0), (18, .invokevirtual 58, 68, 0), (21, .aload_n 0, 0, 0), (22, .iload_n 1, 0, 0), (23, .putfield 62, 7, 8), (26, .aload_n 0, 0, 0), (27, .iconst 0, 0, 0), (28, .putfield 66, 7, 9), (31, .aload_n 0, 0, 0), (32, .iconst 0, 0, 0), (33, .putfield 69, 7, 6), (36, .aload_n 0, 0, 0), (37, .iconst 0, 0, 0), (38, .putfield 72, 7, 7), (41, .aload_n 0, 0, 0), (42, .iconst 0, 0, 0), (43, .iconst 0, 0, 0), (44, .iconst 0, 0, 0), (45, .invokevirtual 75, 87, 0), (48, .aload_n 0, 0, 0), (49, .getfield 66, 7, 9), (52, .ireturn, 0, 0)]
/-- RefusedOnce$Payings.search(III)V -/
def ro_c87_0 : List ro_In := [(0, .iload_n 1, 0, 0), (1, .ifCond .lt 17, 0, 0), (4, .iload_n 1, 0, 0), (5, .aload_n 0, 0, 0), (6, .getfield 33, 7, 5), (9, .if_icmp .ge 9, 0, 0), (12, .iload_n 1, 0, 0), (13, .bipush 10, 0, 0), (15, .if_icmp .lt 10, 0, 0), (18, .aload_n 0, 0, 0), (19, .iload_n 2, 0, 0), (20, .iload_n 3, 0, 0), (21, .invokevirtual 79, 88, 0), (24, .return_, 0, 0), (25, .aload_n 0, 0, 0), (26, .getfield 62, 7, 8), (29, .ifCond .ne 19, 0, 0), (32, .aload_n 0, 0, 0), (33, .getfield 66, 7, 9), (36, .ifCond .eq 12, 0, 0), (39, .iload_n 2, 0, 0), (40, .aload_n 0, 0, 0), (41, .getfield 69, 7, 6), (44, .if_icmp .lt 4, 0, 0), (47, .return_, 0, 0), (48, .aload_n 0, 0, 0), (49, .getfield 18, 7, 3), (52, .iload_n 1, 0, 0), (53, .iaload, 0, 0), (54, .istore 4, 0, 0), (56, .aload_n 0, 0, 0), (57, .getfield 22, 7, 4), (60, .iload_n 1, 0, 0), (61, .iaload, 0, 0), (62, .istore 5, 0, 0), (64, .aload_n 0, 0, 0), (65, .getfield 12, 7, 2), (68, .iload 4, 0, 0), (70, .iload 5, 0, 0), (72, .invokevirtual 83, 75, 0), (75, .ifCond .eq 10, 0, 0), (78, .aload_n 0, 0, 0), (79, .iload_n 1, 0, 0), (80, .iload_n 2, 0, 0), (81, .iload_n 3, 0, 0), (82, .invokevirtual 86, 89, 0), (85, .aload_n 0, 0, 0), (86, .getfield 12, 7, 2), (89, .iload 4, 0, 0), (91, .iload 5, 0, 0), (93, .invokevirtual 89, 73, 0), (96, .ifCond .eq 38, 0, 0), (99, .aload_n 0, 0, 0), (100, .getfield 12, 7, 2), (103, .iload 4, 0, 0), (105, .iload 5, 0, 0), (107, .invokevirtual 92, 74, 0), (110, .aload_n 0, 0, 0), (111, .iload_n 1, 0, 0), (112, .iconst 1, 0, 0)]
def ro_c87_1 : List ro_In := [(113, .iadd, 0, 0), (114, .iload_n 2, 0, 0), (115, .iload_n 3, 0, 0), (116, .iconst 1, 0, 0), (117, .iload_n 1, 0, 0), (118, .ishl, 0, 0), (119, .ior, 0, 0), (120, .invokevirtual 75, 87, 0), (123, .aload_n 0, 0, 0), (124, .getfield 12, 7, 2), (127, .iload 5, 0, 0), (129, .iload 4, 0, 0), (131, .invokevirtual 92, 74, 0), (134, .return_, 0, 0)]
def ro_c87 : List ro_In := ro_c87_0 ++ (ro_c87_1)
/-- RefusedOnce$Payings.weigh(II)V -/
def ro_c88 : List ro_In := [(0, .aload_n 0, 0, 0), (1, .getfield 62, 7, 8), (4, .ifCond .eq 23, 0, 0), (7, .aload_n 0, 0, 0), (8, .getfield 25, 7, 0), (11, .aload_n 0, 0, 0), (12, .getfield 12, 7, 2), (15, .aload_n 0, 0, 0), (16, .getfield 18, 7, 3), (19, .iconst 0, 0, 0), (20, .iaload, 0, 0), (21, .invokevirtual 118, 37, 0), (24, .goto 4, 0, 0), (27, .iload_n 1, 0, 0), (28, .istore_n 3, 0, 0), (29, .aload_n 0, 0, 0), (30, .getfield 62, 7, 8), (33, .ifCond .eq 19, 0, 0), (36, .iload_n 3, 0, 0), (37, .aload_n 0, 0, 0), (38, .getfield 69, 7, 6), (41, .if_icmp .le 7, 0, 0), (44, .iconst 1, 0, 0), (45, .goto 20, 0, 0), (48, .iconst 0, 0, 0), (49, .goto 16, 0, 0), (52, .iload_n 3, 0, 0), (53, .aload_n 0, 0, 0), (54, .getfield 69, 7, 6), (57, .if_icmp .ge 7, 0, 0), (60, .iconst 1, 0, 0), (61, .goto 4, 0, 0), (64, .iconst 0, 0, 0), (65, .istore 4, 0, 0), (67, .aload_n 0, 0, 0), (68, .getfield 66, 7, 9), (71, .ifCond .eq 8, 0, 0), (74, .iload 4, 0, 0), (76, .ifCond .eq 18, 0, 0), (79, .aload_n 0, 0, 0), (80, .iconst 1, 0, 0), (81, .putfield 66, 7, 9), (84, .aload_n 0, 0, 0), (85, .iload_n 3, 0, 0), (86, .putfield 69, 7, 6), (89, .aload_n 0, 0, 0), (90, .iload_n 2, 0, 0), (91, .putfield 72, 7, 7), (94, .return_, 0, 0)]
/-- RefusedOnce$Payings.searchWhole(III)V -/
def ro_c89_0 : List ro_In := [(0, .iload_n 1, 0, 0), (1, .ifCond .lt 9, 0, 0), (4, .iload_n 1, 0, 0), (5, .bipush 10, 0, 0), (7, .if_icmp .lt 4, 0, 0), (10, .return_, 0, 0), (11, .aload_n 0, 0, 0), (12, .getfield 18, 7, 3), (15, .iload_n 1, 0, 0), (16, .iaload, 0, 0), (17, .istore 4, 0, 0), (19, .aload_n 0, 0, 0), (20, .getfield 22, 7, 4), (23, .iload_n 1, 0, 0), (24, .iaload, 0, 0), (25, .istore 5, 0, 0), (27, .aload_n 0, 0, 0), (28, .getfield 29, 7, 1), (31, .aload_n 0, 0, 0), (32, .getfield 25, 7, 0), (35, .aload_n 0, 0, 0), (36, .getfield 12, 7, 2), (39, .iload 4, 0, 0), (41, .iload 5, 0, 0), (43, .invokevirtual 95, 58, 0), (46, .aload_n 0, 0, 0), (47, .getfield 25, 7, 0), (50, .iconst 0, 0, 0), (51, .bipush 6, 0, 0), (53, .invokevirtual 101, 30, 0), (56, .if_icmp .ge 37, 0, 0), (59, .aload_n 0, 0, 0), (60, .getfield 12, 7, 2), (63, .iload 4, 0, 0), (65, .iload 5, 0, 0), (67, .invokevirtual 105, 78, 0), (70, .aload_n 0, 0, 0), (71, .iload_n 1, 0, 0), (72, .iconst 1, 0, 0), (73, .iadd, 0, 0), (74, .iload_n 2, 0, 0), (75, .iload_n 3, 0, 0), (76, .invokevirtual 75, 87, 0), (79, .aload_n 0, 0, 0), (80, .getfield 12, 7, 2), (83, .iload 5, 0, 0), (85, .iload 4, 0, 0), (87, .invokevirtual 105, 78, 0), (90, .goto 68, 0, 0), (93, .aload_n 0, 0, 0), (94, .getfield 12, 7, 2), (97, .iload 5, 0, 0), (99, .invokevirtual 108, 32, 0), (102, .bipush 20, 0, 0), (104, .if_icmp .ge 54, 0, 0), (107, .aload_n 0, 0, 0), (108, .getfield 12, 7, 2), (111, .iload 4, 0, 0), (113, .invokevirtual 111, 77, 0), (116, .aload_n 0, 0, 0)]
def ro_c89_1 : List ro_In := [(117, .getfield 12, 7, 2), (120, .iload 4, 0, 0), (122, .iload 5, 0, 0), (124, .invokevirtual 92, 74, 0), (127, .aload_n 0, 0, 0), (128, .iload_n 1, 0, 0), (129, .iconst 1, 0, 0), (130, .iadd, 0, 0), (131, .iload_n 2, 0, 0), (132, .iconst 1, 0, 0), (133, .iadd, 0, 0), (134, .iload_n 3, 0, 0), (135, .invokevirtual 75, 87, 0), (138, .aload_n 0, 0, 0), (139, .getfield 12, 7, 2), (142, .iload 5, 0, 0), (144, .iload 4, 0, 0), (146, .invokevirtual 92, 74, 0), (149, .aload_n 0, 0, 0), (150, .getfield 12, 7, 2), (153, .iload 4, 0, 0), (155, .invokevirtual 115, 90, 0), (158, .return_, 0, 0)]
def ro_c89 : List ro_In := ro_c89_0 ++ (ro_c89_1)
/-- RefusedOnce$Purses.takeBackRefusal(I)V -/
def ro_c90 : List ro_In := [(0, .aload_n 0, 0, 0), (1, .iload_n 1, 0, 0), (2, .aload_n 0, 0, 0), (3, .iload_n 1, 0, 0), (4, .invokevirtual 18, 31, 0), (7, .iconst 1, 0, 0), (8, .iadd, 0, 0), (9, .invokevirtual 22, 16, 0), (12, .aload_n 0, 0, 0), (13, .iload_n 1, 0, 0), (14, .aload_n 0, 0, 0), (15, .iload_n 1, 0, 0), (16, .invokevirtual 26, 32, 0), (19, .iconst 1, 0, 0), (20, .isub, 0, 0), (21, .invokevirtual 29, 17, 0), (24, .return_, 0, 0)]
/-- RefusedOnce$Payings.found()I -/
def ro_c91 : List ro_In := [(0, .aload_n 0, 0, 0), (1, .getfield 69, 7, 6), (4, .ireturn, 0, 0)]
/-- RefusedOnce$Payings.kindAt(I)I -/
def ro_c92 : List ro_In := [(0, .iload_n 1, 0, 0), (1, .ifCond .lt 20, 0, 0), (4, .iload_n 1, 0, 0), (5, .bipush 10, 0, 0), (7, .if_icmp .ge 14, 0, 0), (10, .aload_n 0, 0, 0), (11, .getfield 72, 7, 7), (14, .iload_n 1, 0, 0), (15, .ishr, 0, 0), (16, .iconst 1, 0, 0), (17, .iand, 0, 0), (18, .goto 4, 0, 0), (21, .iconst 0, 0, 0), (22, .ireturn, 0, 0)]
/-- RefusedOnce.cleanest(I)I -/
def ro_c93 : List ro_In := [(0, .aload_n 0, 0, 0), (1, .iload_n 1, 0, 0), (2, .invokevirtual 87, 20, 0), (5, .astore_n 2, 0, 0), (6, .aload_n 2, 0, 0), (7, .ifnonnull 5, 0, 0), (10, .iconst (-1), 0, 0), (11, .ireturn, 0, 0), (12, .aload_n 2, 0, 0), (13, .invokevirtual 95, 22, 0), (16, .ifCond .ne 8, 0, 0), (19, .aload_n 2, 0, 0), (20, .invokevirtual 159, 65, 0), (23, .ireturn, 0, 0), (24, .aload_n 0, 0, 0), (25, .getfield 42, 11, 4), (28, .aload_n 2, 0, 0), (29, .invokevirtual 189, 84, 0), (32, .aload_n 0, 0, 0), (33, .getfield 42, 11, 4), (36, .invokevirtual 190, 85, 0), (39, .ifCond .le 24, 0, 0), (42, .aload_n 0, 0, 0), (43, .getfield 42, 11, 4), (46, .iconst 1, 0, 0), (47, .invokevirtual 191, 86, 0), (50, .ifCond .eq 13, 0, 0), (53, .aload_n 0, 0, 0), (54, .getfield 42, 11, 4), (57, .invokevirtual 195, 91, 0), (60, .goto 5, 0, 0), (63, .bipush (-2), 0, 0), (65, .ireturn, 0, 0)]
/-- RefusedOnce.pay(IIII)J -/
def ro_c94 : List ro_In := [(0, .aload_n 0, 0, 0), (1, .iload_n 1, 0, 0), (2, .invokevirtual 152, 56, 0), (5, .ifCond .eq 31, 0, 0), (8, .iload_n 2, 0, 0), (9, .iconst 0, 0, 0), (10, .bipush 8, 0, 0), (12, .invokestatic 76, 13, 0), (15, .ifCond .eq 21, 0, 0), (18, .iload_n 3, 0, 0), (19, .iconst 0, 0, 0), (20, .bipush 8, 0, 0), (22, .invokestatic 76, 13, 0), (25, .ifCond .eq 11, 0, 0), (28, .iload 4, 0, 0), (30, .invokestatic 201, 95, 0), (33, .ifCond .ne 7, 0, 0), (36, .ldc2_w 204, 0, 0), (39, .lreturn, 0, 0), (40, .aload_n 0, 0, 0), (41, .getfield 49, 11, 5), (44, .iload_n 1, 0, 0), (45, .bipush 10, 0, 0), (47, .idiv, 0, 0), (48, .iload_n 1, 0, 0), (49, .bipush 10, 0, 0), (51, .irem, 0, 0), (52, .iload_n 2, 0, 0), (53, .iload_n 3, 0, 0), (54, .invokevirtual 206, 96, 0), (57, .aload_n 0, 0, 0), (58, .getfield 49, 11, 5), (61, .iload 4, 0, 0), (63, .invokevirtual 209, 102, 0), (66, .lreturn, 0, 0)]
/-- RefusedOnce.isPart(I)Z -/
def ro_c95 : List ro_In := [(0, .iload_n 0, 0, 0), (1, .ifCond .eq 8, 0, 0), (4, .iload_n 0, 0, 0), (5, .iconst 1, 0, 0), (6, .if_icmp .ne 7, 0, 0), (9, .iconst 1, 0, 0), (10, .goto 4, 0, 0), (13, .iconst 0, 0, 0), (14, .ireturn, 0, 0)]
/-- RefusedOnce$Chances.justSoMany(IIII)V -/
def ro_c96 : List ro_In := [(0, .aload_n 0, 0, 0), (1, .iload_n 1, 0, 0), (2, .iload_n 2, 0, 0), (3, .iload_n 3, 0, 0), (4, .invokevirtual 49, 97, 0), (7, .aload_n 0, 0, 0), (8, .iload 4, 0, 0), (10, .ifCond .lt 23, 0, 0), (13, .iload 4, 0, 0), (15, .aload_n 0, 0, 0), (16, .getfield 18, 1, 3), (19, .arraylength, 0, 0), (20, .if_icmp .ge 13, 0, 0), (23, .aload_n 0, 0, 0), (24, .getfield 18, 1, 3), (27, .iload 4, 0, 0), (29, .laload, 0, 0), (30, .goto 4, 0, 0), (33, .lconst 0, 0, 0), (34, .iload_n 3, 0, 0), (35, .invokestatic 53, 99, 0), (38, .invokevirtual 57, 100, 0), (41, .return_, 0, 0)]
/-- RefusedOnce$Chances.weighPayings(III)V -/
def ro_c97_0 : List ro_In := [(0, .aload_n 0, 0, 0), (1, .getfield 12, 1, 2), (4, .aload_n 0, 0, 0), (5, .getfield 29, 1, 0), (8, .getfield 63, 4, 0), (11, .aload_n 0, 0, 0), (12, .getfield 29, 1, 0), (15, .invokevirtual 68, 18, 0), (18, .invokevirtual 72, 68, 0), (21, .iconst 0, 0, 0), (22, .istore 4, 0, 0), (24, .iload 4, 0, 0), (26, .aload_n 0, 0, 0), (27, .getfield 18, 1, 3), (30, .arraylength, 0, 0), (31, .if_icmp .ge 44, 0, 0), (34, .iload 4, 0, 0), (36, .aload_n 0, 0, 0), (37, .getfield 22, 1, 4), (40, .arraylength, 0, 0), (41, .if_icmp .ge 34, 0, 0), (44, .aload_n 0, 0, 0), (45, .getfield 18, 1, 3), (48, .iload 4, 0, 0), (50, .lconst 0, 0, 0), (51, .lastore, 0, 0), (52, .aload_n 0, 0, 0), (53, .getfield 22, 1, 4), (56, .iload 4, 0, 0), (58, .iload 4, 0, 0), (60, .ifCond .ne 7, 0, 0), (63, .lconst 1, 0, 0), (64, .goto 4, 0, 0), (67, .lconst 0, 0, 0), (68, .lastore, 0, 0), (69, .iinc 4 1, 0, 0), (72, .goto (-48), 0, 0), (75, .iconst 0, 0, 0), (76, .istore 4, 0, 0), (78, .iload 4, 0, 0), (80, .iload_n 3, 0, 0), (81, .if_icmp .ge 45, 0, 0), (84, .iload 4, 0, 0), (86, .bipush 8, 0, 0), (88, .if_icmp .ge 38, 0, 0), (91, .iload 4, 0, 0), (93, .istore 5, 0, 0), (95, .iload 5, 0, 0), (97, .ifCond .lt 23, 0, 0), (100, .aload_n 0, 0, 0), (101, .iload_n 1, 0, 0), (102, .iload_n 2, 0, 0), (103, .iload 4, 0, 0), (105, .iload 5, 0, 0), (107, .iload_n 3, 0, 0), (108, .iload 4, 0, 0), (110, .isub, 0, 0), (111, .invokevirtual 76, 98, 0), (114, .iinc 5 (-1), 0, 0), (117, .goto (-22), 0, 0)]
def ro_c97_1 : List ro_In := [(120, .iinc 4 1, 0, 0), (123, .goto (-45), 0, 0), (126, .iconst 0, 0, 0), (127, .istore 4, 0, 0), (129, .iload 4, 0, 0), (131, .aload_n 0, 0, 0), (132, .getfield 18, 1, 3), (135, .arraylength, 0, 0), (136, .if_icmp .ge 36, 0, 0), (139, .iload 4, 0, 0), (141, .aload_n 0, 0, 0), (142, .getfield 22, 1, 4), (145, .arraylength, 0, 0), (146, .if_icmp .ge 26, 0, 0), (149, .aload_n 0, 0, 0), (150, .getfield 18, 1, 3), (153, .iload 4, 0, 0), (155, .dup2, 0, 0), (156, .laload, 0, 0), (157, .aload_n 0, 0, 0), (158, .getfield 22, 1, 4), (161, .iload 4, 0, 0), (163, .laload, 0, 0), (164, .ladd, 0, 0), (165, .lastore, 0, 0), (166, .iinc 4 1, 0, 0), (169, .goto (-40), 0, 0), (172, .return_, 0, 0)]
def ro_c97 : List ro_In := ro_c97_0 ++ (ro_c97_1)
/-- RefusedOnce$Chances.offerNext(IIIII)V -/
def ro_c98_0 : List ro_In := [(0, .iload 4, 0, 0), (2, .ifCond .lt 25, 0, 0), (5, .iload 4, 0, 0), (7, .iconst 1, 0, 0), (8, .iadd, 0, 0), (9, .aload_n 0, 0, 0), (10, .getfield 22, 1, 4), (13, .arraylength, 0, 0), (14, .if_icmp .ge 13, 0, 0), (17, .iload 4, 0, 0), (19, .aload_n 0, 0, 0), (20, .getfield 18, 1, 3), (23, .arraylength, 0, 0), (24, .if_icmp .lt 4, 0, 0), (27, .return_, 0, 0), (28, .aload_n 0, 0, 0), (29, .getfield 12, 1, 2), (32, .iload_n 1, 0, 0), (33, .aload_n 0, 0, 0), (34, .getfield 29, 1, 0), (37, .iload_n 1, 0, 0), (38, .iconst 0, 0, 0), (39, .invokevirtual 80, 30, 0), (42, .iload_n 3, 0, 0), (43, .isub, 0, 0), (44, .invokevirtual 84, 16, 0), (47, .aload_n 0, 0, 0), (48, .getfield 12, 1, 2), (51, .iload_n 1, 0, 0), (52, .aload_n 0, 0, 0), (53, .getfield 29, 1, 0), (56, .iload_n 1, 0, 0), (57, .iconst 1, 0, 0), (58, .invokevirtual 80, 30, 0), (61, .iload 4, 0, 0), (63, .iadd, 0, 0), (64, .invokevirtual 88, 17, 0), (67, .aload_n 0, 0, 0), (68, .getfield 12, 1, 2), (71, .iload_n 2, 0, 0), (72, .aload_n 0, 0, 0), (73, .getfield 29, 1, 0), (76, .iload_n 2, 0, 0), (77, .iconst 0, 0, 0), (78, .invokevirtual 80, 30, 0), (81, .iload_n 3, 0, 0), (82, .iadd, 0, 0), (83, .iload 4, 0, 0), (85, .isub, 0, 0), (86, .invokevirtual 84, 16, 0), (89, .aload_n 0, 0, 0), (90, .getfield 12, 1, 2), (93, .iload_n 1, 0, 0), (94, .iload_n 2, 0, 0), (95, .invokevirtual 91, 75, 0), (98, .ifCond .ne 35, 0, 0), (101, .aload_n 0, 0, 0), (102, .getfield 18, 1, 3), (105, .iload 4, 0, 0), (107, .dup2, 0, 0)]
def ro_c98_1 : List ro_In := [(108, .laload, 0, 0), (109, .aload_n 0, 0, 0), (110, .getfield 22, 1, 4), (113, .iload 4, 0, 0), (115, .laload, 0, 0), (116, .iload 5, 0, 0), (118, .invokestatic 53, 99, 0), (121, .lmul, 0, 0), (122, .ladd, 0, 0), (123, .lastore, 0, 0), (124, .aload_n 0, 0, 0), (125, .getfield 22, 1, 4), (128, .iload 4, 0, 0), (130, .lconst 0, 0, 0), (131, .lastore, 0, 0), (132, .return_, 0, 0), (133, .aload_n 0, 0, 0), (134, .getfield 33, 1, 1), (137, .aload_n 0, 0, 0), (138, .getfield 29, 1, 0), (141, .aload_n 0, 0, 0), (142, .getfield 12, 1, 2), (145, .iload_n 1, 0, 0), (146, .iload_n 2, 0, 0), (147, .invokevirtual 95, 58, 0), (150, .istore 6, 0, 0), (152, .aload_n 0, 0, 0), (153, .getfield 22, 1, 4), (156, .iload 4, 0, 0), (158, .iconst 1, 0, 0), (159, .iadd, 0, 0), (160, .dup2, 0, 0), (161, .laload, 0, 0), (162, .aload_n 0, 0, 0), (163, .getfield 22, 1, 4), (166, .iload 4, 0, 0), (168, .laload, 0, 0), (169, .iload 6, 0, 0), (171, .i2l, 0, 0), (172, .lmul, 0, 0), (173, .ladd, 0, 0), (174, .lastore, 0, 0), (175, .aload_n 0, 0, 0), (176, .getfield 22, 1, 4), (179, .iload 4, 0, 0), (181, .dup2, 0, 0), (182, .laload, 0, 0), (183, .bipush 12, 0, 0), (185, .iload 6, 0, 0), (187, .isub, 0, 0), (188, .i2l, 0, 0), (189, .lmul, 0, 0), (190, .lastore, 0, 0), (191, .return_, 0, 0)]
def ro_c98 : List ro_In := ro_c98_0 ++ (ro_c98_1)
/-- RefusedOnce$Chances.twelveBy(I)J -/
def ro_c99 : List ro_In := [(0, .lconst 1, 0, 0), (1, .lstore_n 1, 0, 0), (2, .iconst 0, 0, 0), (3, .istore_n 3, 0, 0), (4, .iload_n 3, 0, 0), (5, .iload_n 0, 0, 0), (6, .if_icmp .ge 21, 0, 0), (9, .iload_n 3, 0, 0), (10, .bipush 8, 0, 0), (12, .if_icmp .ge 15, 0, 0), (15, .lload_n 1, 0, 0), (16, .ldc2_w 61, 0, 0), (19, .lmul, 0, 0), (20, .lstore_n 1, 0, 0), (21, .iinc 3 1, 0, 0), (24, .goto (-20), 0, 0), (27, .lload_n 1, 0, 0), (28, .lreturn, 0, 0)]
/-- RefusedOnce$Chances.set(JJ)V -/
def ro_c100 : List ro_In := [(0, .lconst 1, 0, 0), (1, .lload_n 1, 0, 0), (2, .lload_n 3, 0, 0), (3, .invokestatic 40, 101, 0), (6, .invokestatic 44, 2, 3), (9, .lstore 5, 0, 0), (11, .aload_n 0, 0, 0), (12, .lload_n 1, 0, 0), (13, .lload 5, 0, 0), (15, .ldiv, 0, 0), (16, .putfield 37, 1, 5), (19, .aload_n 0, 0, 0), (20, .lload_n 3, 0, 0), (21, .lload 5, 0, 0), (23, .ldiv, 0, 0), (24, .putfield 25, 1, 6), (27, .return_, 0, 0)]
/-- RefusedOnce$Chances.sharedBy(JJ)J -/
def ro_c101 : List ro_In := [(0, .iconst 0, 0, 0), (1, .istore 4, 0, 0), (3, .iload 4, 0, 0), (5, .sipush 200, 0, 0), (8, .if_icmp .ge 25, 0, 0), (11, .lload_n 2, 0, 0), (12, .lconst 0, 0, 0), (13, .lcmp, 0, 0), (14, .ifCond .eq 19, 0, 0), (17, .lload_n 0, 0, 0), (18, .lload_n 2, 0, 0), (19, .lrem, 0, 0), (20, .lstore 5, 0, 0), (22, .lload_n 2, 0, 0), (23, .lstore_n 0, 0, 0), (24, .lload 5, 0, 0), (26, .lstore_n 2, 0, 0), (27, .iinc 4 1, 0, 0), (30, .goto (-27), 0, 0), (33, .lload_n 0, 0, 0), (34, .lreturn, 0, 0)]
/-- RefusedOnce$Chances.part(I)J -/
def ro_c102 : List ro_In := [(0, .iload_n 1, 0, 0), (1, .ifCond .ne 10, 0, 0), (4, .aload_n 0, 0, 0), (5, .getfield 37, 1, 5), (8, .goto 7, 0, 0), (11, .aload_n 0, 0, 0), (12, .getfield 25, 1, 6), (15, .lreturn, 0, 0)]
/-- RefusedOnce.mean(III)J -/
def ro_c103 : List ro_In := [(0, .aload_n 0, 0, 0), (1, .iload_n 1, 0, 0), (2, .invokevirtual 152, 56, 0), (5, .ifCond .eq 20, 0, 0), (8, .iload_n 2, 0, 0), (9, .iconst 0, 0, 0), (10, .bipush 8, 0, 0), (12, .invokestatic 76, 13, 0), (15, .ifCond .eq 10, 0, 0), (18, .iload_n 3, 0, 0), (19, .invokestatic 201, 95, 0), (22, .ifCond .ne 7, 0, 0), (25, .ldc2_w 204, 0, 0), (28, .lreturn, 0, 0), (29, .aload_n 0, 0, 0), (30, .getfield 49, 11, 5), (33, .iload_n 1, 0, 0), (34, .bipush 10, 0, 0), (36, .idiv, 0, 0), (37, .iload_n 1, 0, 0), (38, .bipush 10, 0, 0), (40, .irem, 0, 0), (41, .iload_n 2, 0, 0), (42, .invokevirtual 213, 104, 0), (45, .aload_n 0, 0, 0), (46, .getfield 49, 11, 5), (49, .iload_n 3, 0, 0), (50, .invokevirtual 209, 102, 0), (53, .lreturn, 0, 0)]
/-- RefusedOnce$Chances.meanRefused(III)V -/
def ro_c104 : List ro_In := [(0, .aload_n 0, 0, 0), (1, .iload_n 1, 0, 0), (2, .iload_n 2, 0, 0), (3, .iload_n 3, 0, 0), (4, .invokevirtual 49, 97, 0), (7, .lconst 0, 0, 0), (8, .lstore 4, 0, 0), (10, .iconst 1, 0, 0), (11, .istore 6, 0, 0), (13, .iload 6, 0, 0), (15, .aload_n 0, 0, 0), (16, .getfield 18, 1, 3), (19, .arraylength, 0, 0), (20, .if_icmp .ge 25, 0, 0), (23, .lload 4, 0, 0), (25, .iload 6, 0, 0), (27, .i2l, 0, 0), (28, .aload_n 0, 0, 0), (29, .getfield 18, 1, 3), (32, .iload 6, 0, 0), (34, .laload, 0, 0), (35, .lmul, 0, 0), (36, .ladd, 0, 0), (37, .lstore 4, 0, 0), (39, .iinc 6 1, 0, 0), (42, .goto (-29), 0, 0), (45, .aload_n 0, 0, 0), (46, .lload 4, 0, 0), (48, .iload_n 3, 0, 0), (49, .invokestatic 53, 99, 0), (52, .invokevirtual 57, 100, 0), (55, .return_, 0, 0)]
/-- RefusedOnce.stays(II)J -/
def ro_c105 : List ro_In := [(0, .iload_n 1, 0, 0), (1, .iconst 0, 0, 0), (2, .iconst 2, 0, 0), (3, .invokestatic 76, 13, 0), (6, .ifCond .eq 10, 0, 0), (9, .iload_n 2, 0, 0), (10, .invokestatic 201, 95, 0), (13, .ifCond .ne 7, 0, 0), (16, .ldc2_w 204, 0, 0), (19, .lreturn, 0, 0), (20, .aload_n 0, 0, 0), (21, .getfield 49, 11, 5), (24, .iload_n 1, 0, 0), (25, .invokevirtual 216, 106, 0), (28, .aload_n 0, 0, 0), (29, .getfield 49, 11, 5), (32, .iload_n 2, 0, 0), (33, .invokevirtual 209, 102, 0), (36, .lreturn, 0, 0)]
/-- RefusedOnce$Chances.allStayWhole(I)V -/
def ro_c106 : List ro_In := [(0, .aload_n 0, 0, 0), (1, .getfield 12, 1, 2), (4, .aload_n 0, 0, 0), (5, .getfield 29, 1, 0), (8, .getfield 63, 4, 0), (11, .aload_n 0, 0, 0), (12, .getfield 29, 1, 0), (15, .invokevirtual 68, 18, 0), (18, .invokevirtual 72, 68, 0), (21, .aload_n 0, 0, 0), (22, .invokevirtual 101, 107, 0), (25, .iload_n 1, 0, 0), (26, .ifCond .le 10, 0, 0), (29, .aload_n 0, 0, 0), (30, .getfield 104, 1, 7), (33, .ifCond .ne 12, 0, 0), (36, .aload_n 0, 0, 0), (37, .lconst 1, 0, 0), (38, .lconst 1, 0, 0), (39, .invokevirtual 57, 100, 0), (42, .goto 52, 0, 0), (45, .iload_n 1, 0, 0), (46, .iconst 1, 0, 0), (47, .if_icmp .ne 24, 0, 0), (50, .aload_n 0, 0, 0), (51, .aload_n 0, 0, 0), (52, .getfield 108, 1, 8), (55, .i2l, 0, 0), (56, .ldc2_w 61, 0, 0), (59, .aload_n 0, 0, 0), (60, .getfield 104, 1, 7), (63, .i2l, 0, 0), (64, .lmul, 0, 0), (65, .invokevirtual 57, 100, 0), (68, .goto 26, 0, 0), (71, .ldc2_w 111, 0, 0), (74, .aload_n 0, 0, 0), (75, .getfield 104, 1, 7), (78, .i2l, 0, 0), (79, .lmul, 0, 0), (80, .ldc2_w 113, 0, 0), (83, .lmul, 0, 0), (84, .lstore_n 2, 0, 0), (85, .aload_n 0, 0, 0), (86, .aload_n 0, 0, 0), (87, .invokevirtual 115, 108, 0), (90, .lload_n 2, 0, 0), (91, .invokevirtual 57, 100, 0), (94, .return_, 0, 0)]
/-- RefusedOnce$Chances.tally()V -/
def ro_c107 : List ro_In := [(0, .aload_n 0, 0, 0), (1, .iconst 0, 0, 0), (2, .putfield 104, 1, 7), (5, .aload_n 0, 0, 0), (6, .iconst 0, 0, 0), (7, .putfield 108, 1, 8), (10, .aload_n 0, 0, 0), (11, .getfield 29, 1, 0), (14, .invokevirtual 68, 18, 0), (17, .istore_n 1, 0, 0), (18, .iconst 0, 0, 0), (19, .istore_n 2, 0, 0), (20, .iload_n 2, 0, 0), (21, .iload_n 1, 0, 0), (22, .if_icmp .ge 78, 0, 0), (25, .iconst 0, 0, 0), (26, .istore_n 3, 0, 0), (27, .iload_n 3, 0, 0), (28, .iload_n 1, 0, 0), (29, .if_icmp .ge 65, 0, 0), (32, .iload_n 2, 0, 0), (33, .iload_n 3, 0, 0), (34, .if_icmp .eq 54, 0, 0), (37, .aload_n 0, 0, 0), (38, .getfield 12, 1, 2), (41, .iload_n 2, 0, 0), (42, .iload_n 3, 0, 0), (43, .invokevirtual 91, 75, 0), (46, .ifCond .eq 42, 0, 0), (49, .aload_n 0, 0, 0), (50, .dup, 0, 0), (51, .getfield 104, 1, 7), (54, .iconst 1, 0, 0), (55, .iadd, 0, 0), (56, .putfield 104, 1, 7), (59, .aload_n 0, 0, 0), (60, .dup, 0, 0), (61, .getfield 108, 1, 8), (64, .bipush 12, 0, 0), (66, .aload_n 0, 0, 0), (67, .getfield 33, 1, 1), (70, .aload_n 0, 0, 0), (71, .getfield 29, 1, 0), (74, .aload_n 0, 0, 0), (75, .getfield 12, 1, 2), (78, .iload_n 2, 0, 0), (79, .iload_n 3, 0, 0), (80, .invokevirtual 95, 58, 0), (83, .isub, 0, 0), (84, .iadd, 0, 0), (85, .putfield 108, 1, 8), (88, .iinc 3 1, 0, 0), (91, .goto (-64), 0, 0), (94, .iinc 2 1, 0, 0), (97, .goto (-77), 0, 0), (100, .return_, 0, 0)]
/-- RefusedOnce$Chances.takenTwice()J -/
def ro_c108_0 : List ro_In := [(0, .lconst 0, 0, 0), (1, .lstore_n 1, 0, 0), (2, .aload_n 0, 0, 0), (3, .getfield 29, 1, 0), (6, .invokevirtual 68, 18, 0), (9, .istore_n 3, 0, 0), (10, .iconst 0, 0, 0), (11, .istore 4, 0, 0), (13, .iload 4, 0, 0), (15, .iload_n 3, 0, 0), (16, .if_icmp .ge 130, 0, 0), (19, .iconst 0, 0, 0), (20, .istore 5, 0, 0), (22, .iload 5, 0, 0), (24, .iload_n 3, 0, 0), (25, .if_icmp .ge 115, 0, 0), (28, .iload 4, 0, 0), (30, .iload 5, 0, 0), (32, .if_icmp .eq 102, 0, 0), (35, .aload_n 0, 0, 0), (36, .getfield 12, 1, 2), (39, .iload 4, 0, 0), (41, .iload 5, 0, 0), (43, .invokevirtual 91, 75, 0), (46, .ifCond .eq 88, 0, 0), (49, .bipush 12, 0, 0), (51, .aload_n 0, 0, 0), (52, .getfield 33, 1, 1), (55, .aload_n 0, 0, 0), (56, .getfield 29, 1, 0), (59, .aload_n 0, 0, 0), (60, .getfield 12, 1, 2), (63, .iload 4, 0, 0), (65, .iload 5, 0, 0), (67, .invokevirtual 95, 58, 0), (70, .isub, 0, 0), (71, .i2l, 0, 0), (72, .lstore 6, 0, 0), (74, .aload_n 0, 0, 0), (75, .getfield 12, 1, 2), (78, .iload 4, 0, 0), (80, .iload 5, 0, 0), (82, .invokevirtual 119, 78, 0), (85, .aload_n 0, 0, 0), (86, .invokevirtual 101, 107, 0), (89, .aload_n 0, 0, 0), (90, .getfield 12, 1, 2), (93, .iload 5, 0, 0), (95, .iload 4, 0, 0), (97, .invokevirtual 119, 78, 0), (100, .lload_n 1, 0, 0), (101, .lload 6, 0, 0), (103, .aload_n 0, 0, 0), (104, .getfield 104, 1, 7), (107, .ifCond .le 21, 0, 0), (110, .aload_n 0, 0, 0), (111, .getfield 108, 1, 8), (114, .i2l, 0, 0), (115, .ldc2_w 113, 0, 0), (118, .aload_n 0, 0, 0)]
def ro_c108_1 : List ro_In := [(119, .getfield 104, 1, 7), (122, .i2l, 0, 0), (123, .ldiv, 0, 0), (124, .lmul, 0, 0), (125, .goto 6, 0, 0), (128, .ldc2_w 122, 0, 0), (131, .lmul, 0, 0), (132, .ladd, 0, 0), (133, .lstore_n 1, 0, 0), (134, .iinc 5 1, 0, 0), (137, .goto (-115), 0, 0), (140, .iinc 4 1, 0, 0), (143, .goto (-130), 0, 0), (146, .lload_n 1, 0, 0), (147, .lreturn, 0, 0)]
def ro_c108 : List ro_In := ro_c108_0 ++ (ro_c108_1)
/-- RefusedOnce.within(III)Z -/
def ro_c109 : List ro_In := []
/-- RefusedOnce.within(III)Z -/
def ro_c110 : List ro_In := []
/-- RefusedOnce.test(III)J -/
def ro_c111 : List ro_In := [(0, .aload_n 0, 0, 0), (1, .getfield 10, 11, 0), (4, .iload_n 1, 0, 0), (5, .invokevirtual 128, 29, 0), (8, .ifCond .eq 20, 0, 0), (11, .iload_n 2, 0, 0), (12, .iconst 0, 0, 0), (13, .bipush 20, 0, 0), (15, .invokestatic 76, 13, 0), (18, .ifCond .eq 10, 0, 0), (21, .iload_n 3, 0, 0), (22, .invokestatic 201, 95, 0), (25, .ifCond .ne 7, 0, 0), (28, .ldc2_w 204, 0, 0), (31, .lreturn, 0, 0), (32, .aload_n 0, 0, 0), (33, .getfield 49, 11, 5), (36, .iload_n 1, 0, 0), (37, .iload_n 2, 0, 0), (38, .iconst 1, 0, 0), (39, .invokevirtual 224, 112, 0), (42, .aload_n 0, 0, 0), (43, .getfield 49, 11, 5), (46, .iload_n 3, 0, 0), (47, .invokevirtual 209, 102, 0), (50, .lreturn, 0, 0)]
/-- RefusedOnce$Chances.forgedFound(III)V -/
def ro_c112 : List ro_In := [(0, .aload_n 0, 0, 0), (1, .getfield 29, 1, 0), (4, .iload_n 1, 0, 0), (5, .iconst 1, 0, 0), (6, .invokevirtual 80, 30, 0), (9, .istore 4, 0, 0), (11, .aload_n 0, 0, 0), (12, .getfield 29, 1, 0), (15, .iload_n 1, 0, 0), (16, .invokevirtual 124, 39, 0), (19, .istore 5, 0, 0), (21, .iload_n 2, 0, 0), (22, .iload 4, 0, 0), (24, .invokestatic 128, 1, 3), (27, .istore 6, 0, 0), (29, .lconst 0, 0, 0), (30, .lstore 7, 0, 0), (32, .iload_n 3, 0, 0), (33, .istore 9, 0, 0), (35, .iload 9, 0, 0), (37, .iload 6, 0, 0), (39, .if_icmp .gt 42, 0, 0), (42, .iload 9, 0, 0), (44, .bipush 20, 0, 0), (46, .if_icmp .gt 35, 0, 0), (49, .lload 7, 0, 0), (51, .iload 5, 0, 0), (53, .iload 9, 0, 0), (55, .invokestatic 131, 113, 0), (58, .iload 4, 0, 0), (60, .iload 5, 0, 0), (62, .isub, 0, 0), (63, .iload 6, 0, 0), (65, .iload 9, 0, 0), (67, .isub, 0, 0), (68, .invokestatic 131, 113, 0), (71, .lmul, 0, 0), (72, .ladd, 0, 0), (73, .lstore 7, 0, 0), (75, .iinc 9 1, 0, 0), (78, .goto (-43), 0, 0), (81, .aload_n 0, 0, 0), (82, .lload 7, 0, 0), (84, .iload 4, 0, 0), (86, .iload 6, 0, 0), (88, .invokestatic 131, 113, 0), (91, .invokevirtual 57, 100, 0), (94, .return_, 0, 0)]
/-- RefusedOnce$Chances.choices(II)J -/
def ro_c113 : List ro_In := [(0, .iload_n 1, 0, 0), (1, .ifCond .lt 8, 0, 0), (4, .iload_n 1, 0, 0), (5, .iload_n 0, 0, 0), (6, .if_icmp .le 5, 0, 0), (9, .lconst 0, 0, 0), (10, .lreturn, 0, 0), (11, .lconst 1, 0, 0), (12, .lstore_n 2, 0, 0), (13, .iconst 0, 0, 0), (14, .istore 4, 0, 0), (16, .iload 4, 0, 0), (18, .iload_n 1, 0, 0), (19, .if_icmp .ge 30, 0, 0), (22, .iload 4, 0, 0), (24, .bipush 20, 0, 0), (26, .if_icmp .ge 23, 0, 0), (29, .lload_n 2, 0, 0), (30, .iload_n 0, 0, 0), (31, .iload 4, 0, 0), (33, .isub, 0, 0), (34, .i2l, 0, 0), (35, .lmul, 0, 0), (36, .iload 4, 0, 0), (38, .iconst 1, 0, 0), (39, .iadd, 0, 0), (40, .i2l, 0, 0), (41, .ldiv, 0, 0), (42, .lstore_n 2, 0, 0), (43, .iinc 4 1, 0, 0), (46, .goto (-30), 0, 0), (49, .lload_n 2, 0, 0), (50, .lreturn, 0, 0)]
/-- RefusedOnce.enough(II)I -/
def ro_c114 : List ro_In := [(0, .aload_n 0, 0, 0), (1, .getfield 10, 11, 0), (4, .iload_n 1, 0, 0), (5, .invokevirtual 128, 29, 0), (8, .ifCond .eq 13, 0, 0), (11, .iload_n 2, 0, 0), (12, .iconst 0, 0, 0), (13, .bipush 12, 0, 0), (15, .invokestatic 76, 13, 0), (18, .ifCond .ne 5, 0, 0), (21, .iconst (-1), 0, 0), (22, .ireturn, 0, 0), (23, .aload_n 0, 0, 0), (24, .getfield 10, 11, 0), (27, .iload_n 1, 0, 0), (28, .iconst 1, 0, 0), (29, .invokevirtual 116, 30, 0), (32, .bipush 20, 0, 0), (34, .invokestatic 227, 1, 3), (37, .istore_n 3, 0, 0), (38, .iconst 0, 0, 0), (39, .istore 4, 0, 0), (41, .iload 4, 0, 0), (43, .iload_n 3, 0, 0), (44, .if_icmp .gt 50, 0, 0), (47, .aload_n 0, 0, 0), (48, .getfield 49, 11, 5), (51, .iload_n 1, 0, 0), (52, .iload 4, 0, 0), (54, .iconst 1, 0, 0), (55, .invokevirtual 224, 112, 0), (58, .aload_n 0, 0, 0), (59, .getfield 49, 11, 5), (62, .iconst 0, 0, 0), (63, .invokevirtual 209, 102, 0), (66, .ldc2_w 232, 0, 0), (69, .lmul, 0, 0), (70, .aload_n 0, 0, 0), (71, .getfield 49, 11, 5), (74, .iconst 1, 0, 0), (75, .invokevirtual 209, 102, 0), (78, .iload_n 2, 0, 0), (79, .i2l, 0, 0), (80, .lmul, 0, 0), (81, .lcmp, 0, 0), (82, .ifCond .lt 6, 0, 0), (85, .iload 4, 0, 0), (87, .ireturn, 0, 0), (88, .iinc 4 1, 0, 0), (91, .goto (-50), 0, 0), (94, .bipush (-2), 0, 0), (96, .ireturn, 0, 0)]
/-- RefusedOnce.honest(III)J -/
def ro_c115 : List ro_In := [(0, .iload_n 2, 0, 0), (1, .ifCond .lt 27, 0, 0), (4, .iload_n 2, 0, 0), (5, .bipush 10, 0, 0), (7, .idiv, 0, 0), (8, .iconst 0, 0, 0), (9, .bipush 20, 0, 0), (11, .invokestatic 76, 13, 0), (14, .ifCond .eq 14, 0, 0), (17, .iload_n 2, 0, 0), (18, .bipush 10, 0, 0), (20, .irem, 0, 0), (21, .ifCond .le 7, 0, 0), (24, .iconst 1, 0, 0), (25, .goto 4, 0, 0), (28, .iconst 0, 0, 0), (29, .istore 4, 0, 0), (31, .aload_n 0, 0, 0), (32, .getfield 10, 11, 0), (35, .iload_n 1, 0, 0), (36, .invokevirtual 128, 29, 0), (39, .ifCond .eq 15, 0, 0), (42, .iload 4, 0, 0), (44, .ifCond .eq 10, 0, 0), (47, .iload_n 3, 0, 0), (48, .invokestatic 201, 95, 0), (51, .ifCond .ne 7, 0, 0), (54, .ldc2_w 204, 0, 0), (57, .lreturn, 0, 0), (58, .aload_n 0, 0, 0), (59, .getfield 49, 11, 5), (62, .iload_n 1, 0, 0), (63, .iload_n 2, 0, 0), (64, .bipush 10, 0, 0), (66, .idiv, 0, 0), (67, .iload_n 2, 0, 0), (68, .bipush 10, 0, 0), (70, .irem, 0, 0), (71, .invokevirtual 224, 112, 0), (74, .aload_n 0, 0, 0), (75, .getfield 49, 11, 5), (78, .iload_n 3, 0, 0), (79, .invokevirtual 209, 102, 0), (82, .lreturn, 0, 0)]
/-- RefusedOnce.within(III)Z -/
def ro_c116 : List ro_In := []
/-- RefusedOnce.richest(I)I -/
def ro_c117 : List ro_In := [(0, .aload_n 0, 0, 0), (1, .getfield 10, 11, 0), (4, .iload_n 1, 0, 0), (5, .invokevirtual 128, 29, 0), (8, .ifCond .ne 5, 0, 0), (11, .iconst (-1), 0, 0), (12, .ireturn, 0, 0), (13, .iconst 0, 0, 0), (14, .istore_n 2, 0, 0), (15, .iconst 0, 0, 0), (16, .istore_n 3, 0, 0), (17, .iload_n 3, 0, 0), (18, .iconst 4, 0, 0), (19, .if_icmp .gt 27, 0, 0), (22, .aload_n 0, 0, 0), (23, .getfield 10, 11, 0), (26, .iload_n 3, 0, 0), (27, .invokevirtual 234, 118, 0), (30, .iload_n 1, 0, 0), (31, .if_icmp .ne 9, 0, 0), (34, .iload_n 2, 0, 0), (35, .iconst 1, 0, 0), (36, .iload_n 3, 0, 0), (37, .ishl, 0, 0), (38, .ior, 0, 0), (39, .istore_n 2, 0, 0), (40, .iinc 3 1, 0, 0), (43, .goto (-26), 0, 0), (46, .iload_n 2, 0, 0), (47, .ireturn, 0, 0)]
/-- RefusedOnce$Land.richestBy(I)I -/
def ro_c118 : List ro_In := [(0, .iconst 0, 0, 0), (1, .istore_n 2, 0, 0), (2, .iconst 1, 0, 0), (3, .istore_n 3, 0, 0), (4, .iload_n 3, 0, 0), (5, .aload_n 0, 0, 0), (6, .getfield 44, 4, 4), (9, .if_icmp .ge 32, 0, 0), (12, .aload_n 0, 0, 0), (13, .getfield 12, 4, 0), (16, .iload_n 3, 0, 0), (17, .iload_n 1, 0, 0), (18, .invokestatic 81, 38, 0), (21, .aload_n 0, 0, 0), (22, .getfield 12, 4, 0), (25, .iload_n 2, 0, 0), (26, .iload_n 1, 0, 0), (27, .invokestatic 81, 38, 0), (30, .if_icmp .le 5, 0, 0), (33, .iload_n 3, 0, 0), (34, .istore_n 2, 0, 0), (35, .iinc 3 1, 0, 0), (38, .goto (-34), 0, 0), (41, .iload_n 2, 0, 0), (42, .ireturn, 0, 0)]
/-- RefusedOnce.behind(III)I -/
def ro_c119_0 : List ro_In := [(0, .aload_n 0, 0, 0), (1, .iload_n 1, 0, 0), (2, .invokevirtual 87, 20, 0), (5, .astore 4, 0, 0), (7, .aload_n 0, 0, 0), (8, .iload_n 2, 0, 0), (9, .invokevirtual 87, 20, 0), (12, .astore 5, 0, 0), (14, .aload 4, 0, 0), (16, .ifnull 17, 0, 0), (19, .aload 5, 0, 0), (21, .ifnull 12, 0, 0), (24, .iload_n 3, 0, 0), (25, .iconst 0, 0, 0), (26, .iconst 3, 0, 0), (27, .invokestatic 76, 13, 0), (30, .ifCond .ne 5, 0, 0), (33, .iconst (-1), 0, 0), (34, .ireturn, 0, 0), (35, .aload 4, 0, 0), (37, .invokevirtual 95, 22, 0), (40, .ifCond .ne 9, 0, 0), (43, .aload 4, 0, 0), (45, .invokevirtual 159, 65, 0), (48, .ireturn, 0, 0), (49, .aload 5, 0, 0), (51, .invokevirtual 95, 22, 0), (54, .ifCond .ne 9, 0, 0), (57, .aload 5, 0, 0), (59, .invokevirtual 159, 65, 0), (62, .ireturn, 0, 0), (63, .aload_n 0, 0, 0), (64, .getfield 35, 11, 3), (67, .aload 4, 0, 0), (69, .invokevirtual 162, 66, 0), (72, .aload_n 0, 0, 0), (73, .getfield 72, 11, 8), (76, .aload 5, 0, 0), (78, .invokevirtual 237, 120, 0), (81, .iload_n 3, 0, 0), (82, .ifCond .ne 11, 0, 0), (85, .aload_n 0, 0, 0), (86, .getfield 72, 11, 8), (89, .invokevirtual 239, 136, 0), (92, .ireturn, 0, 0), (93, .iload_n 3, 0, 0), (94, .iconst 3, 0, 0), (95, .if_icmp .ne 11, 0, 0), (98, .aload_n 0, 0, 0), (99, .getfield 72, 11, 8), (102, .invokevirtual 240, 137, 0), (105, .ireturn, 0, 0), (106, .aload_n 0, 0, 0), (107, .getfield 72, 11, 8), (110, .invokevirtual 239, 136, 0), (113, .ifCond .ne 6, 0, 0), (116, .bipush (-2), 0, 0), (118, .ireturn, 0, 0), (119, .iload_n 3, 0, 0), (120, .iconst 1, 0, 0)]
def ro_c119_1 : List ro_In := [(121, .if_icmp .ne 13, 0, 0), (124, .aload_n 0, 0, 0), (125, .getfield 72, 11, 8), (128, .invokevirtual 243, 138, 0), (131, .goto 10, 0, 0), (134, .aload_n 0, 0, 0), (135, .getfield 72, 11, 8), (138, .invokevirtual 246, 139, 0), (141, .ireturn, 0, 0)]
def ro_c119 : List ro_In := ro_c119_0 ++ (ro_c119_1)
/-- RefusedOnce$Ways.find(LRefusedOnce$Shelf;)V -/
def ro_c120_0 : List ro_In := [(0, .aload_n 0, 0, 0), (1, .getfield 35, 10, 8), (4, .iconst 0, 0, 0), (5, .putfield 50, 6, 4), (8, .aload_n 0, 0, 0), (9, .getfield 46, 10, 1), (12, .invokevirtual 64, 121, 0), (15, .bipush 20, 0, 0), (17, .invokestatic 70, 1, 3), (20, .istore_n 2, 0, 0), (21, .aload_n 0, 0, 0), (22, .iload_n 2, 0, 0), (23, .aload_n 1, 0, 0), (24, .invokevirtual 76, 122, 0), (27, .ifCond .ne 4, 0, 0), (30, .return_, 0, 0), (31, .iload_n 2, 0, 0), (32, .iconst 1, 0, 0), (33, .isub, 0, 0), (34, .istore_n 3, 0, 0), (35, .iload_n 3, 0, 0), (36, .ifCond .lt 14, 0, 0), (39, .aload_n 0, 0, 0), (40, .iload_n 3, 0, 0), (41, .invokevirtual 80, 124, 0), (44, .iinc 3 (-1), 0, 0), (47, .goto (-12), 0, 0), (50, .aload_n 0, 0, 0), (51, .invokevirtual 84, 128, 0), (54, .aload_n 0, 0, 0), (55, .aload_n 0, 0, 0), (56, .invokevirtual 87, 129, 0), (59, .iconst 1, 0, 0), (60, .iconst 0, 0, 0), (61, .iconst 0, 0, 0), (62, .invokevirtual 91, 131, 0), (65, .aload_n 0, 0, 0), (66, .invokevirtual 95, 133, 0), (69, .iconst 0, 0, 0), (70, .istore_n 3, 0, 0), (71, .iload_n 3, 0, 0), (72, .iload_n 2, 0, 0), (73, .if_icmp .ge 53, 0, 0), (76, .aload_n 0, 0, 0), (77, .invokevirtual 84, 128, 0), (80, .iconst 0, 0, 0), (81, .istore 4, 0, 0), (83, .iload 4, 0, 0), (85, .aload_n 0, 0, 0), (86, .getfield 35, 10, 8), (89, .getfield 50, 6, 4), (92, .if_icmp .ge 24, 0, 0), (95, .iload 4, 0, 0), (97, .sipush 8192, 0, 0), (100, .if_icmp .ge 16, 0, 0), (103, .aload_n 0, 0, 0), (104, .iload 4, 0, 0), (106, .iload_n 3, 0, 0), (107, .invokevirtual 98, 134, 0), (110, .iinc 4 1, 0, 0)]
def ro_c120_1 : List ro_In := [(113, .goto (-30), 0, 0), (116, .aload_n 0, 0, 0), (117, .invokevirtual 95, 133, 0), (120, .iinc 3 1, 0, 0), (123, .goto (-52), 0, 0), (126, .return_, 0, 0)]
def ro_c120 : List ro_In := ro_c120_0 ++ (ro_c120_1)
/-- RefusedOnce$Evening.length()I -/
def ro_c121 : List ro_In := [(0, .aload_n 0, 0, 0), (1, .getfield 36, 3, 6), (4, .ireturn, 0, 0)]
/-- RefusedOnce$Ways.endAt(ILRefusedOnce$Shelf;)Z -/
def ro_c122_0 : List ro_In := [(0, .iconst 0, 0, 0), (1, .istore_n 3, 0, 0), (2, .iload_n 3, 0, 0), (3, .bipush 12, 0, 0), (5, .if_icmp .ge 113, 0, 0), (8, .iload_n 3, 0, 0), (9, .bipush 6, 0, 0), (11, .irem, 0, 0), (12, .istore 4, 0, 0), (14, .iconst 2, 0, 0), (15, .iload 4, 0, 0), (17, .imul, 0, 0), (18, .iload_n 3, 0, 0), (19, .bipush 6, 0, 0), (21, .idiv, 0, 0), (22, .iadd, 0, 0), (23, .istore 5, 0, 0), (25, .aload_n 0, 0, 0), (26, .getfield 42, 10, 0), (29, .iload 4, 0, 0), (31, .invokevirtual 102, 29, 0), (34, .ifCond .eq 16, 0, 0), (37, .iload 5, 0, 0), (39, .aload_n 2, 0, 0), (40, .invokevirtual 108, 24, 0), (43, .if_icmp .ge 7, 0, 0), (46, .iconst 1, 0, 0), (47, .goto 4, 0, 0), (50, .iconst 0, 0, 0), (51, .istore 6, 0, 0), (53, .iload 6, 0, 0), (55, .ifCond .eq 12, 0, 0), (58, .aload_n 2, 0, 0), (59, .iload 5, 0, 0), (61, .invokevirtual 111, 25, 0), (64, .goto 4, 0, 0), (67, .iconst 0, 0, 0), (68, .istore 7, 0, 0), (70, .iload 6, 0, 0), (72, .ifCond .eq 12, 0, 0), (75, .aload_n 2, 0, 0), (76, .iload 5, 0, 0), (78, .invokevirtual 111, 25, 0), (81, .goto 5, 0, 0), (84, .bipush 20, 0, 0), (86, .istore 8, 0, 0), (88, .iload 7, 0, 0), (90, .ifCond .lt 10, 0, 0), (93, .iload 8, 0, 0), (95, .bipush 20, 0, 0), (97, .if_icmp .le 5, 0, 0), (100, .iconst 0, 0, 0), (101, .ireturn, 0, 0), (102, .aload_n 0, 0, 0), (103, .iload_n 1, 0, 0), (104, .iload_n 3, 0, 0), (105, .iload 7, 0, 0), (107, .iload 8, 0, 0), (109, .invokevirtual 115, 123, 0), (112, .iinc 3 1, 0, 0)]
def ro_c122_1 : List ro_In := [(115, .goto (-113), 0, 0), (118, .iconst 1, 0, 0), (119, .ireturn, 0, 0)]
def ro_c122 : List ro_In := ro_c122_0 ++ (ro_c122_1)
/-- RefusedOnce$Ways.allow(IIII)V -/
def ro_c123 : List ro_In := [(0, .iload_n 1, 0, 0), (1, .ifCond .lt 57, 0, 0), (4, .iload_n 1, 0, 0), (5, .bipush 20, 0, 0), (7, .if_icmp .gt 51, 0, 0), (10, .iload_n 2, 0, 0), (11, .ifCond .lt 47, 0, 0), (14, .iload_n 2, 0, 0), (15, .bipush 12, 0, 0), (17, .if_icmp .ge 41, 0, 0), (20, .aload_n 0, 0, 0), (21, .getfield 13, 10, 2), (24, .iload_n 1, 0, 0), (25, .aaload, 0, 0), (26, .iload_n 2, 0, 0), (27, .iload_n 3, 0, 0), (28, .iastore, 0, 0), (29, .aload_n 0, 0, 0), (30, .getfield 16, 10, 3), (33, .iload_n 1, 0, 0), (34, .aaload, 0, 0), (35, .iload_n 2, 0, 0), (36, .iload 4, 0, 0), (38, .iastore, 0, 0), (39, .aload_n 0, 0, 0), (40, .getfield 19, 10, 4), (43, .iload_n 1, 0, 0), (44, .aaload, 0, 0), (45, .iload_n 2, 0, 0), (46, .iload_n 3, 0, 0), (47, .iastore, 0, 0), (48, .aload_n 0, 0, 0), (49, .getfield 22, 10, 5), (52, .iload_n 1, 0, 0), (53, .aaload, 0, 0), (54, .iload_n 2, 0, 0), (55, .iload 4, 0, 0), (57, .iastore, 0, 0), (58, .return_, 0, 0)]
/-- RefusedOnce$Ways.comeBackOver(I)V -/
def ro_c124_0 : List ro_In := [(0, .iload_n 1, 0, 0), (1, .ifCond .lt 9, 0, 0), (4, .iload_n 1, 0, 0), (5, .bipush 20, 0, 0), (7, .if_icmp .lt 4, 0, 0), (10, .return_, 0, 0), (11, .aload_n 0, 0, 0), (12, .getfield 13, 10, 2), (15, .iload_n 1, 0, 0), (16, .iconst 1, 0, 0), (17, .iadd, 0, 0), (18, .aaload, 0, 0), (19, .iconst 0, 0, 0), (20, .aload_n 0, 0, 0), (21, .getfield 13, 10, 2), (24, .iload_n 1, 0, 0), (25, .aaload, 0, 0), (26, .iconst 0, 0, 0), (27, .bipush 12, 0, 0), (29, .invokestatic 119, 0, 4), (32, .aload_n 0, 0, 0), (33, .getfield 16, 10, 3), (36, .iload_n 1, 0, 0), (37, .iconst 1, 0, 0), (38, .iadd, 0, 0), (39, .aaload, 0, 0), (40, .iconst 0, 0, 0), (41, .aload_n 0, 0, 0), (42, .getfield 16, 10, 3), (45, .iload_n 1, 0, 0), (46, .aaload, 0, 0), (47, .iconst 0, 0, 0), (48, .bipush 12, 0, 0), (50, .invokestatic 119, 0, 4), (53, .aload_n 0, 0, 0), (54, .getfield 19, 10, 4), (57, .iload_n 1, 0, 0), (58, .iconst 1, 0, 0), (59, .iadd, 0, 0), (60, .aaload, 0, 0), (61, .iconst 0, 0, 0), (62, .aload_n 0, 0, 0), (63, .getfield 19, 10, 4), (66, .iload_n 1, 0, 0), (67, .aaload, 0, 0), (68, .iconst 0, 0, 0), (69, .bipush 12, 0, 0), (71, .invokestatic 119, 0, 4), (74, .aload_n 0, 0, 0), (75, .getfield 22, 10, 5), (78, .iload_n 1, 0, 0), (79, .iconst 1, 0, 0), (80, .iadd, 0, 0), (81, .aaload, 0, 0), (82, .iconst 0, 0, 0), (83, .aload_n 0, 0, 0), (84, .getfield 22, 10, 5), (87, .iload_n 1, 0, 0), (88, .aaload, 0, 0), (89, .iconst 0, 0, 0)]
def ro_c124_1 : List ro_In := [(90, .bipush 12, 0, 0), (92, .invokestatic 119, 0, 4), (95, .aload_n 0, 0, 0), (96, .getfield 46, 10, 1), (99, .iload_n 1, 0, 0), (100, .invokevirtual 125, 69, 0), (103, .istore_n 2, 0, 0), (104, .aload_n 0, 0, 0), (105, .getfield 46, 10, 1), (108, .iload_n 1, 0, 0), (109, .invokevirtual 128, 70, 0), (112, .istore_n 3, 0, 0), (113, .aload_n 0, 0, 0), (114, .getfield 46, 10, 1), (117, .iload_n 1, 0, 0), (118, .invokevirtual 131, 71, 0), (121, .ifCond .eq 30, 0, 0), (124, .aload_n 0, 0, 0), (125, .iload_n 1, 0, 0), (126, .iload_n 2, 0, 0), (127, .iconst 1, 0, 0), (128, .bipush 20, 0, 0), (130, .invokevirtual 134, 125, 0), (133, .aload_n 0, 0, 0), (134, .iload_n 1, 0, 0), (135, .iload_n 3, 0, 0), (136, .invokevirtual 137, 127, 0), (139, .aload_n 0, 0, 0), (140, .iload_n 1, 0, 0), (141, .bipush 6, 0, 0), (143, .iload_n 2, 0, 0), (144, .iadd, 0, 0), (145, .invokevirtual 137, 127, 0), (148, .goto 27, 0, 0), (151, .aload_n 0, 0, 0), (152, .iload_n 1, 0, 0), (153, .bipush 6, 0, 0), (155, .iload_n 2, 0, 0), (156, .iadd, 0, 0), (157, .iconst 1, 0, 0), (158, .bipush 20, 0, 0), (160, .invokevirtual 134, 125, 0), (163, .aload_n 0, 0, 0), (164, .iload_n 1, 0, 0), (165, .bipush 6, 0, 0), (167, .iload_n 3, 0, 0), (168, .iadd, 0, 0), (169, .iconst (-1), 0, 0), (170, .bipush 19, 0, 0), (172, .invokevirtual 134, 125, 0), (175, .return_, 0, 0)]
def ro_c124 : List ro_In := ro_c124_0 ++ (ro_c124_1)
/-- RefusedOnce$Ways.moveBoth(IIII)V -/
def ro_c125 : List ro_In := [(0, .iload_n 1, 0, 0), (1, .ifCond .lt 49, 0, 0), (4, .iload_n 1, 0, 0), (5, .bipush 20, 0, 0), (7, .if_icmp .gt 43, 0, 0), (10, .aload_n 0, 0, 0), (11, .getfield 13, 10, 2), (14, .iload_n 1, 0, 0), (15, .aaload, 0, 0), (16, .aload_n 0, 0, 0), (17, .getfield 16, 10, 3), (20, .iload_n 1, 0, 0), (21, .aaload, 0, 0), (22, .iload_n 2, 0, 0), (23, .iload_n 3, 0, 0), (24, .iload_n 3, 0, 0), (25, .iload 4, 0, 0), (27, .invokestatic 140, 126, 0), (30, .aload_n 0, 0, 0), (31, .getfield 19, 10, 4), (34, .iload_n 1, 0, 0), (35, .aaload, 0, 0), (36, .aload_n 0, 0, 0), (37, .getfield 22, 10, 5), (40, .iload_n 1, 0, 0), (41, .aaload, 0, 0), (42, .iload_n 2, 0, 0), (43, .iload_n 3, 0, 0), (44, .iload_n 3, 0, 0), (45, .iload 4, 0, 0), (47, .invokestatic 140, 126, 0), (50, .return_, 0, 0)]
/-- RefusedOnce$Ways.bound([I[IIIII)V -/
def ro_c126 : List ro_In := [(0, .iload_n 2, 0, 0), (1, .ifCond .lt 15, 0, 0), (4, .iload_n 2, 0, 0), (5, .aload_n 0, 0, 0), (6, .arraylength, 0, 0), (7, .if_icmp .ge 9, 0, 0), (10, .iload_n 2, 0, 0), (11, .aload_n 1, 0, 0), (12, .arraylength, 0, 0), (13, .if_icmp .lt 4, 0, 0), (16, .return_, 0, 0), (17, .iconst 0, 0, 0), (18, .aload_n 0, 0, 0), (19, .iload_n 2, 0, 0), (20, .iaload, 0, 0), (21, .iload_n 3, 0, 0), (22, .iadd, 0, 0), (23, .invokestatic 144, 0, 3), (26, .istore 6, 0, 0), (28, .iload 5, 0, 0), (30, .aload_n 1, 0, 0), (31, .iload_n 2, 0, 0), (32, .iaload, 0, 0), (33, .iload 4, 0, 0), (35, .iadd, 0, 0), (36, .invokestatic 70, 1, 3), (39, .istore 7, 0, 0), (41, .aload_n 0, 0, 0), (42, .iload_n 2, 0, 0), (43, .iload 6, 0, 0), (45, .iload 7, 0, 0), (47, .if_icmp .le 8, 0, 0), (50, .bipush 99, 0, 0), (52, .goto 5, 0, 0), (55, .iload 6, 0, 0), (57, .iastore, 0, 0), (58, .aload_n 1, 0, 0), (59, .iload_n 2, 0, 0), (60, .iload 6, 0, 0), (62, .iload 7, 0, 0), (64, .if_icmp .le 8, 0, 0), (67, .bipush (-99), 0, 0), (69, .goto 5, 0, 0), (72, .iload 7, 0, 0), (74, .iastore, 0, 0), (75, .return_, 0, 0)]
/-- RefusedOnce$Ways.widen(II)V -/
def ro_c127 : List ro_In := [(0, .iload_n 1, 0, 0), (1, .ifCond .lt 49, 0, 0), (4, .iload_n 1, 0, 0), (5, .bipush 20, 0, 0), (7, .if_icmp .gt 43, 0, 0), (10, .aload_n 0, 0, 0), (11, .getfield 13, 10, 2), (14, .iload_n 1, 0, 0), (15, .aaload, 0, 0), (16, .aload_n 0, 0, 0), (17, .getfield 16, 10, 3), (20, .iload_n 1, 0, 0), (21, .aaload, 0, 0), (22, .iload_n 2, 0, 0), (23, .iconst (-1), 0, 0), (24, .iconst 0, 0, 0), (25, .bipush 19, 0, 0), (27, .invokestatic 140, 126, 0), (30, .aload_n 0, 0, 0), (31, .getfield 19, 10, 4), (34, .iload_n 1, 0, 0), (35, .aaload, 0, 0), (36, .aload_n 0, 0, 0), (37, .getfield 22, 10, 5), (40, .iload_n 1, 0, 0), (41, .aaload, 0, 0), (42, .iload_n 2, 0, 0), (43, .iconst 0, 0, 0), (44, .iconst (-1), 0, 0), (45, .bipush 19, 0, 0), (47, .invokestatic 140, 126, 0), (50, .return_, 0, 0)]
/-- RefusedOnce$Ways.clear()V -/
def ro_c128 : List ro_In := [(0, .aload_n 0, 0, 0), (1, .getfield 39, 10, 9), (4, .iconst 0, 0, 0), (5, .putfield 50, 6, 4), (8, .iconst 0, 0, 0), (9, .istore_n 1, 0, 0), (10, .iload_n 1, 0, 0), (11, .sipush 1024, 0, 0), (14, .if_icmp .ge 16, 0, 0), (17, .aload_n 0, 0, 0), (18, .getfield 25, 10, 6), (21, .iload_n 1, 0, 0), (22, .iconst 0, 0, 0), (23, .iastore, 0, 0), (24, .iinc 1 1, 0, 0), (27, .goto (-17), 0, 0), (30, .return_, 0, 0)]
/-- RefusedOnce$Ways.startKey()J -/
def ro_c129 : List ro_In := [(0, .lconst 0, 0, 0), (1, .lstore_n 1, 0, 0), (2, .iconst 0, 0, 0), (3, .istore_n 3, 0, 0), (4, .iload_n 3, 0, 0), (5, .bipush 6, 0, 0), (7, .if_icmp .ge 74, 0, 0), (10, .aload_n 0, 0, 0), (11, .getfield 42, 10, 0), (14, .iload_n 3, 0, 0), (15, .invokevirtual 102, 29, 0), (18, .istore 4, 0, 0), (20, .aload_n 0, 0, 0), (21, .iconst 0, 0, 0), (22, .lload_n 1, 0, 0), (23, .iload_n 3, 0, 0), (24, .iload 4, 0, 0), (26, .ifCond .eq 15, 0, 0), (29, .aload_n 0, 0, 0), (30, .getfield 42, 10, 0), (33, .iload_n 3, 0, 0), (34, .iconst 0, 0, 0), (35, .invokevirtual 147, 30, 0), (38, .goto 4, 0, 0), (41, .iconst 0, 0, 0), (42, .invokevirtual 150, 130, 0), (45, .lstore_n 1, 0, 0), (46, .aload_n 0, 0, 0), (47, .iconst 0, 0, 0), (48, .lload_n 1, 0, 0), (49, .bipush 6, 0, 0), (51, .iload_n 3, 0, 0), (52, .iadd, 0, 0), (53, .iload 4, 0, 0), (55, .ifCond .eq 15, 0, 0), (58, .aload_n 0, 0, 0), (59, .getfield 42, 10, 0), (62, .iload_n 3, 0, 0), (63, .iconst 1, 0, 0), (64, .invokevirtual 147, 30, 0), (67, .goto 4, 0, 0), (70, .iconst 0, 0, 0), (71, .invokevirtual 150, 130, 0), (74, .lstore_n 1, 0, 0), (75, .iinc 3 1, 0, 0), (78, .goto (-74), 0, 0), (81, .lload_n 1, 0, 0), (82, .lreturn, 0, 0)]
/-- RefusedOnce$Ways.settle(IJII)J -/
def ro_c130_0 : List ro_In := [(0, .lload_n 2, 0, 0), (1, .lconst 0, 0, 0), (2, .lcmp, 0, 0), (3, .ifCond .lt 25, 0, 0), (6, .iload_n 1, 0, 0), (7, .ifCond .lt 21, 0, 0), (10, .iload_n 1, 0, 0), (11, .bipush 20, 0, 0), (13, .if_icmp .gt 15, 0, 0), (16, .iload 4, 0, 0), (18, .ifCond .lt 10, 0, 0), (21, .iload 4, 0, 0), (23, .bipush 12, 0, 0), (25, .if_icmp .lt 7, 0, 0), (28, .ldc2_w 154, 0, 0), (31, .lreturn, 0, 0), (32, .iload 5, 0, 0), (34, .aload_n 0, 0, 0), (35, .getfield 13, 10, 2), (38, .iload_n 1, 0, 0), (39, .aaload, 0, 0), (40, .iload 4, 0, 0), (42, .iaload, 0, 0), (43, .if_icmp .lt 17, 0, 0), (46, .iload 5, 0, 0), (48, .aload_n 0, 0, 0), (49, .getfield 16, 10, 3), (52, .iload_n 1, 0, 0), (53, .aaload, 0, 0), (54, .iload 4, 0, 0), (56, .iaload, 0, 0), (57, .if_icmp .le 7, 0, 0), (60, .ldc2_w 154, 0, 0), (63, .lreturn, 0, 0), (64, .iload 5, 0, 0), (66, .aload_n 0, 0, 0), (67, .getfield 19, 10, 4), (70, .iload_n 1, 0, 0), (71, .aaload, 0, 0), (72, .iload 4, 0, 0), (74, .iaload, 0, 0), (75, .if_icmp .lt 21, 0, 0), (78, .iload 5, 0, 0), (80, .aload_n 0, 0, 0), (81, .getfield 22, 10, 5), (84, .iload_n 1, 0, 0), (85, .aaload, 0, 0), (86, .iload 4, 0, 0), (88, .iaload, 0, 0), (89, .if_icmp .gt 7, 0, 0), (92, .iconst 1, 0, 0), (93, .goto 4, 0, 0), (96, .iconst 0, 0, 0), (97, .istore 6, 0, 0), (99, .iload 6, 0, 0), (101, .ifCond .eq 9, 0, 0), (104, .ldc2_w 156, 0, 0), (107, .goto 6, 0, 0), (110, .iload 5, 0, 0), (112, .i2l, 0, 0)]
def ro_c130_1 : List ro_In := [(113, .lstore 7, 0, 0), (115, .iconst 5, 0, 0), (116, .iload 4, 0, 0), (118, .imul, 0, 0), (119, .istore 9, 0, 0), (121, .lload_n 2, 0, 0), (122, .ldc2_w 156, 0, 0), (125, .iload 9, 0, 0), (127, .lshl, 0, 0), (128, .ldc2_w 154, 0, 0), (131, .lxor, 0, 0), (132, .land, 0, 0), (133, .lload 7, 0, 0), (135, .iload 9, 0, 0), (137, .lshl, 0, 0), (138, .lor, 0, 0), (139, .lreturn, 0, 0)]
def ro_c130 : List ro_In := ro_c130_0 ++ (ro_c130_1)
/-- RefusedOnce$Ways.reach(JIII)V -/
def ro_c131_0 : List ro_In := [(0, .lload_n 1, 0, 0), (1, .invokestatic 166, 132, 0), (4, .istore 6, 0, 0), (6, .lload_n 1, 0, 0), (7, .lconst 0, 0, 0), (8, .lcmp, 0, 0), (9, .ifCond .lt 16, 0, 0), (12, .iload 6, 0, 0), (14, .ifCond .lt 11, 0, 0), (17, .iload 6, 0, 0), (19, .sipush 1024, 0, 0), (22, .if_icmp .lt 4, 0, 0), (25, .return_, 0, 0), (26, .aload_n 0, 0, 0), (27, .getfield 25, 10, 6), (30, .iload 6, 0, 0), (32, .iaload, 0, 0), (33, .iconst 1, 0, 0), (34, .isub, 0, 0), (35, .istore 7, 0, 0), (37, .iconst 0, 0, 0), (38, .istore 8, 0, 0), (40, .iload 8, 0, 0), (42, .sipush 8192, 0, 0), (45, .if_icmp .ge 115, 0, 0), (48, .iload 7, 0, 0), (50, .ifCond .lt 110, 0, 0), (53, .iload 7, 0, 0), (55, .aload_n 0, 0, 0), (56, .getfield 39, 10, 9), (59, .getfield 50, 6, 4), (62, .if_icmp .ge 98, 0, 0), (65, .iload 7, 0, 0), (67, .sipush 8192, 0, 0), (70, .if_icmp .ge 90, 0, 0), (73, .aload_n 0, 0, 0), (74, .getfield 39, 10, 9), (77, .getfield 158, 6, 0), (80, .iload 7, 0, 0), (82, .laload, 0, 0), (83, .lload_n 1, 0, 0), (84, .lcmp, 0, 0), (85, .ifCond .ne 58, 0, 0), (88, .aload_n 0, 0, 0), (89, .getfield 39, 10, 9), (92, .getfield 54, 6, 1), (95, .iload 7, 0, 0), (97, .dup2, 0, 0), (98, .iaload, 0, 0), (99, .iload_n 3, 0, 0), (100, .iadd, 0, 0), (101, .iastore, 0, 0), (102, .aload_n 0, 0, 0), (103, .getfield 39, 10, 9), (106, .getfield 57, 6, 2), (109, .iload 7, 0, 0), (111, .aload_n 0, 0, 0), (112, .getfield 39, 10, 9), (115, .getfield 57, 6, 2), (118, .iload 7, 0, 0)]
def ro_c131_1 : List ro_In := [(120, .iaload, 0, 0), (121, .iload 4, 0, 0), (123, .invokestatic 70, 1, 3), (126, .iastore, 0, 0), (127, .aload_n 0, 0, 0), (128, .getfield 39, 10, 9), (131, .getfield 61, 6, 3), (134, .iload 7, 0, 0), (136, .dup2, 0, 0), (137, .iaload, 0, 0), (138, .iload 5, 0, 0), (140, .iand, 0, 0), (141, .iastore, 0, 0), (142, .return_, 0, 0), (143, .aload_n 0, 0, 0), (144, .getfield 29, 10, 7), (147, .iload 7, 0, 0), (149, .iaload, 0, 0), (150, .iconst 1, 0, 0), (151, .isub, 0, 0), (152, .istore 7, 0, 0), (154, .iinc 8 1, 0, 0), (157, .goto (-117), 0, 0), (160, .aload_n 0, 0, 0), (161, .getfield 39, 10, 9), (164, .getfield 50, 6, 4), (167, .istore 8, 0, 0), (169, .iload 8, 0, 0), (171, .ifCond .lt 11, 0, 0), (174, .iload 8, 0, 0), (176, .sipush 8192, 0, 0), (179, .if_icmp .lt 4, 0, 0), (182, .return_, 0, 0), (183, .aload_n 0, 0, 0), (184, .getfield 39, 10, 9), (187, .getfield 158, 6, 0), (190, .iload 8, 0, 0), (192, .lload_n 1, 0, 0), (193, .lastore, 0, 0), (194, .aload_n 0, 0, 0), (195, .getfield 39, 10, 9), (198, .getfield 54, 6, 1), (201, .iload 8, 0, 0), (203, .iload_n 3, 0, 0), (204, .iastore, 0, 0), (205, .aload_n 0, 0, 0), (206, .getfield 39, 10, 9), (209, .getfield 57, 6, 2), (212, .iload 8, 0, 0), (214, .iload 4, 0, 0), (216, .iastore, 0, 0), (217, .aload_n 0, 0, 0), (218, .getfield 39, 10, 9), (221, .getfield 61, 6, 3), (224, .iload 8, 0, 0), (226, .iload 5, 0, 0), (228, .iastore, 0, 0), (229, .aload_n 0, 0, 0), (230, .getfield 29, 10, 7), (233, .iload 8, 0, 0)]
def ro_c131_2 : List ro_In := [(235, .aload_n 0, 0, 0), (236, .getfield 25, 10, 6), (239, .iload 6, 0, 0), (241, .iaload, 0, 0), (242, .iastore, 0, 0), (243, .aload_n 0, 0, 0), (244, .getfield 39, 10, 9), (247, .iload 8, 0, 0), (249, .iconst 1, 0, 0), (250, .iadd, 0, 0), (251, .putfield 50, 6, 4), (254, .aload_n 0, 0, 0), (255, .getfield 25, 10, 6), (258, .iload 6, 0, 0), (260, .aload_n 0, 0, 0), (261, .getfield 39, 10, 9), (264, .getfield 50, 6, 4), (267, .iastore, 0, 0), (268, .return_, 0, 0)]
def ro_c131 : List ro_In := ro_c131_0 ++ (ro_c131_1 ++ (ro_c131_2))
/-- RefusedOnce$Ways.headOf(J)I -/
def ro_c132 : List ro_In := [(0, .lload_n 0, 0, 0), (1, .lload_n 0, 0, 0), (2, .bipush 32, 0, 0), (4, .lushr, 0, 0), (5, .lxor, 0, 0), (6, .ldc2_w 170, 0, 0), (9, .lmul, 0, 0), (10, .lstore_n 2, 0, 0), (11, .lload_n 2, 0, 0), (12, .bipush 40, 0, 0), (14, .lushr, 0, 0), (15, .l2i, 0, 0), (16, .sipush 1023, 0, 0), (19, .iand, 0, 0), (20, .ireturn, 0, 0)]
/-- RefusedOnce$Ways.turn()V -/
def ro_c133 : List ro_In := [(0, .aload_n 0, 0, 0), (1, .getfield 35, 10, 8), (4, .astore_n 1, 0, 0), (5, .aload_n 0, 0, 0), (6, .aload_n 0, 0, 0), (7, .getfield 39, 10, 9), (10, .putfield 35, 10, 8), (13, .aload_n 0, 0, 0), (14, .aload_n 1, 0, 0), (15, .putfield 39, 10, 9), (18, .return_, 0, 0)]
/-- RefusedOnce$Ways.goOn(II)V -/
def ro_c134_0 : List ro_In := [(0, .iload_n 1, 0, 0), (1, .ifCond .lt 20, 0, 0), (4, .iload_n 1, 0, 0), (5, .sipush 8192, 0, 0), (8, .if_icmp .ge 13, 0, 0), (11, .iload_n 2, 0, 0), (12, .ifCond .lt 9, 0, 0), (15, .iload_n 2, 0, 0), (16, .bipush 20, 0, 0), (18, .if_icmp .lt 4, 0, 0), (21, .return_, 0, 0), (22, .iload_n 2, 0, 0), (23, .iconst 1, 0, 0), (24, .iadd, 0, 0), (25, .istore_n 3, 0, 0), (26, .aload_n 0, 0, 0), (27, .getfield 46, 10, 1), (30, .iload_n 2, 0, 0), (31, .invokevirtual 125, 69, 0), (34, .istore 4, 0, 0), (36, .aload_n 0, 0, 0), (37, .getfield 46, 10, 1), (40, .iload_n 2, 0, 0), (41, .invokevirtual 128, 70, 0), (44, .istore 5, 0, 0), (46, .bipush 6, 0, 0), (48, .iload 4, 0, 0), (50, .iadd, 0, 0), (51, .istore 6, 0, 0), (53, .bipush 6, 0, 0), (55, .iload 5, 0, 0), (57, .iadd, 0, 0), (58, .istore 7, 0, 0), (60, .aload_n 0, 0, 0), (61, .getfield 35, 10, 8), (64, .getfield 158, 6, 0), (67, .iload_n 1, 0, 0), (68, .laload, 0, 0), (69, .lstore 8, 0, 0), (71, .aload_n 0, 0, 0), (72, .getfield 46, 10, 1), (75, .iload_n 2, 0, 0), (76, .invokevirtual 131, 71, 0), (79, .ifCond .ne 57, 0, 0), (82, .aload_n 0, 0, 0), (83, .iload_n 3, 0, 0), (84, .aload_n 0, 0, 0), (85, .iload_n 3, 0, 0), (86, .lload 8, 0, 0), (88, .iload 6, 0, 0), (90, .iconst (-1), 0, 0), (91, .invokevirtual 162, 135, 0), (94, .iload 7, 0, 0), (96, .iconst 1, 0, 0), (97, .invokevirtual 162, 135, 0), (100, .lstore 8, 0, 0), (102, .aload_n 0, 0, 0), (103, .lload 8, 0, 0), (105, .aload_n 0, 0, 0), (106, .getfield 35, 10, 8)]
def ro_c134_1 : List ro_In := [(109, .getfield 54, 6, 1), (112, .iload_n 1, 0, 0), (113, .iaload, 0, 0), (114, .aload_n 0, 0, 0), (115, .getfield 35, 10, 8), (118, .getfield 57, 6, 2), (121, .iload_n 1, 0, 0), (122, .iaload, 0, 0), (123, .aload_n 0, 0, 0), (124, .getfield 35, 10, 8), (127, .getfield 61, 6, 3), (130, .iload_n 1, 0, 0), (131, .iaload, 0, 0), (132, .invokevirtual 91, 131, 0), (135, .return_, 0, 0), (136, .aload_n 0, 0, 0), (137, .iload_n 3, 0, 0), (138, .lload 8, 0, 0), (140, .iload 4, 0, 0), (142, .iconst (-1), 0, 0), (143, .invokevirtual 162, 135, 0), (146, .lstore 8, 0, 0), (148, .aload_n 0, 0, 0), (149, .iload_n 3, 0, 0), (150, .aload_n 0, 0, 0), (151, .iload_n 3, 0, 0), (152, .lload 8, 0, 0), (154, .iload 5, 0, 0), (156, .iconst 1, 0, 0), (157, .invokevirtual 162, 135, 0), (160, .iload 6, 0, 0), (162, .iconst 0, 0, 0), (163, .invokevirtual 162, 135, 0), (166, .lstore 10, 0, 0), (168, .aload_n 0, 0, 0), (169, .lload 10, 0, 0), (171, .aload_n 0, 0, 0), (172, .getfield 35, 10, 8), (175, .getfield 54, 6, 1), (178, .iload_n 1, 0, 0), (179, .iaload, 0, 0), (180, .aload_n 0, 0, 0), (181, .getfield 35, 10, 8), (184, .getfield 57, 6, 2), (187, .iload_n 1, 0, 0), (188, .iaload, 0, 0), (189, .aload_n 0, 0, 0), (190, .getfield 35, 10, 8), (193, .getfield 61, 6, 3), (196, .iload_n 1, 0, 0), (197, .iaload, 0, 0), (198, .invokevirtual 91, 131, 0), (201, .aload_n 0, 0, 0), (202, .iload_n 3, 0, 0), (203, .aload_n 0, 0, 0), (204, .iload_n 3, 0, 0), (205, .lload 8, 0, 0), (207, .iload 5, 0, 0), (209, .iconst 0, 0, 0), (210, .invokevirtual 162, 135, 0)]
def ro_c134_2 : List ro_In := [(213, .iload 6, 0, 0), (215, .iconst 1, 0, 0), (216, .invokevirtual 162, 135, 0), (219, .lstore 12, 0, 0), (221, .iconst 1, 0, 0), (222, .iload_n 2, 0, 0), (223, .ishl, 0, 0), (224, .istore 14, 0, 0), (226, .aload_n 0, 0, 0), (227, .lload 12, 0, 0), (229, .aload_n 0, 0, 0), (230, .getfield 35, 10, 8), (233, .getfield 54, 6, 1), (236, .iload_n 1, 0, 0), (237, .iaload, 0, 0), (238, .aload_n 0, 0, 0), (239, .getfield 35, 10, 8), (242, .getfield 57, 6, 2), (245, .iload_n 1, 0, 0), (246, .iaload, 0, 0), (247, .ldc 165, 0, 0), (249, .iadd, 0, 0), (250, .iload 14, 0, 0), (252, .iadd, 0, 0), (253, .aload_n 0, 0, 0), (254, .getfield 35, 10, 8), (257, .getfield 61, 6, 3), (260, .iload_n 1, 0, 0), (261, .iaload, 0, 0), (262, .iload 14, 0, 0), (264, .ior, 0, 0), (265, .invokevirtual 91, 131, 0), (268, .return_, 0, 0)]
def ro_c134 : List ro_In := ro_c134_0 ++ (ro_c134_1 ++ (ro_c134_2))
/-- RefusedOnce$Ways.moved(IJII)J -/
def ro_c135 : List ro_In := [(0, .lload_n 2, 0, 0), (1, .lconst 0, 0, 0), (2, .lcmp, 0, 0), (3, .ifCond .lt 15, 0, 0), (6, .iload 4, 0, 0), (8, .ifCond .lt 10, 0, 0), (11, .iload 4, 0, 0), (13, .bipush 12, 0, 0), (15, .if_icmp .lt 7, 0, 0), (18, .ldc2_w 154, 0, 0), (21, .lreturn, 0, 0), (22, .lload_n 2, 0, 0), (23, .iconst 5, 0, 0), (24, .iload 4, 0, 0), (26, .imul, 0, 0), (27, .lshr, 0, 0), (28, .l2i, 0, 0), (29, .bipush 31, 0, 0), (31, .iand, 0, 0), (32, .istore 6, 0, 0), (34, .iload 6, 0, 0), (36, .bipush 31, 0, 0), (38, .if_icmp .ne 7, 0, 0), (41, .lload_n 2, 0, 0), (42, .goto 16, 0, 0), (45, .aload_n 0, 0, 0), (46, .iload_n 1, 0, 0), (47, .lload_n 2, 0, 0), (48, .iload 4, 0, 0), (50, .iload 6, 0, 0), (52, .iload 5, 0, 0), (54, .iadd, 0, 0), (55, .invokevirtual 150, 130, 0), (58, .lreturn, 0, 0)]
/-- RefusedOnce$Ways.howMany()I -/
def ro_c136 : List ro_In := [(0, .aload_n 0, 0, 0), (1, .getfield 35, 10, 8), (4, .getfield 50, 6, 4), (7, .ifCond .le 15, 0, 0), (10, .aload_n 0, 0, 0), (11, .getfield 35, 10, 8), (14, .getfield 54, 6, 1), (17, .iconst 0, 0, 0), (18, .iaload, 0, 0), (19, .goto 4, 0, 0), (22, .iconst 0, 0, 0), (23, .ireturn, 0, 0)]
/-- RefusedOnce$Ways.certain()I -/
def ro_c137 : List ro_In := [(0, .aload_n 0, 0, 0), (1, .getfield 35, 10, 8), (4, .getfield 50, 6, 4), (7, .ifCond .le 15, 0, 0), (10, .aload_n 0, 0, 0), (11, .getfield 35, 10, 8), (14, .getfield 61, 6, 3), (17, .iconst 0, 0, 0), (18, .iaload, 0, 0), (19, .goto 4, 0, 0), (22, .iconst 0, 0, 0), (23, .ireturn, 0, 0)]
/-- RefusedOnce$Ways.fewest()I -/
def ro_c138 : List ro_In := [(0, .aload_n 0, 0, 0), (1, .getfield 35, 10, 8), (4, .getfield 50, 6, 4), (7, .ifCond .le 18, 0, 0), (10, .aload_n 0, 0, 0), (11, .getfield 35, 10, 8), (14, .getfield 57, 6, 2), (17, .iconst 0, 0, 0), (18, .iaload, 0, 0), (19, .bipush 20, 0, 0), (21, .ishr, 0, 0), (22, .goto 4, 0, 0), (25, .iconst 0, 0, 0), (26, .ireturn, 0, 0)]
/-- RefusedOnce$Ways.fewestBits()I -/
def ro_c139 : List ro_In := [(0, .aload_n 0, 0, 0), (1, .getfield 35, 10, 8), (4, .getfield 50, 6, 4), (7, .ifCond .le 18, 0, 0), (10, .aload_n 0, 0, 0), (11, .getfield 35, 10, 8), (14, .getfield 57, 6, 2), (17, .iconst 0, 0, 0), (18, .iaload, 0, 0), (19, .ldc 60, 0, 0), (21, .iand, 0, 0), (22, .goto 4, 0, 0), (25, .iconst 0, 0, 0), (26, .ireturn, 0, 0)]
/-- RefusedOnce.within(III)Z -/
def ro_c140 : List ro_In := []
/-- RefusedOnce.within(III)Z -/
def ro_c141 : List ro_In := []
/-- RefusedOnce.within(III)Z -/
def ro_c142 : List ro_In := []
/-- RefusedOnce.within(III)Z -/
def ro_c143 : List ro_In := []
/-- RefusedOnce.offer(II)I -/
def ro_c144_0 : List ro_In := [(0, .aload_n 0, 0, 0), (1, .iload_n 1, 0, 0), (2, .invokevirtual 152, 56, 0), (5, .ifCond .eq 12, 0, 0), (8, .iload_n 2, 0, 0), (9, .iconst 0, 0, 0), (10, .iconst 2, 0, 0), (11, .invokestatic 76, 13, 0), (14, .ifCond .ne 5, 0, 0), (17, .iconst (-1), 0, 0), (18, .ireturn, 0, 0), (19, .iload_n 1, 0, 0), (20, .bipush 10, 0, 0), (22, .idiv, 0, 0), (23, .istore_n 3, 0, 0), (24, .iload_n 1, 0, 0), (25, .bipush 10, 0, 0), (27, .irem, 0, 0), (28, .istore 4, 0, 0), (30, .iload_n 2, 0, 0), (31, .iconst 2, 0, 0), (32, .if_icmp .ne 19, 0, 0), (35, .aload_n 0, 0, 0), (36, .getfield 10, 11, 0), (39, .getfield 132, 4, 0), (42, .iload_n 3, 0, 0), (43, .iload 4, 0, 0), (45, .invokevirtual 255, 73, 0), (48, .goto 16, 0, 0), (51, .aload_n 0, 0, 0), (52, .getfield 10, 11, 0), (55, .getfield 132, 4, 0), (58, .iload_n 3, 0, 0), (59, .iload 4, 0, 0), (61, .invokevirtual 258, 75, 0), (64, .istore 5, 0, 0), (66, .iload 5, 0, 0), (68, .ifCond .ne 6, 0, 0), (71, .bipush (-5), 0, 0), (73, .ireturn, 0, 0), (74, .aload_n 0, 0, 0), (75, .getfield 10, 11, 0), (78, .iconst 0, 0, 0), (79, .invokevirtual 261, 145, 0), (82, .iload_n 2, 0, 0), (83, .iconst 1, 0, 0), (84, .if_icmp .ne 24, 0, 0), (87, .aload_n 0, 0, 0), (88, .getfield 10, 11, 0), (91, .getfield 132, 4, 0), (94, .iload_n 3, 0, 0), (95, .invokevirtual 264, 77, 0), (98, .aload_n 0, 0, 0), (99, .getfield 10, 11, 0), (102, .iconst 1, 0, 0), (103, .invokevirtual 261, 145, 0), (106, .iload_n 3, 0, 0), (107, .ireturn, 0, 0), (108, .iload_n 2, 0, 0), (109, .ifCond .ne 19, 0, 0)]
def ro_c144_1 : List ro_In := [(112, .aload_n 0, 0, 0), (113, .getfield 10, 11, 0), (116, .getfield 132, 4, 0), (119, .iload_n 3, 0, 0), (120, .iload 4, 0, 0), (122, .invokevirtual 267, 78, 0), (125, .goto 16, 0, 0), (128, .aload_n 0, 0, 0), (129, .getfield 10, 11, 0), (132, .getfield 132, 4, 0), (135, .iload_n 3, 0, 0), (136, .iload 4, 0, 0), (138, .invokevirtual 271, 74, 0), (141, .iload 4, 0, 0), (143, .ireturn, 0, 0)]
def ro_c144 : List ro_In := ro_c144_0 ++ (ro_c144_1)
/-- RefusedOnce$Land.leads(I)V -/
def ro_c145 : List ro_In := [(0, .iload_n 1, 0, 0), (1, .ifCond .lt 22, 0, 0), (4, .iload_n 1, 0, 0), (5, .aload_n 0, 0, 0), (6, .getfield 25, 4, 3), (9, .arraylength, 0, 0), (10, .if_icmp .ge 13, 0, 0), (13, .aload_n 0, 0, 0), (14, .getfield 25, 4, 3), (17, .iload_n 1, 0, 0), (18, .dup2, 0, 0), (19, .iaload, 0, 0), (20, .iconst 1, 0, 0), (21, .iadd, 0, 0), (22, .iastore, 0, 0), (23, .return_, 0, 0)]
/-- RefusedOnce.within(III)Z -/
def ro_c146 : List ro_In := []
/-- RefusedOnce.within(III)Z -/
def ro_c147 : List ro_In := []
/-- RefusedOnce.led(I)I -/
def ro_c148 : List ro_In := [(0, .iload_n 1, 0, 0), (1, .iconst 0, 0, 0), (2, .iconst 3, 0, 0), (3, .invokestatic 76, 13, 0), (6, .ifCond .eq 14, 0, 0), (9, .aload_n 0, 0, 0), (10, .getfield 10, 11, 0), (13, .iload_n 1, 0, 0), (14, .invokevirtual 274, 149, 0), (17, .goto 4, 0, 0), (20, .iconst (-1), 0, 0), (21, .ireturn, 0, 0)]
/-- RefusedOnce$Land.counted(I)I -/
def ro_c149 : List ro_In := [(0, .iload_n 1, 0, 0), (1, .ifCond .lt 21, 0, 0), (4, .iload_n 1, 0, 0), (5, .aload_n 0, 0, 0), (6, .getfield 25, 4, 3), (9, .arraylength, 0, 0), (10, .if_icmp .ge 12, 0, 0), (13, .aload_n 0, 0, 0), (14, .getfield 25, 4, 3), (17, .iload_n 1, 0, 0), (18, .iaload, 0, 0), (19, .goto 4, 0, 0), (22, .iconst 0, 0, 0), (23, .ireturn, 0, 0)]
/-- RefusedOnce.image()I -/
def ro_c150 : List ro_In := [(0, .aload_n 0, 0, 0), (1, .getfield 10, 11, 0), (4, .invokevirtual 277, 151, 0), (7, .aload_n 0, 0, 0), (8, .getfield 10, 11, 0), (11, .iconst 0, 0, 0), (12, .invokevirtual 274, 149, 0), (15, .ireturn, 0, 0)]
/-- RefusedOnce$Land.keepImage()V -/
def ro_c151 : List ro_In := [(0, .aload_n 0, 0, 0), (1, .getfield 38, 4, 8), (4, .aload_n 0, 0, 0), (5, .getfield 12, 4, 0), (8, .aload_n 0, 0, 0), (9, .getfield 44, 4, 4), (12, .invokevirtual 85, 68, 0), (15, .aload_n 0, 0, 0), (16, .getfield 25, 4, 3), (19, .iconst 0, 0, 0), (20, .aload_n 0, 0, 0), (21, .getfield 41, 4, 9), (24, .iconst 0, 0, 0), (25, .iconst 4, 0, 0), (26, .invokestatic 89, 0, 4), (29, .aload_n 0, 0, 0), (30, .aload_n 0, 0, 0), (31, .getfield 44, 4, 4), (34, .putfield 95, 4, 11), (37, .aload_n 0, 0, 0), (38, .aload_n 0, 0, 0), (39, .getfield 32, 4, 6), (42, .putfield 98, 4, 12), (45, .aload_n 0, 0, 0), (46, .iconst 1, 0, 0), (47, .putfield 101, 4, 10), (50, .return_, 0, 0)]
/-- RefusedOnce.back()I -/
def ro_c152 : List ro_In := [(0, .aload_n 0, 0, 0), (1, .getfield 10, 11, 0), (4, .invokevirtual 280, 153, 0), (7, .ifCond .eq 14, 0, 0), (10, .aload_n 0, 0, 0), (11, .getfield 10, 11, 0), (14, .iconst 0, 0, 0), (15, .invokevirtual 274, 149, 0), (18, .goto 5, 0, 0), (21, .bipush (-5), 0, 0), (23, .ireturn, 0, 0)]
/-- RefusedOnce$Land.layBack()Z -/
def ro_c153 : List ro_In := [(0, .aload_n 0, 0, 0), (1, .getfield 101, 4, 10), (4, .ifCond .ne 5, 0, 0), (7, .iconst 0, 0, 0), (8, .ireturn, 0, 0), (9, .aload_n 0, 0, 0), (10, .getfield 12, 4, 0), (13, .aload_n 0, 0, 0), (14, .getfield 38, 4, 8), (17, .aload_n 0, 0, 0), (18, .getfield 95, 4, 11), (21, .invokevirtual 85, 68, 0), (24, .aload_n 0, 0, 0), (25, .getfield 41, 4, 9), (28, .iconst 0, 0, 0), (29, .aload_n 0, 0, 0), (30, .getfield 25, 4, 3), (33, .iconst 0, 0, 0), (34, .iconst 4, 0, 0), (35, .invokestatic 89, 0, 4), (38, .aload_n 0, 0, 0), (39, .aload_n 0, 0, 0), (40, .getfield 98, 4, 12), (43, .putfield 32, 4, 6), (46, .iconst 1, 0, 0), (47, .ireturn, 0, 0)]
/-- RefusedOnce.within(III)Z -/
def ro_c154 : List ro_In := []
/-- RefusedOnce.within(III)Z -/
def ro_c155 : List ro_In := []
/-- RefusedOnce$Changes.mayBeUndone()I -/
def ro_c156 : List ro_In := [(0, .aload_n 0, 0, 0), (1, .getfield 22, 2, 4), (4, .ireturn, 0, 0)]
/-- RefusedOnce.within(III)Z -/
def ro_c157 : List ro_In := []
/-- RefusedOnce.within(III)Z -/
def ro_c158 : List ro_In := []
/-- RefusedOnce.within(III)Z -/
def ro_c159 : List ro_In := []
/-- RefusedOnce.within(III)Z -/
def ro_c160 : List ro_In := []
/-- RefusedOnce.within(III)Z -/
def ro_c161 : List ro_In := []
/-- RefusedOnce.within(III)Z -/
def ro_c162 : List ro_In := []
/-- RefusedOnce$Bodies.howMany()I -/
def ro_c163 : List ro_In := [(0, .aload_n 0, 0, 0), (1, .getfield 21, 0, 2), (4, .ireturn, 0, 0)]
/-- RefusedOnce.within(III)Z -/
def ro_c164 : List ro_In := []
/-- RefusedOnce.within(III)Z -/
def ro_c165 : List ro_In := []
/-- RefusedOnce.within(III)Z -/
def ro_c166 : List ro_In := []
/-- RefusedOnce.within(III)Z -/
def ro_c167 : List ro_In := []
/-- RefusedOnce.within(III)Z -/
def ro_c168 : List ro_In := []
/-- RefusedOnce.within(III)Z -/
def ro_c169 : List ro_In := []
/-- RefusedOnce.within(III)Z -/
def ro_c170 : List ro_In := []
/-- RefusedOnce.within(III)Z -/
def ro_c171 : List ro_In := []
/-- RefusedOnce.within(III)Z -/
def ro_c172 : List ro_In := []
/-- RefusedOnce.within(III)Z -/
def ro_c173 : List ro_In := []
/-- RefusedOnce.within(III)Z -/
def ro_c174 : List ro_In := []
/-- RefusedOnce.within(III)Z -/
def ro_c175 : List ro_In := []
/-- RefusedOnce.within(III)Z -/
def ro_c176 : List ro_In := []
/-- RefusedOnce.row(III)I -/
def ro_c177 : List ro_In := [(0, .aload_n 0, 0, 0), (1, .iload_n 1, 0, 0), (2, .invokevirtual 87, 20, 0), (5, .astore 4, 0, 0), (7, .aload 4, 0, 0), (9, .ifnull 18, 0, 0), (12, .iload_n 2, 0, 0), (13, .iconst 0, 0, 0), (14, .iconst 4, 0, 0), (15, .invokestatic 76, 13, 0), (18, .ifCond .eq 9, 0, 0), (21, .iload_n 3, 0, 0), (22, .bipush 60, 0, 0), (24, .if_icmp .le 5, 0, 0), (27, .iconst (-1), 0, 0), (28, .ireturn, 0, 0), (29, .iload_n 3, 0, 0), (30, .ifCond .ge 6, 0, 0), (33, .bipush (-14), 0, 0), (35, .ireturn, 0, 0), (36, .aload 4, 0, 0), (38, .iload_n 2, 0, 0), (39, .iload_n 3, 0, 0), (40, .invokevirtual 312, 178, 0), (43, .iconst 1, 0, 0), (44, .ireturn, 0, 0)]
/-- RefusedOnce$Shelf.becomeRow(II)V -/
def ro_c178 : List ro_In := [(0, .aload_n 0, 0, 0), (1, .iload_n 1, 0, 0), (2, .putfield 15, 9, 1), (5, .aload_n 0, 0, 0), (6, .iload_n 2, 0, 0), (7, .putfield 29, 9, 2), (10, .iconst 0, 0, 0), (11, .istore_n 3, 0, 0), (12, .iload_n 3, 0, 0), (13, .iload_n 2, 0, 0), (14, .if_icmp .ge 25, 0, 0), (17, .iload_n 3, 0, 0), (18, .aload_n 0, 0, 0), (19, .getfield 11, 9, 0), (22, .arraylength, 0, 0), (23, .if_icmp .ge 16, 0, 0), (26, .aload_n 0, 0, 0), (27, .getfield 11, 9, 0), (30, .iload_n 3, 0, 0), (31, .lconst 0, 0, 0), (32, .lastore, 0, 0), (33, .iinc 3 1, 0, 0), (36, .goto (-24), 0, 0), (39, .return_, 0, 0)]
/-- RefusedOnce.put(IIJ)I -/
def ro_c179 : List ro_In := [(0, .aload_n 0, 0, 0), (1, .iload_n 1, 0, 0), (2, .invokevirtual 87, 20, 0), (5, .astore 5, 0, 0), (7, .aload 5, 0, 0), (9, .ifnonnull 5, 0, 0), (12, .iconst (-1), 0, 0), (13, .ireturn, 0, 0), (14, .aload 5, 0, 0), (16, .invokevirtual 315, 180, 0), (19, .ifCond .ne 9, 0, 0), (22, .aload 5, 0, 0), (24, .invokevirtual 159, 65, 0), (27, .ireturn, 0, 0), (28, .aload 5, 0, 0), (30, .iload_n 2, 0, 0), (31, .lload_n 3, 0, 0), (32, .invokevirtual 318, 181, 0), (35, .ifCond .eq 7, 0, 0), (38, .iconst 1, 0, 0), (39, .goto 5, 0, 0), (42, .bipush (-13), 0, 0), (44, .ireturn, 0, 0)]
/-- RefusedOnce$Shelf.holdsRow()Z -/
def ro_c180 : List ro_In := [(0, .aload_n 0, 0, 0), (1, .getfield 15, 9, 1), (4, .ifCond .lt 7, 0, 0), (7, .iconst 1, 0, 0), (8, .goto 4, 0, 0), (11, .iconst 0, 0, 0), (12, .ireturn, 0, 0)]
/-- RefusedOnce$Shelf.putIn(IJ)Z -/
def ro_c181 : List ro_In := [(0, .iload_n 1, 0, 0), (1, .ifCond .lt 20, 0, 0), (4, .iload_n 1, 0, 0), (5, .aload_n 0, 0, 0), (6, .getfield 29, 9, 2), (9, .if_icmp .ge 12, 0, 0), (12, .iload_n 1, 0, 0), (13, .aload_n 0, 0, 0), (14, .getfield 11, 9, 0), (17, .arraylength, 0, 0), (18, .if_icmp .lt 5, 0, 0), (21, .iconst 0, 0, 0), (22, .ireturn, 0, 0), (23, .aload_n 0, 0, 0), (24, .getfield 11, 9, 0), (27, .iload_n 1, 0, 0), (28, .aload_n 0, 0, 0), (29, .lload_n 2, 0, 0), (30, .invokevirtual 36, 182, 0), (33, .lastore, 0, 0), (34, .iconst 1, 0, 0), (35, .ireturn, 0, 0)]
/-- RefusedOnce$Shelf.lowest(J)J -/
def ro_c182 : List ro_In := [(0, .aload_n 0, 0, 0), (1, .getfield 15, 9, 1), (4, .tableswitch 48 0 3 #[32, 37, 42, 46], 0, 0), (36, .lload_n 1, 0, 0), (37, .l2i, 0, 0), (38, .i2b, 0, 0), (39, .i2l, 0, 0), (40, .lreturn, 0, 0), (41, .lload_n 1, 0, 0), (42, .l2i, 0, 0), (43, .i2s, 0, 0), (44, .i2l, 0, 0), (45, .lreturn, 0, 0), (46, .lload_n 1, 0, 0), (47, .l2i, 0, 0), (48, .i2l, 0, 0), (49, .lreturn, 0, 0), (50, .lload_n 1, 0, 0), (51, .lreturn, 0, 0), (52, .lload_n 1, 0, 0), (53, .lconst 0, 0, 0), (54, .lcmp, 0, 0), (55, .ifCond .eq 7, 0, 0), (58, .lconst 1, 0, 0), (59, .goto 4, 0, 0), (62, .lconst 0, 0, 0), (63, .lreturn, 0, 0)]
/-- RefusedOnce.within(III)Z -/
def ro_c183 : List ro_In := []
/-- RefusedOnce.within(III)Z -/
def ro_c184 : List ro_In := []
/-- RefusedOnce.within(III)Z -/
def ro_c185 : List ro_In := []
/-- RefusedOnce.within(III)Z -/
def ro_c186 : List ro_In := []
/-- RefusedOnce.within(III)Z -/
def ro_c187 : List ro_In := []
/-- RefusedOnce.within(III)Z -/
def ro_c188 : List ro_In := []
/-- RefusedOnce.within(III)Z -/
def ro_c189 : List ro_In := []
/-- RefusedOnce.count(I)I -/
def ro_c190 : List ro_In := [(0, .iload_n 1, 0, 0), (1, .tableswitch 101 0 6 #[43, 51, 60, 69, 77, 85, 93], 0, 0), (44, .aload_n 0, 0, 0), (45, .getfield 10, 11, 0), (48, .invokevirtual 83, 18, 0), (51, .ireturn, 0, 0), (52, .aload_n 0, 0, 0), (53, .getfield 10, 11, 0), (56, .iconst 0, 0, 0), (57, .invokevirtual 342, 191, 0), (60, .ireturn, 0, 0), (61, .aload_n 0, 0, 0), (62, .getfield 10, 11, 0), (65, .iconst 1, 0, 0), (66, .invokevirtual 342, 191, 0), (69, .ireturn, 0, 0), (70, .aload_n 0, 0, 0), (71, .getfield 19, 11, 1), (74, .invokevirtual 146, 42, 0), (77, .ireturn, 0, 0), (78, .aload_n 0, 0, 0), (79, .getfield 56, 11, 6), (82, .invokevirtual 287, 156, 0), (85, .ireturn, 0, 0), (86, .aload_n 0, 0, 0), (87, .getfield 63, 11, 7), (90, .invokevirtual 301, 163, 0), (93, .ireturn, 0, 0), (94, .aload_n 0, 0, 0), (95, .getfield 63, 11, 7), (98, .invokevirtual 345, 192, 0), (101, .ireturn, 0, 0), (102, .iconst (-1), 0, 0), (103, .ireturn, 0, 0)]
/-- RefusedOnce$Land.allOf(I)I -/
def ro_c191 : List ro_In := [(0, .iconst 0, 0, 0), (1, .istore_n 2, 0, 0), (2, .iconst 0, 0, 0), (3, .istore_n 3, 0, 0), (4, .iload_n 3, 0, 0), (5, .aload_n 0, 0, 0), (6, .getfield 44, 4, 4), (9, .if_icmp .ge 18, 0, 0), (12, .iload_n 2, 0, 0), (13, .aload_n 0, 0, 0), (14, .iload_n 3, 0, 0), (15, .iload_n 1, 0, 0), (16, .invokevirtual 72, 30, 0), (19, .iadd, 0, 0), (20, .istore_n 2, 0, 0), (21, .iinc 3 1, 0, 0), (24, .goto (-20), 0, 0), (27, .iload_n 2, 0, 0), (28, .ireturn, 0, 0)]
/-- RefusedOnce$Bodies.ranLately()I -/
def ro_c192 : List ro_In := [(0, .aload_n 0, 0, 0), (1, .getfield 25, 0, 3), (4, .ireturn, 0, 0)]
/-- RefusedOnceLaw.cell([II)I -/
def ro_c193 : List ro_In := [(0, .iload_n 1, 0, 0), (1, .aload_n 0, 0, 0), (2, .arraylength, 0, 0), (3, .if_icmp .ge 12, 0, 0), (6, .aload_n 0, 0, 0), (7, .iload_n 1, 0, 0), (8, .iaload, 0, 0), (9, .ldc 16, 0, 0), (11, .iand, 0, 0), (12, .goto 8, 0, 0), (15, .iload_n 1, 0, 0), (16, .sipush 9007, 0, 0), (19, .imul, 0, 0), (20, .ireturn, 0, 0)]
/-- RefusedOnceLaw.many([I)I -/
def ro_c194 : List ro_In := [(0, .aload_n 0, 0, 0), (1, .iconst 0, 0, 0), (2, .invokestatic 17, 193, 0), (5, .bipush 7, 0, 0), (7, .irem, 0, 0), (8, .ireturn, 0, 0)]
/-- RefusedOnceLaw.one([III)I -/
def ro_c195 : List ro_In := [(0, .aload_n 0, 0, 0), (1, .iconst 1, 0, 0), (2, .iload_n 1, 0, 0), (3, .iadd, 0, 0), (4, .invokestatic 17, 193, 0), (7, .istore_n 3, 0, 0), (8, .iload_n 2, 0, 0), (9, .ifCond .ne 24, 0, 0), (12, .iload_n 3, 0, 0), (13, .iload_n 3, 0, 0), (14, .bipush 9, 0, 0), (16, .ishr, 0, 0), (17, .iconst 3, 0, 0), (18, .iand, 0, 0), (19, .ifCond .ne 8, 0, 0), (22, .bipush 21, 0, 0), (24, .goto 5, 0, 0), (27, .bipush 6, 0, 0), (29, .irem, 0, 0), (30, .goto 53, 0, 0), (33, .iload_n 2, 0, 0), (34, .iconst 1, 0, 0), (35, .if_icmp .ne 26, 0, 0), (38, .iload_n 3, 0, 0), (39, .iconst 5, 0, 0), (40, .ishr, 0, 0), (41, .iload_n 3, 0, 0), (42, .bipush 11, 0, 0), (44, .ishr, 0, 0), (45, .iconst 3, 0, 0), (46, .iand, 0, 0), (47, .ifCond .ne 8, 0, 0), (50, .bipush 21, 0, 0), (52, .goto 5, 0, 0), (55, .bipush 6, 0, 0), (57, .irem, 0, 0), (58, .goto 25, 0, 0), (61, .iload_n 2, 0, 0), (62, .iconst 2, 0, 0), (63, .if_icmp .ne 13, 0, 0), (66, .iload_n 3, 0, 0), (67, .bipush 13, 0, 0), (69, .ishr, 0, 0), (70, .bipush 13, 0, 0), (72, .irem, 0, 0), (73, .goto 10, 0, 0), (76, .iload_n 3, 0, 0), (77, .bipush 17, 0, 0), (79, .ishr, 0, 0), (80, .bipush 9, 0, 0), (82, .irem, 0, 0), (83, .ireturn, 0, 0)]
/-- RefusedOnceLaw.built(LRefusedOnce;[I)Z -/
def ro_c196_0 : List ro_In := [(0, .iconst 0, 0, 0), (1, .istore_n 2, 0, 0), (2, .iload_n 2, 0, 0), (3, .aload_n 1, 0, 0), (4, .invokestatic 23, 194, 0), (7, .if_icmp .ge 71, 0, 0), (10, .aload_n 0, 0, 0), (11, .aload_n 1, 0, 0), (12, .iload_n 2, 0, 0), (13, .iconst 0, 0, 0), (14, .invokestatic 27, 195, 0), (17, .invokevirtual 31, 12, 0), (20, .iload_n 2, 0, 0), (21, .if_icmp .ne 49, 0, 0), (24, .aload_n 0, 0, 0), (25, .iload_n 2, 0, 0), (26, .iconst 1, 0, 0), (27, .aload_n 1, 0, 0), (28, .iload_n 2, 0, 0), (29, .iconst 1, 0, 0), (30, .invokestatic 27, 195, 0), (33, .invokevirtual 34, 27, 0), (36, .ifCond .ne 34, 0, 0), (39, .aload_n 0, 0, 0), (40, .iload_n 2, 0, 0), (41, .iconst 2, 0, 0), (42, .aload_n 1, 0, 0), (43, .iload_n 2, 0, 0), (44, .iconst 2, 0, 0), (45, .invokestatic 27, 195, 0), (48, .invokevirtual 34, 27, 0), (51, .iconst 3, 0, 0), (52, .if_icmp .ne 18, 0, 0), (55, .aload_n 0, 0, 0), (56, .iload_n 2, 0, 0), (57, .iconst 3, 0, 0), (58, .aload_n 1, 0, 0), (59, .iload_n 2, 0, 0), (60, .iconst 3, 0, 0), (61, .invokestatic 27, 195, 0), (64, .invokevirtual 34, 27, 0), (67, .ifCond .eq 5, 0, 0), (70, .iconst 0, 0, 0), (71, .ireturn, 0, 0), (72, .iinc 2 1, 0, 0), (75, .goto (-73), 0, 0), (78, .iconst 0, 0, 0), (79, .istore_n 2, 0, 0), (80, .iload_n 2, 0, 0), (81, .iconst 3, 0, 0), (82, .if_icmp .ge 32, 0, 0), (85, .aload_n 0, 0, 0), (86, .iconst 0, 0, 0), (87, .iconst 4, 0, 0), (88, .iload_n 2, 0, 0), (89, .iadd, 0, 0), (90, .aload_n 1, 0, 0), (91, .iload_n 2, 0, 0), (92, .invokestatic 38, 197, 0), (95, .invokevirtual 34, 27, 0)]
def ro_c196_1 : List ro_In := [(98, .getstatic 41, 2, 0), (101, .iload_n 2, 0, 0), (102, .iaload, 0, 0), (103, .if_icmp .eq 5, 0, 0), (106, .iconst 0, 0, 0), (107, .ireturn, 0, 0), (108, .iinc 2 1, 0, 0), (111, .goto (-31), 0, 0), (114, .aload_n 1, 0, 0), (115, .invokestatic 45, 198, 0), (118, .ifCond .ne 5, 0, 0), (121, .iconst 1, 0, 0), (122, .ireturn, 0, 0), (123, .bipush 19, 0, 0), (125, .newarray .int, 0, 0), (127, .dup, 0, 0), (128, .iconst 0, 0, 0), (129, .bipush 112, 0, 0), (131, .iastore, 0, 0), (132, .dup, 0, 0), (133, .iconst 1, 0, 0), (134, .bipush 45, 0, 0), (136, .iastore, 0, 0), (137, .dup, 0, 0), (138, .iconst 2, 0, 0), (139, .bipush 98, 0, 0), (141, .iastore, 0, 0), (142, .dup, 0, 0), (143, .iconst 3, 0, 0), (144, .bipush 47, 0, 0), (146, .iastore, 0, 0), (147, .dup, 0, 0), (148, .iconst 4, 0, 0), (149, .bipush 50, 0, 0), (151, .iastore, 0, 0), (152, .dup, 0, 0), (153, .iconst 5, 0, 0), (154, .bipush 43, 0, 0), (156, .iastore, 0, 0), (157, .dup, 0, 0), (158, .bipush 6, 0, 0), (160, .bipush 119, 0, 0), (162, .iastore, 0, 0), (163, .dup, 0, 0), (164, .bipush 7, 0, 0), (166, .bipush 47, 0, 0), (168, .iastore, 0, 0), (169, .dup, 0, 0), (170, .bipush 8, 0, 0), (172, .bipush 52, 0, 0), (174, .iastore, 0, 0), (175, .dup, 0, 0), (176, .bipush 9, 0, 0), (178, .bipush 45, 0, 0), (180, .iastore, 0, 0), (181, .dup, 0, 0), (182, .bipush 10, 0, 0), (184, .bipush 99, 0, 0), (186, .iastore, 0, 0), (187, .dup, 0, 0)]
def ro_c196_2 : List ro_In := [(188, .bipush 11, 0, 0), (190, .bipush 47, 0, 0), (192, .iastore, 0, 0), (193, .dup, 0, 0), (194, .bipush 12, 0, 0), (196, .bipush 51, 0, 0), (198, .iastore, 0, 0), (199, .dup, 0, 0), (200, .bipush 13, 0, 0), (202, .bipush 43, 0, 0), (204, .iastore, 0, 0), (205, .dup, 0, 0), (206, .bipush 14, 0, 0), (208, .bipush 104, 0, 0), (210, .iastore, 0, 0), (211, .dup, 0, 0), (212, .bipush 15, 0, 0), (214, .bipush 37, 0, 0), (216, .iastore, 0, 0), (217, .dup, 0, 0), (218, .bipush 16, 0, 0), (220, .bipush 51, 0, 0), (222, .iastore, 0, 0), (223, .dup, 0, 0), (224, .bipush 17, 0, 0), (226, .bipush 43, 0, 0), (228, .iastore, 0, 0), (229, .dup, 0, 0), (230, .bipush 18, 0, 0), (232, .bipush 110, 0, 0), (234, .iastore, 0, 0), (235, .astore_n 2, 0, 0), (236, .aload_n 0, 0, 0), (237, .aload_n 2, 0, 0), (238, .aload_n 2, 0, 0), (239, .arraylength, 0, 0), (240, .invokestatic 49, 199, 0), (243, .ifCond .eq 15, 0, 0), (246, .aload_n 0, 0, 0), (247, .invokevirtual 53, 43, 0), (250, .iconst 1, 0, 0), (251, .if_icmp .ne 7, 0, 0), (254, .iconst 1, 0, 0), (255, .goto 4, 0, 0), (258, .iconst 0, 0, 0), (259, .ireturn, 0, 0)]
def ro_c196 : List ro_In := ro_c196_0 ++ (ro_c196_1 ++ (ro_c196_2))
/-- RefusedOnceLaw.told([II)I -/
def ro_c197 : List ro_In := [(0, .aload_n 0, 0, 0), (1, .bipush 7, 0, 0), (3, .invokestatic 17, 193, 0), (6, .istore_n 2, 0, 0), (7, .iload_n 1, 0, 0), (8, .ifCond .ne 9, 0, 0), (11, .iload_n 2, 0, 0), (12, .iconst 5, 0, 0), (13, .irem, 0, 0), (14, .goto 24, 0, 0), (17, .iload_n 1, 0, 0), (18, .iconst 1, 0, 0), (19, .if_icmp .ne 12, 0, 0), (22, .iload_n 2, 0, 0), (23, .iconst 3, 0, 0), (24, .ishr, 0, 0), (25, .bipush 12, 0, 0), (27, .irem, 0, 0), (28, .goto 10, 0, 0), (31, .iload_n 2, 0, 0), (32, .bipush 7, 0, 0), (34, .ishr, 0, 0), (35, .bipush 13, 0, 0), (37, .irem, 0, 0), (38, .ireturn, 0, 0)]
/-- RefusedOnceLaw.hasLaw([I)Z -/
def ro_c198 : List ro_In := [(0, .aload_n 0, 0, 0), (1, .iconst 0, 0, 0), (2, .invokestatic 17, 193, 0), (5, .iconst 3, 0, 0), (6, .ishr, 0, 0), (7, .iconst 1, 0, 0), (8, .iand, 0, 0), (9, .iconst 1, 0, 0), (10, .if_icmp .ne 7, 0, 0), (13, .iconst 1, 0, 0), (14, .goto 4, 0, 0), (17, .iconst 0, 0, 0), (18, .ireturn, 0, 0)]
/-- RefusedOnceLaw.tell(LRefusedOnce;[II)Z -/
def ro_c199 : List ro_In := [(0, .iconst 0, 0, 0), (1, .istore_n 3, 0, 0), (2, .iload_n 3, 0, 0), (3, .iload_n 2, 0, 0), (4, .if_icmp .ge 24, 0, 0), (7, .aload_n 0, 0, 0), (8, .aload_n 1, 0, 0), (9, .iload_n 3, 0, 0), (10, .iaload, 0, 0), (11, .invokevirtual 7, 40, 0), (14, .iload_n 3, 0, 0), (15, .iconst 1, 0, 0), (16, .iadd, 0, 0), (17, .if_icmp .eq 5, 0, 0), (20, .iconst 0, 0, 0), (21, .ireturn, 0, 0), (22, .iinc 3 1, 0, 0), (25, .goto (-23), 0, 0), (28, .aload_n 0, 0, 0), (29, .iconst 3, 0, 0), (30, .invokevirtual 13, 190, 0), (33, .iload_n 2, 0, 0), (34, .if_icmp .ne 7, 0, 0), (37, .iconst 1, 0, 0), (38, .goto 4, 0, 0), (41, .iconst 0, 0, 0), (42, .ireturn, 0, 0)]
/-- RefusedOnceLaw.put(LRefusedOnce;I[I)Z -/
def ro_c200 : List ro_In := [(0, .aload_n 0, 0, 0), (1, .iload_n 1, 0, 0), (2, .iconst 0, 0, 0), (3, .aload_n 2, 0, 0), (4, .arraylength, 0, 0), (5, .invokevirtual 57, 177, 0), (8, .iconst 1, 0, 0), (9, .if_icmp .eq 5, 0, 0), (12, .iconst 0, 0, 0), (13, .ireturn, 0, 0), (14, .iconst 0, 0, 0), (15, .istore_n 3, 0, 0), (16, .iload_n 3, 0, 0), (17, .aload_n 2, 0, 0), (18, .arraylength, 0, 0), (19, .if_icmp .ge 25, 0, 0), (22, .aload_n 0, 0, 0), (23, .iload_n 1, 0, 0), (24, .iload_n 3, 0, 0), (25, .aload_n 2, 0, 0), (26, .iload_n 3, 0, 0), (27, .iaload, 0, 0), (28, .i2l, 0, 0), (29, .invokevirtual 60, 179, 0), (32, .iconst 1, 0, 0), (33, .if_icmp .eq 5, 0, 0), (36, .iconst 0, 0, 0), (37, .ireturn, 0, 0), (38, .iinc 3 1, 0, 0), (41, .goto (-25), 0, 0), (44, .iconst 1, 0, 0), (45, .ireturn, 0, 0)]
/-- RefusedOnceLaw.evening([III)[I -/
def ro_c201_0 : List ro_In := [(0, .aload_n 0, 0, 0), (1, .invokestatic 23, 194, 0), (4, .istore_n 3, 0, 0), (5, .aload_n 0, 0, 0), (6, .iload_n 1, 0, 0), (7, .invokestatic 17, 193, 0), (10, .iload_n 2, 0, 0), (11, .iconst 1, 0, 0), (12, .iadd, 0, 0), (13, .irem, 0, 0), (14, .newarray .int, 0, 0), (16, .astore 4, 0, 0), (18, .iconst 0, 0, 0), (19, .istore 5, 0, 0), (21, .iload 5, 0, 0), (23, .aload 4, 0, 0), (25, .arraylength, 0, 0), (26, .if_icmp .ge 114, 0, 0), (29, .aload_n 0, 0, 0), (30, .iload_n 1, 0, 0), (31, .iconst 1, 0, 0), (32, .iadd, 0, 0), (33, .iload 5, 0, 0), (35, .iconst 3, 0, 0), (36, .irem, 0, 0), (37, .iadd, 0, 0), (38, .invokestatic 17, 193, 0), (41, .iload 5, 0, 0), (43, .ishr, 0, 0), (44, .istore 6, 0, 0), (46, .iload_n 3, 0, 0), (47, .iconst 2, 0, 0), (48, .if_icmp .ge 7, 0, 0), (51, .iconst 0, 0, 0), (52, .goto 7, 0, 0), (55, .iload 6, 0, 0), (57, .iload_n 3, 0, 0), (58, .irem, 0, 0), (59, .istore 7, 0, 0), (61, .iload_n 3, 0, 0), (62, .iconst 2, 0, 0), (63, .if_icmp .ge 7, 0, 0), (66, .iconst 1, 0, 0), (67, .goto 18, 0, 0), (70, .iload 7, 0, 0), (72, .iconst 1, 0, 0), (73, .iadd, 0, 0), (74, .iload 6, 0, 0), (76, .iconst 3, 0, 0), (77, .ishr, 0, 0), (78, .iload_n 3, 0, 0), (79, .iconst 1, 0, 0), (80, .isub, 0, 0), (81, .irem, 0, 0), (82, .iadd, 0, 0), (83, .iload_n 3, 0, 0), (84, .irem, 0, 0), (85, .istore 8, 0, 0), (87, .aload 4, 0, 0), (89, .iload 5, 0, 0)]
def ro_c201_1 : List ro_In := [(91, .iload 6, 0, 0), (93, .bipush 67, 0, 0), (95, .irem, 0, 0), (96, .bipush 66, 0, 0), (98, .if_icmp .ne 8, 0, 0), (101, .bipush 120, 0, 0), (103, .goto 30, 0, 0), (106, .bipush 20, 0, 0), (108, .iload 7, 0, 0), (110, .imul, 0, 0), (111, .iconst 2, 0, 0), (112, .iload 8, 0, 0), (114, .imul, 0, 0), (115, .iadd, 0, 0), (116, .iload 6, 0, 0), (118, .bipush 6, 0, 0), (120, .ishr, 0, 0), (121, .iconst 3, 0, 0), (122, .iand, 0, 0), (123, .iconst 3, 0, 0), (124, .if_icmp .ne 7, 0, 0), (127, .iconst 1, 0, 0), (128, .goto 4, 0, 0), (131, .iconst 0, 0, 0), (132, .iadd, 0, 0), (133, .iastore, 0, 0), (134, .iinc 5 1, 0, 0), (137, .goto (-116), 0, 0), (140, .aload 4, 0, 0), (142, .areturn, 0, 0)]
def ro_c201 : List ro_In := ro_c201_0 ++ (ro_c201_1)
/-- RefusedOnceLaw.counting([I[I)I -/
def ro_c202 : List ro_In := [(0, .iconst 0, 0, 0), (1, .istore_n 2, 0, 0), (2, .iload_n 2, 0, 0), (3, .bipush 20, 0, 0), (5, .if_icmp .ge 25, 0, 0), (8, .iload_n 2, 0, 0), (9, .aload_n 1, 0, 0), (10, .arraylength, 0, 0), (11, .if_icmp .ge 19, 0, 0), (14, .aload_n 0, 0, 0), (15, .aload_n 1, 0, 0), (16, .iload_n 2, 0, 0), (17, .iaload, 0, 0), (18, .invokestatic 64, 203, 0), (21, .ifCond .eq 9, 0, 0), (24, .iinc 2 1, 0, 0), (27, .goto (-25), 0, 0), (30, .iload_n 2, 0, 0), (31, .ireturn, 0, 0)]
/-- RefusedOnceLaw.offer([II)Z -/
def ro_c203 : List ro_In := [(0, .iload_n 1, 0, 0), (1, .ifCond .lt 44, 0, 0), (4, .iload_n 1, 0, 0), (5, .bipush 20, 0, 0), (7, .idiv, 0, 0), (8, .aload_n 0, 0, 0), (9, .invokestatic 23, 194, 0), (12, .if_icmp .ge 33, 0, 0), (15, .iload_n 1, 0, 0), (16, .bipush 20, 0, 0), (18, .irem, 0, 0), (19, .iconst 2, 0, 0), (20, .idiv, 0, 0), (21, .aload_n 0, 0, 0), (22, .invokestatic 23, 194, 0), (25, .if_icmp .ge 20, 0, 0), (28, .iload_n 1, 0, 0), (29, .bipush 20, 0, 0), (31, .idiv, 0, 0), (32, .iload_n 1, 0, 0), (33, .bipush 20, 0, 0), (35, .irem, 0, 0), (36, .iconst 2, 0, 0), (37, .idiv, 0, 0), (38, .if_icmp .eq 7, 0, 0), (41, .iconst 1, 0, 0), (42, .goto 4, 0, 0), (45, .iconst 0, 0, 0), (46, .ireturn, 0, 0)]
/-- java/lang/Integer.bitCount(I)I -/
def ro_c204 : List ro_In := [(0, .iload_n 0, 0, 0), (1, .iload_n 0, 0, 0), (2, .iconst 1, 0, 0), (3, .iushr, 0, 0), (4, .ldc_w 265, 0, 0), (7, .iand, 0, 0), (8, .isub, 0, 0), (9, .istore_n 0, 0, 0), (10, .iload_n 0, 0, 0), (11, .ldc_w 266, 0, 0), (14, .iand, 0, 0), (15, .iload_n 0, 0, 0), (16, .iconst 2, 0, 0), (17, .iushr, 0, 0), (18, .ldc_w 266, 0, 0), (21, .iand, 0, 0), (22, .iadd, 0, 0), (23, .istore_n 0, 0, 0), (24, .iload_n 0, 0, 0), (25, .iload_n 0, 0, 0), (26, .iconst 4, 0, 0), (27, .iushr, 0, 0), (28, .iadd, 0, 0), (29, .ldc_w 267, 0, 0), (32, .iand, 0, 0), (33, .istore_n 0, 0, 0), (34, .iload_n 0, 0, 0), (35, .iload_n 0, 0, 0), (36, .bipush 8, 0, 0), (38, .iushr, 0, 0), (39, .iadd, 0, 0), (40, .istore_n 0, 0, 0), (41, .iload_n 0, 0, 0), (42, .iload_n 0, 0, 0), (43, .bipush 16, 0, 0), (45, .iushr, 0, 0), (46, .iadd, 0, 0), (47, .istore_n 0, 0, 0), (48, .iload_n 0, 0, 0), (49, .bipush 63, 0, 0), (51, .iand, 0, 0), (52, .ireturn, 0, 0)]
/-- java/util/Arrays.copyOf([II)[I -/
def ro_c205 : List ro_In := [(0, .iload_n 1, 0, 0), (1, .aload_n 0, 0, 0), (2, .arraylength, 0, 0), (3, .if_icmp .ne 11, 0, 0), (6, .aload_n 0, 0, 0), (7, .invokevirtual 316, 0, 7), (10, .checkcast 317, 0, 0), (13, .areturn, 0, 0), (14, .iload_n 1, 0, 0), (15, .newarray .int, 0, 0), (17, .astore_n 2, 0, 0), (18, .aload_n 0, 0, 0), (19, .iconst 0, 0, 0), (20, .aload_n 2, 0, 0), (21, .iconst 0, 0, 0), (22, .aload_n 0, 0, 0), (23, .arraylength, 0, 0), (24, .iload_n 1, 0, 0), (25, .invokestatic 304, 1, 3), (28, .invokestatic 150, 0, 4), (31, .aload_n 2, 0, 0), (32, .areturn, 0, 0)]
/-- RefusedOnceLaw.law([I)Z -/
def ro_c206_0 : List ro_In := [(0, .new 8, 11, 0), (3, .dup, 0, 0), (4, .invokespecial 87, 0, 0), (7, .astore_n 1, 0, 0), (8, .aload_n 1, 0, 0), (9, .aload_n 0, 0, 0), (10, .invokestatic 88, 196, 0), (13, .ifCond .ne 5, 0, 0), (16, .iconst 0, 0, 0), (17, .ireturn, 0, 0), (18, .aload_n 0, 0, 0), (19, .invokestatic 23, 194, 0), (22, .istore_n 2, 0, 0), (23, .aload_n 0, 0, 0), (24, .bipush 8, 0, 0), (26, .bipush 10, 0, 0), (28, .invokestatic 92, 201, 0), (31, .astore_n 3, 0, 0), (32, .aload_n 0, 0, 0), (33, .aload_n 3, 0, 0), (34, .invokestatic 96, 202, 0), (37, .istore 4, 0, 0), (39, .aload_n 1, 0, 0), (40, .iconst 0, 0, 0), (41, .iconst 0, 0, 0), (42, .iconst 0, 0, 0), (43, .invokevirtual 57, 177, 0), (46, .iconst 1, 0, 0), (47, .if_icmp .ne 23, 0, 0), (50, .aload_n 1, 0, 0)]
def ro_c206_1 : List ro_In := [(51, .iconst 0, 0, 0), (52, .aload_n 3, 0, 0), (53, .invokestatic 100, 200, 0), (56, .ifCond .eq 14, 0, 0), (59, .aload_n 1, 0, 0), (60, .iconst 0, 0, 0), (61, .bipush 20, 0, 0), (63, .iconst 1, 0, 0), (64, .invokevirtual 103, 79, 0), (67, .goto 5, 0, 0), (70, .bipush (-9), 0, 0), (72, .istore 5, 0, 0), (74, .iload 5, 0, 0), (76, .bipush (-9), 0, 0), (78, .if_icmp .ne 5, 0, 0), (81, .iconst 0, 0, 0), (82, .ireturn, 0, 0), (83, .iload 5, 0, 0), (85, .ifCond .ge 8, 0, 0), (88, .iload 4, 0, 0), (90, .goto 5, 0, 0), (93, .iload 5, 0, 0), (95, .istore 6, 0, 0), (97, .aload_n 3, 0, 0), (98, .iload 6, 0, 0), (100, .invokestatic 105, 205, 0), (103, .astore 7, 0, 0), (105, .aload_n 1, 0, 0), (106, .iconst 0, 0, 0), (107, .aload 7, 0, 0)]
def ro_c206_2 : List ro_In := [(109, .invokestatic 100, 200, 0), (112, .ifCond .ne 5, 0, 0), (115, .iconst 0, 0, 0), (116, .ireturn, 0, 0), (117, .aload_n 1, 0, 0), (118, .iconst 0, 0, 0), (119, .bipush 20, 0, 0), (121, .iconst 0, 0, 0), (122, .invokevirtual 103, 79, 0), (125, .istore 8, 0, 0), (127, .aload_n 1, 0, 0), (128, .iconst 0, 0, 0), (129, .bipush 20, 0, 0), (131, .iconst 2, 0, 0), (132, .invokevirtual 103, 79, 0), (135, .istore 9, 0, 0), (137, .iconst 2, 0, 0), (138, .iload_n 2, 0, 0), (139, .imul, 0, 0), (140, .newarray .int, 0, 0), (142, .astore 10, 0, 0), (144, .iconst 0, 0, 0), (145, .istore 11, 0, 0), (147, .iconst 0, 0, 0), (148, .istore 12, 0, 0), (150, .iconst 0, 0, 0), (151, .istore 13, 0, 0), (153, .iload 13, 0, 0), (155, .iload_n 2, 0, 0), (156, .if_icmp .ge 147, 0, 0)]
def ro_c206_3 : List ro_In := [(159, .aload 10, 0, 0), (161, .iconst 2, 0, 0), (162, .iload 13, 0, 0), (164, .imul, 0, 0), (165, .aload_n 1, 0, 0), (166, .iconst 0, 0, 0), (167, .bipush 20, 0, 0), (169, .iload 13, 0, 0), (171, .iconst 0, 0, 0), (172, .invokevirtual 111, 64, 0), (175, .iastore, 0, 0), (176, .aload 10, 0, 0), (178, .iconst 2, 0, 0), (179, .iload 13, 0, 0), (181, .imul, 0, 0), (182, .iconst 1, 0, 0), (183, .iadd, 0, 0), (184, .aload_n 1, 0, 0), (185, .iconst 0, 0, 0), (186, .bipush 20, 0, 0), (188, .iload 13, 0, 0), (190, .iconst 1, 0, 0), (191, .invokevirtual 111, 64, 0), (194, .iastore, 0, 0), (195, .iload 11, 0, 0), (197, .aload 10, 0, 0), (199, .iconst 2, 0, 0), (200, .iload 13, 0, 0), (202, .imul, 0, 0), (203, .iaload, 0, 0)]
def ro_c206_4 : List ro_In := [(204, .aload 10, 0, 0), (206, .iconst 2, 0, 0), (207, .iload 13, 0, 0), (209, .imul, 0, 0), (210, .iconst 1, 0, 0), (211, .iadd, 0, 0), (212, .iaload, 0, 0), (213, .iadd, 0, 0), (214, .iadd, 0, 0), (215, .istore 11, 0, 0), (217, .iload 12, 0, 0), (219, .aload_n 1, 0, 0), (220, .iload 13, 0, 0), (222, .iconst 0, 0, 0), (223, .invokevirtual 115, 36, 0), (226, .aload_n 1, 0, 0), (227, .iload 13, 0, 0), (229, .iconst 1, 0, 0), (230, .invokevirtual 115, 36, 0), (233, .iadd, 0, 0), (234, .iadd, 0, 0), (235, .istore 12, 0, 0), (237, .aload_n 1, 0, 0), (238, .iconst 0, 0, 0), (239, .bipush 20, 0, 0), (241, .iload 13, 0, 0), (243, .iconst 2, 0, 0), (244, .invokevirtual 111, 64, 0), (247, .iconst 4, 0, 0), (248, .aload 10, 0, 0)]
def ro_c206_5 : List ro_In := [(250, .iconst 2, 0, 0), (251, .iload 13, 0, 0), (253, .imul, 0, 0), (254, .iaload, 0, 0), (255, .imul, 0, 0), (256, .aload_n 1, 0, 0), (257, .iconst 0, 0, 0), (258, .iconst 4, 0, 0), (259, .invokevirtual 115, 36, 0), (262, .aload 10, 0, 0), (264, .iconst 2, 0, 0), (265, .iload 13, 0, 0), (267, .imul, 0, 0), (268, .iconst 1, 0, 0), (269, .iadd, 0, 0), (270, .iaload, 0, 0), (271, .imul, 0, 0), (272, .iadd, 0, 0), (273, .if_icmp .ne 22, 0, 0), (276, .aload_n 1, 0, 0), (277, .iconst 0, 0, 0), (278, .iconst 0, 0, 0), (279, .iload 13, 0, 0), (281, .iconst 0, 0, 0), (282, .invokevirtual 111, 64, 0), (285, .aload_n 1, 0, 0), (286, .iload 13, 0, 0), (288, .iconst 0, 0, 0), (289, .invokevirtual 115, 36, 0), (292, .if_icmp .eq 5, 0, 0)]
def ro_c206_6 : List ro_In := [(295, .iconst 0, 0, 0), (296, .ireturn, 0, 0), (297, .iinc 13 1, 0, 0), (300, .goto (-147), 0, 0), (303, .iload 11, 0, 0), (305, .iload 12, 0, 0), (307, .if_icmp .ne 13, 0, 0), (310, .iload 9, 0, 0), (312, .invokestatic 119, 204, 0), (315, .iload 8, 0, 0), (317, .if_icmp .le 5, 0, 0), (320, .iconst 0, 0, 0), (321, .ireturn, 0, 0), (322, .aload_n 1, 0, 0), (323, .iconst 1, 0, 0), (324, .aload 10, 0, 0), (326, .invokestatic 100, 200, 0), (329, .ifCond .ne 5, 0, 0), (332, .iconst 0, 0, 0), (333, .ireturn, 0, 0), (334, .aload_n 1, 0, 0), (335, .iconst 0, 0, 0), (336, .iconst 1, 0, 0), (337, .iconst 0, 0, 0), (338, .invokevirtual 124, 119, 0), (341, .istore 13, 0, 0), (343, .iload 13, 0, 0), (345, .iconst 1, 0, 0), (346, .if_icmp .lt 35, 0, 0), (349, .aload_n 1, 0, 0)]
def ro_c206_7 : List ro_In := [(350, .iconst 0, 0, 0), (351, .iconst 1, 0, 0), (352, .iconst 1, 0, 0), (353, .invokevirtual 124, 119, 0), (356, .iload 8, 0, 0), (358, .if_icmp .gt 23, 0, 0), (361, .aload_n 1, 0, 0), (362, .iconst 0, 0, 0), (363, .iconst 1, 0, 0), (364, .iconst 2, 0, 0), (365, .invokevirtual 124, 119, 0), (368, .invokestatic 119, 204, 0), (371, .aload_n 1, 0, 0), (372, .iconst 0, 0, 0), (373, .iconst 1, 0, 0), (374, .iconst 1, 0, 0), (375, .invokevirtual 124, 119, 0), (378, .if_icmp .eq 5, 0, 0), (381, .iconst 0, 0, 0), (382, .ireturn, 0, 0), (383, .aload_n 1, 0, 0), (384, .iconst 0, 0, 0), (385, .iconst 1, 0, 0), (386, .iconst 3, 0, 0), (387, .invokevirtual 124, 119, 0), (390, .istore 14, 0, 0), (392, .iload 14, 0, 0), (394, .aload_n 1, 0, 0), (395, .iconst 0, 0, 0), (396, .iconst 1, 0, 0)]
def ro_c206_8 : List ro_In := [(397, .iconst 2, 0, 0), (398, .invokevirtual 124, 119, 0), (401, .iconst (-1), 0, 0), (402, .ixor, 0, 0), (403, .iand, 0, 0), (404, .ifCond .eq 5, 0, 0), (407, .iconst 0, 0, 0), (408, .ireturn, 0, 0), (409, .aload_n 1, 0, 0), (410, .invokevirtual 127, 150, 0), (413, .ifCond .eq 5, 0, 0), (416, .iconst 0, 0, 0), (417, .ireturn, 0, 0), (418, .iconst 0, 0, 0), (419, .istore 15, 0, 0), (421, .iconst 0, 0, 0), (422, .istore 16, 0, 0), (424, .iconst 0, 0, 0), (425, .istore 17, 0, 0), (427, .iload 17, 0, 0), (429, .iload 6, 0, 0), (431, .if_icmp .ge 111, 0, 0), (434, .bipush 10, 0, 0), (436, .aload 7, 0, 0), (438, .iload 17, 0, 0), (440, .iaload, 0, 0), (441, .bipush 20, 0, 0), (443, .idiv, 0, 0), (444, .imul, 0, 0), (445, .aload 7, 0, 0)]
def ro_c206_9 : List ro_In := [(447, .iload 17, 0, 0), (449, .iaload, 0, 0), (450, .bipush 20, 0, 0), (452, .irem, 0, 0), (453, .iconst 2, 0, 0), (454, .idiv, 0, 0), (455, .iadd, 0, 0), (456, .istore 18, 0, 0), (458, .aload 7, 0, 0), (460, .iload 17, 0, 0), (462, .iaload, 0, 0), (463, .iconst 2, 0, 0), (464, .irem, 0, 0), (465, .iconst 1, 0, 0), (466, .if_icmp .ne 7, 0, 0), (469, .iconst 2, 0, 0), (470, .goto 24, 0, 0), (473, .aload_n 1, 0, 0), (474, .iload 18, 0, 0), (476, .invokevirtual 130, 55, 0), (479, .aload_n 1, 0, 0), (480, .iconst 0, 0, 0), (481, .bipush 6, 0, 0), (483, .invokevirtual 115, 36, 0), (486, .if_icmp .lt 7, 0, 0), (489, .iconst 1, 0, 0), (490, .goto 4, 0, 0), (493, .iconst 0, 0, 0), (494, .istore 19, 0, 0), (496, .aload_n 1, 0, 0)]
def ro_c206_10 : List ro_In := [(497, .iload 18, 0, 0), (499, .iload 19, 0, 0), (501, .invokevirtual 133, 144, 0), (504, .ifCond .ge 5, 0, 0), (507, .iconst 0, 0, 0), (508, .ireturn, 0, 0), (509, .iload 19, 0, 0), (511, .iconst 1, 0, 0), (512, .if_icmp .ne 24, 0, 0), (515, .iload 15, 0, 0), (517, .iconst 1, 0, 0), (518, .iload 17, 0, 0), (520, .ishl, 0, 0), (521, .ior, 0, 0), (522, .istore 15, 0, 0), (524, .iload 16, 0, 0), (526, .iconst 1, 0, 0), (527, .iload 18, 0, 0), (529, .bipush 10, 0, 0), (531, .irem, 0, 0), (532, .ishl, 0, 0), (533, .ior, 0, 0), (534, .istore 16, 0, 0), (536, .iinc 17 1, 0, 0), (539, .goto (-112), 0, 0), (542, .iload 14, 0, 0), (544, .iload 15, 0, 0), (546, .iconst (-1), 0, 0), (547, .ixor, 0, 0), (548, .iand, 0, 0)]
def ro_c206_11 : List ro_In := [(549, .ifCond .ne 30, 0, 0), (552, .iload 16, 0, 0), (554, .iload 9, 0, 0), (556, .if_icmp .ne 23, 0, 0), (559, .aload_n 1, 0, 0), (560, .iconst 1, 0, 0), (561, .invokevirtual 135, 148, 0), (564, .iload 8, 0, 0), (566, .if_icmp .ne 13, 0, 0), (569, .aload_n 1, 0, 0), (570, .iconst 0, 0, 0), (571, .invokevirtual 135, 148, 0), (574, .iload 6, 0, 0), (576, .if_icmp .eq 5, 0, 0), (579, .iconst 0, 0, 0), (580, .ireturn, 0, 0), (581, .iconst 0, 0, 0), (582, .istore 17, 0, 0), (584, .iload 17, 0, 0), (586, .iload_n 2, 0, 0), (587, .if_icmp .ge 47, 0, 0), (590, .aload_n 1, 0, 0), (591, .iload 17, 0, 0), (593, .iconst 0, 0, 0), (594, .invokevirtual 115, 36, 0), (597, .aload 10, 0, 0), (599, .iconst 2, 0, 0), (600, .iload 17, 0, 0), (602, .imul, 0, 0), (603, .iaload, 0, 0)]
def ro_c206_12 : List ro_In := [(604, .if_icmp .ne 22, 0, 0), (607, .aload_n 1, 0, 0), (608, .iload 17, 0, 0), (610, .iconst 1, 0, 0), (611, .invokevirtual 115, 36, 0), (614, .aload 10, 0, 0), (616, .iconst 2, 0, 0), (617, .iload 17, 0, 0), (619, .imul, 0, 0), (620, .iconst 1, 0, 0), (621, .iadd, 0, 0), (622, .iaload, 0, 0), (623, .if_icmp .eq 5, 0, 0), (626, .iconst 0, 0, 0), (627, .ireturn, 0, 0), (628, .iinc 17 1, 0, 0), (631, .goto (-47), 0, 0), (634, .aload_n 1, 0, 0), (635, .iconst 1, 0, 0), (636, .invokevirtual 13, 190, 0), (639, .aload_n 1, 0, 0), (640, .iconst 2, 0, 0), (641, .invokevirtual 13, 190, 0), (644, .iadd, 0, 0), (645, .iload 12, 0, 0), (647, .if_icmp .ne 10, 0, 0), (650, .aload_n 1, 0, 0), (651, .invokevirtual 138, 152, 0), (654, .ifCond .eq 5, 0, 0), (657, .iconst 0, 0, 0)]
def ro_c206_13 : List ro_In := [(658, .ireturn, 0, 0), (659, .iconst 0, 0, 0), (660, .istore 17, 0, 0), (662, .iload 17, 0, 0), (664, .iload_n 2, 0, 0), (665, .if_icmp .ge 45, 0, 0), (668, .aload_n 1, 0, 0), (669, .iload 17, 0, 0), (671, .iconst 0, 0, 0), (672, .invokevirtual 115, 36, 0), (675, .aload_n 0, 0, 0), (676, .iload 17, 0, 0), (678, .iconst 0, 0, 0), (679, .invokestatic 27, 195, 0), (682, .if_icmp .ne 20, 0, 0), (685, .aload_n 1, 0, 0), (686, .iload 17, 0, 0), (688, .iconst 1, 0, 0), (689, .invokevirtual 115, 36, 0), (692, .aload_n 0, 0, 0), (693, .iload 17, 0, 0), (695, .iconst 1, 0, 0), (696, .invokestatic 27, 195, 0), (699, .if_icmp .eq 5, 0, 0), (702, .iconst 0, 0, 0), (703, .ireturn, 0, 0), (704, .iinc 17 1, 0, 0), (707, .goto (-45), 0, 0), (710, .iload_n 2, 0, 0), (711, .iconst 2, 0, 0)]
def ro_c206_14 : List ro_In := [(712, .if_icmp .ge 7, 0, 0), (715, .iconst 0, 0, 0), (716, .goto 14, 0, 0), (719, .iconst 2, 0, 0), (720, .aload_n 0, 0, 0), (721, .bipush 12, 0, 0), (723, .invokestatic 17, 193, 0), (726, .bipush 6, 0, 0), (728, .irem, 0, 0), (729, .imul, 0, 0), (730, .newarray .int, 0, 0), (732, .astore 17, 0, 0), (734, .iconst 0, 0, 0), (735, .istore 18, 0, 0), (737, .iload 18, 0, 0), (739, .aload 17, 0, 0), (741, .arraylength, 0, 0), (742, .if_icmp .ge 59, 0, 0), (745, .aload_n 0, 0, 0), (746, .bipush 13, 0, 0), (748, .invokestatic 17, 193, 0), (751, .iload 18, 0, 0), (753, .ishr, 0, 0), (754, .istore 19, 0, 0), (756, .aload 17, 0, 0), (758, .iload 18, 0, 0), (760, .iload 18, 0, 0), (762, .iconst 2, 0, 0), (763, .irem, 0, 0), (764, .ifCond .ne 10, 0, 0)]
def ro_c206_15 : List ro_In := [(767, .iload 19, 0, 0), (769, .iload_n 2, 0, 0), (770, .irem, 0, 0), (771, .goto 23, 0, 0), (774, .aload 17, 0, 0), (776, .iload 18, 0, 0), (778, .iconst 1, 0, 0), (779, .isub, 0, 0), (780, .iaload, 0, 0), (781, .iconst 1, 0, 0), (782, .iadd, 0, 0), (783, .iload 19, 0, 0), (785, .iconst 3, 0, 0), (786, .ishr, 0, 0), (787, .iload_n 2, 0, 0), (788, .iconst 1, 0, 0), (789, .isub, 0, 0), (790, .irem, 0, 0), (791, .iadd, 0, 0), (792, .iload_n 2, 0, 0), (793, .irem, 0, 0), (794, .iastore, 0, 0), (795, .iinc 18 1, 0, 0), (798, .goto (-61), 0, 0), (801, .aload_n 1, 0, 0), (802, .iconst 2, 0, 0), (803, .aload 17, 0, 0), (805, .invokestatic 100, 200, 0), (808, .ifCond .ne 5, 0, 0), (811, .iconst 0, 0, 0)]
def ro_c206_16 : List ro_In := [(812, .ireturn, 0, 0), (813, .aload_n 1, 0, 0), (814, .iconst 2, 0, 0), (815, .iconst (-1), 0, 0), (816, .invokevirtual 141, 83, 0), (819, .istore 18, 0, 0), (821, .aload_n 1, 0, 0), (822, .iconst 2, 0, 0), (823, .invokevirtual 144, 93, 0), (826, .istore 19, 0, 0), (828, .iload 18, 0, 0), (830, .ifCond .lt 230, 0, 0), (833, .iconst 0, 0, 0), (834, .istore 20, 0, 0), (836, .aload 17, 0, 0), (838, .arraylength, 0, 0), (839, .iconst 2, 0, 0), (840, .idiv, 0, 0), (841, .newarray .int, 0, 0), (843, .astore 21, 0, 0), (845, .iconst 0, 0, 0), (846, .istore 22, 0, 0), (848, .iload 22, 0, 0), (850, .aload 21, 0, 0), (852, .arraylength, 0, 0), (853, .if_icmp .ge 21, 0, 0), (856, .aload 21, 0, 0), (858, .iload 22, 0, 0), (860, .aload_n 1, 0, 0), (861, .iconst 2, 0, 0)]
def ro_c206_17 : List ro_In := [(862, .iload 22, 0, 0), (864, .invokevirtual 141, 83, 0), (867, .iastore, 0, 0), (868, .iinc 22 1, 0, 0), (871, .goto (-23), 0, 0), (874, .iconst 0, 0, 0), (875, .istore 22, 0, 0), (877, .iconst 2, 0, 0), (878, .iload 22, 0, 0), (880, .imul, 0, 0), (881, .aload 17, 0, 0), (883, .arraylength, 0, 0), (884, .if_icmp .ge 136, 0, 0), (887, .bipush 10, 0, 0), (889, .aload 17, 0, 0), (891, .iconst 2, 0, 0), (892, .iload 22, 0, 0), (894, .imul, 0, 0), (895, .iaload, 0, 0), (896, .imul, 0, 0), (897, .aload 17, 0, 0), (899, .iconst 2, 0, 0), (900, .iload 22, 0, 0), (902, .imul, 0, 0), (903, .iconst 1, 0, 0), (904, .iadd, 0, 0), (905, .iaload, 0, 0), (906, .iadd, 0, 0), (907, .istore 23, 0, 0), (909, .aload 21, 0, 0)]
def ro_c206_18 : List ro_In := [(911, .iload 22, 0, 0), (913, .iaload, 0, 0), (914, .istore 24, 0, 0), (916, .iload 24, 0, 0), (918, .ifCond .ge 5, 0, 0), (921, .iconst 0, 0, 0), (922, .ireturn, 0, 0), (923, .iload 24, 0, 0), (925, .iconst 1, 0, 0), (926, .if_icmp .ne 20, 0, 0), (929, .aload_n 1, 0, 0), (930, .iload 23, 0, 0), (932, .iconst 2, 0, 0), (933, .invokevirtual 133, 144, 0), (936, .iload 23, 0, 0), (938, .bipush 10, 0, 0), (940, .irem, 0, 0), (941, .if_icmp .eq 73, 0, 0), (944, .iconst 0, 0, 0), (945, .ireturn, 0, 0), (946, .aload_n 1, 0, 0), (947, .iload 23, 0, 0), (949, .invokevirtual 130, 55, 0), (952, .aload_n 1, 0, 0), (953, .iconst 0, 0, 0), (954, .bipush 6, 0, 0), (956, .invokevirtual 115, 36, 0), (959, .if_icmp .lt 38, 0, 0), (962, .iinc 20 1, 0, 0), (965, .aload_n 1, 0, 0)]
def ro_c206_19 : List ro_In := [(966, .iload 23, 0, 0), (968, .iconst 1, 0, 0), (969, .invokevirtual 133, 144, 0), (972, .iload 23, 0, 0), (974, .bipush 10, 0, 0), (976, .idiv, 0, 0), (977, .if_icmp .ne 18, 0, 0), (980, .aload_n 1, 0, 0), (981, .iload 23, 0, 0), (983, .iconst 2, 0, 0), (984, .invokevirtual 133, 144, 0), (987, .iload 23, 0, 0), (989, .bipush 10, 0, 0), (991, .irem, 0, 0), (992, .if_icmp .eq 22, 0, 0), (995, .iconst 0, 0, 0), (996, .ireturn, 0, 0), (997, .aload_n 1, 0, 0), (998, .iload 23, 0, 0), (1000, .iconst 0, 0, 0), (1001, .invokevirtual 133, 144, 0), (1004, .iload 23, 0, 0), (1006, .bipush 10, 0, 0), (1008, .irem, 0, 0), (1009, .if_icmp .eq 5, 0, 0), (1012, .iconst 0, 0, 0), (1013, .ireturn, 0, 0), (1014, .iinc 22 1, 0, 0), (1017, .goto (-140), 0, 0), (1020, .iload 20, 0, 0)]
def ro_c206_20 : List ro_In := [(1022, .iload 18, 0, 0), (1024, .if_icmp .ne 31, 0, 0), (1027, .aload 17, 0, 0), (1029, .arraylength, 0, 0), (1030, .ifCond .le 18, 0, 0), (1033, .aload_n 1, 0, 0), (1034, .aload 17, 0, 0), (1036, .iconst 0, 0, 0), (1037, .iaload, 0, 0), (1038, .bipush 7, 0, 0), (1040, .invokevirtual 115, 36, 0), (1043, .iload 19, 0, 0), (1045, .if_icmp .gt 10, 0, 0), (1048, .aload_n 1, 0, 0), (1049, .invokevirtual 138, 152, 0), (1052, .ifCond .eq 5, 0, 0), (1055, .iconst 0, 0, 0), (1056, .ireturn, 0, 0), (1057, .goto 10, 0, 0), (1060, .iload 19, 0, 0), (1062, .ifCond .lt 5, 0, 0), (1065, .iconst 0, 0, 0), (1066, .ireturn, 0, 0), (1067, .iconst 0, 0, 0), (1068, .istore 20, 0, 0), (1070, .iload 20, 0, 0), (1072, .iload_n 2, 0, 0), (1073, .if_icmp .ge 403, 0, 0), (1076, .iconst 0, 0, 0), (1077, .istore 21, 0, 0)]
def ro_c206_21 : List ro_In := [(1079, .iload 21, 0, 0), (1081, .iload_n 2, 0, 0), (1082, .if_icmp .ge 209, 0, 0), (1085, .iload 20, 0, 0), (1087, .iload 21, 0, 0), (1089, .if_icmp .ne 6, 0, 0), (1092, .goto 193, 0, 0), (1095, .bipush 10, 0, 0), (1097, .iload 20, 0, 0), (1099, .imul, 0, 0), (1100, .iload 21, 0, 0), (1102, .iadd, 0, 0), (1103, .istore 22, 0, 0), (1105, .aload_n 0, 0, 0), (1106, .bipush 14, 0, 0), (1108, .iload 20, 0, 0), (1110, .iadd, 0, 0), (1111, .invokestatic 17, 193, 0), (1114, .bipush 6, 0, 0), (1116, .irem, 0, 0), (1117, .istore 23, 0, 0), (1119, .dconst 0, 0, 0), (1120, .dstore 24, 0, 0), (1122, .dconst 0, 0, 0), (1123, .dstore 26, 0, 0), (1125, .iconst 0, 0, 0), (1126, .istore 28, 0, 0), (1128, .iload 28, 0, 0), (1130, .bipush 9, 0, 0), (1132, .if_icmp .ge 103, 0, 0)]
def ro_c206_22 : List ro_In := [(1135, .aload_n 1, 0, 0), (1136, .iload 22, 0, 0), (1138, .iload 23, 0, 0), (1140, .iload 28, 0, 0), (1142, .iconst 0, 0, 0), (1143, .invokevirtual 147, 94, 0), (1146, .l2d, 0, 0), (1147, .aload_n 1, 0, 0), (1148, .iload 22, 0, 0), (1150, .iload 23, 0, 0), (1152, .iload 28, 0, 0), (1154, .iconst 1, 0, 0), (1155, .invokevirtual 147, 94, 0), (1158, .l2d, 0, 0), (1159, .ddiv, 0, 0), (1160, .dstore 29, 0, 0), (1162, .dload 29, 0, 0), (1164, .dconst 0, 0, 0), (1165, .dcmp .g, 0, 0), (1166, .ifCond .lt 43, 0, 0), (1169, .dload 29, 0, 0), (1171, .dconst 1, 0, 0), (1172, .dcmp .l, 0, 0), (1173, .ifCond .gt 36, 0, 0), (1176, .iload 28, 0, 0), (1178, .iload 23, 0, 0), (1180, .if_icmp .le 10, 0, 0), (1183, .dload 29, 0, 0), (1185, .dconst 0, 0, 0), (1186, .dcmp .l, 0, 0)]
def ro_c206_23 : List ro_In := [(1187, .ifCond .ne 22, 0, 0), (1190, .iload 28, 0, 0), (1192, .aload_n 0, 0, 0), (1193, .iload 20, 0, 0), (1195, .iconst 0, 0, 0), (1196, .invokestatic 27, 195, 0), (1199, .if_icmp .le 12, 0, 0), (1202, .dload 29, 0, 0), (1204, .dconst 0, 0, 0), (1205, .dcmp .l, 0, 0), (1206, .ifCond .eq 5, 0, 0), (1209, .iconst 0, 0, 0), (1210, .ireturn, 0, 0), (1211, .dload 24, 0, 0), (1213, .dload 29, 0, 0), (1215, .dadd, 0, 0), (1216, .dstore 24, 0, 0), (1218, .dload 26, 0, 0), (1220, .iload 28, 0, 0), (1222, .i2d, 0, 0), (1223, .dload 29, 0, 0), (1225, .dmul, 0, 0), (1226, .dadd, 0, 0), (1227, .dstore 26, 0, 0), (1229, .iinc 28 1, 0, 0), (1232, .goto (-104), 0, 0), (1235, .dload 24, 0, 0), (1237, .dconst 1, 0, 0), (1238, .dsub, 0, 0), (1239, .invokestatic 151, 0, 5)]
def ro_c206_24 : List ro_In := [(1242, .ldc2_w 157, 1, 0), (1245, .dcmp .l, 0, 0), (1246, .ifCond .gt 37, 0, 0), (1249, .dload 26, 0, 0), (1251, .aload_n 1, 0, 0), (1252, .iload 22, 0, 0), (1254, .iload 23, 0, 0), (1256, .iconst 0, 0, 0), (1257, .invokevirtual 159, 103, 0), (1260, .l2d, 0, 0), (1261, .aload_n 1, 0, 0), (1262, .iload 22, 0, 0), (1264, .iload 23, 0, 0), (1266, .iconst 1, 0, 0), (1267, .invokevirtual 159, 103, 0), (1270, .l2d, 0, 0), (1271, .ddiv, 0, 0), (1272, .dsub, 0, 0), (1273, .invokestatic 151, 0, 5), (1276, .ldc2_w 157, 1, 0), (1279, .dcmp .l, 0, 0), (1280, .ifCond .le 5, 0, 0), (1283, .iconst 0, 0, 0), (1284, .ireturn, 0, 0), (1285, .iinc 21 1, 0, 0), (1288, .goto (-209), 0, 0), (1291, .dconst 0, 0, 0), (1292, .dstore 21, 0, 0), (1294, .iconst 0, 0, 0), (1295, .istore 23, 0, 0)]
def ro_c206_25 : List ro_In := [(1297, .iload 23, 0, 0), (1299, .bipush 21, 0, 0), (1301, .if_icmp .ge 101, 0, 0), (1304, .aload_n 1, 0, 0), (1305, .iload 20, 0, 0), (1307, .iload 23, 0, 0), (1309, .iconst 0, 0, 0), (1310, .invokevirtual 163, 111, 0), (1313, .l2d, 0, 0), (1314, .aload_n 1, 0, 0), (1315, .iload 20, 0, 0), (1317, .iload 23, 0, 0), (1319, .iconst 1, 0, 0), (1320, .invokevirtual 163, 111, 0), (1323, .l2d, 0, 0), (1324, .ddiv, 0, 0), (1325, .dstore 24, 0, 0), (1327, .dload 24, 0, 0), (1329, .ldc2_w 166, 1, 0), (1332, .dadd, 0, 0), (1333, .dload 21, 0, 0), (1335, .dcmp .g, 0, 0), (1336, .ifCond .lt 54, 0, 0), (1339, .dload 24, 0, 0), (1341, .dconst 1, 0, 0), (1342, .dcmp .l, 0, 0), (1343, .ifCond .gt 47, 0, 0), (1346, .dload 24, 0, 0), (1348, .aload_n 1, 0, 0), (1349, .iload 20, 0, 0)]
def ro_c206_26 : List ro_In := [(1351, .bipush 10, 0, 0), (1353, .iload 23, 0, 0), (1355, .imul, 0, 0), (1356, .iconst 1, 0, 0), (1357, .iadd, 0, 0), (1358, .iconst 0, 0, 0), (1359, .invokevirtual 168, 115, 0), (1362, .l2d, 0, 0), (1363, .aload_n 1, 0, 0), (1364, .iload 20, 0, 0), (1366, .bipush 10, 0, 0), (1368, .iload 23, 0, 0), (1370, .imul, 0, 0), (1371, .iconst 1, 0, 0), (1372, .iadd, 0, 0), (1373, .iconst 1, 0, 0), (1374, .invokevirtual 168, 115, 0), (1377, .l2d, 0, 0), (1378, .ddiv, 0, 0), (1379, .dsub, 0, 0), (1380, .invokestatic 151, 0, 5), (1383, .ldc2_w 166, 1, 0), (1386, .dcmp .l, 0, 0), (1387, .ifCond .le 5, 0, 0), (1390, .iconst 0, 0, 0), (1391, .ireturn, 0, 0), (1392, .dload 24, 0, 0), (1394, .dstore 21, 0, 0), (1396, .iinc 23 1, 0, 0), (1399, .goto (-102), 0, 0)]
def ro_c206_27 : List ro_In := [(1402, .aload_n 1, 0, 0), (1403, .iload 20, 0, 0), (1405, .bipush 8, 0, 0), (1407, .invokevirtual 115, 36, 0), (1410, .ifCond .le 7, 0, 0), (1413, .iconst 1, 0, 0), (1414, .goto 4, 0, 0), (1417, .iconst 0, 0, 0), (1418, .dload 21, 0, 0), (1420, .dconst 1, 0, 0), (1421, .dcmp .l, 0, 0), (1422, .ifCond .ne 7, 0, 0), (1425, .iconst 1, 0, 0), (1426, .goto 4, 0, 0), (1429, .iconst 0, 0, 0), (1430, .if_icmp .ne 38, 0, 0), (1433, .aload_n 1, 0, 0), (1434, .iload 20, 0, 0), (1436, .bipush 12, 0, 0), (1438, .invokevirtual 171, 114, 0), (1441, .ifCond .lt 7, 0, 0), (1444, .iconst 1, 0, 0), (1445, .goto 4, 0, 0), (1448, .iconst 0, 0, 0), (1449, .aload_n 1, 0, 0), (1450, .iload 20, 0, 0), (1452, .bipush 8, 0, 0), (1454, .invokevirtual 115, 36, 0), (1457, .ifCond .le 7, 0, 0), (1460, .iconst 1, 0, 0)]
def ro_c206_28 : List ro_In := [(1461, .goto 4, 0, 0), (1464, .iconst 0, 0, 0), (1465, .if_icmp .eq 5, 0, 0), (1468, .iconst 0, 0, 0), (1469, .ireturn, 0, 0), (1470, .iinc 20 1, 0, 0), (1473, .goto (-403), 0, 0), (1476, .dconst 1, 0, 0), (1477, .dstore 20, 0, 0), (1479, .iconst 0, 0, 0), (1480, .istore 22, 0, 0), (1482, .iload 22, 0, 0), (1484, .iconst 3, 0, 0), (1485, .if_icmp .ge 53, 0, 0), (1488, .aload_n 1, 0, 0), (1489, .iload 22, 0, 0), (1491, .iconst 0, 0, 0), (1492, .invokevirtual 174, 105, 0), (1495, .l2d, 0, 0), (1496, .aload_n 1, 0, 0), (1497, .iload 22, 0, 0), (1499, .iconst 1, 0, 0), (1500, .invokevirtual 174, 105, 0), (1503, .l2d, 0, 0), (1504, .ddiv, 0, 0), (1505, .dstore 23, 0, 0), (1507, .dload 23, 0, 0), (1509, .dload 20, 0, 0), (1511, .ldc2_w 166, 1, 0), (1514, .dadd, 0, 0)]
def ro_c206_29 : List ro_In := [(1515, .dcmp .l, 0, 0), (1516, .ifCond .gt 10, 0, 0), (1519, .dload 23, 0, 0), (1521, .dconst 0, 0, 0), (1522, .dcmp .g, 0, 0), (1523, .ifCond .ge 5, 0, 0), (1526, .iconst 0, 0, 0), (1527, .ireturn, 0, 0), (1528, .dload 23, 0, 0), (1530, .dstore 20, 0, 0), (1532, .iinc 22 1, 0, 0), (1535, .goto (-53), 0, 0), (1538, .iconst 0, 0, 0), (1539, .istore 22, 0, 0), (1541, .iconst 0, 0, 0), (1542, .istore 23, 0, 0), (1544, .iload 23, 0, 0), (1546, .iload_n 2, 0, 0), (1547, .if_icmp .ge 34, 0, 0), (1550, .iload 22, 0, 0), (1552, .aload_n 1, 0, 0), (1553, .iload 23, 0, 0), (1555, .invokevirtual 178, 117, 0), (1558, .iand, 0, 0), (1559, .ifCond .eq 5, 0, 0), (1562, .iconst 0, 0, 0), (1563, .ireturn, 0, 0), (1564, .iload 22, 0, 0), (1566, .aload_n 1, 0, 0), (1567, .iload 23, 0, 0)]
def ro_c206_30 : List ro_In := [(1569, .invokevirtual 178, 117, 0), (1572, .ior, 0, 0), (1573, .istore 22, 0, 0), (1575, .iinc 23 1, 0, 0), (1578, .goto (-34), 0, 0), (1581, .iload 22, 0, 0), (1583, .iload_n 2, 0, 0), (1584, .ifCond .ne 7, 0, 0), (1587, .iconst 0, 0, 0), (1588, .goto 5, 0, 0), (1591, .bipush 31, 0, 0), (1593, .if_icmp .ne 7, 0, 0), (1596, .iconst 1, 0, 0), (1597, .goto 4, 0, 0), (1600, .iconst 0, 0, 0), (1601, .ireturn, 0, 0)]
def ro_c206 : List ro_In := ro_c206_0 ++ (ro_c206_1 ++ (ro_c206_2 ++ (ro_c206_3 ++ (ro_c206_4 ++ (ro_c206_5 ++ (ro_c206_6 ++ (ro_c206_7 ++ (ro_c206_8 ++ (ro_c206_9 ++ (ro_c206_10 ++ (ro_c206_11 ++ (ro_c206_12 ++ (ro_c206_13 ++ (ro_c206_14 ++ (ro_c206_15 ++ (ro_c206_16 ++ (ro_c206_17 ++ (ro_c206_18 ++ (ro_c206_19 ++ (ro_c206_20 ++ (ro_c206_21 ++ (ro_c206_22 ++ (ro_c206_23 ++ (ro_c206_24 ++ (ro_c206_25 ++ (ro_c206_26 ++ (ro_c206_27 ++ (ro_c206_28 ++ (ro_c206_29 ++ (ro_c206_30))))))))))))))))))))))))))))))
def ro_C_0 : List (List ro_In) := [ro_c0, ro_c1, ro_c2, ro_c3, ro_c4, ro_c5, ro_c6, ro_c7, ro_c8, ro_c9, ro_c10, ro_c11, ro_c12, ro_c13, ro_c14, ro_c15, ro_c16, ro_c17, ro_c18, ro_c19]
def ro_C_1 : List (List ro_In) := [ro_c20, ro_c21, ro_c22, ro_c23, ro_c24, ro_c25, ro_c26, ro_c27, ro_c28, ro_c29, ro_c30, ro_c31, ro_c32, ro_c33, ro_c34, ro_c35, ro_c36, ro_c37, ro_c38, ro_c39]
def ro_C_2 : List (List ro_In) := [ro_c40, ro_c41, ro_c42, ro_c43, ro_c44, ro_c45, ro_c46, ro_c47, ro_c48, ro_c49, ro_c50, ro_c51, ro_c52, ro_c53, ro_c54, ro_c55, ro_c56, ro_c57, ro_c58, ro_c59]
def ro_C_3 : List (List ro_In) := [ro_c60, ro_c61, ro_c62, ro_c63, ro_c64, ro_c65, ro_c66, ro_c67, ro_c68, ro_c69, ro_c70, ro_c71, ro_c72, ro_c73, ro_c74, ro_c75, ro_c76, ro_c77, ro_c78, ro_c79]
def ro_C_4 : List (List ro_In) := [ro_c80, ro_c81, ro_c82, ro_c83, ro_c84, ro_c85, ro_c86, ro_c87, ro_c88, ro_c89, ro_c90, ro_c91, ro_c92, ro_c93, ro_c94, ro_c95, ro_c96, ro_c97, ro_c98, ro_c99]
def ro_C_5 : List (List ro_In) := [ro_c100, ro_c101, ro_c102, ro_c103, ro_c104, ro_c105, ro_c106, ro_c107, ro_c108, ro_c109, ro_c110, ro_c111, ro_c112, ro_c113, ro_c114, ro_c115, ro_c116, ro_c117, ro_c118, ro_c119]
def ro_C_6 : List (List ro_In) := [ro_c120, ro_c121, ro_c122, ro_c123, ro_c124, ro_c125, ro_c126, ro_c127, ro_c128, ro_c129, ro_c130, ro_c131, ro_c132, ro_c133, ro_c134, ro_c135, ro_c136, ro_c137, ro_c138, ro_c139]
def ro_C_7 : List (List ro_In) := [ro_c140, ro_c141, ro_c142, ro_c143, ro_c144, ro_c145, ro_c146, ro_c147, ro_c148, ro_c149, ro_c150, ro_c151, ro_c152, ro_c153, ro_c154, ro_c155, ro_c156, ro_c157, ro_c158, ro_c159]
def ro_C_8 : List (List ro_In) := [ro_c160, ro_c161, ro_c162, ro_c163, ro_c164, ro_c165, ro_c166, ro_c167, ro_c168, ro_c169, ro_c170, ro_c171, ro_c172, ro_c173, ro_c174, ro_c175, ro_c176, ro_c177, ro_c178, ro_c179]
def ro_C_9 : List (List ro_In) := [ro_c180, ro_c181, ro_c182, ro_c183, ro_c184, ro_c185, ro_c186, ro_c187, ro_c188, ro_c189, ro_c190, ro_c191, ro_c192, ro_c193, ro_c194, ro_c195, ro_c196, ro_c197, ro_c198, ro_c199]
def ro_C_10 : List (List ro_In) := [ro_c200, ro_c201, ro_c202, ro_c203, ro_c204, ro_c205, ro_c206]
def ro_C (q : Nat) : List (List ro_In) := match q with
  | 0 => ro_C_0
  | 1 => ro_C_1
  | 2 => ro_C_2
  | 3 => ro_C_3
  | 4 => ro_C_4
  | 5 => ro_C_5
  | 6 => ro_C_6
  | 7 => ro_C_7
  | 8 => ro_C_8
  | 9 => ro_C_9
  | _ => ro_C_10
def ro_cod (y : Nat) : List ro_In := (ro_C (y / 20)).getD (y % 20) []
/-- the length of an instruction that is no switch -/
def ro_len (i : Instr) : Nat := match i with
  | .aload _ => 2
  | .astore _ => 2
  | .bipush _ => 2
  | .dload _ => 2
  | .dstore _ => 2
  | .iload _ => 2
  | .istore _ => 2
  | .ldc _ => 2
  | .lload _ => 2
  | .lstore _ => 2
  | .newarray _ => 2
  | .anewarray _ => 3
  | .checkcast _ => 3
  | .getfield _ => 3
  | .getstatic _ => 3
  | .goto _ => 3
  | .ifCond _ _ => 3
  | .if_icmp _ _ => 3
  | .ifnonnull _ => 3
  | .ifnull _ => 3
  | .iinc _ _ => 3
  | .invokespecial _ => 3
  | .invokestatic _ => 3
  | .invokevirtual _ => 3
  | .ldc2_w _ => 3
  | .ldc_w _ => 3
  | .new _ => 3
  | .putfield _ => 3
  | .sipush _ => 3
  | .multianewarray _ _ => 4
  | .tableswitch _ _ _ _ => 0
  | .lookupswitch _ _ => 0
  | _ => 1
def ro_okL (own : Nat) (i : Instr) (a b : Nat) : Bool := match i with
  | .getfield x => ro_FL.any (fun e => e.1 == own && e.2.1 == x && e.2.2.1 == a && e.2.2.2.1 == b)
  | .putfield x => ro_FL.any (fun e => e.1 == own && e.2.1 == x && e.2.2.1 == a && e.2.2.2.1 == b)
  | .getstatic x => ro_SL.any (fun e => e.1 == own && e.2.1 == x && e.2.2.1 == a)
  | .checkcast x => ro_isK own x
  | .invokevirtual x => match b with
    | 7 => ro_isC own x
    | _ => b == 0 && ro_LL.any (fun e => e.1 == own && e.2.1 == x && e.2.2.1 == a) && !(ro_m a).2.2.2.2.2.2
  | .invokestatic x => match b with
    | 0 => ro_LL.any (fun e => e.1 == own && e.2.1 == x && e.2.2.1 == a) && (ro_m a).2.2.2.2.2.2
    | 3 => ro_XL.any (fun e => e.1 == own && e.2.1 == x && e.2.2.1 == a)
    | 4 => ro_AL.any (fun e => e.1 == own && e.2.1 == x)
    | 5 => ro_BL.any (fun e => e.1 == own && e.2.1 == x)
    | _ => false
  | .invokespecial x => match b with
    | 0 => ro_LL.any (fun e => e.1 == own && e.2.1 == x && e.2.2.1 == a) && !(ro_m a).2.2.2.2.2.2 && (ro_m a).1.name == "<init>" && decide ((ro_m a).2.2.2.1 = none)
    | 1 => ro_NL.any (fun e => e.1 == own && e.2.1 == x && e.2.2.1 == a) && !(ro_m a).2.2.2.2.2.2 && (ro_m a).1.name == "<init>" && decide ((ro_m a).2.2.2.1 = none)
    | 2 => ro_OL.any (fun e => e.1 == own && e.2.1 == x)
    | _ => false
  | .new x => ro_CL.any (fun e => e.1 == own && e.2.1 == x && e.2.2.1 == a)
  | _ => true
/-- an instruction of the table is the one that stands there -/
def ro_okI (cc : ByteArray) (own : Nat) (e : ro_In) : Bool := (match decode cc e.1 with | .ok (i, n) => decide (i = e.2.1) && (ro_len i == 0 || ro_len i == n) | .error _ => false) && ro_okL own e.2.1 e.2.2.1 e.2.2.2
def ro_okM (y : Nat) : Bool := (ro_cod y).all (ro_okI (ro_m y).2.1 (ro_m y).2.2.2.2.1)
set_option maxRecDepth 100000 in
theorem ro_ok0 : ro_okM 0 = true := by decide +kernel
set_option maxRecDepth 100000 in
theorem ro_ok1 : ro_okM 1 = true := by decide +kernel
set_option maxRecDepth 100000 in
theorem ro_ok2 : ro_okM 2 = true := by decide +kernel
set_option maxRecDepth 100000 in
theorem ro_ok3 : ro_okM 3 = true := by decide +kernel
set_option maxRecDepth 100000 in
theorem ro_ok4 : ro_okM 4 = true := by decide +kernel
set_option maxRecDepth 100000 in
theorem ro_ok5 : ro_okM 5 = true := by decide +kernel
set_option maxRecDepth 100000 in
theorem ro_ok6 : ro_okM 6 = true := by decide +kernel
set_option maxRecDepth 100000 in
theorem ro_ok7 : ro_okM 7 = true := by decide +kernel
set_option maxRecDepth 100000 in
theorem ro_ok8 : ro_okM 8 = true := by decide +kernel
set_option maxRecDepth 100000 in
theorem ro_ok9 : ro_okM 9 = true := by decide +kernel
set_option maxRecDepth 100000 in
theorem ro_ok10 : ro_okM 10 = true := by decide +kernel
set_option maxRecDepth 100000 in
theorem ro_ok11 : ro_okM 11 = true := by decide +kernel
set_option maxRecDepth 100000 in
theorem ro_ok12 : ro_okM 12 = true := by decide +kernel
set_option maxRecDepth 100000 in
theorem ro_ok13 : ro_okM 13 = true := by decide +kernel
set_option maxRecDepth 100000 in
theorem ro_ok14 : ro_okM 14 = true := by decide +kernel
set_option maxRecDepth 100000 in
theorem ro_ok15 : ro_okM 15 = true := by decide +kernel
set_option maxRecDepth 100000 in
theorem ro_ok16 : ro_okM 16 = true := by decide +kernel
set_option maxRecDepth 100000 in
theorem ro_ok17 : ro_okM 17 = true := by decide +kernel
set_option maxRecDepth 100000 in
theorem ro_ok18 : ro_okM 18 = true := by decide +kernel
set_option maxRecDepth 100000 in
theorem ro_ok19 : ro_okM 19 = true := by decide +kernel
set_option maxRecDepth 100000 in
theorem ro_ok20 : ro_okM 20 = true := by decide +kernel
set_option maxRecDepth 100000 in
theorem ro_ok21 : ro_okM 21 = true := by decide +kernel
set_option maxRecDepth 100000 in
theorem ro_ok22 : ro_okM 22 = true := by decide +kernel
set_option maxRecDepth 100000 in
theorem ro_ok23 : ro_okM 23 = true := by decide +kernel
set_option maxRecDepth 100000 in
theorem ro_ok24 : ro_okM 24 = true := by decide +kernel
set_option maxRecDepth 100000 in
theorem ro_ok25 : ro_okM 25 = true := by decide +kernel
set_option maxRecDepth 100000 in
theorem ro_ok26 : ro_okM 26 = true := by decide +kernel
set_option maxRecDepth 100000 in
theorem ro_ok27 : ro_okM 27 = true := by decide +kernel
set_option maxRecDepth 100000 in
theorem ro_ok28 : ro_okM 28 = true := by decide +kernel
set_option maxRecDepth 100000 in
theorem ro_ok29 : ro_okM 29 = true := by decide +kernel
set_option maxRecDepth 100000 in
theorem ro_ok30 : ro_okM 30 = true := by decide +kernel
set_option maxRecDepth 100000 in
theorem ro_ok31 : ro_okM 31 = true := by decide +kernel
set_option maxRecDepth 100000 in
theorem ro_ok32 : ro_okM 32 = true := by decide +kernel
set_option maxRecDepth 100000 in
theorem ro_ok33 : ro_okM 33 = true := by decide +kernel
set_option maxRecDepth 100000 in
theorem ro_ok34 : ro_okM 34 = true := by decide +kernel
set_option maxRecDepth 100000 in
theorem ro_ok35 : ro_okM 35 = true := by decide +kernel
set_option maxRecDepth 100000 in
theorem ro_ok36 : ro_okM 36 = true := by decide +kernel
set_option maxRecDepth 100000 in
theorem ro_ok37 : ro_okM 37 = true := by decide +kernel
set_option maxRecDepth 100000 in
theorem ro_ok38 : ro_okM 38 = true := by decide +kernel
set_option maxRecDepth 100000 in
theorem ro_ok39 : ro_okM 39 = true := by decide +kernel
set_option maxRecDepth 100000 in
theorem ro_ok40 : ro_okM 40 = true := by decide +kernel
set_option maxRecDepth 100000 in
theorem ro_ok41 : ro_okM 41 = true := by decide +kernel
set_option maxRecDepth 100000 in
theorem ro_ok42 : ro_okM 42 = true := by decide +kernel
set_option maxRecDepth 100000 in
theorem ro_ok43 : ro_okM 43 = true := by decide +kernel
set_option maxRecDepth 100000 in
theorem ro_ok44 : ro_okM 44 = true := by decide +kernel
set_option maxRecDepth 100000 in
theorem ro_ok45 : ro_okM 45 = true := by decide +kernel
set_option maxRecDepth 100000 in
theorem ro_ok46 : ro_okM 46 = true := by decide +kernel
set_option maxRecDepth 100000 in
theorem ro_ok47 : ro_okM 47 = true := by decide +kernel
set_option maxRecDepth 100000 in
theorem ro_ok48 : ro_okM 48 = true := by decide +kernel
set_option maxRecDepth 100000 in
theorem ro_ok49 : ro_okM 49 = true := by decide +kernel
set_option maxRecDepth 100000 in
theorem ro_ok50 : ro_okM 50 = true := by decide +kernel
set_option maxRecDepth 100000 in
theorem ro_ok51 : ro_okM 51 = true := by decide +kernel
set_option maxRecDepth 100000 in
theorem ro_ok52 : ro_okM 52 = true := by decide +kernel
set_option maxRecDepth 100000 in
theorem ro_ok53 : ro_okM 53 = true := by decide +kernel
set_option maxRecDepth 100000 in
theorem ro_ok54 : ro_okM 54 = true := by decide +kernel
set_option maxRecDepth 100000 in
theorem ro_ok55 : ro_okM 55 = true := by decide +kernel
set_option maxRecDepth 100000 in
theorem ro_ok56 : ro_okM 56 = true := by decide +kernel
set_option maxRecDepth 100000 in
theorem ro_ok57 : ro_okM 57 = true := by decide +kernel
set_option maxRecDepth 100000 in
theorem ro_ok58 : ro_okM 58 = true := by decide +kernel
set_option maxRecDepth 100000 in
theorem ro_ok59 : ro_okM 59 = true := by decide +kernel
set_option maxRecDepth 100000 in
theorem ro_ok60 : ro_okM 60 = true := by decide +kernel
set_option maxRecDepth 100000 in
theorem ro_ok61 : ro_okM 61 = true := by decide +kernel
set_option maxRecDepth 100000 in
theorem ro_ok62 : ro_okM 62 = true := by decide +kernel
set_option maxRecDepth 100000 in
theorem ro_ok63 : ro_okM 63 = true := by decide +kernel
set_option maxRecDepth 100000 in
theorem ro_ok64 : ro_okM 64 = true := by decide +kernel
set_option maxRecDepth 100000 in
theorem ro_ok65 : ro_okM 65 = true := by decide +kernel
set_option maxRecDepth 100000 in
theorem ro_ok66 : ro_okM 66 = true := by decide +kernel
set_option maxRecDepth 100000 in
theorem ro_ok67 : ro_okM 67 = true := by decide +kernel
set_option maxRecDepth 100000 in
theorem ro_ok68 : ro_okM 68 = true := by decide +kernel
set_option maxRecDepth 100000 in
theorem ro_ok69 : ro_okM 69 = true := by decide +kernel
set_option maxRecDepth 100000 in
theorem ro_ok70 : ro_okM 70 = true := by decide +kernel
set_option maxRecDepth 100000 in
theorem ro_ok71 : ro_okM 71 = true := by decide +kernel
set_option maxRecDepth 100000 in
theorem ro_ok72 : ro_okM 72 = true := by decide +kernel
set_option maxRecDepth 100000 in
theorem ro_ok73 : ro_okM 73 = true := by decide +kernel
set_option maxRecDepth 100000 in
theorem ro_ok74 : ro_okM 74 = true := by decide +kernel
set_option maxRecDepth 100000 in
theorem ro_ok75 : ro_okM 75 = true := by decide +kernel
set_option maxRecDepth 100000 in
theorem ro_ok76 : ro_okM 76 = true := by decide +kernel
set_option maxRecDepth 100000 in
theorem ro_ok77 : ro_okM 77 = true := by decide +kernel
set_option maxRecDepth 100000 in
theorem ro_ok78 : ro_okM 78 = true := by decide +kernel
set_option maxRecDepth 100000 in
theorem ro_ok79 : ro_okM 79 = true := by decide +kernel
set_option maxRecDepth 100000 in
theorem ro_ok80 : ro_okM 80 = true := by decide +kernel
set_option maxRecDepth 100000 in
theorem ro_ok81 : ro_okM 81 = true := by decide +kernel
set_option maxRecDepth 100000 in
theorem ro_ok82 : ro_okM 82 = true := by decide +kernel
set_option maxRecDepth 100000 in
theorem ro_ok83 : ro_okM 83 = true := by decide +kernel
set_option maxRecDepth 100000 in
theorem ro_ok84 : ro_okM 84 = true := by decide +kernel
set_option maxRecDepth 100000 in
theorem ro_ok85 : ro_okM 85 = true := by decide +kernel
set_option maxRecDepth 100000 in
theorem ro_ok86 : ro_okM 86 = true := by decide +kernel
set_option maxRecDepth 100000 in
theorem ro_ok87 : ro_okM 87 = true := by decide +kernel
set_option maxRecDepth 100000 in
theorem ro_ok88 : ro_okM 88 = true := by decide +kernel
set_option maxRecDepth 100000 in
theorem ro_ok89 : ro_okM 89 = true := by decide +kernel
set_option maxRecDepth 100000 in
theorem ro_ok90 : ro_okM 90 = true := by decide +kernel
set_option maxRecDepth 100000 in
theorem ro_ok91 : ro_okM 91 = true := by decide +kernel
set_option maxRecDepth 100000 in
theorem ro_ok92 : ro_okM 92 = true := by decide +kernel
set_option maxRecDepth 100000 in
theorem ro_ok93 : ro_okM 93 = true := by decide +kernel
set_option maxRecDepth 100000 in
theorem ro_ok94 : ro_okM 94 = true := by decide +kernel
set_option maxRecDepth 100000 in
theorem ro_ok95 : ro_okM 95 = true := by decide +kernel
set_option maxRecDepth 100000 in
theorem ro_ok96 : ro_okM 96 = true := by decide +kernel
set_option maxRecDepth 100000 in
theorem ro_ok97 : ro_okM 97 = true := by decide +kernel
set_option maxRecDepth 100000 in
theorem ro_ok98 : ro_okM 98 = true := by decide +kernel
set_option maxRecDepth 100000 in
theorem ro_ok99 : ro_okM 99 = true := by decide +kernel
set_option maxRecDepth 100000 in
theorem ro_ok100 : ro_okM 100 = true := by decide +kernel
set_option maxRecDepth 100000 in
theorem ro_ok101 : ro_okM 101 = true := by decide +kernel
set_option maxRecDepth 100000 in
theorem ro_ok102 : ro_okM 102 = true := by decide +kernel
set_option maxRecDepth 100000 in
theorem ro_ok103 : ro_okM 103 = true := by decide +kernel
set_option maxRecDepth 100000 in
theorem ro_ok104 : ro_okM 104 = true := by decide +kernel
set_option maxRecDepth 100000 in
theorem ro_ok105 : ro_okM 105 = true := by decide +kernel
set_option maxRecDepth 100000 in
theorem ro_ok106 : ro_okM 106 = true := by decide +kernel
set_option maxRecDepth 100000 in
theorem ro_ok107 : ro_okM 107 = true := by decide +kernel
set_option maxRecDepth 100000 in
theorem ro_ok108 : ro_okM 108 = true := by decide +kernel
set_option maxRecDepth 100000 in
theorem ro_ok109 : ro_okM 109 = true := by decide +kernel
set_option maxRecDepth 100000 in
theorem ro_ok110 : ro_okM 110 = true := by decide +kernel
set_option maxRecDepth 100000 in
theorem ro_ok111 : ro_okM 111 = true := by decide +kernel
set_option maxRecDepth 100000 in
theorem ro_ok112 : ro_okM 112 = true := by decide +kernel
set_option maxRecDepth 100000 in
theorem ro_ok113 : ro_okM 113 = true := by decide +kernel
set_option maxRecDepth 100000 in
theorem ro_ok114 : ro_okM 114 = true := by decide +kernel
set_option maxRecDepth 100000 in
theorem ro_ok115 : ro_okM 115 = true := by decide +kernel
set_option maxRecDepth 100000 in
theorem ro_ok116 : ro_okM 116 = true := by decide +kernel
set_option maxRecDepth 100000 in
theorem ro_ok117 : ro_okM 117 = true := by decide +kernel
set_option maxRecDepth 100000 in
theorem ro_ok118 : ro_okM 118 = true := by decide +kernel
set_option maxRecDepth 100000 in
theorem ro_ok119 : ro_okM 119 = true := by decide +kernel
set_option maxRecDepth 100000 in
theorem ro_ok120 : ro_okM 120 = true := by decide +kernel
set_option maxRecDepth 100000 in
theorem ro_ok121 : ro_okM 121 = true := by decide +kernel
set_option maxRecDepth 100000 in
theorem ro_ok122 : ro_okM 122 = true := by decide +kernel
set_option maxRecDepth 100000 in
theorem ro_ok123 : ro_okM 123 = true := by decide +kernel
set_option maxRecDepth 100000 in
theorem ro_ok124 : ro_okM 124 = true := by decide +kernel
set_option maxRecDepth 100000 in
theorem ro_ok125 : ro_okM 125 = true := by decide +kernel
set_option maxRecDepth 100000 in
theorem ro_ok126 : ro_okM 126 = true := by decide +kernel
set_option maxRecDepth 100000 in
theorem ro_ok127 : ro_okM 127 = true := by decide +kernel
set_option maxRecDepth 100000 in
theorem ro_ok128 : ro_okM 128 = true := by decide +kernel
set_option maxRecDepth 100000 in
theorem ro_ok129 : ro_okM 129 = true := by decide +kernel
set_option maxRecDepth 100000 in
theorem ro_ok130 : ro_okM 130 = true := by decide +kernel
set_option maxRecDepth 100000 in
theorem ro_ok131 : ro_okM 131 = true := by decide +kernel
set_option maxRecDepth 100000 in
theorem ro_ok132 : ro_okM 132 = true := by decide +kernel
set_option maxRecDepth 100000 in
theorem ro_ok133 : ro_okM 133 = true := by decide +kernel
set_option maxRecDepth 100000 in
theorem ro_ok134 : ro_okM 134 = true := by decide +kernel
set_option maxRecDepth 100000 in
theorem ro_ok135 : ro_okM 135 = true := by decide +kernel
set_option maxRecDepth 100000 in
theorem ro_ok136 : ro_okM 136 = true := by decide +kernel
set_option maxRecDepth 100000 in
theorem ro_ok137 : ro_okM 137 = true := by decide +kernel
set_option maxRecDepth 100000 in
theorem ro_ok138 : ro_okM 138 = true := by decide +kernel
set_option maxRecDepth 100000 in
theorem ro_ok139 : ro_okM 139 = true := by decide +kernel
set_option maxRecDepth 100000 in
theorem ro_ok140 : ro_okM 140 = true := by decide +kernel
set_option maxRecDepth 100000 in
theorem ro_ok141 : ro_okM 141 = true := by decide +kernel
set_option maxRecDepth 100000 in
theorem ro_ok142 : ro_okM 142 = true := by decide +kernel
set_option maxRecDepth 100000 in
theorem ro_ok143 : ro_okM 143 = true := by decide +kernel
set_option maxRecDepth 100000 in
theorem ro_ok144 : ro_okM 144 = true := by decide +kernel
set_option maxRecDepth 100000 in
theorem ro_ok145 : ro_okM 145 = true := by decide +kernel
set_option maxRecDepth 100000 in
theorem ro_ok146 : ro_okM 146 = true := by decide +kernel
set_option maxRecDepth 100000 in
theorem ro_ok147 : ro_okM 147 = true := by decide +kernel
set_option maxRecDepth 100000 in
theorem ro_ok148 : ro_okM 148 = true := by decide +kernel
set_option maxRecDepth 100000 in
theorem ro_ok149 : ro_okM 149 = true := by decide +kernel
set_option maxRecDepth 100000 in
theorem ro_ok150 : ro_okM 150 = true := by decide +kernel
set_option maxRecDepth 100000 in
theorem ro_ok151 : ro_okM 151 = true := by decide +kernel
set_option maxRecDepth 100000 in
theorem ro_ok152 : ro_okM 152 = true := by decide +kernel
set_option maxRecDepth 100000 in
theorem ro_ok153 : ro_okM 153 = true := by decide +kernel
set_option maxRecDepth 100000 in
theorem ro_ok154 : ro_okM 154 = true := by decide +kernel
set_option maxRecDepth 100000 in
theorem ro_ok155 : ro_okM 155 = true := by decide +kernel
set_option maxRecDepth 100000 in
theorem ro_ok156 : ro_okM 156 = true := by decide +kernel
set_option maxRecDepth 100000 in
theorem ro_ok157 : ro_okM 157 = true := by decide +kernel
set_option maxRecDepth 100000 in
theorem ro_ok158 : ro_okM 158 = true := by decide +kernel
set_option maxRecDepth 100000 in
theorem ro_ok159 : ro_okM 159 = true := by decide +kernel
set_option maxRecDepth 100000 in
theorem ro_ok160 : ro_okM 160 = true := by decide +kernel
set_option maxRecDepth 100000 in
theorem ro_ok161 : ro_okM 161 = true := by decide +kernel
set_option maxRecDepth 100000 in
theorem ro_ok162 : ro_okM 162 = true := by decide +kernel
set_option maxRecDepth 100000 in
theorem ro_ok163 : ro_okM 163 = true := by decide +kernel
set_option maxRecDepth 100000 in
theorem ro_ok164 : ro_okM 164 = true := by decide +kernel
set_option maxRecDepth 100000 in
theorem ro_ok165 : ro_okM 165 = true := by decide +kernel
set_option maxRecDepth 100000 in
theorem ro_ok166 : ro_okM 166 = true := by decide +kernel
set_option maxRecDepth 100000 in
theorem ro_ok167 : ro_okM 167 = true := by decide +kernel
set_option maxRecDepth 100000 in
theorem ro_ok168 : ro_okM 168 = true := by decide +kernel
set_option maxRecDepth 100000 in
theorem ro_ok169 : ro_okM 169 = true := by decide +kernel
set_option maxRecDepth 100000 in
theorem ro_ok170 : ro_okM 170 = true := by decide +kernel
set_option maxRecDepth 100000 in
theorem ro_ok171 : ro_okM 171 = true := by decide +kernel
set_option maxRecDepth 100000 in
theorem ro_ok172 : ro_okM 172 = true := by decide +kernel
set_option maxRecDepth 100000 in
theorem ro_ok173 : ro_okM 173 = true := by decide +kernel
set_option maxRecDepth 100000 in
theorem ro_ok174 : ro_okM 174 = true := by decide +kernel
set_option maxRecDepth 100000 in
theorem ro_ok175 : ro_okM 175 = true := by decide +kernel
set_option maxRecDepth 100000 in
theorem ro_ok176 : ro_okM 176 = true := by decide +kernel
set_option maxRecDepth 100000 in
theorem ro_ok177 : ro_okM 177 = true := by decide +kernel
set_option maxRecDepth 100000 in
theorem ro_ok178 : ro_okM 178 = true := by decide +kernel
set_option maxRecDepth 100000 in
theorem ro_ok179 : ro_okM 179 = true := by decide +kernel
set_option maxRecDepth 100000 in
theorem ro_ok180 : ro_okM 180 = true := by decide +kernel
set_option maxRecDepth 100000 in
theorem ro_ok181 : ro_okM 181 = true := by decide +kernel
set_option maxRecDepth 100000 in
theorem ro_ok182 : ro_okM 182 = true := by decide +kernel
set_option maxRecDepth 100000 in
theorem ro_ok183 : ro_okM 183 = true := by decide +kernel
set_option maxRecDepth 100000 in
theorem ro_ok184 : ro_okM 184 = true := by decide +kernel
set_option maxRecDepth 100000 in
theorem ro_ok185 : ro_okM 185 = true := by decide +kernel
set_option maxRecDepth 100000 in
theorem ro_ok186 : ro_okM 186 = true := by decide +kernel
set_option maxRecDepth 100000 in
theorem ro_ok187 : ro_okM 187 = true := by decide +kernel
set_option maxRecDepth 100000 in
theorem ro_ok188 : ro_okM 188 = true := by decide +kernel
set_option maxRecDepth 100000 in
theorem ro_ok189 : ro_okM 189 = true := by decide +kernel
set_option maxRecDepth 100000 in
theorem ro_ok190 : ro_okM 190 = true := by decide +kernel
set_option maxRecDepth 100000 in
theorem ro_ok191 : ro_okM 191 = true := by decide +kernel
set_option maxRecDepth 100000 in
theorem ro_ok192 : ro_okM 192 = true := by decide +kernel
set_option maxRecDepth 100000 in
theorem ro_ok193 : ro_okM 193 = true := by decide +kernel
set_option maxRecDepth 100000 in
theorem ro_ok194 : ro_okM 194 = true := by decide +kernel
set_option maxRecDepth 100000 in
theorem ro_ok195 : ro_okM 195 = true := by decide +kernel
set_option maxRecDepth 100000 in
theorem ro_ok196 : ro_okM 196 = true := by decide +kernel
set_option maxRecDepth 100000 in
theorem ro_ok197 : ro_okM 197 = true := by decide +kernel
set_option maxRecDepth 100000 in
theorem ro_ok198 : ro_okM 198 = true := by decide +kernel
set_option maxRecDepth 100000 in
theorem ro_ok199 : ro_okM 199 = true := by decide +kernel
set_option maxRecDepth 100000 in
theorem ro_ok200 : ro_okM 200 = true := by decide +kernel
set_option maxRecDepth 100000 in
theorem ro_ok201 : ro_okM 201 = true := by decide +kernel
set_option maxRecDepth 100000 in
theorem ro_ok202 : ro_okM 202 = true := by decide +kernel
set_option maxRecDepth 100000 in
theorem ro_ok203 : ro_okM 203 = true := by decide +kernel
set_option maxRecDepth 100000 in
theorem ro_ok204 : ro_okM 204 = true := by decide +kernel
set_option maxRecDepth 100000 in
theorem ro_ok205 : ro_okM 205 = true := by decide +kernel
set_option maxRecDepth 100000 in
theorem ro_ok206_0 : ro_c206_0.all (ro_okI code 15) = true := by decide +kernel
set_option maxRecDepth 100000 in
theorem ro_ok206_1 : ro_c206_1.all (ro_okI code 15) = true := by decide +kernel
set_option maxRecDepth 100000 in
theorem ro_ok206_2 : ro_c206_2.all (ro_okI code 15) = true := by decide +kernel
set_option maxRecDepth 100000 in
theorem ro_ok206_3 : ro_c206_3.all (ro_okI code 15) = true := by decide +kernel
set_option maxRecDepth 100000 in
theorem ro_ok206_4 : ro_c206_4.all (ro_okI code 15) = true := by decide +kernel
set_option maxRecDepth 100000 in
theorem ro_ok206_5 : ro_c206_5.all (ro_okI code 15) = true := by decide +kernel
set_option maxRecDepth 100000 in
theorem ro_ok206_6 : ro_c206_6.all (ro_okI code 15) = true := by decide +kernel
set_option maxRecDepth 100000 in
theorem ro_ok206_7 : ro_c206_7.all (ro_okI code 15) = true := by decide +kernel
set_option maxRecDepth 100000 in
theorem ro_ok206_8 : ro_c206_8.all (ro_okI code 15) = true := by decide +kernel
set_option maxRecDepth 100000 in
theorem ro_ok206_9 : ro_c206_9.all (ro_okI code 15) = true := by decide +kernel
set_option maxRecDepth 100000 in
theorem ro_ok206_10 : ro_c206_10.all (ro_okI code 15) = true := by decide +kernel
set_option maxRecDepth 100000 in
theorem ro_ok206_11 : ro_c206_11.all (ro_okI code 15) = true := by decide +kernel
set_option maxRecDepth 100000 in
theorem ro_ok206_12 : ro_c206_12.all (ro_okI code 15) = true := by decide +kernel
set_option maxRecDepth 100000 in
theorem ro_ok206_13 : ro_c206_13.all (ro_okI code 15) = true := by decide +kernel
set_option maxRecDepth 100000 in
theorem ro_ok206_14 : ro_c206_14.all (ro_okI code 15) = true := by decide +kernel
set_option maxRecDepth 100000 in
theorem ro_ok206_15 : ro_c206_15.all (ro_okI code 15) = true := by decide +kernel
set_option maxRecDepth 100000 in
theorem ro_ok206_16 : ro_c206_16.all (ro_okI code 15) = true := by decide +kernel
set_option maxRecDepth 100000 in
theorem ro_ok206_17 : ro_c206_17.all (ro_okI code 15) = true := by decide +kernel
set_option maxRecDepth 100000 in
theorem ro_ok206_18 : ro_c206_18.all (ro_okI code 15) = true := by decide +kernel
set_option maxRecDepth 100000 in
theorem ro_ok206_19 : ro_c206_19.all (ro_okI code 15) = true := by decide +kernel
set_option maxRecDepth 100000 in
theorem ro_ok206_20 : ro_c206_20.all (ro_okI code 15) = true := by decide +kernel
set_option maxRecDepth 100000 in
theorem ro_ok206_21 : ro_c206_21.all (ro_okI code 15) = true := by decide +kernel
set_option maxRecDepth 100000 in
theorem ro_ok206_22 : ro_c206_22.all (ro_okI code 15) = true := by decide +kernel
set_option maxRecDepth 100000 in
theorem ro_ok206_23 : ro_c206_23.all (ro_okI code 15) = true := by decide +kernel
set_option maxRecDepth 100000 in
theorem ro_ok206_24 : ro_c206_24.all (ro_okI code 15) = true := by decide +kernel
set_option maxRecDepth 100000 in
theorem ro_ok206_25 : ro_c206_25.all (ro_okI code 15) = true := by decide +kernel
set_option maxRecDepth 100000 in
theorem ro_ok206_26 : ro_c206_26.all (ro_okI code 15) = true := by decide +kernel
set_option maxRecDepth 100000 in
theorem ro_ok206_27 : ro_c206_27.all (ro_okI code 15) = true := by decide +kernel
set_option maxRecDepth 100000 in
theorem ro_ok206_28 : ro_c206_28.all (ro_okI code 15) = true := by decide +kernel
set_option maxRecDepth 100000 in
theorem ro_ok206_29 : ro_c206_29.all (ro_okI code 15) = true := by decide +kernel
set_option maxRecDepth 100000 in
theorem ro_ok206_30 : ro_c206_30.all (ro_okI code 15) = true := by decide +kernel
theorem ro_ok206 : ro_okM 206 = true := by
  show ro_c206.all (ro_okI code 15) = true
  unfold ro_c206
  simp only [List.all_append, Bool.and_eq_true]
  exact ⟨ro_ok206_0, ⟨ro_ok206_1, ⟨ro_ok206_2, ⟨ro_ok206_3, ⟨ro_ok206_4, ⟨ro_ok206_5, ⟨ro_ok206_6, ⟨ro_ok206_7, ⟨ro_ok206_8, ⟨ro_ok206_9, ⟨ro_ok206_10, ⟨ro_ok206_11, ⟨ro_ok206_12, ⟨ro_ok206_13, ⟨ro_ok206_14, ⟨ro_ok206_15, ⟨ro_ok206_16, ⟨ro_ok206_17, ⟨ro_ok206_18, ⟨ro_ok206_19, ⟨ro_ok206_20, ⟨ro_ok206_21, ⟨ro_ok206_22, ⟨ro_ok206_23, ⟨ro_ok206_24, ⟨ro_ok206_25, ⟨ro_ok206_26, ⟨ro_ok206_27, ⟨ro_ok206_28, ⟨ro_ok206_29, ro_ok206_30⟩⟩⟩⟩⟩⟩⟩⟩⟩⟩⟩⟩⟩⟩⟩⟩⟩⟩⟩⟩⟩⟩⟩⟩⟩⟩⟩⟩⟩⟩
