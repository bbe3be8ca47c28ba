/-! where everything lies: the cells behind the two constructors, the references that never change (by program, wip/p43/gen14.py) -/
def ro_sh : List (Nat × Nat) := [(11, 9), (4, 13), (8, 2), (16, 6), (16, 6), (16, 6), (16, 6), (16, 4), (8, 2), (16, 6), (16, 6), (16, 4), (5, 10), (16, 120), (16, 121), (16, 121), (16, 121), (16, 6), (21, 6), (9, 4), (17, 60), (9, 4), (17, 60), (9, 4), (17, 60), (9, 4), (17, 60), (9, 4), (17, 60), (9, 4), (17, 60), (3, 11), (8, 2), (16, 6), (16, 6), (16, 20), (16, 20), (16, 20), (7, 10), (8, 2), (16, 6), (16, 6), (16, 10), (16, 10), (1, 9), (8, 2), (16, 6), (16, 6), (17, 9), (17, 9), (2, 6), (16, 40), (16, 40), (16, 40), (16, 40), (0, 6), (16, 50), (16, 24), (10, 10), (20, 21), (16, 12), (16, 12), (16, 12), (16, 12), (16, 12), (16, 12), (16, 12), (16, 12), (16, 12), (16, 12), (16, 12), (16, 12), (16, 12), (16, 12), (16, 12), (16, 12), (16, 12), (16, 12), (16, 12), (16, 12), (16, 12), (20, 21), (16, 12), (16, 12), (16, 12), (16, 12), (16, 12), (16, 12), (16, 12), (16, 12), (16, 12), (16, 12), (16, 12), (16, 12), (16, 12), (16, 12), (16, 12), (16, 12), (16, 12), (16, 12), (16, 12), (16, 12), (16, 12), (20, 21), (16, 12), (16, 12), (16, 12), (16, 12), (16, 12), (16, 12), (16, 12), (16, 12), (16, 12), (16, 12), (16, 12), (16, 12), (16, 12), (16, 12), (16, 12), (16, 12), (16, 12), (16, 12), (16, 12), (16, 12), (16, 12), (20, 21), (16, 12), (16, 12), (16, 12), (16, 12), (16, 12), (16, 12), (16, 12), (16, 12), (16, 12), (16, 12), (16, 12), (16, 12), (16, 12), (16, 12), (16, 12), (16, 12), (16, 12), (16, 12), (16, 12), (16, 12), (16, 12), (16, 1024), (16, 8192), (6, 5), (17, 8192), (16, 8192), (16, 8192), (16, 8192), (6, 5), (17, 8192), (16, 8192), (16, 8192), (16, 8192)]
def ro_rt : List (Nat × Nat × Nat) := [(4, 0, 5), (4, 1, 16), (4, 2, 22), (4, 3, 35), (4, 4, 42), (4, 5, 48), (4, 6, 54), (4, 7, 59), (4, 8, 62), (5, 0, 6), (5, 1, 9), (5, 2, 10), (5, 3, 11), (5, 8, 12), (5, 9, 15), (6, 0, 7), (6, 1, 8), (12, 0, 13), (12, 1, 14), (16, 0, 17), (16, 1, 18), (16, 2, 19), (16, 3, 20), (16, 4, 21), (22, 0, 23), (22, 1, 25), (22, 2, 27), (22, 3, 29), (22, 4, 31), (22, 5, 33), (23, 0, 24), (25, 0, 26), (27, 0, 28), (29, 0, 30), (31, 0, 32), (33, 0, 34), (35, 0, 5), (35, 1, 16), (35, 2, 36), (35, 3, 39), (35, 4, 40), (35, 5, 41), (36, 0, 37), (36, 1, 38), (42, 0, 5), (42, 1, 16), (42, 2, 43), (42, 3, 46), (42, 4, 47), (43, 0, 44), (43, 1, 45), (48, 0, 5), (48, 1, 16), (48, 2, 49), (48, 3, 52), (48, 4, 53), (49, 0, 50), (49, 1, 51), (54, 0, 55), (54, 1, 56), (54, 2, 57), (54, 3, 58), (59, 0, 60), (59, 1, 61), (62, 0, 5), (62, 1, 35), (62, 2, 63), (62, 3, 85), (62, 4, 107), (62, 5, 129), (62, 6, 151), (62, 7, 152), (63, 0, 64), (63, 1, 65), (63, 2, 66), (63, 3, 67), (63, 4, 68), (63, 5, 69), (63, 6, 70), (63, 7, 71), (63, 8, 72), (63, 9, 73), (63, 10, 74), (63, 11, 75), (63, 12, 76), (63, 13, 77), (63, 14, 78), (63, 15, 79), (63, 16, 80), (63, 17, 81), (63, 18, 82), (63, 19, 83), (63, 20, 84), (85, 0, 86), (85, 1, 87), (85, 2, 88), (85, 3, 89), (85, 4, 90), (85, 5, 91), (85, 6, 92), (85, 7, 93), (85, 8, 94), (85, 9, 95), (85, 10, 96), (85, 11, 97), (85, 12, 98), (85, 13, 99), (85, 14, 100), (85, 15, 101), (85, 16, 102), (85, 17, 103), (85, 18, 104), (85, 19, 105), (85, 20, 106), (107, 0, 108), (107, 1, 109), (107, 2, 110), (107, 3, 111), (107, 4, 112), (107, 5, 113), (107, 6, 114), (107, 7, 115), (107, 8, 116), (107, 9, 117), (107, 10, 118), (107, 11, 119), (107, 12, 120), (107, 13, 121), (107, 14, 122), (107, 15, 123), (107, 16, 124), (107, 17, 125), (107, 18, 126), (107, 19, 127), (107, 20, 128), (129, 0, 130), (129, 1, 131), (129, 2, 132), (129, 3, 133), (129, 4, 134), (129, 5, 135), (129, 6, 136), (129, 7, 137), (129, 8, 138), (129, 9, 139), (129, 10, 140), (129, 11, 141), (129, 12, 142), (129, 13, 143), (129, 14, 144), (129, 15, 145), (129, 16, 146), (129, 17, 147), (129, 18, 148), (129, 19, 149), (129, 20, 150), (153, 0, 154), (153, 1, 155), (153, 2, 156), (153, 3, 157), (158, 0, 159), (158, 1, 160), (158, 2, 161), (158, 3, 162)]
/-- the layout -/
def ro_lay (M : ro_Mm) : Prop := M.1 = ro_sh ∧ ∀ e, e ∈ ro_rt → M.2.2.2 e.1 e.2.1 = .ref e.2.2
section LAY
variable {M : ro_Mm}
theorem ro_kdl (hL : ro_lay M) (c : Nat) : ro_kd M c = ro_sh.getD (c - 4) (99, 0) := by unfold ro_kd; rw [hL.1]
theorem kd_4 (hL : ro_lay M) : ro_kd M 4 = (11, 9) := ro_kdl hL 4
theorem kd_5 (hL : ro_lay M) : ro_kd M 5 = (4, 13) := ro_kdl hL 5
theorem kd_6 (hL : ro_lay M) : ro_kd M 6 = (8, 2) := ro_kdl hL 6
theorem kd_7 (hL : ro_lay M) : ro_kd M 7 = (16, 6) := ro_kdl hL 7
theorem kd_8 (hL : ro_lay M) : ro_kd M 8 = (16, 6) := ro_kdl hL 8
theorem kd_9 (hL : ro_lay M) : ro_kd M 9 = (16, 6) := ro_kdl hL 9
theorem kd_10 (hL : ro_lay M) : ro_kd M 10 = (16, 6) := ro_kdl hL 10
theorem kd_11 (hL : ro_lay M) : ro_kd M 11 = (16, 4) := ro_kdl hL 11
theorem kd_12 (hL : ro_lay M) : ro_kd M 12 = (8, 2) := ro_kdl hL 12
theorem kd_13 (hL : ro_lay M) : ro_kd M 13 = (16, 6) := ro_kdl hL 13
theorem kd_14 (hL : ro_lay M) : ro_kd M 14 = (16, 6) := ro_kdl hL 14
theorem kd_15 (hL : ro_lay M) : ro_kd M 15 = (16, 4) := ro_kdl hL 15
theorem kd_16 (hL : ro_lay M) : ro_kd M 16 = (5, 10) := ro_kdl hL 16
theorem kd_17 (hL : ro_lay M) : ro_kd M 17 = (16, 120) := ro_kdl hL 17
theorem kd_18 (hL : ro_lay M) : ro_kd M 18 = (16, 121) := ro_kdl hL 18
theorem kd_19 (hL : ro_lay M) : ro_kd M 19 = (16, 121) := ro_kdl hL 19
theorem kd_20 (hL : ro_lay M) : ro_kd M 20 = (16, 121) := ro_kdl hL 20
theorem kd_21 (hL : ro_lay M) : ro_kd M 21 = (16, 6) := ro_kdl hL 21
theorem kd_22 (hL : ro_lay M) : ro_kd M 22 = (21, 6) := ro_kdl hL 22
theorem kd_23 (hL : ro_lay M) : ro_kd M 23 = (9, 4) := ro_kdl hL 23
theorem kd_24 (hL : ro_lay M) : ro_kd M 24 = (17, 60) := ro_kdl hL 24
theorem kd_25 (hL : ro_lay M) : ro_kd M 25 = (9, 4) := ro_kdl hL 25
theorem kd_26 (hL : ro_lay M) : ro_kd M 26 = (17, 60) := ro_kdl hL 26
theorem kd_27 (hL : ro_lay M) : ro_kd M 27 = (9, 4) := ro_kdl hL 27
theorem kd_28 (hL : ro_lay M) : ro_kd M 28 = (17, 60) := ro_kdl hL 28
theorem kd_29 (hL : ro_lay M) : ro_kd M 29 = (9, 4) := ro_kdl hL 29
theorem kd_30 (hL : ro_lay M) : ro_kd M 30 = (17, 60) := ro_kdl hL 30
theorem kd_31 (hL : ro_lay M) : ro_kd M 31 = (9, 4) := ro_kdl hL 31
theorem kd_32 (hL : ro_lay M) : ro_kd M 32 = (17, 60) := ro_kdl hL 32
theorem kd_33 (hL : ro_lay M) : ro_kd M 33 = (9, 4) := ro_kdl hL 33
theorem kd_34 (hL : ro_lay M) : ro_kd M 34 = (17, 60) := ro_kdl hL 34
theorem kd_35 (hL : ro_lay M) : ro_kd M 35 = (3, 11) := ro_kdl hL 35
theorem kd_36 (hL : ro_lay M) : ro_kd M 36 = (8, 2) := ro_kdl hL 36
theorem kd_37 (hL : ro_lay M) : ro_kd M 37 = (16, 6) := ro_kdl hL 37
theorem kd_38 (hL : ro_lay M) : ro_kd M 38 = (16, 6) := ro_kdl hL 38
theorem kd_39 (hL : ro_lay M) : ro_kd M 39 = (16, 20) := ro_kdl hL 39
theorem kd_40 (hL : ro_lay M) : ro_kd M 40 = (16, 20) := ro_kdl hL 40
theorem kd_41 (hL : ro_lay M) : ro_kd M 41 = (16, 20) := ro_kdl hL 41
theorem kd_42 (hL : ro_lay M) : ro_kd M 42 = (7, 10) := ro_kdl hL 42
theorem kd_43 (hL : ro_lay M) : ro_kd M 43 = (8, 2) := ro_kdl hL 43
theorem kd_44 (hL : ro_lay M) : ro_kd M 44 = (16, 6) := ro_kdl hL 44
theorem kd_45 (hL : ro_lay M) : ro_kd M 45 = (16, 6) := ro_kdl hL 45
theorem kd_46 (hL : ro_lay M) : ro_kd M 46 = (16, 10) := ro_kdl hL 46
theorem kd_47 (hL : ro_lay M) : ro_kd M 47 = (16, 10) := ro_kdl hL 47
theorem kd_48 (hL : ro_lay M) : ro_kd M 48 = (1, 9) := ro_kdl hL 48
theorem kd_49 (hL : ro_lay M) : ro_kd M 49 = (8, 2) := ro_kdl hL 49
theorem kd_50 (hL : ro_lay M) : ro_kd M 50 = (16, 6) := ro_kdl hL 50
theorem kd_51 (hL : ro_lay M) : ro_kd M 51 = (16, 6) := ro_kdl hL 51
theorem kd_52 (hL : ro_lay M) : ro_kd M 52 = (17, 9) := ro_kdl hL 52
theorem kd_53 (hL : ro_lay M) : ro_kd M 53 = (17, 9) := ro_kdl hL 53
theorem kd_54 (hL : ro_lay M) : ro_kd M 54 = (2, 6) := ro_kdl hL 54
theorem kd_55 (hL : ro_lay M) : ro_kd M 55 = (16, 40) := ro_kdl hL 55
theorem kd_56 (hL : ro_lay M) : ro_kd M 56 = (16, 40) := ro_kdl hL 56
theorem kd_57 (hL : ro_lay M) : ro_kd M 57 = (16, 40) := ro_kdl hL 57
theorem kd_58 (hL : ro_lay M) : ro_kd M 58 = (16, 40) := ro_kdl hL 58
theorem kd_59 (hL : ro_lay M) : ro_kd M 59 = (0, 6) := ro_kdl hL 59
theorem kd_60 (hL : ro_lay M) : ro_kd M 60 = (16, 50) := ro_kdl hL 60
theorem kd_61 (hL : ro_lay M) : ro_kd M 61 = (16, 24) := ro_kdl hL 61
theorem kd_62 (hL : ro_lay M) : ro_kd M 62 = (10, 10) := ro_kdl hL 62
theorem kd_63 (hL : ro_lay M) : ro_kd M 63 = (20, 21) := ro_kdl hL 63
theorem kd_64 (hL : ro_lay M) : ro_kd M 64 = (16, 12) := ro_kdl hL 64
theorem kd_65 (hL : ro_lay M) : ro_kd M 65 = (16, 12) := ro_kdl hL 65
theorem kd_66 (hL : ro_lay M) : ro_kd M 66 = (16, 12) := ro_kdl hL 66
theorem kd_67 (hL : ro_lay M) : ro_kd M 67 = (16, 12) := ro_kdl hL 67
theorem kd_68 (hL : ro_lay M) : ro_kd M 68 = (16, 12) := ro_kdl hL 68
theorem kd_69 (hL : ro_lay M) : ro_kd M 69 = (16, 12) := ro_kdl hL 69
theorem kd_70 (hL : ro_lay M) : ro_kd M 70 = (16, 12) := ro_kdl hL 70
theorem kd_71 (hL : ro_lay M) : ro_kd M 71 = (16, 12) := ro_kdl hL 71
theorem kd_72 (hL : ro_lay M) : ro_kd M 72 = (16, 12) := ro_kdl hL 72
theorem kd_73 (hL : ro_lay M) : ro_kd M 73 = (16, 12) := ro_kdl hL 73
theorem kd_74 (hL : ro_lay M) : ro_kd M 74 = (16, 12) := ro_kdl hL 74
theorem kd_75 (hL : ro_lay M) : ro_kd M 75 = (16, 12) := ro_kdl hL 75
theorem kd_76 (hL : ro_lay M) : ro_kd M 76 = (16, 12) := ro_kdl hL 76
theorem kd_77 (hL : ro_lay M) : ro_kd M 77 = (16, 12) := ro_kdl hL 77
theorem kd_78 (hL : ro_lay M) : ro_kd M 78 = (16, 12) := ro_kdl hL 78
theorem kd_79 (hL : ro_lay M) : ro_kd M 79 = (16, 12) := ro_kdl hL 79
theorem kd_80 (hL : ro_lay M) : ro_kd M 80 = (16, 12) := ro_kdl hL 80
theorem kd_81 (hL : ro_lay M) : ro_kd M 81 = (16, 12) := ro_kdl hL 81
theorem kd_82 (hL : ro_lay M) : ro_kd M 82 = (16, 12) := ro_kdl hL 82
theorem kd_83 (hL : ro_lay M) : ro_kd M 83 = (16, 12) := ro_kdl hL 83
theorem kd_84 (hL : ro_lay M) : ro_kd M 84 = (16, 12) := ro_kdl hL 84
theorem kd_85 (hL : ro_lay M) : ro_kd M 85 = (20, 21) := ro_kdl hL 85
theorem kd_86 (hL : ro_lay M) : ro_kd M 86 = (16, 12) := ro_kdl hL 86
theorem kd_87 (hL : ro_lay M) : ro_kd M 87 = (16, 12) := ro_kdl hL 87
theorem kd_88 (hL : ro_lay M) : ro_kd M 88 = (16, 12) := ro_kdl hL 88
theorem kd_89 (hL : ro_lay M) : ro_kd M 89 = (16, 12) := ro_kdl hL 89
theorem kd_90 (hL : ro_lay M) : ro_kd M 90 = (16, 12) := ro_kdl hL 90
theorem kd_91 (hL : ro_lay M) : ro_kd M 91 = (16, 12) := ro_kdl hL 91
theorem kd_92 (hL : ro_lay M) : ro_kd M 92 = (16, 12) := ro_kdl hL 92
theorem kd_93 (hL : ro_lay M) : ro_kd M 93 = (16, 12) := ro_kdl hL 93
theorem kd_94 (hL : ro_lay M) : ro_kd M 94 = (16, 12) := ro_kdl hL 94
theorem kd_95 (hL : ro_lay M) : ro_kd M 95 = (16, 12) := ro_kdl hL 95
theorem kd_96 (hL : ro_lay M) : ro_kd M 96 = (16, 12) := ro_kdl hL 96
theorem kd_97 (hL : ro_lay M) : ro_kd M 97 = (16, 12) := ro_kdl hL 97
theorem kd_98 (hL : ro_lay M) : ro_kd M 98 = (16, 12) := ro_kdl hL 98
theorem kd_99 (hL : ro_lay M) : ro_kd M 99 = (16, 12) := ro_kdl hL 99
theorem kd_100 (hL : ro_lay M) : ro_kd M 100 = (16, 12) := ro_kdl hL 100
theorem kd_101 (hL : ro_lay M) : ro_kd M 101 = (16, 12) := ro_kdl hL 101
theorem kd_102 (hL : ro_lay M) : ro_kd M 102 = (16, 12) := ro_kdl hL 102
theorem kd_103 (hL : ro_lay M) : ro_kd M 103 = (16, 12) := ro_kdl hL 103
theorem kd_104 (hL : ro_lay M) : ro_kd M 104 = (16, 12) := ro_kdl hL 104
theorem kd_105 (hL : ro_lay M) : ro_kd M 105 = (16, 12) := ro_kdl hL 105
theorem kd_106 (hL : ro_lay M) : ro_kd M 106 = (16, 12) := ro_kdl hL 106
theorem kd_107 (hL : ro_lay M) : ro_kd M 107 = (20, 21) := ro_kdl hL 107
theorem kd_108 (hL : ro_lay M) : ro_kd M 108 = (16, 12) := ro_kdl hL 108
theorem kd_109 (hL : ro_lay M) : ro_kd M 109 = (16, 12) := ro_kdl hL 109
theorem kd_110 (hL : ro_lay M) : ro_kd M 110 = (16, 12) := ro_kdl hL 110
theorem kd_111 (hL : ro_lay M) : ro_kd M 111 = (16, 12) := ro_kdl hL 111
theorem kd_112 (hL : ro_lay M) : ro_kd M 112 = (16, 12) := ro_kdl hL 112
theorem kd_113 (hL : ro_lay M) : ro_kd M 113 = (16, 12) := ro_kdl hL 113
theorem kd_114 (hL : ro_lay M) : ro_kd M 114 = (16, 12) := ro_kdl hL 114
theorem kd_115 (hL : ro_lay M) : ro_kd M 115 = (16, 12) := ro_kdl hL 115
theorem kd_116 (hL : ro_lay M) : ro_kd M 116 = (16, 12) := ro_kdl hL 116
theorem kd_117 (hL : ro_lay M) : ro_kd M 117 = (16, 12) := ro_kdl hL 117
theorem kd_118 (hL : ro_lay M) : ro_kd M 118 = (16, 12) := ro_kdl hL 118
theorem kd_119 (hL : ro_lay M) : ro_kd M 119 = (16, 12) := ro_kdl hL 119
theorem kd_120 (hL : ro_lay M) : ro_kd M 120 = (16, 12) := ro_kdl hL 120
theorem kd_121 (hL : ro_lay M) : ro_kd M 121 = (16, 12) := ro_kdl hL 121
theorem kd_122 (hL : ro_lay M) : ro_kd M 122 = (16, 12) := ro_kdl hL 122
theorem kd_123 (hL : ro_lay M) : ro_kd M 123 = (16, 12) := ro_kdl hL 123
theorem kd_124 (hL : ro_lay M) : ro_kd M 124 = (16, 12) := ro_kdl hL 124
theorem kd_125 (hL : ro_lay M) : ro_kd M 125 = (16, 12) := ro_kdl hL 125
theorem kd_126 (hL : ro_lay M) : ro_kd M 126 = (16, 12) := ro_kdl hL 126
theorem kd_127 (hL : ro_lay M) : ro_kd M 127 = (16, 12) := ro_kdl hL 127
theorem kd_128 (hL : ro_lay M) : ro_kd M 128 = (16, 12) := ro_kdl hL 128
theorem kd_129 (hL : ro_lay M) : ro_kd M 129 = (20, 21) := ro_kdl hL 129
theorem kd_130 (hL : ro_lay M) : ro_kd M 130 = (16, 12) := ro_kdl hL 130
theorem kd_131 (hL : ro_lay M) : ro_kd M 131 = (16, 12) := ro_kdl hL 131
theorem kd_132 (hL : ro_lay M) : ro_kd M 132 = (16, 12) := ro_kdl hL 132
theorem kd_133 (hL : ro_lay M) : ro_kd M 133 = (16, 12) := ro_kdl hL 133
theorem kd_134 (hL : ro_lay M) : ro_kd M 134 = (16, 12) := ro_kdl hL 134
theorem kd_135 (hL : ro_lay M) : ro_kd M 135 = (16, 12) := ro_kdl hL 135
theorem kd_136 (hL : ro_lay M) : ro_kd M 136 = (16, 12) := ro_kdl hL 136
theorem kd_137 (hL : ro_lay M) : ro_kd M 137 = (16, 12) := ro_kdl hL 137
theorem kd_138 (hL : ro_lay M) : ro_kd M 138 = (16, 12) := ro_kdl hL 138
theorem kd_139 (hL : ro_lay M) : ro_kd M 139 = (16, 12) := ro_kdl hL 139
theorem kd_140 (hL : ro_lay M) : ro_kd M 140 = (16, 12) := ro_kdl hL 140
theorem kd_141 (hL : ro_lay M) : ro_kd M 141 = (16, 12) := ro_kdl hL 141
theorem kd_142 (hL : ro_lay M) : ro_kd M 142 = (16, 12) := ro_kdl hL 142
theorem kd_143 (hL : ro_lay M) : ro_kd M 143 = (16, 12) := ro_kdl hL 143
theorem kd_144 (hL : ro_lay M) : ro_kd M 144 = (16, 12) := ro_kdl hL 144
theorem kd_145 (hL : ro_lay M) : ro_kd M 145 = (16, 12) := ro_kdl hL 145
theorem kd_146 (hL : ro_lay M) : ro_kd M 146 = (16, 12) := ro_kdl hL 146
theorem kd_147 (hL : ro_lay M) : ro_kd M 147 = (16, 12) := ro_kdl hL 147
theorem kd_148 (hL : ro_lay M) : ro_kd M 148 = (16, 12) := ro_kdl hL 148
theorem kd_149 (hL : ro_lay M) : ro_kd M 149 = (16, 12) := ro_kdl hL 149
theorem kd_150 (hL : ro_lay M) : ro_kd M 150 = (16, 12) := ro_kdl hL 150
theorem kd_151 (hL : ro_lay M) : ro_kd M 151 = (16, 1024) := ro_kdl hL 151
theorem kd_152 (hL : ro_lay M) : ro_kd M 152 = (16, 8192) := ro_kdl hL 152
theorem kd_153 (hL : ro_lay M) : ro_kd M 153 = (6, 5) := ro_kdl hL 153
theorem kd_154 (hL : ro_lay M) : ro_kd M 154 = (17, 8192) := ro_kdl hL 154
theorem kd_155 (hL : ro_lay M) : ro_kd M 155 = (16, 8192) := ro_kdl hL 155
theorem kd_156 (hL : ro_lay M) : ro_kd M 156 = (16, 8192) := ro_kdl hL 156
theorem kd_157 (hL : ro_lay M) : ro_kd M 157 = (16, 8192) := ro_kdl hL 157
theorem kd_158 (hL : ro_lay M) : ro_kd M 158 = (6, 5) := ro_kdl hL 158
theorem kd_159 (hL : ro_lay M) : ro_kd M 159 = (17, 8192) := ro_kdl hL 159
theorem kd_160 (hL : ro_lay M) : ro_kd M 160 = (16, 8192) := ro_kdl hL 160
theorem kd_161 (hL : ro_lay M) : ro_kd M 161 = (16, 8192) := ro_kdl hL 161
theorem kd_162 (hL : ro_lay M) : ro_kd M 162 = (16, 8192) := ro_kdl hL 162
theorem rf_4_0 (hL : ro_lay M) : M.2.2.2 4 0 = .ref 5 := hL.2 (4, 0, 5) (by decide +kernel)
theorem rf_4_1 (hL : ro_lay M) : M.2.2.2 4 1 = .ref 16 := hL.2 (4, 1, 16) (by decide +kernel)
theorem rf_4_2 (hL : ro_lay M) : M.2.2.2 4 2 = .ref 22 := hL.2 (4, 2, 22) (by decide +kernel)
theorem rf_4_3 (hL : ro_lay M) : M.2.2.2 4 3 = .ref 35 := hL.2 (4, 3, 35) (by decide +kernel)
theorem rf_4_4 (hL : ro_lay M) : M.2.2.2 4 4 = .ref 42 := hL.2 (4, 4, 42) (by decide +kernel)
theorem rf_4_5 (hL : ro_lay M) : M.2.2.2 4 5 = .ref 48 := hL.2 (4, 5, 48) (by decide +kernel)
theorem rf_4_6 (hL : ro_lay M) : M.2.2.2 4 6 = .ref 54 := hL.2 (4, 6, 54) (by decide +kernel)
theorem rf_4_7 (hL : ro_lay M) : M.2.2.2 4 7 = .ref 59 := hL.2 (4, 7, 59) (by decide +kernel)
theorem rf_4_8 (hL : ro_lay M) : M.2.2.2 4 8 = .ref 62 := hL.2 (4, 8, 62) (by decide +kernel)
theorem rf_5_0 (hL : ro_lay M) : M.2.2.2 5 0 = .ref 6 := hL.2 (5, 0, 6) (by decide +kernel)
theorem rf_5_1 (hL : ro_lay M) : M.2.2.2 5 1 = .ref 9 := hL.2 (5, 1, 9) (by decide +kernel)
theorem rf_5_2 (hL : ro_lay M) : M.2.2.2 5 2 = .ref 10 := hL.2 (5, 2, 10) (by decide +kernel)
theorem rf_5_3 (hL : ro_lay M) : M.2.2.2 5 3 = .ref 11 := hL.2 (5, 3, 11) (by decide +kernel)
theorem rf_5_8 (hL : ro_lay M) : M.2.2.2 5 8 = .ref 12 := hL.2 (5, 8, 12) (by decide +kernel)
theorem rf_5_9 (hL : ro_lay M) : M.2.2.2 5 9 = .ref 15 := hL.2 (5, 9, 15) (by decide +kernel)
theorem rf_6_0 (hL : ro_lay M) : M.2.2.2 6 0 = .ref 7 := hL.2 (6, 0, 7) (by decide +kernel)
theorem rf_6_1 (hL : ro_lay M) : M.2.2.2 6 1 = .ref 8 := hL.2 (6, 1, 8) (by decide +kernel)
theorem rf_12_0 (hL : ro_lay M) : M.2.2.2 12 0 = .ref 13 := hL.2 (12, 0, 13) (by decide +kernel)
theorem rf_12_1 (hL : ro_lay M) : M.2.2.2 12 1 = .ref 14 := hL.2 (12, 1, 14) (by decide +kernel)
theorem rf_16_0 (hL : ro_lay M) : M.2.2.2 16 0 = .ref 17 := hL.2 (16, 0, 17) (by decide +kernel)
theorem rf_16_1 (hL : ro_lay M) : M.2.2.2 16 1 = .ref 18 := hL.2 (16, 1, 18) (by decide +kernel)
theorem rf_16_2 (hL : ro_lay M) : M.2.2.2 16 2 = .ref 19 := hL.2 (16, 2, 19) (by decide +kernel)
theorem rf_16_3 (hL : ro_lay M) : M.2.2.2 16 3 = .ref 20 := hL.2 (16, 3, 20) (by decide +kernel)
theorem rf_16_4 (hL : ro_lay M) : M.2.2.2 16 4 = .ref 21 := hL.2 (16, 4, 21) (by decide +kernel)
theorem rf_22_0 (hL : ro_lay M) : M.2.2.2 22 0 = .ref 23 := hL.2 (22, 0, 23) (by decide +kernel)
theorem rf_22_1 (hL : ro_lay M) : M.2.2.2 22 1 = .ref 25 := hL.2 (22, 1, 25) (by decide +kernel)
theorem rf_22_2 (hL : ro_lay M) : M.2.2.2 22 2 = .ref 27 := hL.2 (22, 2, 27) (by decide +kernel)
theorem rf_22_3 (hL : ro_lay M) : M.2.2.2 22 3 = .ref 29 := hL.2 (22, 3, 29) (by decide +kernel)
theorem rf_22_4 (hL : ro_lay M) : M.2.2.2 22 4 = .ref 31 := hL.2 (22, 4, 31) (by decide +kernel)
theorem rf_22_5 (hL : ro_lay M) : M.2.2.2 22 5 = .ref 33 := hL.2 (22, 5, 33) (by decide +kernel)
theorem rf_23_0 (hL : ro_lay M) : M.2.2.2 23 0 = .ref 24 := hL.2 (23, 0, 24) (by decide +kernel)
theorem rf_25_0 (hL : ro_lay M) : M.2.2.2 25 0 = .ref 26 := hL.2 (25, 0, 26) (by decide +kernel)
theorem rf_27_0 (hL : ro_lay M) : M.2.2.2 27 0 = .ref 28 := hL.2 (27, 0, 28) (by decide +kernel)
theorem rf_29_0 (hL : ro_lay M) : M.2.2.2 29 0 = .ref 30 := hL.2 (29, 0, 30) (by decide +kernel)
theorem rf_31_0 (hL : ro_lay M) : M.2.2.2 31 0 = .ref 32 := hL.2 (31, 0, 32) (by decide +kernel)
theorem rf_33_0 (hL : ro_lay M) : M.2.2.2 33 0 = .ref 34 := hL.2 (33, 0, 34) (by decide +kernel)
theorem rf_35_0 (hL : ro_lay M) : M.2.2.2 35 0 = .ref 5 := hL.2 (35, 0, 5) (by decide +kernel)
theorem rf_35_1 (hL : ro_lay M) : M.2.2.2 35 1 = .ref 16 := hL.2 (35, 1, 16) (by decide +kernel)
theorem rf_35_2 (hL : ro_lay M) : M.2.2.2 35 2 = .ref 36 := hL.2 (35, 2, 36) (by decide +kernel)
theorem rf_35_3 (hL : ro_lay M) : M.2.2.2 35 3 = .ref 39 := hL.2 (35, 3, 39) (by decide +kernel)
theorem rf_35_4 (hL : ro_lay M) : M.2.2.2 35 4 = .ref 40 := hL.2 (35, 4, 40) (by decide +kernel)
theorem rf_35_5 (hL : ro_lay M) : M.2.2.2 35 5 = .ref 41 := hL.2 (35, 5, 41) (by decide +kernel)
theorem rf_36_0 (hL : ro_lay M) : M.2.2.2 36 0 = .ref 37 := hL.2 (36, 0, 37) (by decide +kernel)
theorem rf_36_1 (hL : ro_lay M) : M.2.2.2 36 1 = .ref 38 := hL.2 (36, 1, 38) (by decide +kernel)
theorem rf_42_0 (hL : ro_lay M) : M.2.2.2 42 0 = .ref 5 := hL.2 (42, 0, 5) (by decide +kernel)
theorem rf_42_1 (hL : ro_lay M) : M.2.2.2 42 1 = .ref 16 := hL.2 (42, 1, 16) (by decide +kernel)
theorem rf_42_2 (hL : ro_lay M) : M.2.2.2 42 2 = .ref 43 := hL.2 (42, 2, 43) (by decide +kernel)
theorem rf_42_3 (hL : ro_lay M) : M.2.2.2 42 3 = .ref 46 := hL.2 (42, 3, 46) (by decide +kernel)
theorem rf_42_4 (hL : ro_lay M) : M.2.2.2 42 4 = .ref 47 := hL.2 (42, 4, 47) (by decide +kernel)
theorem rf_43_0 (hL : ro_lay M) : M.2.2.2 43 0 = .ref 44 := hL.2 (43, 0, 44) (by decide +kernel)
theorem rf_43_1 (hL : ro_lay M) : M.2.2.2 43 1 = .ref 45 := hL.2 (43, 1, 45) (by decide +kernel)
theorem rf_48_0 (hL : ro_lay M) : M.2.2.2 48 0 = .ref 5 := hL.2 (48, 0, 5) (by decide +kernel)
theorem rf_48_1 (hL : ro_lay M) : M.2.2.2 48 1 = .ref 16 := hL.2 (48, 1, 16) (by decide +kernel)
theorem rf_48_2 (hL : ro_lay M) : M.2.2.2 48 2 = .ref 49 := hL.2 (48, 2, 49) (by decide +kernel)
theorem rf_48_3 (hL : ro_lay M) : M.2.2.2 48 3 = .ref 52 := hL.2 (48, 3, 52) (by decide +kernel)
theorem rf_48_4 (hL : ro_lay M) : M.2.2.2 48 4 = .ref 53 := hL.2 (48, 4, 53) (by decide +kernel)
theorem rf_49_0 (hL : ro_lay M) : M.2.2.2 49 0 = .ref 50 := hL.2 (49, 0, 50) (by decide +kernel)
theorem rf_49_1 (hL : ro_lay M) : M.2.2.2 49 1 = .ref 51 := hL.2 (49, 1, 51) (by decide +kernel)
theorem rf_54_0 (hL : ro_lay M) : M.2.2.2 54 0 = .ref 55 := hL.2 (54, 0, 55) (by decide +kernel)
theorem rf_54_1 (hL : ro_lay M) : M.2.2.2 54 1 = .ref 56 := hL.2 (54, 1, 56) (by decide +kernel)
theorem rf_54_2 (hL : ro_lay M) : M.2.2.2 54 2 = .ref 57 := hL.2 (54, 2, 57) (by decide +kernel)
theorem rf_54_3 (hL : ro_lay M) : M.2.2.2 54 3 = .ref 58 := hL.2 (54, 3, 58) (by decide +kernel)
theorem rf_59_0 (hL : ro_lay M) : M.2.2.2 59 0 = .ref 60 := hL.2 (59, 0, 60) (by decide +kernel)
theorem rf_59_1 (hL : ro_lay M) : M.2.2.2 59 1 = .ref 61 := hL.2 (59, 1, 61) (by decide +kernel)
theorem rf_62_0 (hL : ro_lay M) : M.2.2.2 62 0 = .ref 5 := hL.2 (62, 0, 5) (by decide +kernel)
theorem rf_62_1 (hL : ro_lay M) : M.2.2.2 62 1 = .ref 35 := hL.2 (62, 1, 35) (by decide +kernel)
theorem rf_62_2 (hL : ro_lay M) : M.2.2.2 62 2 = .ref 63 := hL.2 (62, 2, 63) (by decide +kernel)
theorem rf_62_3 (hL : ro_lay M) : M.2.2.2 62 3 = .ref 85 := hL.2 (62, 3, 85) (by decide +kernel)
theorem rf_62_4 (hL : ro_lay M) : M.2.2.2 62 4 = .ref 107 := hL.2 (62, 4, 107) (by decide +kernel)
theorem rf_62_5 (hL : ro_lay M) : M.2.2.2 62 5 = .ref 129 := hL.2 (62, 5, 129) (by decide +kernel)
theorem rf_62_6 (hL : ro_lay M) : M.2.2.2 62 6 = .ref 151 := hL.2 (62, 6, 151) (by decide +kernel)
theorem rf_62_7 (hL : ro_lay M) : M.2.2.2 62 7 = .ref 152 := hL.2 (62, 7, 152) (by decide +kernel)
theorem rf_63_0 (hL : ro_lay M) : M.2.2.2 63 0 = .ref 64 := hL.2 (63, 0, 64) (by decide +kernel)
theorem rf_63_1 (hL : ro_lay M) : M.2.2.2 63 1 = .ref 65 := hL.2 (63, 1, 65) (by decide +kernel)
theorem rf_63_2 (hL : ro_lay M) : M.2.2.2 63 2 = .ref 66 := hL.2 (63, 2, 66) (by decide +kernel)
theorem rf_63_3 (hL : ro_lay M) : M.2.2.2 63 3 = .ref 67 := hL.2 (63, 3, 67) (by decide +kernel)
theorem rf_63_4 (hL : ro_lay M) : M.2.2.2 63 4 = .ref 68 := hL.2 (63, 4, 68) (by decide +kernel)
theorem rf_63_5 (hL : ro_lay M) : M.2.2.2 63 5 = .ref 69 := hL.2 (63, 5, 69) (by decide +kernel)
theorem rf_63_6 (hL : ro_lay M) : M.2.2.2 63 6 = .ref 70 := hL.2 (63, 6, 70) (by decide +kernel)
theorem rf_63_7 (hL : ro_lay M) : M.2.2.2 63 7 = .ref 71 := hL.2 (63, 7, 71) (by decide +kernel)
theorem rf_63_8 (hL : ro_lay M) : M.2.2.2 63 8 = .ref 72 := hL.2 (63, 8, 72) (by decide +kernel)
theorem rf_63_9 (hL : ro_lay M) : M.2.2.2 63 9 = .ref 73 := hL.2 (63, 9, 73) (by decide +kernel)
theorem rf_63_10 (hL : ro_lay M) : M.2.2.2 63 10 = .ref 74 := hL.2 (63, 10, 74) (by decide +kernel)
theorem rf_63_11 (hL : ro_lay M) : M.2.2.2 63 11 = .ref 75 := hL.2 (63, 11, 75) (by decide +kernel)
theorem rf_63_12 (hL : ro_lay M) : M.2.2.2 63 12 = .ref 76 := hL.2 (63, 12, 76) (by decide +kernel)
theorem rf_63_13 (hL : ro_lay M) : M.2.2.2 63 13 = .ref 77 := hL.2 (63, 13, 77) (by decide +kernel)
theorem rf_63_14 (hL : ro_lay M) : M.2.2.2 63 14 = .ref 78 := hL.2 (63, 14, 78) (by decide +kernel)
theorem rf_63_15 (hL : ro_lay M) : M.2.2.2 63 15 = .ref 79 := hL.2 (63, 15, 79) (by decide +kernel)
theorem rf_63_16 (hL : ro_lay M) : M.2.2.2 63 16 = .ref 80 := hL.2 (63, 16, 80) (by decide +kernel)
theorem rf_63_17 (hL : ro_lay M) : M.2.2.2 63 17 = .ref 81 := hL.2 (63, 17, 81) (by decide +kernel)
theorem rf_63_18 (hL : ro_lay M) : M.2.2.2 63 18 = .ref 82 := hL.2 (63, 18, 82) (by decide +kernel)
theorem rf_63_19 (hL : ro_lay M) : M.2.2.2 63 19 = .ref 83 := hL.2 (63, 19, 83) (by decide +kernel)
theorem rf_63_20 (hL : ro_lay M) : M.2.2.2 63 20 = .ref 84 := hL.2 (63, 20, 84) (by decide +kernel)
theorem rf_85_0 (hL : ro_lay M) : M.2.2.2 85 0 = .ref 86 := hL.2 (85, 0, 86) (by decide +kernel)
theorem rf_85_1 (hL : ro_lay M) : M.2.2.2 85 1 = .ref 87 := hL.2 (85, 1, 87) (by decide +kernel)
theorem rf_85_2 (hL : ro_lay M) : M.2.2.2 85 2 = .ref 88 := hL.2 (85, 2, 88) (by decide +kernel)
theorem rf_85_3 (hL : ro_lay M) : M.2.2.2 85 3 = .ref 89 := hL.2 (85, 3, 89) (by decide +kernel)
theorem rf_85_4 (hL : ro_lay M) : M.2.2.2 85 4 = .ref 90 := hL.2 (85, 4, 90) (by decide +kernel)
theorem rf_85_5 (hL : ro_lay M) : M.2.2.2 85 5 = .ref 91 := hL.2 (85, 5, 91) (by decide +kernel)
theorem rf_85_6 (hL : ro_lay M) : M.2.2.2 85 6 = .ref 92 := hL.2 (85, 6, 92) (by decide +kernel)
theorem rf_85_7 (hL : ro_lay M) : M.2.2.2 85 7 = .ref 93 := hL.2 (85, 7, 93) (by decide +kernel)
theorem rf_85_8 (hL : ro_lay M) : M.2.2.2 85 8 = .ref 94 := hL.2 (85, 8, 94) (by decide +kernel)
theorem rf_85_9 (hL : ro_lay M) : M.2.2.2 85 9 = .ref 95 := hL.2 (85, 9, 95) (by decide +kernel)
theorem rf_85_10 (hL : ro_lay M) : M.2.2.2 85 10 = .ref 96 := hL.2 (85, 10, 96) (by decide +kernel)
theorem rf_85_11 (hL : ro_lay M) : M.2.2.2 85 11 = .ref 97 := hL.2 (85, 11, 97) (by decide +kernel)
theorem rf_85_12 (hL : ro_lay M) : M.2.2.2 85 12 = .ref 98 := hL.2 (85, 12, 98) (by decide +kernel)
theorem rf_85_13 (hL : ro_lay M) : M.2.2.2 85 13 = .ref 99 := hL.2 (85, 13, 99) (by decide +kernel)
theorem rf_85_14 (hL : ro_lay M) : M.2.2.2 85 14 = .ref 100 := hL.2 (85, 14, 100) (by decide +kernel)
theorem rf_85_15 (hL : ro_lay M) : M.2.2.2 85 15 = .ref 101 := hL.2 (85, 15, 101) (by decide +kernel)
theorem rf_85_16 (hL : ro_lay M) : M.2.2.2 85 16 = .ref 102 := hL.2 (85, 16, 102) (by decide +kernel)
theorem rf_85_17 (hL : ro_lay M) : M.2.2.2 85 17 = .ref 103 := hL.2 (85, 17, 103) (by decide +kernel)
theorem rf_85_18 (hL : ro_lay M) : M.2.2.2 85 18 = .ref 104 := hL.2 (85, 18, 104) (by decide +kernel)
theorem rf_85_19 (hL : ro_lay M) : M.2.2.2 85 19 = .ref 105 := hL.2 (85, 19, 105) (by decide +kernel)
theorem rf_85_20 (hL : ro_lay M) : M.2.2.2 85 20 = .ref 106 := hL.2 (85, 20, 106) (by decide +kernel)
theorem rf_107_0 (hL : ro_lay M) : M.2.2.2 107 0 = .ref 108 := hL.2 (107, 0, 108) (by decide +kernel)
theorem rf_107_1 (hL : ro_lay M) : M.2.2.2 107 1 = .ref 109 := hL.2 (107, 1, 109) (by decide +kernel)
theorem rf_107_2 (hL : ro_lay M) : M.2.2.2 107 2 = .ref 110 := hL.2 (107, 2, 110) (by decide +kernel)
theorem rf_107_3 (hL : ro_lay M) : M.2.2.2 107 3 = .ref 111 := hL.2 (107, 3, 111) (by decide +kernel)
theorem rf_107_4 (hL : ro_lay M) : M.2.2.2 107 4 = .ref 112 := hL.2 (107, 4, 112) (by decide +kernel)
theorem rf_107_5 (hL : ro_lay M) : M.2.2.2 107 5 = .ref 113 := hL.2 (107, 5, 113) (by decide +kernel)
theorem rf_107_6 (hL : ro_lay M) : M.2.2.2 107 6 = .ref 114 := hL.2 (107, 6, 114) (by decide +kernel)
theorem rf_107_7 (hL : ro_lay M) : M.2.2.2 107 7 = .ref 115 := hL.2 (107, 7, 115) (by decide +kernel)
theorem rf_107_8 (hL : ro_lay M) : M.2.2.2 107 8 = .ref 116 := hL.2 (107, 8, 116) (by decide +kernel)
theorem rf_107_9 (hL : ro_lay M) : M.2.2.2 107 9 = .ref 117 := hL.2 (107, 9, 117) (by decide +kernel)
theorem rf_107_10 (hL : ro_lay M) : M.2.2.2 107 10 = .ref 118 := hL.2 (107, 10, 118) (by decide +kernel)
theorem rf_107_11 (hL : ro_lay M) : M.2.2.2 107 11 = .ref 119 := hL.2 (107, 11, 119) (by decide +kernel)
theorem rf_107_12 (hL : ro_lay M) : M.2.2.2 107 12 = .ref 120 := hL.2 (107, 12, 120) (by decide +kernel)
theorem rf_107_13 (hL : ro_lay M) : M.2.2.2 107 13 = .ref 121 := hL.2 (107, 13, 121) (by decide +kernel)
theorem rf_107_14 (hL : ro_lay M) : M.2.2.2 107 14 = .ref 122 := hL.2 (107, 14, 122) (by decide +kernel)
theorem rf_107_15 (hL : ro_lay M) : M.2.2.2 107 15 = .ref 123 := hL.2 (107, 15, 123) (by decide +kernel)
theorem rf_107_16 (hL : ro_lay M) : M.2.2.2 107 16 = .ref 124 := hL.2 (107, 16, 124) (by decide +kernel)
theorem rf_107_17 (hL : ro_lay M) : M.2.2.2 107 17 = .ref 125 := hL.2 (107, 17, 125) (by decide +kernel)
theorem rf_107_18 (hL : ro_lay M) : M.2.2.2 107 18 = .ref 126 := hL.2 (107, 18, 126) (by decide +kernel)
theorem rf_107_19 (hL : ro_lay M) : M.2.2.2 107 19 = .ref 127 := hL.2 (107, 19, 127) (by decide +kernel)
theorem rf_107_20 (hL : ro_lay M) : M.2.2.2 107 20 = .ref 128 := hL.2 (107, 20, 128) (by decide +kernel)
theorem rf_129_0 (hL : ro_lay M) : M.2.2.2 129 0 = .ref 130 := hL.2 (129, 0, 130) (by decide +kernel)
theorem rf_129_1 (hL : ro_lay M) : M.2.2.2 129 1 = .ref 131 := hL.2 (129, 1, 131) (by decide +kernel)
theorem rf_129_2 (hL : ro_lay M) : M.2.2.2 129 2 = .ref 132 := hL.2 (129, 2, 132) (by decide +kernel)
theorem rf_129_3 (hL : ro_lay M) : M.2.2.2 129 3 = .ref 133 := hL.2 (129, 3, 133) (by decide +kernel)
theorem rf_129_4 (hL : ro_lay M) : M.2.2.2 129 4 = .ref 134 := hL.2 (129, 4, 134) (by decide +kernel)
theorem rf_129_5 (hL : ro_lay M) : M.2.2.2 129 5 = .ref 135 := hL.2 (129, 5, 135) (by decide +kernel)
theorem rf_129_6 (hL : ro_lay M) : M.2.2.2 129 6 = .ref 136 := hL.2 (129, 6, 136) (by decide +kernel)
theorem rf_129_7 (hL : ro_lay M) : M.2.2.2 129 7 = .ref 137 := hL.2 (129, 7, 137) (by decide +kernel)
theorem rf_129_8 (hL : ro_lay M) : M.2.2.2 129 8 = .ref 138 := hL.2 (129, 8, 138) (by decide +kernel)
theorem rf_129_9 (hL : ro_lay M) : M.2.2.2 129 9 = .ref 139 := hL.2 (129, 9, 139) (by decide +kernel)
theorem rf_129_10 (hL : ro_lay M) : M.2.2.2 129 10 = .ref 140 := hL.2 (129, 10, 140) (by decide +kernel)
theorem rf_129_11 (hL : ro_lay M) : M.2.2.2 129 11 = .ref 141 := hL.2 (129, 11, 141) (by decide +kernel)
theorem rf_129_12 (hL : ro_lay M) : M.2.2.2 129 12 = .ref 142 := hL.2 (129, 12, 142) (by decide +kernel)
theorem rf_129_13 (hL : ro_lay M) : M.2.2.2 129 13 = .ref 143 := hL.2 (129, 13, 143) (by decide +kernel)
theorem rf_129_14 (hL : ro_lay M) : M.2.2.2 129 14 = .ref 144 := hL.2 (129, 14, 144) (by decide +kernel)
theorem rf_129_15 (hL : ro_lay M) : M.2.2.2 129 15 = .ref 145 := hL.2 (129, 15, 145) (by decide +kernel)
theorem rf_129_16 (hL : ro_lay M) : M.2.2.2 129 16 = .ref 146 := hL.2 (129, 16, 146) (by decide +kernel)
theorem rf_129_17 (hL : ro_lay M) : M.2.2.2 129 17 = .ref 147 := hL.2 (129, 17, 147) (by decide +kernel)
theorem rf_129_18 (hL : ro_lay M) : M.2.2.2 129 18 = .ref 148 := hL.2 (129, 18, 148) (by decide +kernel)
theorem rf_129_19 (hL : ro_lay M) : M.2.2.2 129 19 = .ref 149 := hL.2 (129, 19, 149) (by decide +kernel)
theorem rf_129_20 (hL : ro_lay M) : M.2.2.2 129 20 = .ref 150 := hL.2 (129, 20, 150) (by decide +kernel)
theorem rf_153_0 (hL : ro_lay M) : M.2.2.2 153 0 = .ref 154 := hL.2 (153, 0, 154) (by decide +kernel)
theorem rf_153_1 (hL : ro_lay M) : M.2.2.2 153 1 = .ref 155 := hL.2 (153, 1, 155) (by decide +kernel)
theorem rf_153_2 (hL : ro_lay M) : M.2.2.2 153 2 = .ref 156 := hL.2 (153, 2, 156) (by decide +kernel)
theorem rf_153_3 (hL : ro_lay M) : M.2.2.2 153 3 = .ref 157 := hL.2 (153, 3, 157) (by decide +kernel)
theorem rf_158_0 (hL : ro_lay M) : M.2.2.2 158 0 = .ref 159 := hL.2 (158, 0, 159) (by decide +kernel)
theorem rf_158_1 (hL : ro_lay M) : M.2.2.2 158 1 = .ref 160 := hL.2 (158, 1, 160) (by decide +kernel)
theorem rf_158_2 (hL : ro_lay M) : M.2.2.2 158 2 = .ref 161 := hL.2 (158, 2, 161) (by decide +kernel)
theorem rf_158_3 (hL : ro_lay M) : M.2.2.2 158 3 = .ref 162 := hL.2 (158, 3, 162) (by decide +kernel)
/-- the purses, the shelves, the levels -/
def ro_ip (c : Nat) : Prop := c = 6 ∨ c = 12 ∨ c = 36 ∨ c = 43 ∨ c = 49
def ro_is (c : Nat) : Prop := c = 23 ∨ c = 25 ∨ c = 27 ∨ c = 29 ∨ c = 31 ∨ c = 33
def ro_il (c : Nat) : Prop := c = 153 ∨ c = 158
theorem ro_ip4 {c : Nat} (h : ro_ip c) : 4 ≤ c := by unfold ro_ip at h; omega
theorem ro_is4 {c : Nat} (h : ro_is c) : 4 ≤ c := by unfold ro_is at h; omega
theorem ro_il4 {c : Nat} (h : ro_il c) : 4 ≤ c := by unfold ro_il at h; omega
theorem ip_kd (hL : ro_lay M) {c : Nat} (h : ro_ip c) : ro_kd M c = (8, 2) := by
  rcases h with rfl | rfl | rfl | rfl | rfl
  · exact kd_6 hL
  · exact kd_12 hL
  · exact kd_36 hL
  · exact kd_43 hL
  · exact kd_49 hL
theorem ip_kd1 (hL : ro_lay M) {c : Nat} (h : ro_ip c) : ro_kd M (c + 1) = (16, 6) := by
  rcases h with rfl | rfl | rfl | rfl | rfl
  · exact kd_7 hL
  · exact kd_13 hL
  · exact kd_37 hL
  · exact kd_44 hL
  · exact kd_50 hL
theorem ip_kd2 (hL : ro_lay M) {c : Nat} (h : ro_ip c) : ro_kd M (c + 2) = (16, 6) := by
  rcases h with rfl | rfl | rfl | rfl | rfl
  · exact kd_8 hL
  · exact kd_14 hL
  · exact kd_38 hL
  · exact kd_45 hL
  · exact kd_51 hL
theorem ip_r0 (hL : ro_lay M) {c : Nat} (h : ro_ip c) : M.2.2.2 c 0 = .ref (c + 1) := by
  rcases h with rfl | rfl | rfl | rfl | rfl
  · exact rf_6_0 hL
  · exact rf_12_0 hL
  · exact rf_36_0 hL
  · exact rf_43_0 hL
  · exact rf_49_0 hL
theorem ip_r1 (hL : ro_lay M) {c : Nat} (h : ro_ip c) : M.2.2.2 c 1 = .ref (c + 2) := by
  rcases h with rfl | rfl | rfl | rfl | rfl
  · exact rf_6_1 hL
  · exact rf_12_1 hL
  · exact rf_36_1 hL
  · exact rf_43_1 hL
  · exact rf_49_1 hL
theorem is_kd (hL : ro_lay M) {c : Nat} (h : ro_is c) : ro_kd M c = (9, 4) := by
  rcases h with rfl | rfl | rfl | rfl | rfl | rfl
  · exact kd_23 hL
  · exact kd_25 hL
  · exact kd_27 hL
  · exact kd_29 hL
  · exact kd_31 hL
  · exact kd_33 hL
theorem is_kd1 (hL : ro_lay M) {c : Nat} (h : ro_is c) : ro_kd M (c + 1) = (17, 60) := by
  rcases h with rfl | rfl | rfl | rfl | rfl | rfl
  · exact kd_24 hL
  · exact kd_26 hL
  · exact kd_28 hL
  · exact kd_30 hL
  · exact kd_32 hL
  · exact kd_34 hL
theorem is_r0 (hL : ro_lay M) {c : Nat} (h : ro_is c) : M.2.2.2 c 0 = .ref (c + 1) := by
  rcases h with rfl | rfl | rfl | rfl | rfl | rfl
  · exact rf_23_0 hL
  · exact rf_25_0 hL
  · exact rf_27_0 hL
  · exact rf_29_0 hL
  · exact rf_31_0 hL
  · exact rf_33_0 hL
theorem il_kd (hL : ro_lay M) {c : Nat} (h : ro_il c) : ro_kd M c = (6, 5) := by
  rcases h with rfl | rfl
  · exact kd_153 hL
  · exact kd_158 hL
theorem il_kd1 (hL : ro_lay M) {c : Nat} (h : ro_il c) : ro_kd M (c + 1) = (17, 8192) := by
  rcases h with rfl | rfl
  · exact kd_154 hL
  · exact kd_159 hL
theorem il_r0 (hL : ro_lay M) {c : Nat} (h : ro_il c) : M.2.2.2 c 0 = .ref (c + 1) := by
  rcases h with rfl | rfl
  · exact rf_153_0 hL
  · exact rf_158_0 hL
theorem il_kd2 (hL : ro_lay M) {c : Nat} (h : ro_il c) : ro_kd M (c + 2) = (16, 8192) := by
  rcases h with rfl | rfl
  · exact kd_155 hL
  · exact kd_160 hL
theorem il_r1 (hL : ro_lay M) {c : Nat} (h : ro_il c) : M.2.2.2 c 1 = .ref (c + 2) := by
  rcases h with rfl | rfl
  · exact rf_153_1 hL
  · exact rf_158_1 hL
theorem il_kd3 (hL : ro_lay M) {c : Nat} (h : ro_il c) : ro_kd M (c + 3) = (16, 8192) := by
  rcases h with rfl | rfl
  · exact kd_156 hL
  · exact kd_161 hL
theorem il_r2 (hL : ro_lay M) {c : Nat} (h : ro_il c) : M.2.2.2 c 2 = .ref (c + 3) := by
  rcases h with rfl | rfl
  · exact rf_153_2 hL
  · exact rf_158_2 hL
theorem il_kd4 (hL : ro_lay M) {c : Nat} (h : ro_il c) : ro_kd M (c + 4) = (16, 8192) := by
  rcases h with rfl | rfl
  · exact kd_157 hL
  · exact kd_162 hL
theorem il_r3 (hL : ro_lay M) {c : Nat} (h : ro_il c) : M.2.2.2 c 3 = .ref (c + 4) := by
  rcases h with rfl | rfl
  · exact rf_153_3 hL
  · exact rf_158_3 hL
end LAY
