/-! decode rows -/
theorem d_MO_init_0 : decode prog_11_method_1_code 0 = .ok (.aload_n 0, 1) := by decide +kernel
theorem d_MO_init_1 : decode prog_11_method_1_code 1 = .ok (.invokespecial 1, 3) := by decide +kernel
theorem d_MO_init_4 : decode prog_11_method_1_code 4 = .ok (.aload_n 0, 1) := by decide +kernel
theorem d_MO_init_5 : decode prog_11_method_1_code 5 = .ok (.bipush 6, 2) := by decide +kernel
theorem d_MO_init_7 : decode prog_11_method_1_code 7 = .ok (.newarray .int, 2) := by decide +kernel
theorem d_MO_init_9 : decode prog_11_method_1_code 9 = .ok (.putfield 7, 3) := by decide +kernel
theorem d_MO_init_12 : decode prog_11_method_1_code 12 = .ok (.aload_n 0, 1) := by decide +kernel
theorem d_MO_init_13 : decode prog_11_method_1_code 13 = .ok (.bipush 60, 2) := by decide +kernel
theorem d_MO_init_15 : decode prog_11_method_1_code 15 = .ok (.newarray .int, 2) := by decide +kernel
theorem d_MO_init_17 : decode prog_11_method_1_code 17 = .ok (.putfield 13, 3) := by decide +kernel
theorem d_MO_init_20 : decode prog_11_method_1_code 20 = .ok (.aload_n 0, 1) := by decide +kernel
theorem d_MO_init_21 : decode prog_11_method_1_code 21 = .ok (.bipush 24, 2) := by decide +kernel
theorem d_MO_init_23 : decode prog_11_method_1_code 23 = .ok (.newarray .int, 2) := by decide +kernel
theorem d_MO_init_25 : decode prog_11_method_1_code 25 = .ok (.putfield 16, 3) := by decide +kernel
theorem d_MO_init_28 : decode prog_11_method_1_code 28 = .ok (.aload_n 0, 1) := by decide +kernel
theorem d_MO_init_29 : decode prog_11_method_1_code 29 = .ok (.bipush 6, 2) := by decide +kernel
theorem d_MO_init_31 : decode prog_11_method_1_code 31 = .ok (.newarray .int, 2) := by decide +kernel
theorem d_MO_init_33 : decode prog_11_method_1_code 33 = .ok (.putfield 19, 3) := by decide +kernel
theorem d_MO_init_36 : decode prog_11_method_1_code 36 = .ok (.aload_n 0, 1) := by decide +kernel
theorem d_MO_init_37 : decode prog_11_method_1_code 37 = .ok (.bipush 60, 2) := by decide +kernel
theorem d_MO_init_39 : decode prog_11_method_1_code 39 = .ok (.newarray .int, 2) := by decide +kernel
theorem d_MO_init_41 : decode prog_11_method_1_code 41 = .ok (.putfield 22, 3) := by decide +kernel
theorem d_MO_init_44 : decode prog_11_method_1_code 44 = .ok (.aload_n 0, 1) := by decide +kernel
theorem d_MO_init_45 : decode prog_11_method_1_code 45 = .ok (.bipush 24, 2) := by decide +kernel
theorem d_MO_init_47 : decode prog_11_method_1_code 47 = .ok (.newarray .int, 2) := by decide +kernel
theorem d_MO_init_49 : decode prog_11_method_1_code 49 = .ok (.putfield 25, 3) := by decide +kernel
theorem d_MO_init_52 : decode prog_11_method_1_code 52 = .ok (.aload_n 0, 1) := by decide +kernel
theorem d_MO_init_53 : decode prog_11_method_1_code 53 = .ok (.bipush 104, 2) := by decide +kernel
theorem d_MO_init_55 : decode prog_11_method_1_code 55 = .ok (.newarray .int, 2) := by decide +kernel
theorem d_MO_init_57 : decode prog_11_method_1_code 57 = .ok (.putfield 28, 3) := by decide +kernel
theorem d_MO_init_60 : decode prog_11_method_1_code 60 = .ok (.aload_n 0, 1) := by decide +kernel
theorem d_MO_init_61 : decode prog_11_method_1_code 61 = .ok (.bipush 24, 2) := by decide +kernel
theorem d_MO_init_63 : decode prog_11_method_1_code 63 = .ok (.newarray .int, 2) := by decide +kernel
theorem d_MO_init_65 : decode prog_11_method_1_code 65 = .ok (.putfield 31, 3) := by decide +kernel
theorem d_MO_init_68 : decode prog_11_method_1_code 68 = .ok (.aload_n 0, 1) := by decide +kernel
theorem d_MO_init_69 : decode prog_11_method_1_code 69 = .ok (.bipush 24, 2) := by decide +kernel
theorem d_MO_init_71 : decode prog_11_method_1_code 71 = .ok (.newarray .int, 2) := by decide +kernel
theorem d_MO_init_73 : decode prog_11_method_1_code 73 = .ok (.putfield 34, 3) := by decide +kernel
theorem d_MO_init_76 : decode prog_11_method_1_code 76 = .ok (.aload_n 0, 1) := by decide +kernel
theorem d_MO_init_77 : decode prog_11_method_1_code 77 = .ok (.bipush 12, 2) := by decide +kernel
theorem d_MO_init_79 : decode prog_11_method_1_code 79 = .ok (.newarray .int, 2) := by decide +kernel
theorem d_MO_init_81 : decode prog_11_method_1_code 81 = .ok (.putfield 37, 3) := by decide +kernel
theorem d_MO_init_84 : decode prog_11_method_1_code 84 = .ok (.aload_n 0, 1) := by decide +kernel
theorem d_MO_init_85 : decode prog_11_method_1_code 85 = .ok (.bipush 12, 2) := by decide +kernel
theorem d_MO_init_87 : decode prog_11_method_1_code 87 = .ok (.newarray .int, 2) := by decide +kernel
theorem d_MO_init_89 : decode prog_11_method_1_code 89 = .ok (.putfield 40, 3) := by decide +kernel
theorem d_MO_init_92 : decode prog_11_method_1_code 92 = .ok (.aload_n 0, 1) := by decide +kernel
theorem d_MO_init_93 : decode prog_11_method_1_code 93 = .ok (.sipush 384, 3) := by decide +kernel
theorem d_MO_init_96 : decode prog_11_method_1_code 96 = .ok (.newarray .int, 2) := by decide +kernel
theorem d_MO_init_98 : decode prog_11_method_1_code 98 = .ok (.putfield 43, 3) := by decide +kernel
theorem d_MO_init_101 : decode prog_11_method_1_code 101 = .ok (.aload_n 0, 1) := by decide +kernel
theorem d_MO_init_102 : decode prog_11_method_1_code 102 = .ok (.bipush 6, 2) := by decide +kernel
theorem d_MO_init_104 : decode prog_11_method_1_code 104 = .ok (.newarray .int, 2) := by decide +kernel
theorem d_MO_init_106 : decode prog_11_method_1_code 106 = .ok (.putfield 46, 3) := by decide +kernel
theorem d_MO_init_109 : decode prog_11_method_1_code 109 = .ok (.aload_n 0, 1) := by decide +kernel
theorem d_MO_init_110 : decode prog_11_method_1_code 110 = .ok (.bipush 6, 2) := by decide +kernel
theorem d_MO_init_112 : decode prog_11_method_1_code 112 = .ok (.newarray .int, 2) := by decide +kernel
theorem d_MO_init_114 : decode prog_11_method_1_code 114 = .ok (.putfield 49, 3) := by decide +kernel
theorem d_MO_init_117 : decode prog_11_method_1_code 117 = .ok (.aload_n 0, 1) := by decide +kernel
theorem d_MO_init_118 : decode prog_11_method_1_code 118 = .ok (.bipush 12, 2) := by decide +kernel
theorem d_MO_init_120 : decode prog_11_method_1_code 120 = .ok (.newarray .int, 2) := by decide +kernel
theorem d_MO_init_122 : decode prog_11_method_1_code 122 = .ok (.putfield 52, 3) := by decide +kernel
theorem d_MO_init_125 : decode prog_11_method_1_code 125 = .ok (.aload_n 0, 1) := by decide +kernel
theorem d_MO_init_126 : decode prog_11_method_1_code 126 = .ok (.bipush 40, 2) := by decide +kernel
theorem d_MO_init_128 : decode prog_11_method_1_code 128 = .ok (.newarray .long, 2) := by decide +kernel
theorem d_MO_init_130 : decode prog_11_method_1_code 130 = .ok (.putfield 55, 3) := by decide +kernel
theorem d_MO_init_133 : decode prog_11_method_1_code 133 = .ok (.aload_n 0, 1) := by decide +kernel
theorem d_MO_init_134 : decode prog_11_method_1_code 134 = .ok (.iconst 2, 1) := by decide +kernel
theorem d_MO_init_135 : decode prog_11_method_1_code 135 = .ok (.newarray .boolean, 2) := by decide +kernel
theorem d_MO_init_137 : decode prog_11_method_1_code 137 = .ok (.putfield 59, 3) := by decide +kernel
theorem d_MO_init_140 : decode prog_11_method_1_code 140 = .ok (.aload_n 0, 1) := by decide +kernel
theorem d_MO_init_141 : decode prog_11_method_1_code 141 = .ok (.bipush 120, 2) := by decide +kernel
theorem d_MO_init_143 : decode prog_11_method_1_code 143 = .ok (.newarray .int, 2) := by decide +kernel
theorem d_MO_init_145 : decode prog_11_method_1_code 145 = .ok (.putfield 63, 3) := by decide +kernel
theorem d_MO_init_148 : decode prog_11_method_1_code 148 = .ok (.aload_n 0, 1) := by decide +kernel
theorem d_MO_init_149 : decode prog_11_method_1_code 149 = .ok (.iconst 4, 1) := by decide +kernel
theorem d_MO_init_150 : decode prog_11_method_1_code 150 = .ok (.newarray .int, 2) := by decide +kernel
theorem d_MO_init_152 : decode prog_11_method_1_code 152 = .ok (.putfield 66, 3) := by decide +kernel
theorem d_MO_init_155 : decode prog_11_method_1_code 155 = .ok (.aload_n 0, 1) := by decide +kernel
theorem d_MO_init_156 : decode prog_11_method_1_code 156 = .ok (.iconst 1, 1) := by decide +kernel
theorem d_MO_init_157 : decode prog_11_method_1_code 157 = .ok (.putfield 69, 3) := by decide +kernel
theorem d_MO_init_160 : decode prog_11_method_1_code 160 = .ok (.aload_n 0, 1) := by decide +kernel
theorem d_MO_init_161 : decode prog_11_method_1_code 161 = .ok (.getfield 19, 3) := by decide +kernel
theorem d_MO_init_164 : decode prog_11_method_1_code 164 = .ok (.iconst 0, 1) := by decide +kernel
theorem d_MO_init_165 : decode prog_11_method_1_code 165 = .ok (.iconst 1, 1) := by decide +kernel
theorem d_MO_init_166 : decode prog_11_method_1_code 166 = .ok (.iastore, 1) := by decide +kernel
theorem d_MO_init_167 : decode prog_11_method_1_code 167 = .ok (.return_, 1) := by decide +kernel
theorem d_MO_in_0 : decode prog_11_method_3_code 0 = .ok (.lload_n 0, 1) := by decide +kernel
theorem d_MO_in_1 : decode prog_11_method_3_code 1 = .ok (.lload_n 2, 1) := by decide +kernel
theorem d_MO_in_2 : decode prog_11_method_3_code 2 = .ok (.lcmp, 1) := by decide +kernel
theorem d_MO_in_3 : decode prog_11_method_3_code 3 = .ok (.ifCond .lt 14, 3) := by decide +kernel
theorem d_MO_in_6 : decode prog_11_method_3_code 6 = .ok (.lload_n 0, 1) := by decide +kernel
theorem d_MO_in_7 : decode prog_11_method_3_code 7 = .ok (.lload 4, 2) := by decide +kernel
theorem d_MO_in_9 : decode prog_11_method_3_code 9 = .ok (.lcmp, 1) := by decide +kernel
theorem d_MO_in_10 : decode prog_11_method_3_code 10 = .ok (.ifCond .gt 7, 3) := by decide +kernel
theorem d_MO_in_13 : decode prog_11_method_3_code 13 = .ok (.iconst 1, 1) := by decide +kernel
theorem d_MO_in_14 : decode prog_11_method_3_code 14 = .ok (.goto 4, 3) := by decide +kernel
theorem d_MO_in_17 : decode prog_11_method_3_code 17 = .ok (.iconst 0, 1) := by decide +kernel
theorem d_MO_in_18 : decode prog_11_method_3_code 18 = .ok (.ireturn, 1) := by decide +kernel
theorem d_MO_write_0 : decode prog_11_method_4_code 0 = .ok (.iload_n 1, 1) := by decide +kernel
theorem d_MO_write_1 : decode prog_11_method_4_code 1 = .ok (.i2l, 1) := by decide +kernel
theorem d_MO_write_2 : decode prog_11_method_4_code 2 = .ok (.lconst 1, 1) := by decide +kernel
theorem d_MO_write_3 : decode prog_11_method_4_code 3 = .ok (.ldc2_w 73, 3) := by decide +kernel
theorem d_MO_write_6 : decode prog_11_method_4_code 6 = .ok (.invokestatic 75, 3) := by decide +kernel
theorem d_MO_write_9 : decode prog_11_method_4_code 9 = .ok (.ifCond .ne 6, 3) := by decide +kernel
theorem d_MO_write_12 : decode prog_11_method_4_code 12 = .ok (.bipush (-2), 2) := by decide +kernel
theorem d_MO_write_14 : decode prog_11_method_4_code 14 = .ok (.ireturn, 1) := by decide +kernel
theorem d_MO_write_15 : decode prog_11_method_4_code 15 = .ok (.aload_n 0, 1) := by decide +kernel
theorem d_MO_write_16 : decode prog_11_method_4_code 16 = .ok (.getfield 79, 3) := by decide +kernel
theorem d_MO_write_19 : decode prog_11_method_4_code 19 = .ok (.iload_n 1, 1) := by decide +kernel
theorem d_MO_write_20 : decode prog_11_method_4_code 20 = .ok (.iadd, 1) := by decide +kernel
theorem d_MO_write_21 : decode prog_11_method_4_code 21 = .ok (.bipush 104, 2) := by decide +kernel
theorem d_MO_write_23 : decode prog_11_method_4_code 23 = .ok (.if_icmp .le 6, 3) := by decide +kernel
theorem d_MO_write_26 : decode prog_11_method_4_code 26 = .ok (.bipush (-4), 2) := by decide +kernel
theorem d_MO_write_28 : decode prog_11_method_4_code 28 = .ok (.ireturn, 1) := by decide +kernel
theorem d_MO_write_29 : decode prog_11_method_4_code 29 = .ok (.iload_n 1, 1) := by decide +kernel
theorem d_MO_write_30 : decode prog_11_method_4_code 30 = .ok (.iconst 1, 1) := by decide +kernel
theorem d_MO_write_31 : decode prog_11_method_4_code 31 = .ok (.isub, 1) := by decide +kernel
theorem d_MO_write_32 : decode prog_11_method_4_code 32 = .ok (.istore 4, 2) := by decide +kernel
theorem d_MO_write_34 : decode prog_11_method_4_code 34 = .ok (.iload 4, 2) := by decide +kernel
theorem d_MO_write_36 : decode prog_11_method_4_code 36 = .ok (.ifCond .lt 40, 3) := by decide +kernel
theorem d_MO_write_39 : decode prog_11_method_4_code 39 = .ok (.aload_n 0, 1) := by decide +kernel
theorem d_MO_write_40 : decode prog_11_method_4_code 40 = .ok (.getfield 28, 3) := by decide +kernel
theorem d_MO_write_43 : decode prog_11_method_4_code 43 = .ok (.aload_n 0, 1) := by decide +kernel
theorem d_MO_write_44 : decode prog_11_method_4_code 44 = .ok (.getfield 79, 3) := by decide +kernel
theorem d_MO_write_47 : decode prog_11_method_4_code 47 = .ok (.lload_n 2, 1) := by decide +kernel
theorem d_MO_write_48 : decode prog_11_method_4_code 48 = .ok (.bipush 8, 2) := by decide +kernel
theorem d_MO_write_50 : decode prog_11_method_4_code 50 = .ok (.iload 4, 2) := by decide +kernel
theorem d_MO_write_52 : decode prog_11_method_4_code 52 = .ok (.imul, 1) := by decide +kernel
theorem d_MO_write_53 : decode prog_11_method_4_code 53 = .ok (.lshr, 1) := by decide +kernel
theorem d_MO_write_54 : decode prog_11_method_4_code 54 = .ok (.ldc2_w 82, 3) := by decide +kernel
theorem d_MO_write_57 : decode prog_11_method_4_code 57 = .ok (.land, 1) := by decide +kernel
theorem d_MO_write_58 : decode prog_11_method_4_code 58 = .ok (.l2i, 1) := by decide +kernel
theorem d_MO_write_59 : decode prog_11_method_4_code 59 = .ok (.iastore, 1) := by decide +kernel
theorem d_MO_write_60 : decode prog_11_method_4_code 60 = .ok (.aload_n 0, 1) := by decide +kernel
theorem d_MO_write_61 : decode prog_11_method_4_code 61 = .ok (.dup, 1) := by decide +kernel
theorem d_MO_write_62 : decode prog_11_method_4_code 62 = .ok (.getfield 79, 3) := by decide +kernel
theorem d_MO_write_65 : decode prog_11_method_4_code 65 = .ok (.iconst 1, 1) := by decide +kernel
theorem d_MO_write_66 : decode prog_11_method_4_code 66 = .ok (.iadd, 1) := by decide +kernel
theorem d_MO_write_67 : decode prog_11_method_4_code 67 = .ok (.putfield 79, 3) := by decide +kernel
theorem d_MO_write_70 : decode prog_11_method_4_code 70 = .ok (.iinc 4 (-1), 3) := by decide +kernel
theorem d_MO_write_73 : decode prog_11_method_4_code 73 = .ok (.goto (-39), 3) := by decide +kernel
theorem d_MO_write_76 : decode prog_11_method_4_code 76 = .ok (.aload_n 0, 1) := by decide +kernel
theorem d_MO_write_77 : decode prog_11_method_4_code 77 = .ok (.getfield 79, 3) := by decide +kernel
theorem d_MO_write_80 : decode prog_11_method_4_code 80 = .ok (.ireturn, 1) := by decide +kernel
theorem d_MO_wipe_0 : decode prog_11_method_5_code 0 = .ok (.aload_n 0, 1) := by decide +kernel
theorem d_MO_wipe_1 : decode prog_11_method_5_code 1 = .ok (.getfield 79, 3) := by decide +kernel
theorem d_MO_wipe_4 : decode prog_11_method_5_code 4 = .ok (.istore_n 1, 1) := by decide +kernel
theorem d_MO_wipe_5 : decode prog_11_method_5_code 5 = .ok (.aload_n 0, 1) := by decide +kernel
theorem d_MO_wipe_6 : decode prog_11_method_5_code 6 = .ok (.iconst 0, 1) := by decide +kernel
theorem d_MO_wipe_7 : decode prog_11_method_5_code 7 = .ok (.putfield 79, 3) := by decide +kernel
theorem d_MO_wipe_10 : decode prog_11_method_5_code 10 = .ok (.iload_n 1, 1) := by decide +kernel
theorem d_MO_wipe_11 : decode prog_11_method_5_code 11 = .ok (.ireturn, 1) := by decide +kernel
theorem d_MO_here_0 : decode prog_11_method_6_code 0 = .ok (.aload_n 0, 1) := by decide +kernel
theorem d_MO_here_1 : decode prog_11_method_6_code 1 = .ok (.getfield 84, 3) := by decide +kernel
theorem d_MO_here_4 : decode prog_11_method_6_code 4 = .ok (.bipush (-9), 2) := by decide +kernel
theorem d_MO_here_6 : decode prog_11_method_6_code 6 = .ok (.if_icmp .ne 26, 3) := by decide +kernel
theorem d_MO_here_9 : decode prog_11_method_6_code 9 = .ok (.aload_n 0, 1) := by decide +kernel
theorem d_MO_here_10 : decode prog_11_method_6_code 10 = .ok (.getfield 87, 3) := by decide +kernel
theorem d_MO_here_13 : decode prog_11_method_6_code 13 = .ok (.aload_n 0, 1) := by decide +kernel
theorem d_MO_here_14 : decode prog_11_method_6_code 14 = .ok (.getfield 79, 3) := by decide +kernel
theorem d_MO_here_17 : decode prog_11_method_6_code 17 = .ok (.if_icmp .ge 15, 3) := by decide +kernel
theorem d_MO_here_20 : decode prog_11_method_6_code 20 = .ok (.aload_n 0, 1) := by decide +kernel
theorem d_MO_here_21 : decode prog_11_method_6_code 21 = .ok (.getfield 28, 3) := by decide +kernel
theorem d_MO_here_24 : decode prog_11_method_6_code 24 = .ok (.aload_n 0, 1) := by decide +kernel
theorem d_MO_here_25 : decode prog_11_method_6_code 25 = .ok (.getfield 87, 3) := by decide +kernel
theorem d_MO_here_28 : decode prog_11_method_6_code 28 = .ok (.iaload, 1) := by decide +kernel
theorem d_MO_here_29 : decode prog_11_method_6_code 29 = .ok (.goto 4, 3) := by decide +kernel
theorem d_MO_here_32 : decode prog_11_method_6_code 32 = .ok (.iconst (-1), 1) := by decide +kernel
theorem d_MO_here_33 : decode prog_11_method_6_code 33 = .ok (.ireturn, 1) := by decide +kernel
theorem d_MO_fail_0 : decode prog_11_method_7_code 0 = .ok (.aload_n 0, 1) := by decide +kernel
theorem d_MO_fail_1 : decode prog_11_method_7_code 1 = .ok (.aload_n 0, 1) := by decide +kernel
theorem d_MO_fail_2 : decode prog_11_method_7_code 2 = .ok (.getfield 84, 3) := by decide +kernel
theorem d_MO_fail_5 : decode prog_11_method_7_code 5 = .ok (.bipush (-9), 2) := by decide +kernel
theorem d_MO_fail_7 : decode prog_11_method_7_code 7 = .ok (.if_icmp .ne 10, 3) := by decide +kernel
theorem d_MO_fail_10 : decode prog_11_method_7_code 10 = .ok (.aload_n 0, 1) := by decide +kernel
theorem d_MO_fail_11 : decode prog_11_method_7_code 11 = .ok (.getfield 87, 3) := by decide +kernel
theorem d_MO_fail_14 : decode prog_11_method_7_code 14 = .ok (.goto 7, 3) := by decide +kernel
theorem d_MO_fail_17 : decode prog_11_method_7_code 17 = .ok (.aload_n 0, 1) := by decide +kernel
theorem d_MO_fail_18 : decode prog_11_method_7_code 18 = .ok (.getfield 84, 3) := by decide +kernel
theorem d_MO_fail_21 : decode prog_11_method_7_code 21 = .ok (.putfield 84, 3) := by decide +kernel
theorem d_MO_fail_24 : decode prog_11_method_7_code 24 = .ok (.return_, 1) := by decide +kernel
theorem d_MO_figure_0 : decode prog_11_method_8_code 0 = .ok (.aload_n 0, 1) := by decide +kernel
theorem d_MO_figure_1 : decode prog_11_method_8_code 1 = .ok (.invokevirtual 90, 3) := by decide +kernel
theorem d_MO_figure_4 : decode prog_11_method_8_code 4 = .ok (.bipush 48, 2) := by decide +kernel
theorem d_MO_figure_6 : decode prog_11_method_8_code 6 = .ok (.isub, 1) := by decide +kernel
theorem d_MO_figure_7 : decode prog_11_method_8_code 7 = .ok (.istore_n 3, 1) := by decide +kernel
theorem d_MO_figure_8 : decode prog_11_method_8_code 8 = .ok (.iload_n 3, 1) := by decide +kernel
theorem d_MO_figure_9 : decode prog_11_method_8_code 9 = .ok (.i2l, 1) := by decide +kernel
theorem d_MO_figure_10 : decode prog_11_method_8_code 10 = .ok (.iload_n 1, 1) := by decide +kernel
theorem d_MO_figure_11 : decode prog_11_method_8_code 11 = .ok (.i2l, 1) := by decide +kernel
theorem d_MO_figure_12 : decode prog_11_method_8_code 12 = .ok (.iload_n 2, 1) := by decide +kernel
theorem d_MO_figure_13 : decode prog_11_method_8_code 13 = .ok (.i2l, 1) := by decide +kernel
theorem d_MO_figure_14 : decode prog_11_method_8_code 14 = .ok (.invokestatic 75, 3) := by decide +kernel
theorem d_MO_figure_17 : decode prog_11_method_8_code 17 = .ok (.ifCond .ne 9, 3) := by decide +kernel
theorem d_MO_figure_20 : decode prog_11_method_8_code 20 = .ok (.aload_n 0, 1) := by decide +kernel
theorem d_MO_figure_21 : decode prog_11_method_8_code 21 = .ok (.invokevirtual 94, 3) := by decide +kernel
theorem d_MO_figure_24 : decode prog_11_method_8_code 24 = .ok (.iconst 0, 1) := by decide +kernel
theorem d_MO_figure_25 : decode prog_11_method_8_code 25 = .ok (.ireturn, 1) := by decide +kernel
theorem d_MO_figure_26 : decode prog_11_method_8_code 26 = .ok (.aload_n 0, 1) := by decide +kernel
theorem d_MO_figure_27 : decode prog_11_method_8_code 27 = .ok (.dup, 1) := by decide +kernel
theorem d_MO_figure_28 : decode prog_11_method_8_code 28 = .ok (.getfield 87, 3) := by decide +kernel
theorem d_MO_figure_31 : decode prog_11_method_8_code 31 = .ok (.iconst 1, 1) := by decide +kernel
theorem d_MO_figure_32 : decode prog_11_method_8_code 32 = .ok (.iadd, 1) := by decide +kernel
theorem d_MO_figure_33 : decode prog_11_method_8_code 33 = .ok (.putfield 87, 3) := by decide +kernel
theorem d_MO_figure_36 : decode prog_11_method_8_code 36 = .ok (.iload_n 3, 1) := by decide +kernel
theorem d_MO_figure_37 : decode prog_11_method_8_code 37 = .ok (.ireturn, 1) := by decide +kernel
theorem d_MO_bits_0 : decode prog_11_method_9_code 0 = .ok (.aload_n 0, 1) := by decide +kernel
theorem d_MO_bits_1 : decode prog_11_method_9_code 1 = .ok (.invokevirtual 90, 3) := by decide +kernel
theorem d_MO_bits_4 : decode prog_11_method_9_code 4 = .ok (.bipush 48, 2) := by decide +kernel
theorem d_MO_bits_6 : decode prog_11_method_9_code 6 = .ok (.isub, 1) := by decide +kernel
theorem d_MO_bits_7 : decode prog_11_method_9_code 7 = .ok (.istore_n 2, 1) := by decide +kernel
theorem d_MO_bits_8 : decode prog_11_method_9_code 8 = .ok (.iload_n 2, 1) := by decide +kernel
theorem d_MO_bits_9 : decode prog_11_method_9_code 9 = .ok (.i2l, 1) := by decide +kernel
theorem d_MO_bits_10 : decode prog_11_method_9_code 10 = .ok (.lconst 0, 1) := by decide +kernel
theorem d_MO_bits_11 : decode prog_11_method_9_code 11 = .ok (.ldc2_w 97, 3) := by decide +kernel
theorem d_MO_bits_14 : decode prog_11_method_9_code 14 = .ok (.invokestatic 75, 3) := by decide +kernel
theorem d_MO_bits_17 : decode prog_11_method_9_code 17 = .ok (.ifCond .eq 11, 3) := by decide +kernel
theorem d_MO_bits_20 : decode prog_11_method_9_code 20 = .ok (.iload_n 2, 1) := by decide +kernel
theorem d_MO_bits_21 : decode prog_11_method_9_code 21 = .ok (.iload_n 1, 1) := by decide +kernel
theorem d_MO_bits_22 : decode prog_11_method_9_code 22 = .ok (.iconst (-1), 1) := by decide +kernel
theorem d_MO_bits_23 : decode prog_11_method_9_code 23 = .ok (.ixor, 1) := by decide +kernel
theorem d_MO_bits_24 : decode prog_11_method_9_code 24 = .ok (.iand, 1) := by decide +kernel
theorem d_MO_bits_25 : decode prog_11_method_9_code 25 = .ok (.ifCond .eq 9, 3) := by decide +kernel
theorem d_MO_bits_28 : decode prog_11_method_9_code 28 = .ok (.aload_n 0, 1) := by decide +kernel
theorem d_MO_bits_29 : decode prog_11_method_9_code 29 = .ok (.invokevirtual 94, 3) := by decide +kernel
theorem d_MO_bits_32 : decode prog_11_method_9_code 32 = .ok (.iconst 0, 1) := by decide +kernel
theorem d_MO_bits_33 : decode prog_11_method_9_code 33 = .ok (.ireturn, 1) := by decide +kernel
theorem d_MO_bits_34 : decode prog_11_method_9_code 34 = .ok (.aload_n 0, 1) := by decide +kernel
theorem d_MO_bits_35 : decode prog_11_method_9_code 35 = .ok (.dup, 1) := by decide +kernel
theorem d_MO_bits_36 : decode prog_11_method_9_code 36 = .ok (.getfield 87, 3) := by decide +kernel
theorem d_MO_bits_39 : decode prog_11_method_9_code 39 = .ok (.iconst 1, 1) := by decide +kernel
theorem d_MO_bits_40 : decode prog_11_method_9_code 40 = .ok (.iadd, 1) := by decide +kernel
theorem d_MO_bits_41 : decode prog_11_method_9_code 41 = .ok (.putfield 87, 3) := by decide +kernel
theorem d_MO_bits_44 : decode prog_11_method_9_code 44 = .ok (.iload_n 2, 1) := by decide +kernel
theorem d_MO_bits_45 : decode prog_11_method_9_code 45 = .ok (.ireturn, 1) := by decide +kernel
theorem d_MO_readText_0 : decode prog_11_method_10_code 0 = .ok (.aload_n 0, 1) := by decide +kernel
theorem d_MO_readText_1 : decode prog_11_method_10_code 1 = .ok (.iconst 0, 1) := by decide +kernel
theorem d_MO_readText_2 : decode prog_11_method_10_code 2 = .ok (.putfield 87, 3) := by decide +kernel
theorem d_MO_readText_5 : decode prog_11_method_10_code 5 = .ok (.aload_n 0, 1) := by decide +kernel
theorem d_MO_readText_6 : decode prog_11_method_10_code 6 = .ok (.bipush (-9), 2) := by decide +kernel
theorem d_MO_readText_8 : decode prog_11_method_10_code 8 = .ok (.putfield 84, 3) := by decide +kernel
theorem d_MO_readText_11 : decode prog_11_method_10_code 11 = .ok (.aload_n 0, 1) := by decide +kernel
theorem d_MO_readText_12 : decode prog_11_method_10_code 12 = .ok (.iconst 0, 1) := by decide +kernel
theorem d_MO_readText_13 : decode prog_11_method_10_code 13 = .ok (.putfield 99, 3) := by decide +kernel
theorem d_MO_readText_16 : decode prog_11_method_10_code 16 = .ok (.aload_n 0, 1) := by decide +kernel
theorem d_MO_readText_17 : decode prog_11_method_10_code 17 = .ok (.iconst 0, 1) := by decide +kernel
theorem d_MO_readText_18 : decode prog_11_method_10_code 18 = .ok (.putfield 102, 3) := by decide +kernel
theorem d_MO_readText_21 : decode prog_11_method_10_code 21 = .ok (.aload_n 0, 1) := by decide +kernel
theorem d_MO_readText_22 : decode prog_11_method_10_code 22 = .ok (.iconst 0, 1) := by decide +kernel
theorem d_MO_readText_23 : decode prog_11_method_10_code 23 = .ok (.putfield 105, 3) := by decide +kernel
theorem d_MO_readText_26 : decode prog_11_method_10_code 26 = .ok (.aload_n 0, 1) := by decide +kernel
theorem d_MO_readText_27 : decode prog_11_method_10_code 27 = .ok (.invokevirtual 90, 3) := by decide +kernel
theorem d_MO_readText_30 : decode prog_11_method_10_code 30 = .ok (.bipush 79, 2) := by decide +kernel
theorem d_MO_readText_32 : decode prog_11_method_10_code 32 = .ok (.if_icmp .eq 5, 3) := by decide +kernel
theorem d_MO_readText_35 : decode prog_11_method_10_code 35 = .ok (.iconst 0, 1) := by decide +kernel
theorem d_MO_readText_36 : decode prog_11_method_10_code 36 = .ok (.ireturn, 1) := by decide +kernel
theorem d_MO_readText_37 : decode prog_11_method_10_code 37 = .ok (.aload_n 0, 1) := by decide +kernel
theorem d_MO_readText_38 : decode prog_11_method_10_code 38 = .ok (.iconst 1, 1) := by decide +kernel
theorem d_MO_readText_39 : decode prog_11_method_10_code 39 = .ok (.putfield 87, 3) := by decide +kernel
theorem d_MO_readText_42 : decode prog_11_method_10_code 42 = .ok (.aload_n 0, 1) := by decide +kernel
theorem d_MO_readText_43 : decode prog_11_method_10_code 43 = .ok (.getfield 99, 3) := by decide +kernel
theorem d_MO_readText_46 : decode prog_11_method_10_code 46 = .ok (.ifCond .ne 12, 3) := by decide +kernel
theorem d_MO_readText_49 : decode prog_11_method_10_code 49 = .ok (.aload_n 0, 1) := by decide +kernel
theorem d_MO_readText_50 : decode prog_11_method_10_code 50 = .ok (.getfield 84, 3) := by decide +kernel
theorem d_MO_readText_53 : decode prog_11_method_10_code 53 = .ok (.bipush (-9), 2) := by decide +kernel
theorem d_MO_readText_55 : decode prog_11_method_10_code 55 = .ok (.if_icmp .eq 29, 3) := by decide +kernel
theorem d_MO_readText_58 : decode prog_11_method_10_code 58 = .ok (.aload_n 0, 1) := by decide +kernel
theorem d_MO_readText_59 : decode prog_11_method_10_code 59 = .ok (.getfield 99, 3) := by decide +kernel
theorem d_MO_readText_62 : decode prog_11_method_10_code 62 = .ok (.bipush 6, 2) := by decide +kernel
theorem d_MO_readText_64 : decode prog_11_method_10_code 64 = .ok (.if_icmp .ge 49, 3) := by decide +kernel
theorem d_MO_readText_67 : decode prog_11_method_10_code 67 = .ok (.aload_n 0, 1) := by decide +kernel
theorem d_MO_readText_68 : decode prog_11_method_10_code 68 = .ok (.invokevirtual 90, 3) := by decide +kernel
theorem d_MO_readText_71 : decode prog_11_method_10_code 71 = .ok (.i2l, 1) := by decide +kernel
theorem d_MO_readText_72 : decode prog_11_method_10_code 72 = .ok (.ldc2_w 108, 3) := by decide +kernel
theorem d_MO_readText_75 : decode prog_11_method_10_code 75 = .ok (.ldc2_w 110, 3) := by decide +kernel
theorem d_MO_readText_78 : decode prog_11_method_10_code 78 = .ok (.invokestatic 75, 3) := by decide +kernel
theorem d_MO_readText_81 : decode prog_11_method_10_code 81 = .ok (.ifCond .eq 32, 3) := by decide +kernel
theorem d_MO_readText_84 : decode prog_11_method_10_code 84 = .ok (.aload_n 0, 1) := by decide +kernel
theorem d_MO_readText_85 : decode prog_11_method_10_code 85 = .ok (.getfield 7, 3) := by decide +kernel
theorem d_MO_readText_88 : decode prog_11_method_10_code 88 = .ok (.aload_n 0, 1) := by decide +kernel
theorem d_MO_readText_89 : decode prog_11_method_10_code 89 = .ok (.getfield 99, 3) := by decide +kernel
theorem d_MO_readText_92 : decode prog_11_method_10_code 92 = .ok (.aload_n 0, 1) := by decide +kernel
theorem d_MO_readText_93 : decode prog_11_method_10_code 93 = .ok (.iconst 1, 1) := by decide +kernel
theorem d_MO_readText_94 : decode prog_11_method_10_code 94 = .ok (.bipush 9, 2) := by decide +kernel
theorem d_MO_readText_96 : decode prog_11_method_10_code 96 = .ok (.invokevirtual 112, 3) := by decide +kernel
theorem d_MO_readText_99 : decode prog_11_method_10_code 99 = .ok (.iastore, 1) := by decide +kernel
theorem d_MO_readText_100 : decode prog_11_method_10_code 100 = .ok (.aload_n 0, 1) := by decide +kernel
theorem d_MO_readText_101 : decode prog_11_method_10_code 101 = .ok (.dup, 1) := by decide +kernel
theorem d_MO_readText_102 : decode prog_11_method_10_code 102 = .ok (.getfield 99, 3) := by decide +kernel
theorem d_MO_readText_105 : decode prog_11_method_10_code 105 = .ok (.iconst 1, 1) := by decide +kernel
theorem d_MO_readText_106 : decode prog_11_method_10_code 106 = .ok (.iadd, 1) := by decide +kernel
theorem d_MO_readText_107 : decode prog_11_method_10_code 107 = .ok (.putfield 99, 3) := by decide +kernel
theorem d_MO_readText_110 : decode prog_11_method_10_code 110 = .ok (.goto (-68), 3) := by decide +kernel
theorem d_MO_readText_113 : decode prog_11_method_10_code 113 = .ok (.aload_n 0, 1) := by decide +kernel
theorem d_MO_readText_114 : decode prog_11_method_10_code 114 = .ok (.getfield 102, 3) := by decide +kernel
theorem d_MO_readText_117 : decode prog_11_method_10_code 117 = .ok (.bipush 12, 2) := by decide +kernel
theorem d_MO_readText_119 : decode prog_11_method_10_code 119 = .ok (.if_icmp .ge 106, 3) := by decide +kernel
theorem d_MO_readText_122 : decode prog_11_method_10_code 122 = .ok (.aload_n 0, 1) := by decide +kernel
theorem d_MO_readText_123 : decode prog_11_method_10_code 123 = .ok (.invokevirtual 90, 3) := by decide +kernel
theorem d_MO_readText_126 : decode prog_11_method_10_code 126 = .ok (.bipush 77, 2) := by decide +kernel
theorem d_MO_readText_128 : decode prog_11_method_10_code 128 = .ok (.if_icmp .ne 97, 3) := by decide +kernel
theorem d_MO_readText_131 : decode prog_11_method_10_code 131 = .ok (.aload_n 0, 1) := by decide +kernel
theorem d_MO_readText_132 : decode prog_11_method_10_code 132 = .ok (.dup, 1) := by decide +kernel
theorem d_MO_readText_133 : decode prog_11_method_10_code 133 = .ok (.getfield 87, 3) := by decide +kernel
theorem d_MO_readText_136 : decode prog_11_method_10_code 136 = .ok (.iconst 1, 1) := by decide +kernel
theorem d_MO_readText_137 : decode prog_11_method_10_code 137 = .ok (.iadd, 1) := by decide +kernel
theorem d_MO_readText_138 : decode prog_11_method_10_code 138 = .ok (.putfield 87, 3) := by decide +kernel
theorem d_MO_readText_141 : decode prog_11_method_10_code 141 = .ok (.iconst 5, 1) := by decide +kernel
theorem d_MO_readText_142 : decode prog_11_method_10_code 142 = .ok (.aload_n 0, 1) := by decide +kernel
theorem d_MO_readText_143 : decode prog_11_method_10_code 143 = .ok (.getfield 102, 3) := by decide +kernel
theorem d_MO_readText_146 : decode prog_11_method_10_code 146 = .ok (.imul, 1) := by decide +kernel
theorem d_MO_readText_147 : decode prog_11_method_10_code 147 = .ok (.istore_n 1, 1) := by decide +kernel
theorem d_MO_readText_148 : decode prog_11_method_10_code 148 = .ok (.aload_n 0, 1) := by decide +kernel
theorem d_MO_readText_149 : decode prog_11_method_10_code 149 = .ok (.getfield 13, 3) := by decide +kernel
theorem d_MO_readText_152 : decode prog_11_method_10_code 152 = .ok (.iload_n 1, 1) := by decide +kernel
theorem d_MO_readText_153 : decode prog_11_method_10_code 153 = .ok (.aload_n 0, 1) := by decide +kernel
theorem d_MO_readText_154 : decode prog_11_method_10_code 154 = .ok (.iconst 1, 1) := by decide +kernel
theorem d_MO_readText_155 : decode prog_11_method_10_code 155 = .ok (.bipush 9, 2) := by decide +kernel
theorem d_MO_readText_157 : decode prog_11_method_10_code 157 = .ok (.invokevirtual 112, 3) := by decide +kernel
theorem d_MO_readText_160 : decode prog_11_method_10_code 160 = .ok (.iastore, 1) := by decide +kernel
theorem d_MO_readText_161 : decode prog_11_method_10_code 161 = .ok (.aload_n 0, 1) := by decide +kernel
theorem d_MO_readText_162 : decode prog_11_method_10_code 162 = .ok (.getfield 13, 3) := by decide +kernel
theorem d_MO_readText_165 : decode prog_11_method_10_code 165 = .ok (.iload_n 1, 1) := by decide +kernel
theorem d_MO_readText_166 : decode prog_11_method_10_code 166 = .ok (.iconst 1, 1) := by decide +kernel
theorem d_MO_readText_167 : decode prog_11_method_10_code 167 = .ok (.iadd, 1) := by decide +kernel
theorem d_MO_readText_168 : decode prog_11_method_10_code 168 = .ok (.aload_n 0, 1) := by decide +kernel
theorem d_MO_readText_169 : decode prog_11_method_10_code 169 = .ok (.iconst 1, 1) := by decide +kernel
theorem d_MO_readText_170 : decode prog_11_method_10_code 170 = .ok (.iconst 3, 1) := by decide +kernel
theorem d_MO_readText_171 : decode prog_11_method_10_code 171 = .ok (.invokevirtual 112, 3) := by decide +kernel
theorem d_MO_readText_174 : decode prog_11_method_10_code 174 = .ok (.iastore, 1) := by decide +kernel
theorem d_MO_readText_175 : decode prog_11_method_10_code 175 = .ok (.aload_n 0, 1) := by decide +kernel
theorem d_MO_readText_176 : decode prog_11_method_10_code 176 = .ok (.getfield 13, 3) := by decide +kernel
theorem d_MO_readText_179 : decode prog_11_method_10_code 179 = .ok (.iload_n 1, 1) := by decide +kernel
theorem d_MO_readText_180 : decode prog_11_method_10_code 180 = .ok (.iconst 2, 1) := by decide +kernel
theorem d_MO_readText_181 : decode prog_11_method_10_code 181 = .ok (.iadd, 1) := by decide +kernel
theorem d_MO_readText_182 : decode prog_11_method_10_code 182 = .ok (.aload_n 0, 1) := by decide +kernel
theorem d_MO_readText_183 : decode prog_11_method_10_code 183 = .ok (.iconst 0, 1) := by decide +kernel
theorem d_MO_readText_184 : decode prog_11_method_10_code 184 = .ok (.aload_n 0, 1) := by decide +kernel
theorem d_MO_readText_185 : decode prog_11_method_10_code 185 = .ok (.getfield 99, 3) := by decide +kernel
theorem d_MO_readText_188 : decode prog_11_method_10_code 188 = .ok (.iconst 1, 1) := by decide +kernel
theorem d_MO_readText_189 : decode prog_11_method_10_code 189 = .ok (.isub, 1) := by decide +kernel
theorem d_MO_readText_190 : decode prog_11_method_10_code 190 = .ok (.invokevirtual 112, 3) := by decide +kernel
theorem d_MO_readText_193 : decode prog_11_method_10_code 193 = .ok (.iastore, 1) := by decide +kernel
theorem d_MO_readText_194 : decode prog_11_method_10_code 194 = .ok (.aload_n 0, 1) := by decide +kernel
theorem d_MO_readText_195 : decode prog_11_method_10_code 195 = .ok (.getfield 13, 3) := by decide +kernel
theorem d_MO_readText_198 : decode prog_11_method_10_code 198 = .ok (.iload_n 1, 1) := by decide +kernel
theorem d_MO_readText_199 : decode prog_11_method_10_code 199 = .ok (.iconst 3, 1) := by decide +kernel
theorem d_MO_readText_200 : decode prog_11_method_10_code 200 = .ok (.iadd, 1) := by decide +kernel
theorem d_MO_readText_201 : decode prog_11_method_10_code 201 = .ok (.iconst 0, 1) := by decide +kernel
theorem d_MO_readText_202 : decode prog_11_method_10_code 202 = .ok (.iastore, 1) := by decide +kernel
theorem d_MO_readText_203 : decode prog_11_method_10_code 203 = .ok (.aload_n 0, 1) := by decide +kernel
theorem d_MO_readText_204 : decode prog_11_method_10_code 204 = .ok (.getfield 13, 3) := by decide +kernel
theorem d_MO_readText_207 : decode prog_11_method_10_code 207 = .ok (.iload_n 1, 1) := by decide +kernel
theorem d_MO_readText_208 : decode prog_11_method_10_code 208 = .ok (.iconst 4, 1) := by decide +kernel
theorem d_MO_readText_209 : decode prog_11_method_10_code 209 = .ok (.iadd, 1) := by decide +kernel
theorem d_MO_readText_210 : decode prog_11_method_10_code 210 = .ok (.iconst 0, 1) := by decide +kernel
theorem d_MO_readText_211 : decode prog_11_method_10_code 211 = .ok (.iastore, 1) := by decide +kernel
theorem d_MO_readText_212 : decode prog_11_method_10_code 212 = .ok (.aload_n 0, 1) := by decide +kernel
theorem d_MO_readText_213 : decode prog_11_method_10_code 213 = .ok (.dup, 1) := by decide +kernel
theorem d_MO_readText_214 : decode prog_11_method_10_code 214 = .ok (.getfield 102, 3) := by decide +kernel
theorem d_MO_readText_217 : decode prog_11_method_10_code 217 = .ok (.iconst 1, 1) := by decide +kernel
theorem d_MO_readText_218 : decode prog_11_method_10_code 218 = .ok (.iadd, 1) := by decide +kernel
theorem d_MO_readText_219 : decode prog_11_method_10_code 219 = .ok (.putfield 102, 3) := by decide +kernel
theorem d_MO_readText_222 : decode prog_11_method_10_code 222 = .ok (.goto (-109), 3) := by decide +kernel
theorem d_MO_readText_225 : decode prog_11_method_10_code 225 = .ok (.aload_n 0, 1) := by decide +kernel
theorem d_MO_readText_226 : decode prog_11_method_10_code 226 = .ok (.invokevirtual 90, 3) := by decide +kernel
theorem d_MO_readText_229 : decode prog_11_method_10_code 229 = .ok (.bipush 47, 2) := by decide +kernel
theorem d_MO_readText_231 : decode prog_11_method_10_code 231 = .ok (.if_icmp .ne 100, 3) := by decide +kernel
theorem d_MO_readText_234 : decode prog_11_method_10_code 234 = .ok (.aload_n 0, 1) := by decide +kernel
theorem d_MO_readText_235 : decode prog_11_method_10_code 235 = .ok (.dup, 1) := by decide +kernel
theorem d_MO_readText_236 : decode prog_11_method_10_code 236 = .ok (.getfield 87, 3) := by decide +kernel
theorem d_MO_readText_239 : decode prog_11_method_10_code 239 = .ok (.iconst 1, 1) := by decide +kernel
theorem d_MO_readText_240 : decode prog_11_method_10_code 240 = .ok (.iadd, 1) := by decide +kernel
theorem d_MO_readText_241 : decode prog_11_method_10_code 241 = .ok (.putfield 87, 3) := by decide +kernel
theorem d_MO_readText_244 : decode prog_11_method_10_code 244 = .ok (.iconst 1, 1) := by decide +kernel
theorem d_MO_readText_245 : decode prog_11_method_10_code 245 = .ok (.aload_n 0, 1) := by decide +kernel
theorem d_MO_readText_246 : decode prog_11_method_10_code 246 = .ok (.getfield 99, 3) := by decide +kernel
theorem d_MO_readText_249 : decode prog_11_method_10_code 249 = .ok (.ishl, 1) := by decide +kernel
theorem d_MO_readText_250 : decode prog_11_method_10_code 250 = .ok (.iconst 1, 1) := by decide +kernel
theorem d_MO_readText_251 : decode prog_11_method_10_code 251 = .ok (.isub, 1) := by decide +kernel
theorem d_MO_readText_252 : decode prog_11_method_10_code 252 = .ok (.istore_n 1, 1) := by decide +kernel
theorem d_MO_readText_253 : decode prog_11_method_10_code 253 = .ok (.aload_n 0, 1) := by decide +kernel
theorem d_MO_readText_254 : decode prog_11_method_10_code 254 = .ok (.getfield 84, 3) := by decide +kernel
theorem d_MO_readText_257 : decode prog_11_method_10_code 257 = .ok (.bipush (-9), 2) := by decide +kernel
theorem d_MO_readText_259 : decode prog_11_method_10_code 259 = .ok (.if_icmp .ne 72, 3) := by decide +kernel
theorem d_MO_readText_262 : decode prog_11_method_10_code 262 = .ok (.aload_n 0, 1) := by decide +kernel
theorem d_MO_readText_263 : decode prog_11_method_10_code 263 = .ok (.getfield 105, 3) := by decide +kernel
theorem d_MO_readText_266 : decode prog_11_method_10_code 266 = .ok (.ifCond .eq 14, 3) := by decide +kernel
theorem d_MO_readText_269 : decode prog_11_method_10_code 269 = .ok (.aload_n 0, 1) := by decide +kernel
theorem d_MO_readText_270 : decode prog_11_method_10_code 270 = .ok (.getfield 87, 3) := by decide +kernel
theorem d_MO_readText_273 : decode prog_11_method_10_code 273 = .ok (.aload_n 0, 1) := by decide +kernel
theorem d_MO_readText_274 : decode prog_11_method_10_code 274 = .ok (.getfield 79, 3) := by decide +kernel
theorem d_MO_readText_277 : decode prog_11_method_10_code 277 = .ok (.if_icmp .ge 54, 3) := by decide +kernel
theorem d_MO_readText_280 : decode prog_11_method_10_code 280 = .ok (.aload_n 0, 1) := by decide +kernel
theorem d_MO_readText_281 : decode prog_11_method_10_code 281 = .ok (.getfield 105, 3) := by decide +kernel
theorem d_MO_readText_284 : decode prog_11_method_10_code 284 = .ok (.bipush 24, 2) := by decide +kernel
theorem d_MO_readText_286 : decode prog_11_method_10_code 286 = .ok (.if_icmp .ge 45, 3) := by decide +kernel
theorem d_MO_readText_289 : decode prog_11_method_10_code 289 = .ok (.aload_n 0, 1) := by decide +kernel
theorem d_MO_readText_290 : decode prog_11_method_10_code 290 = .ok (.iload_n 1, 1) := by decide +kernel
theorem d_MO_readText_291 : decode prog_11_method_10_code 291 = .ok (.bipush 7, 2) := by decide +kernel
theorem d_MO_readText_293 : decode prog_11_method_10_code 293 = .ok (.iand, 1) := by decide +kernel
theorem d_MO_readText_294 : decode prog_11_method_10_code 294 = .ok (.invokevirtual 116, 3) := by decide +kernel
theorem d_MO_readText_297 : decode prog_11_method_10_code 297 = .ok (.istore_n 2, 1) := by decide +kernel
theorem d_MO_readText_298 : decode prog_11_method_10_code 298 = .ok (.aload_n 0, 1) := by decide +kernel
theorem d_MO_readText_299 : decode prog_11_method_10_code 299 = .ok (.getfield 16, 3) := by decide +kernel
theorem d_MO_readText_302 : decode prog_11_method_10_code 302 = .ok (.aload_n 0, 1) := by decide +kernel
theorem d_MO_readText_303 : decode prog_11_method_10_code 303 = .ok (.getfield 105, 3) := by decide +kernel
theorem d_MO_readText_306 : decode prog_11_method_10_code 306 = .ok (.iload_n 2, 1) := by decide +kernel
theorem d_MO_readText_307 : decode prog_11_method_10_code 307 = .ok (.aload_n 0, 1) := by decide +kernel
theorem d_MO_readText_308 : decode prog_11_method_10_code 308 = .ok (.iload_n 1, 1) := by decide +kernel
theorem d_MO_readText_309 : decode prog_11_method_10_code 309 = .ok (.iconst 3, 1) := by decide +kernel
theorem d_MO_readText_310 : decode prog_11_method_10_code 310 = .ok (.ishr, 1) := by decide +kernel
theorem d_MO_readText_311 : decode prog_11_method_10_code 311 = .ok (.invokevirtual 116, 3) := by decide +kernel
theorem d_MO_readText_314 : decode prog_11_method_10_code 314 = .ok (.iconst 3, 1) := by decide +kernel
theorem d_MO_readText_315 : decode prog_11_method_10_code 315 = .ok (.ishl, 1) := by decide +kernel
theorem d_MO_readText_316 : decode prog_11_method_10_code 316 = .ok (.ior, 1) := by decide +kernel
theorem d_MO_readText_317 : decode prog_11_method_10_code 317 = .ok (.iastore, 1) := by decide +kernel
theorem d_MO_readText_318 : decode prog_11_method_10_code 318 = .ok (.aload_n 0, 1) := by decide +kernel
theorem d_MO_readText_319 : decode prog_11_method_10_code 319 = .ok (.dup, 1) := by decide +kernel
theorem d_MO_readText_320 : decode prog_11_method_10_code 320 = .ok (.getfield 105, 3) := by decide +kernel
theorem d_MO_readText_323 : decode prog_11_method_10_code 323 = .ok (.iconst 1, 1) := by decide +kernel
theorem d_MO_readText_324 : decode prog_11_method_10_code 324 = .ok (.iadd, 1) := by decide +kernel
theorem d_MO_readText_325 : decode prog_11_method_10_code 325 = .ok (.putfield 105, 3) := by decide +kernel
theorem d_MO_readText_328 : decode prog_11_method_10_code 328 = .ok (.goto (-75), 3) := by decide +kernel
theorem d_MO_readText_331 : decode prog_11_method_10_code 331 = .ok (.aload_n 0, 1) := by decide +kernel
theorem d_MO_readText_332 : decode prog_11_method_10_code 332 = .ok (.getfield 84, 3) := by decide +kernel
theorem d_MO_readText_335 : decode prog_11_method_10_code 335 = .ok (.bipush (-9), 2) := by decide +kernel
theorem d_MO_readText_337 : decode prog_11_method_10_code 337 = .ok (.if_icmp .ne 18, 3) := by decide +kernel
theorem d_MO_readText_340 : decode prog_11_method_10_code 340 = .ok (.aload_n 0, 1) := by decide +kernel
theorem d_MO_readText_341 : decode prog_11_method_10_code 341 = .ok (.getfield 87, 3) := by decide +kernel
theorem d_MO_readText_344 : decode prog_11_method_10_code 344 = .ok (.aload_n 0, 1) := by decide +kernel
theorem d_MO_readText_345 : decode prog_11_method_10_code 345 = .ok (.getfield 79, 3) := by decide +kernel
theorem d_MO_readText_348 : decode prog_11_method_10_code 348 = .ok (.if_icmp .ge 7, 3) := by decide +kernel
theorem d_MO_readText_351 : decode prog_11_method_10_code 351 = .ok (.aload_n 0, 1) := by decide +kernel
theorem d_MO_readText_352 : decode prog_11_method_10_code 352 = .ok (.invokevirtual 94, 3) := by decide +kernel
theorem d_MO_readText_355 : decode prog_11_method_10_code 355 = .ok (.aload_n 0, 1) := by decide +kernel
theorem d_MO_readText_356 : decode prog_11_method_10_code 356 = .ok (.getfield 84, 3) := by decide +kernel
theorem d_MO_readText_359 : decode prog_11_method_10_code 359 = .ok (.ireturn, 1) := by decide +kernel
theorem d_MO_fault_0 : decode prog_11_method_11_code 0 = .ok (.aload_n 0, 1) := by decide +kernel
theorem d_MO_fault_1 : decode prog_11_method_11_code 1 = .ok (.invokevirtual 120, 3) := by decide +kernel
theorem d_MO_fault_4 : decode prog_11_method_11_code 4 = .ok (.ireturn, 1) := by decide +kernel
theorem d_MO_organ_0 : decode prog_11_method_12_code 0 = .ok (.aload_n 0, 1) := by decide +kernel
theorem d_MO_organ_1 : decode prog_11_method_12_code 1 = .ok (.invokevirtual 120, 3) := by decide +kernel
theorem d_MO_organ_4 : decode prog_11_method_12_code 4 = .ok (.bipush (-9), 2) := by decide +kernel
theorem d_MO_organ_6 : decode prog_11_method_12_code 6 = .ok (.if_icmp .eq 6, 3) := by decide +kernel
theorem d_MO_organ_9 : decode prog_11_method_12_code 9 = .ok (.bipush (-3), 2) := by decide +kernel
theorem d_MO_organ_11 : decode prog_11_method_12_code 11 = .ok (.ireturn, 1) := by decide +kernel
theorem d_MO_organ_12 : decode prog_11_method_12_code 12 = .ok (.aload_n 0, 1) := by decide +kernel
theorem d_MO_organ_13 : decode prog_11_method_12_code 13 = .ok (.aload_n 0, 1) := by decide +kernel
theorem d_MO_organ_14 : decode prog_11_method_12_code 14 = .ok (.getfield 99, 3) := by decide +kernel
theorem d_MO_organ_17 : decode prog_11_method_12_code 17 = .ok (.putfield 69, 3) := by decide +kernel
theorem d_MO_organ_20 : decode prog_11_method_12_code 20 = .ok (.aload_n 0, 1) := by decide +kernel
theorem d_MO_organ_21 : decode prog_11_method_12_code 21 = .ok (.aload_n 0, 1) := by decide +kernel
theorem d_MO_organ_22 : decode prog_11_method_12_code 22 = .ok (.getfield 102, 3) := by decide +kernel
theorem d_MO_organ_25 : decode prog_11_method_12_code 25 = .ok (.putfield 123, 3) := by decide +kernel
theorem d_MO_organ_28 : decode prog_11_method_12_code 28 = .ok (.aload_n 0, 1) := by decide +kernel
theorem d_MO_organ_29 : decode prog_11_method_12_code 29 = .ok (.aload_n 0, 1) := by decide +kernel
theorem d_MO_organ_30 : decode prog_11_method_12_code 30 = .ok (.getfield 105, 3) := by decide +kernel
theorem d_MO_organ_33 : decode prog_11_method_12_code 33 = .ok (.putfield 126, 3) := by decide +kernel
theorem d_MO_organ_36 : decode prog_11_method_12_code 36 = .ok (.iconst 0, 1) := by decide +kernel
theorem d_MO_organ_37 : decode prog_11_method_12_code 37 = .ok (.istore_n 1, 1) := by decide +kernel
theorem d_MO_organ_38 : decode prog_11_method_12_code 38 = .ok (.iload_n 1, 1) := by decide +kernel
theorem d_MO_organ_39 : decode prog_11_method_12_code 39 = .ok (.bipush 6, 2) := by decide +kernel
theorem d_MO_organ_41 : decode prog_11_method_12_code 41 = .ok (.if_icmp .ge 21, 3) := by decide +kernel
theorem d_MO_organ_44 : decode prog_11_method_12_code 44 = .ok (.aload_n 0, 1) := by decide +kernel
theorem d_MO_organ_45 : decode prog_11_method_12_code 45 = .ok (.getfield 19, 3) := by decide +kernel
theorem d_MO_organ_48 : decode prog_11_method_12_code 48 = .ok (.iload_n 1, 1) := by decide +kernel
theorem d_MO_organ_49 : decode prog_11_method_12_code 49 = .ok (.aload_n 0, 1) := by decide +kernel
theorem d_MO_organ_50 : decode prog_11_method_12_code 50 = .ok (.getfield 7, 3) := by decide +kernel
theorem d_MO_organ_53 : decode prog_11_method_12_code 53 = .ok (.iload_n 1, 1) := by decide +kernel
theorem d_MO_organ_54 : decode prog_11_method_12_code 54 = .ok (.iaload, 1) := by decide +kernel
theorem d_MO_organ_55 : decode prog_11_method_12_code 55 = .ok (.iastore, 1) := by decide +kernel
theorem d_MO_organ_56 : decode prog_11_method_12_code 56 = .ok (.iinc 1 1, 3) := by decide +kernel
theorem d_MO_organ_59 : decode prog_11_method_12_code 59 = .ok (.goto (-21), 3) := by decide +kernel
theorem d_MO_organ_62 : decode prog_11_method_12_code 62 = .ok (.iconst 0, 1) := by decide +kernel
theorem d_MO_organ_63 : decode prog_11_method_12_code 63 = .ok (.istore_n 1, 1) := by decide +kernel
theorem d_MO_organ_64 : decode prog_11_method_12_code 64 = .ok (.iload_n 1, 1) := by decide +kernel
theorem d_MO_organ_65 : decode prog_11_method_12_code 65 = .ok (.bipush 60, 2) := by decide +kernel
theorem d_MO_organ_67 : decode prog_11_method_12_code 67 = .ok (.if_icmp .ge 21, 3) := by decide +kernel
theorem d_MO_organ_70 : decode prog_11_method_12_code 70 = .ok (.aload_n 0, 1) := by decide +kernel
theorem d_MO_organ_71 : decode prog_11_method_12_code 71 = .ok (.getfield 22, 3) := by decide +kernel
theorem d_MO_organ_74 : decode prog_11_method_12_code 74 = .ok (.iload_n 1, 1) := by decide +kernel
theorem d_MO_organ_75 : decode prog_11_method_12_code 75 = .ok (.aload_n 0, 1) := by decide +kernel
theorem d_MO_organ_76 : decode prog_11_method_12_code 76 = .ok (.getfield 13, 3) := by decide +kernel
theorem d_MO_organ_79 : decode prog_11_method_12_code 79 = .ok (.iload_n 1, 1) := by decide +kernel
theorem d_MO_organ_80 : decode prog_11_method_12_code 80 = .ok (.iaload, 1) := by decide +kernel
theorem d_MO_organ_81 : decode prog_11_method_12_code 81 = .ok (.iastore, 1) := by decide +kernel
theorem d_MO_organ_82 : decode prog_11_method_12_code 82 = .ok (.iinc 1 1, 3) := by decide +kernel
theorem d_MO_organ_85 : decode prog_11_method_12_code 85 = .ok (.goto (-21), 3) := by decide +kernel
theorem d_MO_organ_88 : decode prog_11_method_12_code 88 = .ok (.iconst 0, 1) := by decide +kernel
theorem d_MO_organ_89 : decode prog_11_method_12_code 89 = .ok (.istore_n 1, 1) := by decide +kernel
theorem d_MO_organ_90 : decode prog_11_method_12_code 90 = .ok (.iload_n 1, 1) := by decide +kernel
theorem d_MO_organ_91 : decode prog_11_method_12_code 91 = .ok (.bipush 24, 2) := by decide +kernel
theorem d_MO_organ_93 : decode prog_11_method_12_code 93 = .ok (.if_icmp .ge 21, 3) := by decide +kernel
theorem d_MO_organ_96 : decode prog_11_method_12_code 96 = .ok (.aload_n 0, 1) := by decide +kernel
theorem d_MO_organ_97 : decode prog_11_method_12_code 97 = .ok (.getfield 25, 3) := by decide +kernel
theorem d_MO_organ_100 : decode prog_11_method_12_code 100 = .ok (.iload_n 1, 1) := by decide +kernel
theorem d_MO_organ_101 : decode prog_11_method_12_code 101 = .ok (.aload_n 0, 1) := by decide +kernel
theorem d_MO_organ_102 : decode prog_11_method_12_code 102 = .ok (.getfield 16, 3) := by decide +kernel
theorem d_MO_organ_105 : decode prog_11_method_12_code 105 = .ok (.iload_n 1, 1) := by decide +kernel
theorem d_MO_organ_106 : decode prog_11_method_12_code 106 = .ok (.iaload, 1) := by decide +kernel
theorem d_MO_organ_107 : decode prog_11_method_12_code 107 = .ok (.iastore, 1) := by decide +kernel
theorem d_MO_organ_108 : decode prog_11_method_12_code 108 = .ok (.iinc 1 1, 3) := by decide +kernel
theorem d_MO_organ_111 : decode prog_11_method_12_code 111 = .ok (.goto (-21), 3) := by decide +kernel
theorem d_MO_organ_114 : decode prog_11_method_12_code 114 = .ok (.aload_n 0, 1) := by decide +kernel
theorem d_MO_organ_115 : decode prog_11_method_12_code 115 = .ok (.iconst 0, 1) := by decide +kernel
theorem d_MO_organ_116 : decode prog_11_method_12_code 116 = .ok (.putfield 129, 3) := by decide +kernel
theorem d_MO_organ_119 : decode prog_11_method_12_code 119 = .ok (.aload_n 0, 1) := by decide +kernel
theorem d_MO_organ_120 : decode prog_11_method_12_code 120 = .ok (.iconst 0, 1) := by decide +kernel
theorem d_MO_organ_121 : decode prog_11_method_12_code 121 = .ok (.putfield 132, 3) := by decide +kernel
theorem d_MO_organ_124 : decode prog_11_method_12_code 124 = .ok (.aload_n 0, 1) := by decide +kernel
theorem d_MO_organ_125 : decode prog_11_method_12_code 125 = .ok (.getfield 59, 3) := by decide +kernel
theorem d_MO_organ_128 : decode prog_11_method_12_code 128 = .ok (.iconst 0, 1) := by decide +kernel
theorem d_MO_organ_129 : decode prog_11_method_12_code 129 = .ok (.iconst 0, 1) := by decide +kernel
theorem d_MO_organ_130 : decode prog_11_method_12_code 130 = .ok (.bastore, 1) := by decide +kernel
theorem d_MO_organ_131 : decode prog_11_method_12_code 131 = .ok (.aload_n 0, 1) := by decide +kernel
theorem d_MO_organ_132 : decode prog_11_method_12_code 132 = .ok (.getfield 59, 3) := by decide +kernel
theorem d_MO_organ_135 : decode prog_11_method_12_code 135 = .ok (.iconst 1, 1) := by decide +kernel
theorem d_MO_organ_136 : decode prog_11_method_12_code 136 = .ok (.iconst 0, 1) := by decide +kernel
theorem d_MO_organ_137 : decode prog_11_method_12_code 137 = .ok (.bastore, 1) := by decide +kernel
theorem d_MO_organ_138 : decode prog_11_method_12_code 138 = .ok (.bipush 100, 2) := by decide +kernel
theorem d_MO_organ_140 : decode prog_11_method_12_code 140 = .ok (.aload_n 0, 1) := by decide +kernel
theorem d_MO_organ_141 : decode prog_11_method_12_code 141 = .ok (.getfield 69, 3) := by decide +kernel
theorem d_MO_organ_144 : decode prog_11_method_12_code 144 = .ok (.imul, 1) := by decide +kernel
theorem d_MO_organ_145 : decode prog_11_method_12_code 145 = .ok (.aload_n 0, 1) := by decide +kernel
theorem d_MO_organ_146 : decode prog_11_method_12_code 146 = .ok (.getfield 123, 3) := by decide +kernel
theorem d_MO_organ_149 : decode prog_11_method_12_code 149 = .ok (.iadd, 1) := by decide +kernel
theorem d_MO_organ_150 : decode prog_11_method_12_code 150 = .ok (.ireturn, 1) := by decide +kernel
theorem d_MO_isPipe_0 : decode prog_11_method_13_code 0 = .ok (.iload_n 1, 1) := by decide +kernel
theorem d_MO_isPipe_1 : decode prog_11_method_13_code 1 = .ok (.i2l, 1) := by decide +kernel
theorem d_MO_isPipe_2 : decode prog_11_method_13_code 2 = .ok (.lconst 0, 1) := by decide +kernel
theorem d_MO_isPipe_3 : decode prog_11_method_13_code 3 = .ok (.aload_n 0, 1) := by decide +kernel
theorem d_MO_isPipe_4 : decode prog_11_method_13_code 4 = .ok (.getfield 69, 3) := by decide +kernel
theorem d_MO_isPipe_7 : decode prog_11_method_13_code 7 = .ok (.iconst 1, 1) := by decide +kernel
theorem d_MO_isPipe_8 : decode prog_11_method_13_code 8 = .ok (.isub, 1) := by decide +kernel
theorem d_MO_isPipe_9 : decode prog_11_method_13_code 9 = .ok (.i2l, 1) := by decide +kernel
theorem d_MO_isPipe_10 : decode prog_11_method_13_code 10 = .ok (.invokestatic 75, 3) := by decide +kernel
theorem d_MO_isPipe_13 : decode prog_11_method_13_code 13 = .ok (.ireturn, 1) := by decide +kernel
theorem d_MO_isPerson_0 : decode prog_11_method_14_code 0 = .ok (.iload_n 1, 1) := by decide +kernel
theorem d_MO_isPerson_1 : decode prog_11_method_14_code 1 = .ok (.i2l, 1) := by decide +kernel
theorem d_MO_isPerson_2 : decode prog_11_method_14_code 2 = .ok (.lconst 0, 1) := by decide +kernel
theorem d_MO_isPerson_3 : decode prog_11_method_14_code 3 = .ok (.aload_n 0, 1) := by decide +kernel
theorem d_MO_isPerson_4 : decode prog_11_method_14_code 4 = .ok (.getfield 123, 3) := by decide +kernel
theorem d_MO_isPerson_7 : decode prog_11_method_14_code 7 = .ok (.iconst 1, 1) := by decide +kernel
theorem d_MO_isPerson_8 : decode prog_11_method_14_code 8 = .ok (.isub, 1) := by decide +kernel
theorem d_MO_isPerson_9 : decode prog_11_method_14_code 9 = .ok (.i2l, 1) := by decide +kernel
theorem d_MO_isPerson_10 : decode prog_11_method_14_code 10 = .ok (.invokestatic 75, 3) := by decide +kernel
theorem d_MO_isPerson_13 : decode prog_11_method_14_code 13 = .ok (.ireturn, 1) := by decide +kernel
theorem d_MO_isBeat_0 : decode prog_11_method_15_code 0 = .ok (.iload_n 1, 1) := by decide +kernel
theorem d_MO_isBeat_1 : decode prog_11_method_15_code 1 = .ok (.i2l, 1) := by decide +kernel
theorem d_MO_isBeat_2 : decode prog_11_method_15_code 2 = .ok (.lconst 0, 1) := by decide +kernel
theorem d_MO_isBeat_3 : decode prog_11_method_15_code 3 = .ok (.aload_n 0, 1) := by decide +kernel
theorem d_MO_isBeat_4 : decode prog_11_method_15_code 4 = .ok (.getfield 126, 3) := by decide +kernel
theorem d_MO_isBeat_7 : decode prog_11_method_15_code 7 = .ok (.iconst 1, 1) := by decide +kernel
theorem d_MO_isBeat_8 : decode prog_11_method_15_code 8 = .ok (.isub, 1) := by decide +kernel
theorem d_MO_isBeat_9 : decode prog_11_method_15_code 9 = .ok (.i2l, 1) := by decide +kernel
theorem d_MO_isBeat_10 : decode prog_11_method_15_code 10 = .ok (.invokestatic 75, 3) := by decide +kernel
theorem d_MO_isBeat_13 : decode prog_11_method_15_code 13 = .ok (.ireturn, 1) := by decide +kernel
theorem d_MO_drinks_0 : decode prog_11_method_16_code 0 = .ok (.aload_n 0, 1) := by decide +kernel
theorem d_MO_drinks_1 : decode prog_11_method_16_code 1 = .ok (.iload_n 1, 1) := by decide +kernel
theorem d_MO_drinks_2 : decode prog_11_method_16_code 2 = .ok (.invokevirtual 135, 3) := by decide +kernel
theorem d_MO_drinks_5 : decode prog_11_method_16_code 5 = .ok (.ifCond .eq 12, 3) := by decide +kernel
theorem d_MO_drinks_8 : decode prog_11_method_16_code 8 = .ok (.aload_n 0, 1) := by decide +kernel
theorem d_MO_drinks_9 : decode prog_11_method_16_code 9 = .ok (.getfield 19, 3) := by decide +kernel
theorem d_MO_drinks_12 : decode prog_11_method_16_code 12 = .ok (.iload_n 1, 1) := by decide +kernel
theorem d_MO_drinks_13 : decode prog_11_method_16_code 13 = .ok (.iaload, 1) := by decide +kernel
theorem d_MO_drinks_14 : decode prog_11_method_16_code 14 = .ok (.goto 4, 3) := by decide +kernel
theorem d_MO_drinks_17 : decode prog_11_method_16_code 17 = .ok (.iconst (-1), 1) := by decide +kernel
theorem d_MO_drinks_18 : decode prog_11_method_16_code 18 = .ok (.ireturn, 1) := by decide +kernel
theorem d_MO_sounds_0 : decode prog_11_method_17_code 0 = .ok (.aload_n 0, 1) := by decide +kernel
theorem d_MO_sounds_1 : decode prog_11_method_17_code 1 = .ok (.iload_n 1, 1) := by decide +kernel
theorem d_MO_sounds_2 : decode prog_11_method_17_code 2 = .ok (.invokevirtual 135, 3) := by decide +kernel
theorem d_MO_sounds_5 : decode prog_11_method_17_code 5 = .ok (.ifCond .eq 24, 3) := by decide +kernel
theorem d_MO_sounds_8 : decode prog_11_method_17_code 8 = .ok (.aload_n 0, 1) := by decide +kernel
theorem d_MO_sounds_9 : decode prog_11_method_17_code 9 = .ok (.iload_n 2, 1) := by decide +kernel
theorem d_MO_sounds_10 : decode prog_11_method_17_code 10 = .ok (.invokevirtual 139, 3) := by decide +kernel
theorem d_MO_sounds_13 : decode prog_11_method_17_code 13 = .ok (.ifCond .eq 16, 3) := by decide +kernel
theorem d_MO_sounds_16 : decode prog_11_method_17_code 16 = .ok (.aload_n 0, 1) := by decide +kernel
theorem d_MO_sounds_17 : decode prog_11_method_17_code 17 = .ok (.getfield 25, 3) := by decide +kernel
theorem d_MO_sounds_20 : decode prog_11_method_17_code 20 = .ok (.iload_n 2, 1) := by decide +kernel
theorem d_MO_sounds_21 : decode prog_11_method_17_code 21 = .ok (.iaload, 1) := by decide +kernel
theorem d_MO_sounds_22 : decode prog_11_method_17_code 22 = .ok (.iload_n 1, 1) := by decide +kernel
theorem d_MO_sounds_23 : decode prog_11_method_17_code 23 = .ok (.ishr, 1) := by decide +kernel
theorem d_MO_sounds_24 : decode prog_11_method_17_code 24 = .ok (.iconst 1, 1) := by decide +kernel
theorem d_MO_sounds_25 : decode prog_11_method_17_code 25 = .ok (.iand, 1) := by decide +kernel
theorem d_MO_sounds_26 : decode prog_11_method_17_code 26 = .ok (.goto 4, 3) := by decide +kernel
theorem d_MO_sounds_29 : decode prog_11_method_17_code 29 = .ok (.iconst (-1), 1) := by decide +kernel
theorem d_MO_sounds_30 : decode prog_11_method_17_code 30 = .ok (.ireturn, 1) := by decide +kernel
theorem d_MO_person_0 : decode prog_11_method_18_code 0 = .ok (.aload_n 0, 1) := by decide +kernel
theorem d_MO_person_1 : decode prog_11_method_18_code 1 = .ok (.iload_n 1, 1) := by decide +kernel
theorem d_MO_person_2 : decode prog_11_method_18_code 2 = .ok (.invokevirtual 142, 3) := by decide +kernel
theorem d_MO_person_5 : decode prog_11_method_18_code 5 = .ok (.ifCond .ne 5, 3) := by decide +kernel
theorem d_MO_person_8 : decode prog_11_method_18_code 8 = .ok (.iconst (-1), 1) := by decide +kernel
theorem d_MO_person_9 : decode prog_11_method_18_code 9 = .ok (.ireturn, 1) := by decide +kernel
theorem d_MO_person_10 : decode prog_11_method_18_code 10 = .ok (.iload_n 2, 1) := by decide +kernel
theorem d_MO_person_11 : decode prog_11_method_18_code 11 = .ok (.i2l, 1) := by decide +kernel
theorem d_MO_person_12 : decode prog_11_method_18_code 12 = .ok (.lconst 0, 1) := by decide +kernel
theorem d_MO_person_13 : decode prog_11_method_18_code 13 = .ok (.ldc2_w 145, 3) := by decide +kernel
theorem d_MO_person_16 : decode prog_11_method_18_code 16 = .ok (.invokestatic 75, 3) := by decide +kernel
theorem d_MO_person_19 : decode prog_11_method_18_code 19 = .ok (.ifCond .eq 16, 3) := by decide +kernel
theorem d_MO_person_22 : decode prog_11_method_18_code 22 = .ok (.aload_n 0, 1) := by decide +kernel
theorem d_MO_person_23 : decode prog_11_method_18_code 23 = .ok (.getfield 22, 3) := by decide +kernel
theorem d_MO_person_26 : decode prog_11_method_18_code 26 = .ok (.iconst 5, 1) := by decide +kernel
theorem d_MO_person_27 : decode prog_11_method_18_code 27 = .ok (.iload_n 1, 1) := by decide +kernel
theorem d_MO_person_28 : decode prog_11_method_18_code 28 = .ok (.imul, 1) := by decide +kernel
theorem d_MO_person_29 : decode prog_11_method_18_code 29 = .ok (.iload_n 2, 1) := by decide +kernel
theorem d_MO_person_30 : decode prog_11_method_18_code 30 = .ok (.iadd, 1) := by decide +kernel
theorem d_MO_person_31 : decode prog_11_method_18_code 31 = .ok (.iaload, 1) := by decide +kernel
theorem d_MO_person_32 : decode prog_11_method_18_code 32 = .ok (.goto 5, 3) := by decide +kernel
theorem d_MO_person_35 : decode prog_11_method_18_code 35 = .ok (.bipush (-2), 2) := by decide +kernel
theorem d_MO_person_37 : decode prog_11_method_18_code 37 = .ok (.ireturn, 1) := by decide +kernel
theorem d_MO_tell_0 : decode prog_11_method_19_code 0 = .ok (.aload_n 0, 1) := by decide +kernel
theorem d_MO_tell_1 : decode prog_11_method_19_code 1 = .ok (.getfield 22, 3) := by decide +kernel
theorem d_MO_tell_4 : decode prog_11_method_19_code 4 = .ok (.iload_n 1, 1) := by decide +kernel
theorem d_MO_tell_5 : decode prog_11_method_19_code 5 = .ok (.iaload, 1) := by decide +kernel
theorem d_MO_tell_6 : decode prog_11_method_19_code 6 = .ok (.istore_n 3, 1) := by decide +kernel
theorem d_MO_tell_7 : decode prog_11_method_19_code 7 = .ok (.aload_n 0, 1) := by decide +kernel
theorem d_MO_tell_8 : decode prog_11_method_19_code 8 = .ok (.getfield 22, 3) := by decide +kernel
theorem d_MO_tell_11 : decode prog_11_method_19_code 11 = .ok (.iload_n 1, 1) := by decide +kernel
theorem d_MO_tell_12 : decode prog_11_method_19_code 12 = .ok (.iload_n 2, 1) := by decide +kernel
theorem d_MO_tell_13 : decode prog_11_method_19_code 13 = .ok (.iastore, 1) := by decide +kernel
theorem d_MO_tell_14 : decode prog_11_method_19_code 14 = .ok (.iload_n 3, 1) := by decide +kernel
theorem d_MO_tell_15 : decode prog_11_method_19_code 15 = .ok (.ireturn, 1) := by decide +kernel
theorem d_MO_seat_0 : decode prog_11_method_20_code 0 = .ok (.aload_n 0, 1) := by decide +kernel
theorem d_MO_seat_1 : decode prog_11_method_20_code 1 = .ok (.iload_n 1, 1) := by decide +kernel
theorem d_MO_seat_2 : decode prog_11_method_20_code 2 = .ok (.invokevirtual 142, 3) := by decide +kernel
theorem d_MO_seat_5 : decode prog_11_method_20_code 5 = .ok (.ifCond .eq 24, 3) := by decide +kernel
theorem d_MO_seat_8 : decode prog_11_method_20_code 8 = .ok (.aload_n 0, 1) := by decide +kernel
theorem d_MO_seat_9 : decode prog_11_method_20_code 9 = .ok (.iload_n 2, 1) := by decide +kernel
theorem d_MO_seat_10 : decode prog_11_method_20_code 10 = .ok (.invokevirtual 135, 3) := by decide +kernel
theorem d_MO_seat_13 : decode prog_11_method_20_code 13 = .ok (.ifCond .eq 16, 3) := by decide +kernel
theorem d_MO_seat_16 : decode prog_11_method_20_code 16 = .ok (.aload_n 0, 1) := by decide +kernel
theorem d_MO_seat_17 : decode prog_11_method_20_code 17 = .ok (.iconst 5, 1) := by decide +kernel
theorem d_MO_seat_18 : decode prog_11_method_20_code 18 = .ok (.iload_n 1, 1) := by decide +kernel
theorem d_MO_seat_19 : decode prog_11_method_20_code 19 = .ok (.imul, 1) := by decide +kernel
theorem d_MO_seat_20 : decode prog_11_method_20_code 20 = .ok (.iconst 2, 1) := by decide +kernel
theorem d_MO_seat_21 : decode prog_11_method_20_code 21 = .ok (.iadd, 1) := by decide +kernel
theorem d_MO_seat_22 : decode prog_11_method_20_code 22 = .ok (.iload_n 2, 1) := by decide +kernel
theorem d_MO_seat_23 : decode prog_11_method_20_code 23 = .ok (.invokevirtual 147, 3) := by decide +kernel
theorem d_MO_seat_26 : decode prog_11_method_20_code 26 = .ok (.goto 4, 3) := by decide +kernel
theorem d_MO_seat_29 : decode prog_11_method_20_code 29 = .ok (.iconst (-1), 1) := by decide +kernel
theorem d_MO_seat_30 : decode prog_11_method_20_code 30 = .ok (.ireturn, 1) := by decide +kernel
theorem d_MO_phase_0 : decode prog_11_method_21_code 0 = .ok (.aload_n 0, 1) := by decide +kernel
theorem d_MO_phase_1 : decode prog_11_method_21_code 1 = .ok (.iload_n 1, 1) := by decide +kernel
theorem d_MO_phase_2 : decode prog_11_method_21_code 2 = .ok (.invokevirtual 142, 3) := by decide +kernel
theorem d_MO_phase_5 : decode prog_11_method_21_code 5 = .ok (.ifCond .ne 5, 3) := by decide +kernel
theorem d_MO_phase_8 : decode prog_11_method_21_code 8 = .ok (.iconst (-1), 1) := by decide +kernel
theorem d_MO_phase_9 : decode prog_11_method_21_code 9 = .ok (.ireturn, 1) := by decide +kernel
theorem d_MO_phase_10 : decode prog_11_method_21_code 10 = .ok (.iload_n 2, 1) := by decide +kernel
theorem d_MO_phase_11 : decode prog_11_method_21_code 11 = .ok (.i2l, 1) := by decide +kernel
theorem d_MO_phase_12 : decode prog_11_method_21_code 12 = .ok (.lconst 0, 1) := by decide +kernel
theorem d_MO_phase_13 : decode prog_11_method_21_code 13 = .ok (.aload_n 0, 1) := by decide +kernel
theorem d_MO_phase_14 : decode prog_11_method_21_code 14 = .ok (.getfield 22, 3) := by decide +kernel
theorem d_MO_phase_17 : decode prog_11_method_21_code 17 = .ok (.iconst 5, 1) := by decide +kernel
theorem d_MO_phase_18 : decode prog_11_method_21_code 18 = .ok (.iload_n 1, 1) := by decide +kernel
theorem d_MO_phase_19 : decode prog_11_method_21_code 19 = .ok (.imul, 1) := by decide +kernel
theorem d_MO_phase_20 : decode prog_11_method_21_code 20 = .ok (.iaload, 1) := by decide +kernel
theorem d_MO_phase_21 : decode prog_11_method_21_code 21 = .ok (.i2l, 1) := by decide +kernel
theorem d_MO_phase_22 : decode prog_11_method_21_code 22 = .ok (.invokestatic 75, 3) := by decide +kernel
theorem d_MO_phase_25 : decode prog_11_method_21_code 25 = .ok (.ifCond .eq 16, 3) := by decide +kernel
theorem d_MO_phase_28 : decode prog_11_method_21_code 28 = .ok (.aload_n 0, 1) := by decide +kernel
theorem d_MO_phase_29 : decode prog_11_method_21_code 29 = .ok (.iconst 5, 1) := by decide +kernel
theorem d_MO_phase_30 : decode prog_11_method_21_code 30 = .ok (.iload_n 1, 1) := by decide +kernel
theorem d_MO_phase_31 : decode prog_11_method_21_code 31 = .ok (.imul, 1) := by decide +kernel
theorem d_MO_phase_32 : decode prog_11_method_21_code 32 = .ok (.iconst 3, 1) := by decide +kernel
theorem d_MO_phase_33 : decode prog_11_method_21_code 33 = .ok (.iadd, 1) := by decide +kernel
theorem d_MO_phase_34 : decode prog_11_method_21_code 34 = .ok (.iload_n 2, 1) := by decide +kernel
theorem d_MO_phase_35 : decode prog_11_method_21_code 35 = .ok (.invokevirtual 147, 3) := by decide +kernel
theorem d_MO_phase_38 : decode prog_11_method_21_code 38 = .ok (.goto 5, 3) := by decide +kernel
theorem d_MO_phase_41 : decode prog_11_method_21_code 41 = .ok (.bipush (-2), 2) := by decide +kernel
theorem d_MO_phase_43 : decode prog_11_method_21_code 43 = .ok (.ireturn, 1) := by decide +kernel
theorem d_MO_bribe_0 : decode prog_11_method_22_code 0 = .ok (.aload_n 0, 1) := by decide +kernel
theorem d_MO_bribe_1 : decode prog_11_method_22_code 1 = .ok (.iload_n 1, 1) := by decide +kernel
theorem d_MO_bribe_2 : decode prog_11_method_22_code 2 = .ok (.invokevirtual 142, 3) := by decide +kernel
theorem d_MO_bribe_5 : decode prog_11_method_22_code 5 = .ok (.ifCond .ne 5, 3) := by decide +kernel
theorem d_MO_bribe_8 : decode prog_11_method_22_code 8 = .ok (.iconst (-1), 1) := by decide +kernel
theorem d_MO_bribe_9 : decode prog_11_method_22_code 9 = .ok (.ireturn, 1) := by decide +kernel
theorem d_MO_bribe_10 : decode prog_11_method_22_code 10 = .ok (.aload_n 0, 1) := by decide +kernel
theorem d_MO_bribe_11 : decode prog_11_method_22_code 11 = .ok (.iconst 5, 1) := by decide +kernel
theorem d_MO_bribe_12 : decode prog_11_method_22_code 12 = .ok (.iload_n 1, 1) := by decide +kernel
theorem d_MO_bribe_13 : decode prog_11_method_22_code 13 = .ok (.imul, 1) := by decide +kernel
theorem d_MO_bribe_14 : decode prog_11_method_22_code 14 = .ok (.iconst 4, 1) := by decide +kernel
theorem d_MO_bribe_15 : decode prog_11_method_22_code 15 = .ok (.iadd, 1) := by decide +kernel
theorem d_MO_bribe_16 : decode prog_11_method_22_code 16 = .ok (.iload_n 2, 1) := by decide +kernel
theorem d_MO_bribe_17 : decode prog_11_method_22_code 17 = .ok (.ifCond .eq 7, 3) := by decide +kernel
theorem d_MO_bribe_20 : decode prog_11_method_22_code 20 = .ok (.iconst 1, 1) := by decide +kernel
theorem d_MO_bribe_21 : decode prog_11_method_22_code 21 = .ok (.goto 4, 3) := by decide +kernel
theorem d_MO_bribe_24 : decode prog_11_method_22_code 24 = .ok (.iconst 0, 1) := by decide +kernel
theorem d_MO_bribe_25 : decode prog_11_method_22_code 25 = .ok (.invokevirtual 147, 3) := by decide +kernel
theorem d_MO_bribe_28 : decode prog_11_method_22_code 28 = .ok (.iload_n 2, 1) := by decide +kernel
theorem d_MO_bribe_29 : decode prog_11_method_22_code 29 = .ok (.ifCond .eq 7, 3) := by decide +kernel
theorem d_MO_bribe_32 : decode prog_11_method_22_code 32 = .ok (.iconst 1, 1) := by decide +kernel
theorem d_MO_bribe_33 : decode prog_11_method_22_code 33 = .ok (.goto 4, 3) := by decide +kernel
theorem d_MO_bribe_36 : decode prog_11_method_22_code 36 = .ok (.iconst 0, 1) := by decide +kernel
theorem d_MO_bribe_37 : decode prog_11_method_22_code 37 = .ok (.if_icmp .ne 7, 3) := by decide +kernel
theorem d_MO_bribe_40 : decode prog_11_method_22_code 40 = .ok (.iconst 0, 1) := by decide +kernel
theorem d_MO_bribe_41 : decode prog_11_method_22_code 41 = .ok (.goto 4, 3) := by decide +kernel
theorem d_MO_bribe_44 : decode prog_11_method_22_code 44 = .ok (.iconst 1, 1) := by decide +kernel
theorem d_MO_bribe_45 : decode prog_11_method_22_code 45 = .ok (.ireturn, 1) := by decide +kernel
theorem d_MO_grow_0 : decode prog_11_method_23_code 0 = .ok (.aload_n 0, 1) := by decide +kernel
theorem d_MO_grow_1 : decode prog_11_method_23_code 1 = .ok (.iload_n 1, 1) := by decide +kernel
theorem d_MO_grow_2 : decode prog_11_method_23_code 2 = .ok (.invokevirtual 142, 3) := by decide +kernel
theorem d_MO_grow_5 : decode prog_11_method_23_code 5 = .ok (.ifCond .ne 5, 3) := by decide +kernel
theorem d_MO_grow_8 : decode prog_11_method_23_code 8 = .ok (.iconst (-1), 1) := by decide +kernel
theorem d_MO_grow_9 : decode prog_11_method_23_code 9 = .ok (.ireturn, 1) := by decide +kernel
theorem d_MO_grow_10 : decode prog_11_method_23_code 10 = .ok (.aload_n 0, 1) := by decide +kernel
theorem d_MO_grow_11 : decode prog_11_method_23_code 11 = .ok (.getfield 22, 3) := by decide +kernel
theorem d_MO_grow_14 : decode prog_11_method_23_code 14 = .ok (.iconst 5, 1) := by decide +kernel
theorem d_MO_grow_15 : decode prog_11_method_23_code 15 = .ok (.iload_n 1, 1) := by decide +kernel
theorem d_MO_grow_16 : decode prog_11_method_23_code 16 = .ok (.imul, 1) := by decide +kernel
theorem d_MO_grow_17 : decode prog_11_method_23_code 17 = .ok (.iaload, 1) := by decide +kernel
theorem d_MO_grow_18 : decode prog_11_method_23_code 18 = .ok (.bipush 9, 2) := by decide +kernel
theorem d_MO_grow_20 : decode prog_11_method_23_code 20 = .ok (.if_icmp .ne 6, 3) := by decide +kernel
theorem d_MO_grow_23 : decode prog_11_method_23_code 23 = .ok (.bipush (-3), 2) := by decide +kernel
theorem d_MO_grow_25 : decode prog_11_method_23_code 25 = .ok (.ireturn, 1) := by decide +kernel
theorem d_MO_grow_26 : decode prog_11_method_23_code 26 = .ok (.aload_n 0, 1) := by decide +kernel
theorem d_MO_grow_27 : decode prog_11_method_23_code 27 = .ok (.getfield 22, 3) := by decide +kernel
theorem d_MO_grow_30 : decode prog_11_method_23_code 30 = .ok (.iconst 5, 1) := by decide +kernel
theorem d_MO_grow_31 : decode prog_11_method_23_code 31 = .ok (.iload_n 1, 1) := by decide +kernel
theorem d_MO_grow_32 : decode prog_11_method_23_code 32 = .ok (.imul, 1) := by decide +kernel
theorem d_MO_grow_33 : decode prog_11_method_23_code 33 = .ok (.dup2, 1) := by decide +kernel
theorem d_MO_grow_34 : decode prog_11_method_23_code 34 = .ok (.iaload, 1) := by decide +kernel
theorem d_MO_grow_35 : decode prog_11_method_23_code 35 = .ok (.iconst 1, 1) := by decide +kernel
theorem d_MO_grow_36 : decode prog_11_method_23_code 36 = .ok (.iadd, 1) := by decide +kernel
theorem d_MO_grow_37 : decode prog_11_method_23_code 37 = .ok (.iastore, 1) := by decide +kernel
theorem d_MO_grow_38 : decode prog_11_method_23_code 38 = .ok (.aload_n 0, 1) := by decide +kernel
theorem d_MO_grow_39 : decode prog_11_method_23_code 39 = .ok (.getfield 22, 3) := by decide +kernel
theorem d_MO_grow_42 : decode prog_11_method_23_code 42 = .ok (.iconst 5, 1) := by decide +kernel
theorem d_MO_grow_43 : decode prog_11_method_23_code 43 = .ok (.iload_n 1, 1) := by decide +kernel
theorem d_MO_grow_44 : decode prog_11_method_23_code 44 = .ok (.imul, 1) := by decide +kernel
theorem d_MO_grow_45 : decode prog_11_method_23_code 45 = .ok (.iaload, 1) := by decide +kernel
theorem d_MO_grow_46 : decode prog_11_method_23_code 46 = .ok (.ireturn, 1) := by decide +kernel
theorem d_MO_store_0 : decode prog_11_method_24_code 0 = .ok (.iload_n 1, 1) := by decide +kernel
theorem d_MO_store_1 : decode prog_11_method_24_code 1 = .ok (.i2l, 1) := by decide +kernel
theorem d_MO_store_2 : decode prog_11_method_24_code 2 = .ok (.lconst 0, 1) := by decide +kernel
theorem d_MO_store_3 : decode prog_11_method_24_code 3 = .ok (.ldc2_w 150, 3) := by decide +kernel
theorem d_MO_store_6 : decode prog_11_method_24_code 6 = .ok (.invokestatic 75, 3) := by decide +kernel
theorem d_MO_store_9 : decode prog_11_method_24_code 9 = .ok (.ifCond .ne 6, 3) := by decide +kernel
theorem d_MO_store_12 : decode prog_11_method_24_code 12 = .ok (.bipush (-2), 2) := by decide +kernel
theorem d_MO_store_14 : decode prog_11_method_24_code 14 = .ok (.ireturn, 1) := by decide +kernel
theorem d_MO_store_15 : decode prog_11_method_24_code 15 = .ok (.aload_n 0, 1) := by decide +kernel
theorem d_MO_store_16 : decode prog_11_method_24_code 16 = .ok (.getfield 132, 3) := by decide +kernel
theorem d_MO_store_19 : decode prog_11_method_24_code 19 = .ok (.istore_n 2, 1) := by decide +kernel
theorem d_MO_store_20 : decode prog_11_method_24_code 20 = .ok (.aload_n 0, 1) := by decide +kernel
theorem d_MO_store_21 : decode prog_11_method_24_code 21 = .ok (.iload_n 1, 1) := by decide +kernel
theorem d_MO_store_22 : decode prog_11_method_24_code 22 = .ok (.putfield 132, 3) := by decide +kernel
theorem d_MO_store_25 : decode prog_11_method_24_code 25 = .ok (.iload_n 2, 1) := by decide +kernel
theorem d_MO_store_26 : decode prog_11_method_24_code 26 = .ok (.ireturn, 1) := by decide +kernel
theorem d_MO_late_0 : decode prog_11_method_25_code 0 = .ok (.iload_n 1, 1) := by decide +kernel
theorem d_MO_late_1 : decode prog_11_method_25_code 1 = .ok (.i2l, 1) := by decide +kernel
theorem d_MO_late_2 : decode prog_11_method_25_code 2 = .ok (.lconst 0, 1) := by decide +kernel
theorem d_MO_late_3 : decode prog_11_method_25_code 3 = .ok (.ldc2_w 152, 3) := by decide +kernel
theorem d_MO_late_6 : decode prog_11_method_25_code 6 = .ok (.invokestatic 75, 3) := by decide +kernel
theorem d_MO_late_9 : decode prog_11_method_25_code 9 = .ok (.ifCond .ne 6, 3) := by decide +kernel
theorem d_MO_late_12 : decode prog_11_method_25_code 12 = .ok (.bipush (-2), 2) := by decide +kernel
theorem d_MO_late_14 : decode prog_11_method_25_code 14 = .ok (.ireturn, 1) := by decide +kernel
theorem d_MO_late_15 : decode prog_11_method_25_code 15 = .ok (.aload_n 0, 1) := by decide +kernel
theorem d_MO_late_16 : decode prog_11_method_25_code 16 = .ok (.getfield 129, 3) := by decide +kernel
theorem d_MO_late_19 : decode prog_11_method_25_code 19 = .ok (.istore_n 2, 1) := by decide +kernel
theorem d_MO_late_20 : decode prog_11_method_25_code 20 = .ok (.aload_n 0, 1) := by decide +kernel
theorem d_MO_late_21 : decode prog_11_method_25_code 21 = .ok (.iload_n 1, 1) := by decide +kernel
theorem d_MO_late_22 : decode prog_11_method_25_code 22 = .ok (.putfield 129, 3) := by decide +kernel
theorem d_MO_late_25 : decode prog_11_method_25_code 25 = .ok (.iload_n 2, 1) := by decide +kernel
theorem d_MO_late_26 : decode prog_11_method_25_code 26 = .ok (.ireturn, 1) := by decide +kernel
theorem d_MO_givesOf_0 : decode prog_11_method_26_code 0 = .ok (.iconst 5, 1) := by decide +kernel
theorem d_MO_givesOf_1 : decode prog_11_method_26_code 1 = .ok (.iload_n 1, 1) := by decide +kernel
theorem d_MO_givesOf_2 : decode prog_11_method_26_code 2 = .ok (.imul, 1) := by decide +kernel
theorem d_MO_givesOf_3 : decode prog_11_method_26_code 3 = .ok (.istore_n 3, 1) := by decide +kernel
theorem d_MO_givesOf_4 : decode prog_11_method_26_code 4 = .ok (.aload_n 0, 1) := by decide +kernel
theorem d_MO_givesOf_5 : decode prog_11_method_26_code 5 = .ok (.getfield 22, 3) := by decide +kernel
theorem d_MO_givesOf_8 : decode prog_11_method_26_code 8 = .ok (.iload_n 3, 1) := by decide +kernel
theorem d_MO_givesOf_9 : decode prog_11_method_26_code 9 = .ok (.iaload, 1) := by decide +kernel
theorem d_MO_givesOf_10 : decode prog_11_method_26_code 10 = .ok (.istore 4, 2) := by decide +kernel
theorem d_MO_givesOf_12 : decode prog_11_method_26_code 12 = .ok (.iload_n 2, 1) := by decide +kernel
theorem d_MO_givesOf_13 : decode prog_11_method_26_code 13 = .ok (.aload_n 0, 1) := by decide +kernel
theorem d_MO_givesOf_14 : decode prog_11_method_26_code 14 = .ok (.getfield 129, 3) := by decide +kernel
theorem d_MO_givesOf_17 : decode prog_11_method_26_code 17 = .ok (.iadd, 1) := by decide +kernel
theorem d_MO_givesOf_18 : decode prog_11_method_26_code 18 = .ok (.aload_n 0, 1) := by decide +kernel
theorem d_MO_givesOf_19 : decode prog_11_method_26_code 19 = .ok (.getfield 22, 3) := by decide +kernel
theorem d_MO_givesOf_22 : decode prog_11_method_26_code 22 = .ok (.iload_n 3, 1) := by decide +kernel
theorem d_MO_givesOf_23 : decode prog_11_method_26_code 23 = .ok (.iconst 3, 1) := by decide +kernel
theorem d_MO_givesOf_24 : decode prog_11_method_26_code 24 = .ok (.iadd, 1) := by decide +kernel
theorem d_MO_givesOf_25 : decode prog_11_method_26_code 25 = .ok (.iaload, 1) := by decide +kernel
theorem d_MO_givesOf_26 : decode prog_11_method_26_code 26 = .ok (.iadd, 1) := by decide +kernel
theorem d_MO_givesOf_27 : decode prog_11_method_26_code 27 = .ok (.iload 4, 2) := by decide +kernel
theorem d_MO_givesOf_29 : decode prog_11_method_26_code 29 = .ok (.iconst 1, 1) := by decide +kernel
theorem d_MO_givesOf_30 : decode prog_11_method_26_code 30 = .ok (.iadd, 1) := by decide +kernel
theorem d_MO_givesOf_31 : decode prog_11_method_26_code 31 = .ok (.irem, 1) := by decide +kernel
theorem d_MO_givesOf_32 : decode prog_11_method_26_code 32 = .ok (.iload 4, 2) := by decide +kernel
theorem d_MO_givesOf_34 : decode prog_11_method_26_code 34 = .ok (.if_icmp .ne 7, 3) := by decide +kernel
theorem d_MO_givesOf_37 : decode prog_11_method_26_code 37 = .ok (.iconst 1, 1) := by decide +kernel
theorem d_MO_givesOf_38 : decode prog_11_method_26_code 38 = .ok (.goto 4, 3) := by decide +kernel
theorem d_MO_givesOf_41 : decode prog_11_method_26_code 41 = .ok (.iconst 0, 1) := by decide +kernel
theorem d_MO_givesOf_42 : decode prog_11_method_26_code 42 = .ok (.istore 5, 2) := by decide +kernel
theorem d_MO_givesOf_44 : decode prog_11_method_26_code 44 = .ok (.iload 5, 2) := by decide +kernel
theorem d_MO_givesOf_46 : decode prog_11_method_26_code 46 = .ok (.ifCond .eq 18, 3) := by decide +kernel
theorem d_MO_givesOf_49 : decode prog_11_method_26_code 49 = .ok (.aload_n 0, 1) := by decide +kernel
theorem d_MO_givesOf_50 : decode prog_11_method_26_code 50 = .ok (.getfield 22, 3) := by decide +kernel
theorem d_MO_givesOf_53 : decode prog_11_method_26_code 53 = .ok (.iload_n 3, 1) := by decide +kernel
theorem d_MO_givesOf_54 : decode prog_11_method_26_code 54 = .ok (.iconst 4, 1) := by decide +kernel
theorem d_MO_givesOf_55 : decode prog_11_method_26_code 55 = .ok (.iadd, 1) := by decide +kernel
theorem d_MO_givesOf_56 : decode prog_11_method_26_code 56 = .ok (.iaload, 1) := by decide +kernel
theorem d_MO_givesOf_57 : decode prog_11_method_26_code 57 = .ok (.ifCond .ne 7, 3) := by decide +kernel
theorem d_MO_givesOf_60 : decode prog_11_method_26_code 60 = .ok (.iconst 0, 1) := by decide +kernel
theorem d_MO_givesOf_61 : decode prog_11_method_26_code 61 = .ok (.goto 11, 3) := by decide +kernel
theorem d_MO_givesOf_64 : decode prog_11_method_26_code 64 = .ok (.aload_n 0, 1) := by decide +kernel
theorem d_MO_givesOf_65 : decode prog_11_method_26_code 65 = .ok (.getfield 22, 3) := by decide +kernel
theorem d_MO_givesOf_68 : decode prog_11_method_26_code 68 = .ok (.iload_n 3, 1) := by decide +kernel
theorem d_MO_givesOf_69 : decode prog_11_method_26_code 69 = .ok (.iconst 1, 1) := by decide +kernel
theorem d_MO_givesOf_70 : decode prog_11_method_26_code 70 = .ok (.iadd, 1) := by decide +kernel
theorem d_MO_givesOf_71 : decode prog_11_method_26_code 71 = .ok (.iaload, 1) := by decide +kernel
theorem d_MO_givesOf_72 : decode prog_11_method_26_code 72 = .ok (.ireturn, 1) := by decide +kernel
theorem d_MO_gives_0 : decode prog_11_method_27_code 0 = .ok (.aload_n 0, 1) := by decide +kernel
theorem d_MO_gives_1 : decode prog_11_method_27_code 1 = .ok (.iload_n 1, 1) := by decide +kernel
theorem d_MO_gives_2 : decode prog_11_method_27_code 2 = .ok (.invokevirtual 142, 3) := by decide +kernel
theorem d_MO_gives_5 : decode prog_11_method_27_code 5 = .ok (.ifCond .eq 20, 3) := by decide +kernel
theorem d_MO_gives_8 : decode prog_11_method_27_code 8 = .ok (.aload_n 0, 1) := by decide +kernel
theorem d_MO_gives_9 : decode prog_11_method_27_code 9 = .ok (.iload_n 2, 1) := by decide +kernel
theorem d_MO_gives_10 : decode prog_11_method_27_code 10 = .ok (.invokevirtual 139, 3) := by decide +kernel
theorem d_MO_gives_13 : decode prog_11_method_27_code 13 = .ok (.ifCond .eq 12, 3) := by decide +kernel
theorem d_MO_gives_16 : decode prog_11_method_27_code 16 = .ok (.aload_n 0, 1) := by decide +kernel
theorem d_MO_gives_17 : decode prog_11_method_27_code 17 = .ok (.iload_n 1, 1) := by decide +kernel
theorem d_MO_gives_18 : decode prog_11_method_27_code 18 = .ok (.iload_n 2, 1) := by decide +kernel
theorem d_MO_gives_19 : decode prog_11_method_27_code 19 = .ok (.invokevirtual 154, 3) := by decide +kernel
theorem d_MO_gives_22 : decode prog_11_method_27_code 22 = .ok (.goto 4, 3) := by decide +kernel
theorem d_MO_gives_25 : decode prog_11_method_27_code 25 = .ok (.iconst (-1), 1) := by decide +kernel
theorem d_MO_gives_26 : decode prog_11_method_27_code 26 = .ok (.ireturn, 1) := by decide +kernel
theorem d_MO_airOf_0 : decode prog_11_method_28_code 0 = .ok (.iconst 0, 1) := by decide +kernel
theorem d_MO_airOf_1 : decode prog_11_method_28_code 1 = .ok (.istore_n 3, 1) := by decide +kernel
theorem d_MO_airOf_2 : decode prog_11_method_28_code 2 = .ok (.iconst 0, 1) := by decide +kernel
theorem d_MO_airOf_3 : decode prog_11_method_28_code 3 = .ok (.istore 4, 2) := by decide +kernel
theorem d_MO_airOf_5 : decode prog_11_method_28_code 5 = .ok (.iload 4, 2) := by decide +kernel
theorem d_MO_airOf_7 : decode prog_11_method_28_code 7 = .ok (.aload_n 0, 1) := by decide +kernel
theorem d_MO_airOf_8 : decode prog_11_method_28_code 8 = .ok (.getfield 123, 3) := by decide +kernel
theorem d_MO_airOf_11 : decode prog_11_method_28_code 11 = .ok (.if_icmp .ge 33, 3) := by decide +kernel
theorem d_MO_airOf_14 : decode prog_11_method_28_code 14 = .ok (.iload_n 3, 1) := by decide +kernel
theorem d_MO_airOf_15 : decode prog_11_method_28_code 15 = .ok (.iload_n 1, 1) := by decide +kernel
theorem d_MO_airOf_16 : decode prog_11_method_28_code 16 = .ok (.iload 4, 2) := by decide +kernel
theorem d_MO_airOf_18 : decode prog_11_method_28_code 18 = .ok (.ishr, 1) := by decide +kernel
theorem d_MO_airOf_19 : decode prog_11_method_28_code 19 = .ok (.iconst 1, 1) := by decide +kernel
theorem d_MO_airOf_20 : decode prog_11_method_28_code 20 = .ok (.iand, 1) := by decide +kernel
theorem d_MO_airOf_21 : decode prog_11_method_28_code 21 = .ok (.iconst 1, 1) := by decide +kernel
theorem d_MO_airOf_22 : decode prog_11_method_28_code 22 = .ok (.if_icmp .ne 13, 3) := by decide +kernel
theorem d_MO_airOf_25 : decode prog_11_method_28_code 25 = .ok (.aload_n 0, 1) := by decide +kernel
theorem d_MO_airOf_26 : decode prog_11_method_28_code 26 = .ok (.iload 4, 2) := by decide +kernel
theorem d_MO_airOf_28 : decode prog_11_method_28_code 28 = .ok (.iload_n 2, 1) := by decide +kernel
theorem d_MO_airOf_29 : decode prog_11_method_28_code 29 = .ok (.invokevirtual 154, 3) := by decide +kernel
theorem d_MO_airOf_32 : decode prog_11_method_28_code 32 = .ok (.goto 4, 3) := by decide +kernel
theorem d_MO_airOf_35 : decode prog_11_method_28_code 35 = .ok (.iconst 0, 1) := by decide +kernel
theorem d_MO_airOf_36 : decode prog_11_method_28_code 36 = .ok (.iadd, 1) := by decide +kernel
theorem d_MO_airOf_37 : decode prog_11_method_28_code 37 = .ok (.istore_n 3, 1) := by decide +kernel
theorem d_MO_airOf_38 : decode prog_11_method_28_code 38 = .ok (.iinc 4 1, 3) := by decide +kernel
theorem d_MO_airOf_41 : decode prog_11_method_28_code 41 = .ok (.goto (-36), 3) := by decide +kernel
theorem d_MO_airOf_44 : decode prog_11_method_28_code 44 = .ok (.iload_n 3, 1) := by decide +kernel
theorem d_MO_airOf_45 : decode prog_11_method_28_code 45 = .ok (.ireturn, 1) := by decide +kernel
theorem d_MO_sitters_0 : decode prog_11_method_29_code 0 = .ok (.iconst 0, 1) := by decide +kernel
theorem d_MO_sitters_1 : decode prog_11_method_29_code 1 = .ok (.istore_n 2, 1) := by decide +kernel
theorem d_MO_sitters_2 : decode prog_11_method_29_code 2 = .ok (.iconst 0, 1) := by decide +kernel
theorem d_MO_sitters_3 : decode prog_11_method_29_code 3 = .ok (.istore_n 3, 1) := by decide +kernel
theorem d_MO_sitters_4 : decode prog_11_method_29_code 4 = .ok (.iload_n 3, 1) := by decide +kernel
theorem d_MO_sitters_5 : decode prog_11_method_29_code 5 = .ok (.aload_n 0, 1) := by decide +kernel
theorem d_MO_sitters_6 : decode prog_11_method_29_code 6 = .ok (.getfield 123, 3) := by decide +kernel
theorem d_MO_sitters_9 : decode prog_11_method_29_code 9 = .ok (.if_icmp .ge 33, 3) := by decide +kernel
theorem d_MO_sitters_12 : decode prog_11_method_29_code 12 = .ok (.iload_n 2, 1) := by decide +kernel
theorem d_MO_sitters_13 : decode prog_11_method_29_code 13 = .ok (.aload_n 0, 1) := by decide +kernel
theorem d_MO_sitters_14 : decode prog_11_method_29_code 14 = .ok (.getfield 22, 3) := by decide +kernel
theorem d_MO_sitters_17 : decode prog_11_method_29_code 17 = .ok (.iconst 5, 1) := by decide +kernel
theorem d_MO_sitters_18 : decode prog_11_method_29_code 18 = .ok (.iload_n 3, 1) := by decide +kernel
theorem d_MO_sitters_19 : decode prog_11_method_29_code 19 = .ok (.imul, 1) := by decide +kernel
theorem d_MO_sitters_20 : decode prog_11_method_29_code 20 = .ok (.iconst 2, 1) := by decide +kernel
theorem d_MO_sitters_21 : decode prog_11_method_29_code 21 = .ok (.iadd, 1) := by decide +kernel
theorem d_MO_sitters_22 : decode prog_11_method_29_code 22 = .ok (.iaload, 1) := by decide +kernel
theorem d_MO_sitters_23 : decode prog_11_method_29_code 23 = .ok (.iload_n 1, 1) := by decide +kernel
theorem d_MO_sitters_24 : decode prog_11_method_29_code 24 = .ok (.if_icmp .ne 9, 3) := by decide +kernel
theorem d_MO_sitters_27 : decode prog_11_method_29_code 27 = .ok (.iconst 1, 1) := by decide +kernel
theorem d_MO_sitters_28 : decode prog_11_method_29_code 28 = .ok (.iload_n 3, 1) := by decide +kernel
theorem d_MO_sitters_29 : decode prog_11_method_29_code 29 = .ok (.ishl, 1) := by decide +kernel
theorem d_MO_sitters_30 : decode prog_11_method_29_code 30 = .ok (.goto 4, 3) := by decide +kernel
theorem d_MO_sitters_33 : decode prog_11_method_29_code 33 = .ok (.iconst 0, 1) := by decide +kernel
theorem d_MO_sitters_34 : decode prog_11_method_29_code 34 = .ok (.ior, 1) := by decide +kernel
theorem d_MO_sitters_35 : decode prog_11_method_29_code 35 = .ok (.istore_n 2, 1) := by decide +kernel
theorem d_MO_sitters_36 : decode prog_11_method_29_code 36 = .ok (.iinc 3 1, 3) := by decide +kernel
theorem d_MO_sitters_39 : decode prog_11_method_29_code 39 = .ok (.goto (-35), 3) := by decide +kernel
theorem d_MO_sitters_42 : decode prog_11_method_29_code 42 = .ok (.iload_n 2, 1) := by decide +kernel
theorem d_MO_sitters_43 : decode prog_11_method_29_code 43 = .ok (.ireturn, 1) := by decide +kernel
theorem d_MO_blow_0 : decode prog_11_method_30_code 0 = .ok (.iconst 0, 1) := by decide +kernel
theorem d_MO_blow_1 : decode prog_11_method_30_code 1 = .ok (.istore_n 3, 1) := by decide +kernel
theorem d_MO_blow_2 : decode prog_11_method_30_code 2 = .ok (.iconst 0, 1) := by decide +kernel
theorem d_MO_blow_3 : decode prog_11_method_30_code 3 = .ok (.istore 4, 2) := by decide +kernel
theorem d_MO_blow_5 : decode prog_11_method_30_code 5 = .ok (.iconst 0, 1) := by decide +kernel
theorem d_MO_blow_6 : decode prog_11_method_30_code 6 = .ok (.istore 5, 2) := by decide +kernel
theorem d_MO_blow_8 : decode prog_11_method_30_code 8 = .ok (.iload 5, 2) := by decide +kernel
theorem d_MO_blow_10 : decode prog_11_method_30_code 10 = .ok (.aload_n 0, 1) := by decide +kernel
theorem d_MO_blow_11 : decode prog_11_method_30_code 11 = .ok (.getfield 126, 3) := by decide +kernel
theorem d_MO_blow_14 : decode prog_11_method_30_code 14 = .ok (.if_icmp .ge 131, 3) := by decide +kernel
theorem d_MO_blow_17 : decode prog_11_method_30_code 17 = .ok (.aload_n 0, 1) := by decide +kernel
theorem d_MO_blow_18 : decode prog_11_method_30_code 18 = .ok (.iload_n 2, 1) := by decide +kernel
theorem d_MO_blow_19 : decode prog_11_method_30_code 19 = .ok (.iload 5, 2) := by decide +kernel
theorem d_MO_blow_21 : decode prog_11_method_30_code 21 = .ok (.invokevirtual 157, 3) := by decide +kernel
theorem d_MO_blow_24 : decode prog_11_method_30_code 24 = .ok (.iload 4, 2) := by decide +kernel
theorem d_MO_blow_26 : decode prog_11_method_30_code 26 = .ok (.iadd, 1) := by decide +kernel
theorem d_MO_blow_27 : decode prog_11_method_30_code 27 = .ok (.istore 6, 2) := by decide +kernel
theorem d_MO_blow_29 : decode prog_11_method_30_code 29 = .ok (.aload_n 0, 1) := by decide +kernel
theorem d_MO_blow_30 : decode prog_11_method_30_code 30 = .ok (.getfield 25, 3) := by decide +kernel
theorem d_MO_blow_33 : decode prog_11_method_30_code 33 = .ok (.iload 5, 2) := by decide +kernel
theorem d_MO_blow_35 : decode prog_11_method_30_code 35 = .ok (.iaload, 1) := by decide +kernel
theorem d_MO_blow_36 : decode prog_11_method_30_code 36 = .ok (.iload_n 1, 1) := by decide +kernel
theorem d_MO_blow_37 : decode prog_11_method_30_code 37 = .ok (.ishr, 1) := by decide +kernel
theorem d_MO_blow_38 : decode prog_11_method_30_code 38 = .ok (.iconst 1, 1) := by decide +kernel
theorem d_MO_blow_39 : decode prog_11_method_30_code 39 = .ok (.iand, 1) := by decide +kernel
theorem d_MO_blow_40 : decode prog_11_method_30_code 40 = .ok (.iconst 1, 1) := by decide +kernel
theorem d_MO_blow_41 : decode prog_11_method_30_code 41 = .ok (.if_icmp .ne 7, 3) := by decide +kernel
theorem d_MO_blow_44 : decode prog_11_method_30_code 44 = .ok (.iconst 1, 1) := by decide +kernel
theorem d_MO_blow_45 : decode prog_11_method_30_code 45 = .ok (.goto 4, 3) := by decide +kernel
theorem d_MO_blow_48 : decode prog_11_method_30_code 48 = .ok (.iconst 0, 1) := by decide +kernel
theorem d_MO_blow_49 : decode prog_11_method_30_code 49 = .ok (.istore 7, 2) := by decide +kernel
theorem d_MO_blow_51 : decode prog_11_method_30_code 51 = .ok (.iload 7, 2) := by decide +kernel
theorem d_MO_blow_53 : decode prog_11_method_30_code 53 = .ok (.ifCond .eq 15, 3) := by decide +kernel
theorem d_MO_blow_56 : decode prog_11_method_30_code 56 = .ok (.iload 6, 2) := by decide +kernel
theorem d_MO_blow_58 : decode prog_11_method_30_code 58 = .ok (.aload_n 0, 1) := by decide +kernel
theorem d_MO_blow_59 : decode prog_11_method_30_code 59 = .ok (.getfield 19, 3) := by decide +kernel
theorem d_MO_blow_62 : decode prog_11_method_30_code 62 = .ok (.iload_n 1, 1) := by decide +kernel
theorem d_MO_blow_63 : decode prog_11_method_30_code 63 = .ok (.iaload, 1) := by decide +kernel
theorem d_MO_blow_64 : decode prog_11_method_30_code 64 = .ok (.isub, 1) := by decide +kernel
theorem d_MO_blow_65 : decode prog_11_method_30_code 65 = .ok (.goto 5, 3) := by decide +kernel
theorem d_MO_blow_68 : decode prog_11_method_30_code 68 = .ok (.iload 6, 2) := by decide +kernel
theorem d_MO_blow_70 : decode prog_11_method_30_code 70 = .ok (.istore 8, 2) := by decide +kernel
theorem d_MO_blow_72 : decode prog_11_method_30_code 72 = .ok (.aload_n 0, 1) := by decide +kernel
theorem d_MO_blow_73 : decode prog_11_method_30_code 73 = .ok (.getfield 31, 3) := by decide +kernel
theorem d_MO_blow_76 : decode prog_11_method_30_code 76 = .ok (.iload 5, 2) := by decide +kernel
theorem d_MO_blow_78 : decode prog_11_method_30_code 78 = .ok (.iload 8, 2) := by decide +kernel
theorem d_MO_blow_80 : decode prog_11_method_30_code 80 = .ok (.ifCond .ge 9, 3) := by decide +kernel
theorem d_MO_blow_83 : decode prog_11_method_30_code 83 = .ok (.iload 8, 2) := by decide +kernel
theorem d_MO_blow_85 : decode prog_11_method_30_code 85 = .ok (.ineg, 1) := by decide +kernel
theorem d_MO_blow_86 : decode prog_11_method_30_code 86 = .ok (.goto 4, 3) := by decide +kernel
theorem d_MO_blow_89 : decode prog_11_method_30_code 89 = .ok (.iconst 0, 1) := by decide +kernel
theorem d_MO_blow_90 : decode prog_11_method_30_code 90 = .ok (.iastore, 1) := by decide +kernel
theorem d_MO_blow_91 : decode prog_11_method_30_code 91 = .ok (.iload 8, 2) := by decide +kernel
theorem d_MO_blow_93 : decode prog_11_method_30_code 93 = .ok (.ifCond .ge 7, 3) := by decide +kernel
theorem d_MO_blow_96 : decode prog_11_method_30_code 96 = .ok (.iconst 0, 1) := by decide +kernel
theorem d_MO_blow_97 : decode prog_11_method_30_code 97 = .ok (.goto 21, 3) := by decide +kernel
theorem d_MO_blow_100 : decode prog_11_method_30_code 100 = .ok (.iload 8, 2) := by decide +kernel
theorem d_MO_blow_102 : decode prog_11_method_30_code 102 = .ok (.aload_n 0, 1) := by decide +kernel
theorem d_MO_blow_103 : decode prog_11_method_30_code 103 = .ok (.getfield 132, 3) := by decide +kernel
theorem d_MO_blow_106 : decode prog_11_method_30_code 106 = .ok (.if_icmp .le 10, 3) := by decide +kernel
theorem d_MO_blow_109 : decode prog_11_method_30_code 109 = .ok (.aload_n 0, 1) := by decide +kernel
theorem d_MO_blow_110 : decode prog_11_method_30_code 110 = .ok (.getfield 132, 3) := by decide +kernel
theorem d_MO_blow_113 : decode prog_11_method_30_code 113 = .ok (.goto 5, 3) := by decide +kernel
theorem d_MO_blow_116 : decode prog_11_method_30_code 116 = .ok (.iload 8, 2) := by decide +kernel
theorem d_MO_blow_118 : decode prog_11_method_30_code 118 = .ok (.istore 4, 2) := by decide +kernel
theorem d_MO_blow_120 : decode prog_11_method_30_code 120 = .ok (.aload_n 0, 1) := by decide +kernel
theorem d_MO_blow_121 : decode prog_11_method_30_code 121 = .ok (.getfield 34, 3) := by decide +kernel
theorem d_MO_blow_124 : decode prog_11_method_30_code 124 = .ok (.iload 5, 2) := by decide +kernel
theorem d_MO_blow_126 : decode prog_11_method_30_code 126 = .ok (.iload 4, 2) := by decide +kernel
theorem d_MO_blow_128 : decode prog_11_method_30_code 128 = .ok (.iastore, 1) := by decide +kernel
theorem d_MO_blow_129 : decode prog_11_method_30_code 129 = .ok (.iload_n 3, 1) := by decide +kernel
theorem d_MO_blow_130 : decode prog_11_method_30_code 130 = .ok (.aload_n 0, 1) := by decide +kernel
theorem d_MO_blow_131 : decode prog_11_method_30_code 131 = .ok (.getfield 31, 3) := by decide +kernel
theorem d_MO_blow_134 : decode prog_11_method_30_code 134 = .ok (.iload 5, 2) := by decide +kernel
theorem d_MO_blow_136 : decode prog_11_method_30_code 136 = .ok (.iaload, 1) := by decide +kernel
theorem d_MO_blow_137 : decode prog_11_method_30_code 137 = .ok (.iadd, 1) := by decide +kernel
theorem d_MO_blow_138 : decode prog_11_method_30_code 138 = .ok (.istore_n 3, 1) := by decide +kernel
theorem d_MO_blow_139 : decode prog_11_method_30_code 139 = .ok (.iinc 5 1, 3) := by decide +kernel
theorem d_MO_blow_142 : decode prog_11_method_30_code 142 = .ok (.goto (-134), 3) := by decide +kernel
theorem d_MO_blow_145 : decode prog_11_method_30_code 145 = .ok (.iload_n 3, 1) := by decide +kernel
theorem d_MO_blow_146 : decode prog_11_method_30_code 146 = .ok (.ireturn, 1) := by decide +kernel
theorem d_MO_air_0 : decode prog_11_method_31_code 0 = .ok (.aload_n 0, 1) := by decide +kernel
theorem d_MO_air_1 : decode prog_11_method_31_code 1 = .ok (.iload_n 1, 1) := by decide +kernel
theorem d_MO_air_2 : decode prog_11_method_31_code 2 = .ok (.invokevirtual 135, 3) := by decide +kernel
theorem d_MO_air_5 : decode prog_11_method_31_code 5 = .ok (.ifCond .eq 24, 3) := by decide +kernel
theorem d_MO_air_8 : decode prog_11_method_31_code 8 = .ok (.aload_n 0, 1) := by decide +kernel
theorem d_MO_air_9 : decode prog_11_method_31_code 9 = .ok (.iload_n 2, 1) := by decide +kernel
theorem d_MO_air_10 : decode prog_11_method_31_code 10 = .ok (.invokevirtual 139, 3) := by decide +kernel
theorem d_MO_air_13 : decode prog_11_method_31_code 13 = .ok (.ifCond .eq 16, 3) := by decide +kernel
theorem d_MO_air_16 : decode prog_11_method_31_code 16 = .ok (.aload_n 0, 1) := by decide +kernel
theorem d_MO_air_17 : decode prog_11_method_31_code 17 = .ok (.aload_n 0, 1) := by decide +kernel
theorem d_MO_air_18 : decode prog_11_method_31_code 18 = .ok (.iload_n 1, 1) := by decide +kernel
theorem d_MO_air_19 : decode prog_11_method_31_code 19 = .ok (.invokevirtual 160, 3) := by decide +kernel
theorem d_MO_air_22 : decode prog_11_method_31_code 22 = .ok (.iload_n 2, 1) := by decide +kernel
theorem d_MO_air_23 : decode prog_11_method_31_code 23 = .ok (.invokevirtual 157, 3) := by decide +kernel
theorem d_MO_air_26 : decode prog_11_method_31_code 26 = .ok (.goto 4, 3) := by decide +kernel
theorem d_MO_air_29 : decode prog_11_method_31_code 29 = .ok (.iconst (-1), 1) := by decide +kernel
theorem d_MO_air_30 : decode prog_11_method_31_code 30 = .ok (.ireturn, 1) := by decide +kernel
theorem d_MO_stored_0 : decode prog_11_method_32_code 0 = .ok (.aload_n 0, 1) := by decide +kernel
theorem d_MO_stored_1 : decode prog_11_method_32_code 1 = .ok (.iload_n 1, 1) := by decide +kernel
theorem d_MO_stored_2 : decode prog_11_method_32_code 2 = .ok (.invokevirtual 135, 3) := by decide +kernel
theorem d_MO_stored_5 : decode prog_11_method_32_code 5 = .ok (.ifCond .eq 11, 3) := by decide +kernel
theorem d_MO_stored_8 : decode prog_11_method_32_code 8 = .ok (.aload_n 0, 1) := by decide +kernel
theorem d_MO_stored_9 : decode prog_11_method_32_code 9 = .ok (.iload_n 2, 1) := by decide +kernel
theorem d_MO_stored_10 : decode prog_11_method_32_code 10 = .ok (.invokevirtual 139, 3) := by decide +kernel
theorem d_MO_stored_13 : decode prog_11_method_32_code 13 = .ok (.ifCond .ne 5, 3) := by decide +kernel
theorem d_MO_stored_16 : decode prog_11_method_32_code 16 = .ok (.iconst (-1), 1) := by decide +kernel
theorem d_MO_stored_17 : decode prog_11_method_32_code 17 = .ok (.ireturn, 1) := by decide +kernel
theorem d_MO_stored_18 : decode prog_11_method_32_code 18 = .ok (.aload_n 0, 1) := by decide +kernel
theorem d_MO_stored_19 : decode prog_11_method_32_code 19 = .ok (.iload_n 1, 1) := by decide +kernel
theorem d_MO_stored_20 : decode prog_11_method_32_code 20 = .ok (.aload_n 0, 1) := by decide +kernel
theorem d_MO_stored_21 : decode prog_11_method_32_code 21 = .ok (.iload_n 1, 1) := by decide +kernel
theorem d_MO_stored_22 : decode prog_11_method_32_code 22 = .ok (.invokevirtual 160, 3) := by decide +kernel
theorem d_MO_stored_25 : decode prog_11_method_32_code 25 = .ok (.invokevirtual 163, 3) := by decide +kernel
theorem d_MO_stored_28 : decode prog_11_method_32_code 28 = .ok (.pop, 1) := by decide +kernel
theorem d_MO_stored_29 : decode prog_11_method_32_code 29 = .ok (.aload_n 0, 1) := by decide +kernel
theorem d_MO_stored_30 : decode prog_11_method_32_code 30 = .ok (.getfield 34, 3) := by decide +kernel
theorem d_MO_stored_33 : decode prog_11_method_32_code 33 = .ok (.iload_n 2, 1) := by decide +kernel
theorem d_MO_stored_34 : decode prog_11_method_32_code 34 = .ok (.iaload, 1) := by decide +kernel
theorem d_MO_stored_35 : decode prog_11_method_32_code 35 = .ok (.ireturn, 1) := by decide +kernel
theorem d_MO_sags_0 : decode prog_11_method_33_code 0 = .ok (.aload_n 0, 1) := by decide +kernel
theorem d_MO_sags_1 : decode prog_11_method_33_code 1 = .ok (.iload_n 1, 1) := by decide +kernel
theorem d_MO_sags_2 : decode prog_11_method_33_code 2 = .ok (.invokevirtual 135, 3) := by decide +kernel
theorem d_MO_sags_5 : decode prog_11_method_33_code 5 = .ok (.ifCond .eq 11, 3) := by decide +kernel
theorem d_MO_sags_8 : decode prog_11_method_33_code 8 = .ok (.aload_n 0, 1) := by decide +kernel
theorem d_MO_sags_9 : decode prog_11_method_33_code 9 = .ok (.iload_n 2, 1) := by decide +kernel
theorem d_MO_sags_10 : decode prog_11_method_33_code 10 = .ok (.invokevirtual 139, 3) := by decide +kernel
theorem d_MO_sags_13 : decode prog_11_method_33_code 13 = .ok (.ifCond .ne 5, 3) := by decide +kernel
theorem d_MO_sags_16 : decode prog_11_method_33_code 16 = .ok (.iconst (-1), 1) := by decide +kernel
theorem d_MO_sags_17 : decode prog_11_method_33_code 17 = .ok (.ireturn, 1) := by decide +kernel
theorem d_MO_sags_18 : decode prog_11_method_33_code 18 = .ok (.aload_n 0, 1) := by decide +kernel
theorem d_MO_sags_19 : decode prog_11_method_33_code 19 = .ok (.iload_n 1, 1) := by decide +kernel
theorem d_MO_sags_20 : decode prog_11_method_33_code 20 = .ok (.aload_n 0, 1) := by decide +kernel
theorem d_MO_sags_21 : decode prog_11_method_33_code 21 = .ok (.iload_n 1, 1) := by decide +kernel
theorem d_MO_sags_22 : decode prog_11_method_33_code 22 = .ok (.invokevirtual 160, 3) := by decide +kernel
theorem d_MO_sags_25 : decode prog_11_method_33_code 25 = .ok (.invokevirtual 163, 3) := by decide +kernel
theorem d_MO_sags_28 : decode prog_11_method_33_code 28 = .ok (.pop, 1) := by decide +kernel
theorem d_MO_sags_29 : decode prog_11_method_33_code 29 = .ok (.aload_n 0, 1) := by decide +kernel
theorem d_MO_sags_30 : decode prog_11_method_33_code 30 = .ok (.getfield 31, 3) := by decide +kernel
theorem d_MO_sags_33 : decode prog_11_method_33_code 33 = .ok (.iload_n 2, 1) := by decide +kernel
theorem d_MO_sags_34 : decode prog_11_method_33_code 34 = .ok (.iaload, 1) := by decide +kernel
theorem d_MO_sags_35 : decode prog_11_method_33_code 35 = .ok (.ireturn, 1) := by decide +kernel
theorem d_MO_totalOf_0 : decode prog_11_method_34_code 0 = .ok (.iconst 0, 1) := by decide +kernel
theorem d_MO_totalOf_1 : decode prog_11_method_34_code 1 = .ok (.istore_n 1, 1) := by decide +kernel
theorem d_MO_totalOf_2 : decode prog_11_method_34_code 2 = .ok (.iconst 0, 1) := by decide +kernel
theorem d_MO_totalOf_3 : decode prog_11_method_34_code 3 = .ok (.istore_n 2, 1) := by decide +kernel
theorem d_MO_totalOf_4 : decode prog_11_method_34_code 4 = .ok (.iload_n 2, 1) := by decide +kernel
theorem d_MO_totalOf_5 : decode prog_11_method_34_code 5 = .ok (.aload_n 0, 1) := by decide +kernel
theorem d_MO_totalOf_6 : decode prog_11_method_34_code 6 = .ok (.getfield 69, 3) := by decide +kernel
theorem d_MO_totalOf_9 : decode prog_11_method_34_code 9 = .ok (.if_icmp .ge 22, 3) := by decide +kernel
theorem d_MO_totalOf_12 : decode prog_11_method_34_code 12 = .ok (.iload_n 1, 1) := by decide +kernel
theorem d_MO_totalOf_13 : decode prog_11_method_34_code 13 = .ok (.aload_n 0, 1) := by decide +kernel
theorem d_MO_totalOf_14 : decode prog_11_method_34_code 14 = .ok (.iload_n 2, 1) := by decide +kernel
theorem d_MO_totalOf_15 : decode prog_11_method_34_code 15 = .ok (.aload_n 0, 1) := by decide +kernel
theorem d_MO_totalOf_16 : decode prog_11_method_34_code 16 = .ok (.iload_n 2, 1) := by decide +kernel
theorem d_MO_totalOf_17 : decode prog_11_method_34_code 17 = .ok (.invokevirtual 160, 3) := by decide +kernel
theorem d_MO_totalOf_20 : decode prog_11_method_34_code 20 = .ok (.invokevirtual 163, 3) := by decide +kernel
theorem d_MO_totalOf_23 : decode prog_11_method_34_code 23 = .ok (.iadd, 1) := by decide +kernel
theorem d_MO_totalOf_24 : decode prog_11_method_34_code 24 = .ok (.istore_n 1, 1) := by decide +kernel
theorem d_MO_totalOf_25 : decode prog_11_method_34_code 25 = .ok (.iinc 2 1, 3) := by decide +kernel
theorem d_MO_totalOf_28 : decode prog_11_method_34_code 28 = .ok (.goto (-24), 3) := by decide +kernel
theorem d_MO_totalOf_31 : decode prog_11_method_34_code 31 = .ok (.iload_n 1, 1) := by decide +kernel
theorem d_MO_totalOf_32 : decode prog_11_method_34_code 32 = .ok (.ireturn, 1) := by decide +kernel
theorem d_MO_total_0 : decode prog_11_method_35_code 0 = .ok (.aload_n 0, 1) := by decide +kernel
theorem d_MO_total_1 : decode prog_11_method_35_code 1 = .ok (.invokevirtual 166, 3) := by decide +kernel
theorem d_MO_total_4 : decode prog_11_method_35_code 4 = .ok (.ireturn, 1) := by decide +kernel
theorem d_MO_first_0 : decode prog_11_method_36_code 0 = .ok (.bipush (-9), 2) := by decide +kernel
theorem d_MO_first_2 : decode prog_11_method_36_code 2 = .ok (.istore_n 1, 1) := by decide +kernel
theorem d_MO_first_3 : decode prog_11_method_36_code 3 = .ok (.iconst 0, 1) := by decide +kernel
theorem d_MO_first_4 : decode prog_11_method_36_code 4 = .ok (.istore_n 2, 1) := by decide +kernel
theorem d_MO_first_5 : decode prog_11_method_36_code 5 = .ok (.iload_n 2, 1) := by decide +kernel
theorem d_MO_first_6 : decode prog_11_method_36_code 6 = .ok (.aload_n 0, 1) := by decide +kernel
theorem d_MO_first_7 : decode prog_11_method_36_code 7 = .ok (.getfield 69, 3) := by decide +kernel
theorem d_MO_first_10 : decode prog_11_method_36_code 10 = .ok (.if_icmp .ge 72, 3) := by decide +kernel
theorem d_MO_first_13 : decode prog_11_method_36_code 13 = .ok (.aload_n 0, 1) := by decide +kernel
theorem d_MO_first_14 : decode prog_11_method_36_code 14 = .ok (.iload_n 2, 1) := by decide +kernel
theorem d_MO_first_15 : decode prog_11_method_36_code 15 = .ok (.aload_n 0, 1) := by decide +kernel
theorem d_MO_first_16 : decode prog_11_method_36_code 16 = .ok (.iload_n 2, 1) := by decide +kernel
theorem d_MO_first_17 : decode prog_11_method_36_code 17 = .ok (.invokevirtual 160, 3) := by decide +kernel
theorem d_MO_first_20 : decode prog_11_method_36_code 20 = .ok (.invokevirtual 163, 3) := by decide +kernel
theorem d_MO_first_23 : decode prog_11_method_36_code 23 = .ok (.pop, 1) := by decide +kernel
theorem d_MO_first_24 : decode prog_11_method_36_code 24 = .ok (.iconst 0, 1) := by decide +kernel
theorem d_MO_first_25 : decode prog_11_method_36_code 25 = .ok (.istore_n 3, 1) := by decide +kernel
theorem d_MO_first_26 : decode prog_11_method_36_code 26 = .ok (.iload_n 3, 1) := by decide +kernel
theorem d_MO_first_27 : decode prog_11_method_36_code 27 = .ok (.aload_n 0, 1) := by decide +kernel
theorem d_MO_first_28 : decode prog_11_method_36_code 28 = .ok (.getfield 126, 3) := by decide +kernel
theorem d_MO_first_31 : decode prog_11_method_36_code 31 = .ok (.if_icmp .ge 45, 3) := by decide +kernel
theorem d_MO_first_34 : decode prog_11_method_36_code 34 = .ok (.aload_n 0, 1) := by decide +kernel
theorem d_MO_first_35 : decode prog_11_method_36_code 35 = .ok (.getfield 31, 3) := by decide +kernel
theorem d_MO_first_38 : decode prog_11_method_36_code 38 = .ok (.iload_n 3, 1) := by decide +kernel
theorem d_MO_first_39 : decode prog_11_method_36_code 39 = .ok (.iaload, 1) := by decide +kernel
theorem d_MO_first_40 : decode prog_11_method_36_code 40 = .ok (.ifCond .le 28, 3) := by decide +kernel
theorem d_MO_first_43 : decode prog_11_method_36_code 43 = .ok (.iload_n 1, 1) := by decide +kernel
theorem d_MO_first_44 : decode prog_11_method_36_code 44 = .ok (.bipush (-9), 2) := by decide +kernel
theorem d_MO_first_46 : decode prog_11_method_36_code 46 = .ok (.if_icmp .eq 13, 3) := by decide +kernel
theorem d_MO_first_49 : decode prog_11_method_36_code 49 = .ok (.bipush 10, 2) := by decide +kernel
theorem d_MO_first_51 : decode prog_11_method_36_code 51 = .ok (.iload_n 3, 1) := by decide +kernel
theorem d_MO_first_52 : decode prog_11_method_36_code 52 = .ok (.imul, 1) := by decide +kernel
theorem d_MO_first_53 : decode prog_11_method_36_code 53 = .ok (.iload_n 2, 1) := by decide +kernel
theorem d_MO_first_54 : decode prog_11_method_36_code 54 = .ok (.iadd, 1) := by decide +kernel
theorem d_MO_first_55 : decode prog_11_method_36_code 55 = .ok (.iload_n 1, 1) := by decide +kernel
theorem d_MO_first_56 : decode prog_11_method_36_code 56 = .ok (.if_icmp .ge 12, 3) := by decide +kernel
theorem d_MO_first_59 : decode prog_11_method_36_code 59 = .ok (.bipush 10, 2) := by decide +kernel
theorem d_MO_first_61 : decode prog_11_method_36_code 61 = .ok (.iload_n 3, 1) := by decide +kernel
theorem d_MO_first_62 : decode prog_11_method_36_code 62 = .ok (.imul, 1) := by decide +kernel
theorem d_MO_first_63 : decode prog_11_method_36_code 63 = .ok (.iload_n 2, 1) := by decide +kernel
theorem d_MO_first_64 : decode prog_11_method_36_code 64 = .ok (.iadd, 1) := by decide +kernel
theorem d_MO_first_65 : decode prog_11_method_36_code 65 = .ok (.goto 4, 3) := by decide +kernel
theorem d_MO_first_68 : decode prog_11_method_36_code 68 = .ok (.iload_n 1, 1) := by decide +kernel
theorem d_MO_first_69 : decode prog_11_method_36_code 69 = .ok (.istore_n 1, 1) := by decide +kernel
theorem d_MO_first_70 : decode prog_11_method_36_code 70 = .ok (.iinc 3 1, 3) := by decide +kernel
theorem d_MO_first_73 : decode prog_11_method_36_code 73 = .ok (.goto (-47), 3) := by decide +kernel
theorem d_MO_first_76 : decode prog_11_method_36_code 76 = .ok (.iinc 2 1, 3) := by decide +kernel
theorem d_MO_first_79 : decode prog_11_method_36_code 79 = .ok (.goto (-74), 3) := by decide +kernel
theorem d_MO_first_82 : decode prog_11_method_36_code 82 = .ok (.iload_n 1, 1) := by decide +kernel
theorem d_MO_first_83 : decode prog_11_method_36_code 83 = .ok (.ireturn, 1) := by decide +kernel
theorem d_MO_worst_0 : decode prog_11_method_37_code 0 = .ok (.bipush (-9), 2) := by decide +kernel
theorem d_MO_worst_2 : decode prog_11_method_37_code 2 = .ok (.istore_n 1, 1) := by decide +kernel
theorem d_MO_worst_3 : decode prog_11_method_37_code 3 = .ok (.iconst 0, 1) := by decide +kernel
theorem d_MO_worst_4 : decode prog_11_method_37_code 4 = .ok (.istore_n 2, 1) := by decide +kernel
theorem d_MO_worst_5 : decode prog_11_method_37_code 5 = .ok (.iconst 0, 1) := by decide +kernel
theorem d_MO_worst_6 : decode prog_11_method_37_code 6 = .ok (.istore_n 3, 1) := by decide +kernel
theorem d_MO_worst_7 : decode prog_11_method_37_code 7 = .ok (.iload_n 3, 1) := by decide +kernel
theorem d_MO_worst_8 : decode prog_11_method_37_code 8 = .ok (.aload_n 0, 1) := by decide +kernel
theorem d_MO_worst_9 : decode prog_11_method_37_code 9 = .ok (.getfield 69, 3) := by decide +kernel
theorem d_MO_worst_12 : decode prog_11_method_37_code 12 = .ok (.if_icmp .ge 46, 3) := by decide +kernel
theorem d_MO_worst_15 : decode prog_11_method_37_code 15 = .ok (.aload_n 0, 1) := by decide +kernel
theorem d_MO_worst_16 : decode prog_11_method_37_code 16 = .ok (.iload_n 3, 1) := by decide +kernel
theorem d_MO_worst_17 : decode prog_11_method_37_code 17 = .ok (.aload_n 0, 1) := by decide +kernel
theorem d_MO_worst_18 : decode prog_11_method_37_code 18 = .ok (.iload_n 3, 1) := by decide +kernel
theorem d_MO_worst_19 : decode prog_11_method_37_code 19 = .ok (.invokevirtual 160, 3) := by decide +kernel
theorem d_MO_worst_22 : decode prog_11_method_37_code 22 = .ok (.invokevirtual 163, 3) := by decide +kernel
theorem d_MO_worst_25 : decode prog_11_method_37_code 25 = .ok (.istore 4, 2) := by decide +kernel
theorem d_MO_worst_27 : decode prog_11_method_37_code 27 = .ok (.iload 4, 2) := by decide +kernel
theorem d_MO_worst_29 : decode prog_11_method_37_code 29 = .ok (.iload_n 2, 1) := by decide +kernel
theorem d_MO_worst_30 : decode prog_11_method_37_code 30 = .ok (.if_icmp .le 7, 3) := by decide +kernel
theorem d_MO_worst_33 : decode prog_11_method_37_code 33 = .ok (.iload_n 3, 1) := by decide +kernel
theorem d_MO_worst_34 : decode prog_11_method_37_code 34 = .ok (.goto 4, 3) := by decide +kernel
theorem d_MO_worst_37 : decode prog_11_method_37_code 37 = .ok (.iload_n 1, 1) := by decide +kernel
theorem d_MO_worst_38 : decode prog_11_method_37_code 38 = .ok (.istore_n 1, 1) := by decide +kernel
theorem d_MO_worst_39 : decode prog_11_method_37_code 39 = .ok (.iload 4, 2) := by decide +kernel
theorem d_MO_worst_41 : decode prog_11_method_37_code 41 = .ok (.iload_n 2, 1) := by decide +kernel
theorem d_MO_worst_42 : decode prog_11_method_37_code 42 = .ok (.if_icmp .le 8, 3) := by decide +kernel
theorem d_MO_worst_45 : decode prog_11_method_37_code 45 = .ok (.iload 4, 2) := by decide +kernel
theorem d_MO_worst_47 : decode prog_11_method_37_code 47 = .ok (.goto 4, 3) := by decide +kernel
theorem d_MO_worst_50 : decode prog_11_method_37_code 50 = .ok (.iload_n 2, 1) := by decide +kernel
theorem d_MO_worst_51 : decode prog_11_method_37_code 51 = .ok (.istore_n 2, 1) := by decide +kernel
theorem d_MO_worst_52 : decode prog_11_method_37_code 52 = .ok (.iinc 3 1, 3) := by decide +kernel
theorem d_MO_worst_55 : decode prog_11_method_37_code 55 = .ok (.goto (-48), 3) := by decide +kernel
theorem d_MO_worst_58 : decode prog_11_method_37_code 58 = .ok (.iload_n 1, 1) := by decide +kernel
theorem d_MO_worst_59 : decode prog_11_method_37_code 59 = .ok (.ireturn, 1) := by decide +kernel
theorem d_MO_bestLate_0 : decode prog_11_method_38_code 0 = .ok (.aload_n 0, 1) := by decide +kernel
theorem d_MO_bestLate_1 : decode prog_11_method_38_code 1 = .ok (.getfield 129, 3) := by decide +kernel
theorem d_MO_bestLate_4 : decode prog_11_method_38_code 4 = .ok (.istore_n 1, 1) := by decide +kernel
theorem d_MO_bestLate_5 : decode prog_11_method_38_code 5 = .ok (.iconst 0, 1) := by decide +kernel
theorem d_MO_bestLate_6 : decode prog_11_method_38_code 6 = .ok (.istore_n 2, 1) := by decide +kernel
theorem d_MO_bestLate_7 : decode prog_11_method_38_code 7 = .ok (.iconst 0, 1) := by decide +kernel
theorem d_MO_bestLate_8 : decode prog_11_method_38_code 8 = .ok (.istore_n 3, 1) := by decide +kernel
theorem d_MO_bestLate_9 : decode prog_11_method_38_code 9 = .ok (.iconst 0, 1) := by decide +kernel
theorem d_MO_bestLate_10 : decode prog_11_method_38_code 10 = .ok (.istore 4, 2) := by decide +kernel
theorem d_MO_bestLate_12 : decode prog_11_method_38_code 12 = .ok (.iload 4, 2) := by decide +kernel
theorem d_MO_bestLate_14 : decode prog_11_method_38_code 14 = .ok (.bipush 12, 2) := by decide +kernel
theorem d_MO_bestLate_16 : decode prog_11_method_38_code 16 = .ok (.if_icmp .ge 57, 3) := by decide +kernel
theorem d_MO_bestLate_19 : decode prog_11_method_38_code 19 = .ok (.aload_n 0, 1) := by decide +kernel
theorem d_MO_bestLate_20 : decode prog_11_method_38_code 20 = .ok (.iload 4, 2) := by decide +kernel
theorem d_MO_bestLate_22 : decode prog_11_method_38_code 22 = .ok (.putfield 129, 3) := by decide +kernel
theorem d_MO_bestLate_25 : decode prog_11_method_38_code 25 = .ok (.aload_n 0, 1) := by decide +kernel
theorem d_MO_bestLate_26 : decode prog_11_method_38_code 26 = .ok (.invokevirtual 166, 3) := by decide +kernel
theorem d_MO_bestLate_29 : decode prog_11_method_38_code 29 = .ok (.istore 5, 2) := by decide +kernel
theorem d_MO_bestLate_31 : decode prog_11_method_38_code 31 = .ok (.iload 4, 2) := by decide +kernel
theorem d_MO_bestLate_33 : decode prog_11_method_38_code 33 = .ok (.ifCond .eq 9, 3) := by decide +kernel
theorem d_MO_bestLate_36 : decode prog_11_method_38_code 36 = .ok (.iload 5, 2) := by decide +kernel
theorem d_MO_bestLate_38 : decode prog_11_method_38_code 38 = .ok (.iload_n 3, 1) := by decide +kernel
theorem d_MO_bestLate_39 : decode prog_11_method_38_code 39 = .ok (.if_icmp .ge 8, 3) := by decide +kernel
theorem d_MO_bestLate_42 : decode prog_11_method_38_code 42 = .ok (.iload 4, 2) := by decide +kernel
theorem d_MO_bestLate_44 : decode prog_11_method_38_code 44 = .ok (.goto 4, 3) := by decide +kernel
theorem d_MO_bestLate_47 : decode prog_11_method_38_code 47 = .ok (.iload_n 2, 1) := by decide +kernel
theorem d_MO_bestLate_48 : decode prog_11_method_38_code 48 = .ok (.istore_n 2, 1) := by decide +kernel
theorem d_MO_bestLate_49 : decode prog_11_method_38_code 49 = .ok (.iload 4, 2) := by decide +kernel
theorem d_MO_bestLate_51 : decode prog_11_method_38_code 51 = .ok (.ifCond .eq 9, 3) := by decide +kernel
theorem d_MO_bestLate_54 : decode prog_11_method_38_code 54 = .ok (.iload 5, 2) := by decide +kernel
theorem d_MO_bestLate_56 : decode prog_11_method_38_code 56 = .ok (.iload_n 3, 1) := by decide +kernel
theorem d_MO_bestLate_57 : decode prog_11_method_38_code 57 = .ok (.if_icmp .ge 8, 3) := by decide +kernel
theorem d_MO_bestLate_60 : decode prog_11_method_38_code 60 = .ok (.iload 5, 2) := by decide +kernel
theorem d_MO_bestLate_62 : decode prog_11_method_38_code 62 = .ok (.goto 4, 3) := by decide +kernel
theorem d_MO_bestLate_65 : decode prog_11_method_38_code 65 = .ok (.iload_n 3, 1) := by decide +kernel
theorem d_MO_bestLate_66 : decode prog_11_method_38_code 66 = .ok (.istore_n 3, 1) := by decide +kernel
theorem d_MO_bestLate_67 : decode prog_11_method_38_code 67 = .ok (.iinc 4 1, 3) := by decide +kernel
theorem d_MO_bestLate_70 : decode prog_11_method_38_code 70 = .ok (.goto (-58), 3) := by decide +kernel
theorem d_MO_bestLate_73 : decode prog_11_method_38_code 73 = .ok (.aload_n 0, 1) := by decide +kernel
theorem d_MO_bestLate_74 : decode prog_11_method_38_code 74 = .ok (.iload_n 1, 1) := by decide +kernel
theorem d_MO_bestLate_75 : decode prog_11_method_38_code 75 = .ok (.putfield 129, 3) := by decide +kernel
theorem d_MO_bestLate_78 : decode prog_11_method_38_code 78 = .ok (.iload_n 2, 1) := by decide +kernel
theorem d_MO_bestLate_79 : decode prog_11_method_38_code 79 = .ok (.ireturn, 1) := by decide +kernel
