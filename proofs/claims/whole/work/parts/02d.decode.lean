/-! decode rows -/
theorem d_MO_ones_0 : decode prog_11_method_39_code 0 = .ok (.iconst 0, 1) := by decide +kernel
theorem d_MO_ones_1 : decode prog_11_method_39_code 1 = .ok (.istore_n 1, 1) := by decide +kernel
theorem d_MO_ones_2 : decode prog_11_method_39_code 2 = .ok (.iconst 0, 1) := by decide +kernel
theorem d_MO_ones_3 : decode prog_11_method_39_code 3 = .ok (.istore_n 2, 1) := by decide +kernel
theorem d_MO_ones_4 : decode prog_11_method_39_code 4 = .ok (.iload_n 2, 1) := by decide +kernel
theorem d_MO_ones_5 : decode prog_11_method_39_code 5 = .ok (.bipush 12, 2) := by decide +kernel
theorem d_MO_ones_7 : decode prog_11_method_39_code 7 = .ok (.if_icmp .ge 17, 3) := by decide +kernel
theorem d_MO_ones_10 : decode prog_11_method_39_code 10 = .ok (.iload_n 1, 1) := by decide +kernel
theorem d_MO_ones_11 : decode prog_11_method_39_code 11 = .ok (.iload_n 0, 1) := by decide +kernel
theorem d_MO_ones_12 : decode prog_11_method_39_code 12 = .ok (.iload_n 2, 1) := by decide +kernel
theorem d_MO_ones_13 : decode prog_11_method_39_code 13 = .ok (.ishr, 1) := by decide +kernel
theorem d_MO_ones_14 : decode prog_11_method_39_code 14 = .ok (.iconst 1, 1) := by decide +kernel
theorem d_MO_ones_15 : decode prog_11_method_39_code 15 = .ok (.iand, 1) := by decide +kernel
theorem d_MO_ones_16 : decode prog_11_method_39_code 16 = .ok (.iadd, 1) := by decide +kernel
theorem d_MO_ones_17 : decode prog_11_method_39_code 17 = .ok (.istore_n 1, 1) := by decide +kernel
theorem d_MO_ones_18 : decode prog_11_method_39_code 18 = .ok (.iinc 2 1, 3) := by decide +kernel
theorem d_MO_ones_21 : decode prog_11_method_39_code 21 = .ok (.goto (-17), 3) := by decide +kernel
theorem d_MO_ones_24 : decode prog_11_method_39_code 24 = .ok (.iload_n 1, 1) := by decide +kernel
theorem d_MO_ones_25 : decode prog_11_method_39_code 25 = .ok (.ireturn, 1) := by decide +kernel
theorem d_MO_member_0 : decode prog_11_method_40_code 0 = .ok (.iload_n 1, 1) := by decide +kernel
theorem d_MO_member_1 : decode prog_11_method_40_code 1 = .ok (.istore_n 2, 1) := by decide +kernel
theorem d_MO_member_2 : decode prog_11_method_40_code 2 = .ok (.iconst 0, 1) := by decide +kernel
theorem d_MO_member_3 : decode prog_11_method_40_code 3 = .ok (.istore_n 3, 1) := by decide +kernel
theorem d_MO_member_4 : decode prog_11_method_40_code 4 = .ok (.iload_n 0, 1) := by decide +kernel
theorem d_MO_member_5 : decode prog_11_method_40_code 5 = .ok (.iload_n 3, 1) := by decide +kernel
theorem d_MO_member_6 : decode prog_11_method_40_code 6 = .ok (.ishr, 1) := by decide +kernel
theorem d_MO_member_7 : decode prog_11_method_40_code 7 = .ok (.iconst 1, 1) := by decide +kernel
theorem d_MO_member_8 : decode prog_11_method_40_code 8 = .ok (.iand, 1) := by decide +kernel
theorem d_MO_member_9 : decode prog_11_method_40_code 9 = .ok (.ifCond .eq 7, 3) := by decide +kernel
theorem d_MO_member_12 : decode prog_11_method_40_code 12 = .ok (.iload_n 2, 1) := by decide +kernel
theorem d_MO_member_13 : decode prog_11_method_40_code 13 = .ok (.ifCond .le 17, 3) := by decide +kernel
theorem d_MO_member_16 : decode prog_11_method_40_code 16 = .ok (.iload_n 2, 1) := by decide +kernel
theorem d_MO_member_17 : decode prog_11_method_40_code 17 = .ok (.iload_n 0, 1) := by decide +kernel
theorem d_MO_member_18 : decode prog_11_method_40_code 18 = .ok (.iload_n 3, 1) := by decide +kernel
theorem d_MO_member_19 : decode prog_11_method_40_code 19 = .ok (.ishr, 1) := by decide +kernel
theorem d_MO_member_20 : decode prog_11_method_40_code 20 = .ok (.iconst 1, 1) := by decide +kernel
theorem d_MO_member_21 : decode prog_11_method_40_code 21 = .ok (.iand, 1) := by decide +kernel
theorem d_MO_member_22 : decode prog_11_method_40_code 22 = .ok (.isub, 1) := by decide +kernel
theorem d_MO_member_23 : decode prog_11_method_40_code 23 = .ok (.istore_n 2, 1) := by decide +kernel
theorem d_MO_member_24 : decode prog_11_method_40_code 24 = .ok (.iinc 3 1, 3) := by decide +kernel
theorem d_MO_member_27 : decode prog_11_method_40_code 27 = .ok (.goto (-23), 3) := by decide +kernel
theorem d_MO_member_30 : decode prog_11_method_40_code 30 = .ok (.iload_n 3, 1) := by decide +kernel
theorem d_MO_member_31 : decode prog_11_method_40_code 31 = .ok (.ireturn, 1) := by decide +kernel
theorem d_MO_layPhases_0 : decode prog_11_method_41_code 0 = .ok (.aload_n 0, 1) := by decide +kernel
theorem d_MO_layPhases_1 : decode prog_11_method_41_code 1 = .ok (.iload_n 1, 1) := by decide +kernel
theorem d_MO_layPhases_2 : decode prog_11_method_41_code 2 = .ok (.invokevirtual 160, 3) := by decide +kernel
theorem d_MO_layPhases_5 : decode prog_11_method_41_code 5 = .ok (.istore_n 2, 1) := by decide +kernel
theorem d_MO_layPhases_6 : decode prog_11_method_41_code 6 = .ok (.iload_n 2, 1) := by decide +kernel
theorem d_MO_layPhases_7 : decode prog_11_method_41_code 7 = .ok (.invokestatic 169, 3) := by decide +kernel
theorem d_MO_layPhases_10 : decode prog_11_method_41_code 10 = .ok (.istore_n 3, 1) := by decide +kernel
theorem d_MO_layPhases_11 : decode prog_11_method_41_code 11 = .ok (.iconst 1, 1) := by decide +kernel
theorem d_MO_layPhases_12 : decode prog_11_method_41_code 12 = .ok (.istore 4, 2) := by decide +kernel
theorem d_MO_layPhases_14 : decode prog_11_method_41_code 14 = .ok (.iconst 0, 1) := by decide +kernel
theorem d_MO_layPhases_15 : decode prog_11_method_41_code 15 = .ok (.istore 5, 2) := by decide +kernel
theorem d_MO_layPhases_17 : decode prog_11_method_41_code 17 = .ok (.iload 5, 2) := by decide +kernel
theorem d_MO_layPhases_19 : decode prog_11_method_41_code 19 = .ok (.aload_n 0, 1) := by decide +kernel
theorem d_MO_layPhases_20 : decode prog_11_method_41_code 20 = .ok (.getfield 123, 3) := by decide +kernel
theorem d_MO_layPhases_23 : decode prog_11_method_41_code 23 = .ok (.if_icmp .ge 57, 3) := by decide +kernel
theorem d_MO_layPhases_26 : decode prog_11_method_41_code 26 = .ok (.aload_n 0, 1) := by decide +kernel
theorem d_MO_layPhases_27 : decode prog_11_method_41_code 27 = .ok (.getfield 37, 3) := by decide +kernel
theorem d_MO_layPhases_30 : decode prog_11_method_41_code 30 = .ok (.iload 5, 2) := by decide +kernel
theorem d_MO_layPhases_32 : decode prog_11_method_41_code 32 = .ok (.aload_n 0, 1) := by decide +kernel
theorem d_MO_layPhases_33 : decode prog_11_method_41_code 33 = .ok (.getfield 22, 3) := by decide +kernel
theorem d_MO_layPhases_36 : decode prog_11_method_41_code 36 = .ok (.iconst 5, 1) := by decide +kernel
theorem d_MO_layPhases_37 : decode prog_11_method_41_code 37 = .ok (.iload 5, 2) := by decide +kernel
theorem d_MO_layPhases_39 : decode prog_11_method_41_code 39 = .ok (.imul, 1) := by decide +kernel
theorem d_MO_layPhases_40 : decode prog_11_method_41_code 40 = .ok (.iconst 3, 1) := by decide +kernel
theorem d_MO_layPhases_41 : decode prog_11_method_41_code 41 = .ok (.iadd, 1) := by decide +kernel
theorem d_MO_layPhases_42 : decode prog_11_method_41_code 42 = .ok (.iaload, 1) := by decide +kernel
theorem d_MO_layPhases_43 : decode prog_11_method_41_code 43 = .ok (.iastore, 1) := by decide +kernel
theorem d_MO_layPhases_44 : decode prog_11_method_41_code 44 = .ok (.iload 4, 2) := by decide +kernel
theorem d_MO_layPhases_46 : decode prog_11_method_41_code 46 = .ok (.iload_n 2, 1) := by decide +kernel
theorem d_MO_layPhases_47 : decode prog_11_method_41_code 47 = .ok (.iload 5, 2) := by decide +kernel
theorem d_MO_layPhases_49 : decode prog_11_method_41_code 49 = .ok (.ishr, 1) := by decide +kernel
theorem d_MO_layPhases_50 : decode prog_11_method_41_code 50 = .ok (.iconst 1, 1) := by decide +kernel
theorem d_MO_layPhases_51 : decode prog_11_method_41_code 51 = .ok (.iand, 1) := by decide +kernel
theorem d_MO_layPhases_52 : decode prog_11_method_41_code 52 = .ok (.iconst 1, 1) := by decide +kernel
theorem d_MO_layPhases_53 : decode prog_11_method_41_code 53 = .ok (.if_icmp .ne 17, 3) := by decide +kernel
theorem d_MO_layPhases_56 : decode prog_11_method_41_code 56 = .ok (.aload_n 0, 1) := by decide +kernel
theorem d_MO_layPhases_57 : decode prog_11_method_41_code 57 = .ok (.getfield 22, 3) := by decide +kernel
theorem d_MO_layPhases_60 : decode prog_11_method_41_code 60 = .ok (.iconst 5, 1) := by decide +kernel
theorem d_MO_layPhases_61 : decode prog_11_method_41_code 61 = .ok (.iload 5, 2) := by decide +kernel
theorem d_MO_layPhases_63 : decode prog_11_method_41_code 63 = .ok (.imul, 1) := by decide +kernel
theorem d_MO_layPhases_64 : decode prog_11_method_41_code 64 = .ok (.iaload, 1) := by decide +kernel
theorem d_MO_layPhases_65 : decode prog_11_method_41_code 65 = .ok (.iconst 1, 1) := by decide +kernel
theorem d_MO_layPhases_66 : decode prog_11_method_41_code 66 = .ok (.iadd, 1) := by decide +kernel
theorem d_MO_layPhases_67 : decode prog_11_method_41_code 67 = .ok (.goto 4, 3) := by decide +kernel
theorem d_MO_layPhases_70 : decode prog_11_method_41_code 70 = .ok (.iconst 1, 1) := by decide +kernel
theorem d_MO_layPhases_71 : decode prog_11_method_41_code 71 = .ok (.imul, 1) := by decide +kernel
theorem d_MO_layPhases_72 : decode prog_11_method_41_code 72 = .ok (.istore 4, 2) := by decide +kernel
theorem d_MO_layPhases_74 : decode prog_11_method_41_code 74 = .ok (.iinc 5 1, 3) := by decide +kernel
theorem d_MO_layPhases_77 : decode prog_11_method_41_code 77 = .ok (.goto (-60), 3) := by decide +kernel
theorem d_MO_layPhases_80 : decode prog_11_method_41_code 80 = .ok (.iconst 0, 1) := by decide +kernel
theorem d_MO_layPhases_81 : decode prog_11_method_41_code 81 = .ok (.istore 5, 2) := by decide +kernel
theorem d_MO_layPhases_83 : decode prog_11_method_41_code 83 = .ok (.iconst 0, 1) := by decide +kernel
theorem d_MO_layPhases_84 : decode prog_11_method_41_code 84 = .ok (.istore 6, 2) := by decide +kernel
theorem d_MO_layPhases_86 : decode prog_11_method_41_code 86 = .ok (.iload 6, 2) := by decide +kernel
theorem d_MO_layPhases_88 : decode prog_11_method_41_code 88 = .ok (.iload 4, 2) := by decide +kernel
theorem d_MO_layPhases_90 : decode prog_11_method_41_code 90 = .ok (.if_icmp .ge 138, 3) := by decide +kernel
theorem d_MO_layPhases_93 : decode prog_11_method_41_code 93 = .ok (.iload 6, 2) := by decide +kernel
theorem d_MO_layPhases_95 : decode prog_11_method_41_code 95 = .ok (.istore 7, 2) := by decide +kernel
theorem d_MO_layPhases_97 : decode prog_11_method_41_code 97 = .ok (.iload_n 3, 1) := by decide +kernel
theorem d_MO_layPhases_98 : decode prog_11_method_41_code 98 = .ok (.iconst 1, 1) := by decide +kernel
theorem d_MO_layPhases_99 : decode prog_11_method_41_code 99 = .ok (.isub, 1) := by decide +kernel
theorem d_MO_layPhases_100 : decode prog_11_method_41_code 100 = .ok (.istore 8, 2) := by decide +kernel
theorem d_MO_layPhases_102 : decode prog_11_method_41_code 102 = .ok (.iload 8, 2) := by decide +kernel
theorem d_MO_layPhases_104 : decode prog_11_method_41_code 104 = .ok (.ifCond .lt 58, 3) := by decide +kernel
theorem d_MO_layPhases_107 : decode prog_11_method_41_code 107 = .ok (.iload_n 2, 1) := by decide +kernel
theorem d_MO_layPhases_108 : decode prog_11_method_41_code 108 = .ok (.iload 8, 2) := by decide +kernel
theorem d_MO_layPhases_110 : decode prog_11_method_41_code 110 = .ok (.invokestatic 172, 3) := by decide +kernel
theorem d_MO_layPhases_113 : decode prog_11_method_41_code 113 = .ok (.istore 9, 2) := by decide +kernel
theorem d_MO_layPhases_115 : decode prog_11_method_41_code 115 = .ok (.aload_n 0, 1) := by decide +kernel
theorem d_MO_layPhases_116 : decode prog_11_method_41_code 116 = .ok (.getfield 22, 3) := by decide +kernel
theorem d_MO_layPhases_119 : decode prog_11_method_41_code 119 = .ok (.iconst 5, 1) := by decide +kernel
theorem d_MO_layPhases_120 : decode prog_11_method_41_code 120 = .ok (.iload 9, 2) := by decide +kernel
theorem d_MO_layPhases_122 : decode prog_11_method_41_code 122 = .ok (.imul, 1) := by decide +kernel
theorem d_MO_layPhases_123 : decode prog_11_method_41_code 123 = .ok (.iconst 3, 1) := by decide +kernel
theorem d_MO_layPhases_124 : decode prog_11_method_41_code 124 = .ok (.iadd, 1) := by decide +kernel
theorem d_MO_layPhases_125 : decode prog_11_method_41_code 125 = .ok (.iload 7, 2) := by decide +kernel
theorem d_MO_layPhases_127 : decode prog_11_method_41_code 127 = .ok (.aload_n 0, 1) := by decide +kernel
theorem d_MO_layPhases_128 : decode prog_11_method_41_code 128 = .ok (.getfield 22, 3) := by decide +kernel
theorem d_MO_layPhases_131 : decode prog_11_method_41_code 131 = .ok (.iconst 5, 1) := by decide +kernel
theorem d_MO_layPhases_132 : decode prog_11_method_41_code 132 = .ok (.iload 9, 2) := by decide +kernel
theorem d_MO_layPhases_134 : decode prog_11_method_41_code 134 = .ok (.imul, 1) := by decide +kernel
theorem d_MO_layPhases_135 : decode prog_11_method_41_code 135 = .ok (.iaload, 1) := by decide +kernel
theorem d_MO_layPhases_136 : decode prog_11_method_41_code 136 = .ok (.iconst 1, 1) := by decide +kernel
theorem d_MO_layPhases_137 : decode prog_11_method_41_code 137 = .ok (.iadd, 1) := by decide +kernel
theorem d_MO_layPhases_138 : decode prog_11_method_41_code 138 = .ok (.irem, 1) := by decide +kernel
theorem d_MO_layPhases_139 : decode prog_11_method_41_code 139 = .ok (.iastore, 1) := by decide +kernel
theorem d_MO_layPhases_140 : decode prog_11_method_41_code 140 = .ok (.iload 7, 2) := by decide +kernel
theorem d_MO_layPhases_142 : decode prog_11_method_41_code 142 = .ok (.aload_n 0, 1) := by decide +kernel
theorem d_MO_layPhases_143 : decode prog_11_method_41_code 143 = .ok (.getfield 22, 3) := by decide +kernel
theorem d_MO_layPhases_146 : decode prog_11_method_41_code 146 = .ok (.iconst 5, 1) := by decide +kernel
theorem d_MO_layPhases_147 : decode prog_11_method_41_code 147 = .ok (.iload 9, 2) := by decide +kernel
theorem d_MO_layPhases_149 : decode prog_11_method_41_code 149 = .ok (.imul, 1) := by decide +kernel
theorem d_MO_layPhases_150 : decode prog_11_method_41_code 150 = .ok (.iaload, 1) := by decide +kernel
theorem d_MO_layPhases_151 : decode prog_11_method_41_code 151 = .ok (.iconst 1, 1) := by decide +kernel
theorem d_MO_layPhases_152 : decode prog_11_method_41_code 152 = .ok (.iadd, 1) := by decide +kernel
theorem d_MO_layPhases_153 : decode prog_11_method_41_code 153 = .ok (.idiv, 1) := by decide +kernel
theorem d_MO_layPhases_154 : decode prog_11_method_41_code 154 = .ok (.istore 7, 2) := by decide +kernel
theorem d_MO_layPhases_156 : decode prog_11_method_41_code 156 = .ok (.iinc 8 (-1), 3) := by decide +kernel
theorem d_MO_layPhases_159 : decode prog_11_method_41_code 159 = .ok (.goto (-57), 3) := by decide +kernel
theorem d_MO_layPhases_162 : decode prog_11_method_41_code 162 = .ok (.aload_n 0, 1) := by decide +kernel
theorem d_MO_layPhases_163 : decode prog_11_method_41_code 163 = .ok (.iload_n 1, 1) := by decide +kernel
theorem d_MO_layPhases_164 : decode prog_11_method_41_code 164 = .ok (.iload_n 2, 1) := by decide +kernel
theorem d_MO_layPhases_165 : decode prog_11_method_41_code 165 = .ok (.invokevirtual 163, 3) := by decide +kernel
theorem d_MO_layPhases_168 : decode prog_11_method_41_code 168 = .ok (.istore 8, 2) := by decide +kernel
theorem d_MO_layPhases_170 : decode prog_11_method_41_code 170 = .ok (.iload 6, 2) := by decide +kernel
theorem d_MO_layPhases_172 : decode prog_11_method_41_code 172 = .ok (.ifCond .eq 10, 3) := by decide +kernel
theorem d_MO_layPhases_175 : decode prog_11_method_41_code 175 = .ok (.iload 8, 2) := by decide +kernel
theorem d_MO_layPhases_177 : decode prog_11_method_41_code 177 = .ok (.iload 5, 2) := by decide +kernel
theorem d_MO_layPhases_179 : decode prog_11_method_41_code 179 = .ok (.if_icmp .ge 43, 3) := by decide +kernel
theorem d_MO_layPhases_182 : decode prog_11_method_41_code 182 = .ok (.iload 8, 2) := by decide +kernel
theorem d_MO_layPhases_184 : decode prog_11_method_41_code 184 = .ok (.istore 5, 2) := by decide +kernel
theorem d_MO_layPhases_186 : decode prog_11_method_41_code 186 = .ok (.iconst 0, 1) := by decide +kernel
theorem d_MO_layPhases_187 : decode prog_11_method_41_code 187 = .ok (.istore 9, 2) := by decide +kernel
theorem d_MO_layPhases_189 : decode prog_11_method_41_code 189 = .ok (.iload 9, 2) := by decide +kernel
theorem d_MO_layPhases_191 : decode prog_11_method_41_code 191 = .ok (.aload_n 0, 1) := by decide +kernel
theorem d_MO_layPhases_192 : decode prog_11_method_41_code 192 = .ok (.getfield 123, 3) := by decide +kernel
theorem d_MO_layPhases_195 : decode prog_11_method_41_code 195 = .ok (.if_icmp .ge 27, 3) := by decide +kernel
theorem d_MO_layPhases_198 : decode prog_11_method_41_code 198 = .ok (.aload_n 0, 1) := by decide +kernel
theorem d_MO_layPhases_199 : decode prog_11_method_41_code 199 = .ok (.getfield 40, 3) := by decide +kernel
theorem d_MO_layPhases_202 : decode prog_11_method_41_code 202 = .ok (.iload 9, 2) := by decide +kernel
theorem d_MO_layPhases_204 : decode prog_11_method_41_code 204 = .ok (.aload_n 0, 1) := by decide +kernel
theorem d_MO_layPhases_205 : decode prog_11_method_41_code 205 = .ok (.getfield 22, 3) := by decide +kernel
theorem d_MO_layPhases_208 : decode prog_11_method_41_code 208 = .ok (.iconst 5, 1) := by decide +kernel
theorem d_MO_layPhases_209 : decode prog_11_method_41_code 209 = .ok (.iload 9, 2) := by decide +kernel
theorem d_MO_layPhases_211 : decode prog_11_method_41_code 211 = .ok (.imul, 1) := by decide +kernel
theorem d_MO_layPhases_212 : decode prog_11_method_41_code 212 = .ok (.iconst 3, 1) := by decide +kernel
theorem d_MO_layPhases_213 : decode prog_11_method_41_code 213 = .ok (.iadd, 1) := by decide +kernel
theorem d_MO_layPhases_214 : decode prog_11_method_41_code 214 = .ok (.iaload, 1) := by decide +kernel
theorem d_MO_layPhases_215 : decode prog_11_method_41_code 215 = .ok (.iastore, 1) := by decide +kernel
theorem d_MO_layPhases_216 : decode prog_11_method_41_code 216 = .ok (.iinc 9 1, 3) := by decide +kernel
theorem d_MO_layPhases_219 : decode prog_11_method_41_code 219 = .ok (.goto (-30), 3) := by decide +kernel
theorem d_MO_layPhases_222 : decode prog_11_method_41_code 222 = .ok (.iinc 6 1, 3) := by decide +kernel
theorem d_MO_layPhases_225 : decode prog_11_method_41_code 225 = .ok (.goto (-139), 3) := by decide +kernel
theorem d_MO_layPhases_228 : decode prog_11_method_41_code 228 = .ok (.iconst 0, 1) := by decide +kernel
theorem d_MO_layPhases_229 : decode prog_11_method_41_code 229 = .ok (.istore 6, 2) := by decide +kernel
theorem d_MO_layPhases_231 : decode prog_11_method_41_code 231 = .ok (.iload 6, 2) := by decide +kernel
theorem d_MO_layPhases_233 : decode prog_11_method_41_code 233 = .ok (.aload_n 0, 1) := by decide +kernel
theorem d_MO_layPhases_234 : decode prog_11_method_41_code 234 = .ok (.getfield 123, 3) := by decide +kernel
theorem d_MO_layPhases_237 : decode prog_11_method_41_code 237 = .ok (.if_icmp .ge 27, 3) := by decide +kernel
theorem d_MO_layPhases_240 : decode prog_11_method_41_code 240 = .ok (.aload_n 0, 1) := by decide +kernel
theorem d_MO_layPhases_241 : decode prog_11_method_41_code 241 = .ok (.getfield 22, 3) := by decide +kernel
theorem d_MO_layPhases_244 : decode prog_11_method_41_code 244 = .ok (.iconst 5, 1) := by decide +kernel
theorem d_MO_layPhases_245 : decode prog_11_method_41_code 245 = .ok (.iload 6, 2) := by decide +kernel
theorem d_MO_layPhases_247 : decode prog_11_method_41_code 247 = .ok (.imul, 1) := by decide +kernel
theorem d_MO_layPhases_248 : decode prog_11_method_41_code 248 = .ok (.iconst 3, 1) := by decide +kernel
theorem d_MO_layPhases_249 : decode prog_11_method_41_code 249 = .ok (.iadd, 1) := by decide +kernel
theorem d_MO_layPhases_250 : decode prog_11_method_41_code 250 = .ok (.aload_n 0, 1) := by decide +kernel
theorem d_MO_layPhases_251 : decode prog_11_method_41_code 251 = .ok (.getfield 37, 3) := by decide +kernel
theorem d_MO_layPhases_254 : decode prog_11_method_41_code 254 = .ok (.iload 6, 2) := by decide +kernel
theorem d_MO_layPhases_256 : decode prog_11_method_41_code 256 = .ok (.iaload, 1) := by decide +kernel
theorem d_MO_layPhases_257 : decode prog_11_method_41_code 257 = .ok (.iastore, 1) := by decide +kernel
theorem d_MO_layPhases_258 : decode prog_11_method_41_code 258 = .ok (.iinc 6 1, 3) := by decide +kernel
theorem d_MO_layPhases_261 : decode prog_11_method_41_code 261 = .ok (.goto (-30), 3) := by decide +kernel
theorem d_MO_layPhases_264 : decode prog_11_method_41_code 264 = .ok (.iload 5, 2) := by decide +kernel
theorem d_MO_layPhases_266 : decode prog_11_method_41_code 266 = .ok (.ireturn, 1) := by decide +kernel
theorem d_MO_phases_0 : decode prog_11_method_42_code 0 = .ok (.aload_n 0, 1) := by decide +kernel
theorem d_MO_phases_1 : decode prog_11_method_42_code 1 = .ok (.iload_n 1, 1) := by decide +kernel
theorem d_MO_phases_2 : decode prog_11_method_42_code 2 = .ok (.invokevirtual 135, 3) := by decide +kernel
theorem d_MO_phases_5 : decode prog_11_method_42_code 5 = .ok (.ifCond .ne 5, 3) := by decide +kernel
theorem d_MO_phases_8 : decode prog_11_method_42_code 8 = .ok (.iconst (-1), 1) := by decide +kernel
theorem d_MO_phases_9 : decode prog_11_method_42_code 9 = .ok (.ireturn, 1) := by decide +kernel
theorem d_MO_phases_10 : decode prog_11_method_42_code 10 = .ok (.aload_n 0, 1) := by decide +kernel
theorem d_MO_phases_11 : decode prog_11_method_42_code 11 = .ok (.iload_n 1, 1) := by decide +kernel
theorem d_MO_phases_12 : decode prog_11_method_42_code 12 = .ok (.invokevirtual 160, 3) := by decide +kernel
theorem d_MO_phases_15 : decode prog_11_method_42_code 15 = .ok (.invokestatic 169, 3) := by decide +kernel
theorem d_MO_phases_18 : decode prog_11_method_42_code 18 = .ok (.iconst 4, 1) := by decide +kernel
theorem d_MO_phases_19 : decode prog_11_method_42_code 19 = .ok (.if_icmp .le 8, 3) := by decide +kernel
theorem d_MO_phases_22 : decode prog_11_method_42_code 22 = .ok (.bipush (-3), 2) := by decide +kernel
theorem d_MO_phases_24 : decode prog_11_method_42_code 24 = .ok (.goto 8, 3) := by decide +kernel
theorem d_MO_phases_27 : decode prog_11_method_42_code 27 = .ok (.aload_n 0, 1) := by decide +kernel
theorem d_MO_phases_28 : decode prog_11_method_42_code 28 = .ok (.iload_n 1, 1) := by decide +kernel
theorem d_MO_phases_29 : decode prog_11_method_42_code 29 = .ok (.invokevirtual 175, 3) := by decide +kernel
theorem d_MO_phases_32 : decode prog_11_method_42_code 32 = .ok (.ireturn, 1) := by decide +kernel
theorem d_MO_phaseAt_0 : decode prog_11_method_43_code 0 = .ok (.aload_n 0, 1) := by decide +kernel
theorem d_MO_phaseAt_1 : decode prog_11_method_43_code 1 = .ok (.iload_n 1, 1) := by decide +kernel
theorem d_MO_phaseAt_2 : decode prog_11_method_43_code 2 = .ok (.invokevirtual 135, 3) := by decide +kernel
theorem d_MO_phaseAt_5 : decode prog_11_method_43_code 5 = .ok (.ifCond .ne 5, 3) := by decide +kernel
theorem d_MO_phaseAt_8 : decode prog_11_method_43_code 8 = .ok (.iconst (-1), 1) := by decide +kernel
theorem d_MO_phaseAt_9 : decode prog_11_method_43_code 9 = .ok (.ireturn, 1) := by decide +kernel
theorem d_MO_phaseAt_10 : decode prog_11_method_43_code 10 = .ok (.aload_n 0, 1) := by decide +kernel
theorem d_MO_phaseAt_11 : decode prog_11_method_43_code 11 = .ok (.iload_n 1, 1) := by decide +kernel
theorem d_MO_phaseAt_12 : decode prog_11_method_43_code 12 = .ok (.invokevirtual 160, 3) := by decide +kernel
theorem d_MO_phaseAt_15 : decode prog_11_method_43_code 15 = .ok (.istore_n 3, 1) := by decide +kernel
theorem d_MO_phaseAt_16 : decode prog_11_method_43_code 16 = .ok (.iload_n 3, 1) := by decide +kernel
theorem d_MO_phaseAt_17 : decode prog_11_method_43_code 17 = .ok (.invokestatic 169, 3) := by decide +kernel
theorem d_MO_phaseAt_20 : decode prog_11_method_43_code 20 = .ok (.iconst 4, 1) := by decide +kernel
theorem d_MO_phaseAt_21 : decode prog_11_method_43_code 21 = .ok (.if_icmp .le 6, 3) := by decide +kernel
theorem d_MO_phaseAt_24 : decode prog_11_method_43_code 24 = .ok (.bipush (-3), 2) := by decide +kernel
theorem d_MO_phaseAt_26 : decode prog_11_method_43_code 26 = .ok (.ireturn, 1) := by decide +kernel
theorem d_MO_phaseAt_27 : decode prog_11_method_43_code 27 = .ok (.aload_n 0, 1) := by decide +kernel
theorem d_MO_phaseAt_28 : decode prog_11_method_43_code 28 = .ok (.iload_n 1, 1) := by decide +kernel
theorem d_MO_phaseAt_29 : decode prog_11_method_43_code 29 = .ok (.invokevirtual 175, 3) := by decide +kernel
theorem d_MO_phaseAt_32 : decode prog_11_method_43_code 32 = .ok (.pop, 1) := by decide +kernel
theorem d_MO_phaseAt_33 : decode prog_11_method_43_code 33 = .ok (.iload_n 2, 1) := by decide +kernel
theorem d_MO_phaseAt_34 : decode prog_11_method_43_code 34 = .ok (.i2l, 1) := by decide +kernel
theorem d_MO_phaseAt_35 : decode prog_11_method_43_code 35 = .ok (.lconst 0, 1) := by decide +kernel
theorem d_MO_phaseAt_36 : decode prog_11_method_43_code 36 = .ok (.iload_n 3, 1) := by decide +kernel
theorem d_MO_phaseAt_37 : decode prog_11_method_43_code 37 = .ok (.invokestatic 169, 3) := by decide +kernel
theorem d_MO_phaseAt_40 : decode prog_11_method_43_code 40 = .ok (.iconst 1, 1) := by decide +kernel
theorem d_MO_phaseAt_41 : decode prog_11_method_43_code 41 = .ok (.isub, 1) := by decide +kernel
theorem d_MO_phaseAt_42 : decode prog_11_method_43_code 42 = .ok (.i2l, 1) := by decide +kernel
theorem d_MO_phaseAt_43 : decode prog_11_method_43_code 43 = .ok (.invokestatic 75, 3) := by decide +kernel
theorem d_MO_phaseAt_46 : decode prog_11_method_43_code 46 = .ok (.ifCond .eq 16, 3) := by decide +kernel
theorem d_MO_phaseAt_49 : decode prog_11_method_43_code 49 = .ok (.aload_n 0, 1) := by decide +kernel
theorem d_MO_phaseAt_50 : decode prog_11_method_43_code 50 = .ok (.getfield 40, 3) := by decide +kernel
theorem d_MO_phaseAt_53 : decode prog_11_method_43_code 53 = .ok (.iload_n 3, 1) := by decide +kernel
theorem d_MO_phaseAt_54 : decode prog_11_method_43_code 54 = .ok (.iload_n 2, 1) := by decide +kernel
theorem d_MO_phaseAt_55 : decode prog_11_method_43_code 55 = .ok (.invokestatic 172, 3) := by decide +kernel
theorem d_MO_phaseAt_58 : decode prog_11_method_43_code 58 = .ok (.iaload, 1) := by decide +kernel
theorem d_MO_phaseAt_59 : decode prog_11_method_43_code 59 = .ok (.goto 5, 3) := by decide +kernel
theorem d_MO_phaseAt_62 : decode prog_11_method_43_code 62 = .ok (.bipush (-9), 2) := by decide +kernel
theorem d_MO_phaseAt_64 : decode prog_11_method_43_code 64 = .ok (.ireturn, 1) := by decide +kernel
theorem d_MO_laySeats_0 : decode prog_11_method_44_code 0 = .ok (.iconst 0, 1) := by decide +kernel
theorem d_MO_laySeats_1 : decode prog_11_method_44_code 1 = .ok (.istore_n 1, 1) := by decide +kernel
theorem d_MO_laySeats_2 : decode prog_11_method_44_code 2 = .ok (.iload_n 1, 1) := by decide +kernel
theorem d_MO_laySeats_3 : decode prog_11_method_44_code 3 = .ok (.aload_n 0, 1) := by decide +kernel
theorem d_MO_laySeats_4 : decode prog_11_method_44_code 4 = .ok (.getfield 69, 3) := by decide +kernel
theorem d_MO_laySeats_7 : decode prog_11_method_44_code 7 = .ok (.if_icmp .ge 44, 3) := by decide +kernel
theorem d_MO_laySeats_10 : decode prog_11_method_44_code 10 = .ok (.iconst 0, 1) := by decide +kernel
theorem d_MO_laySeats_11 : decode prog_11_method_44_code 11 = .ok (.istore_n 2, 1) := by decide +kernel
theorem d_MO_laySeats_12 : decode prog_11_method_44_code 12 = .ok (.iload_n 2, 1) := by decide +kernel
theorem d_MO_laySeats_13 : decode prog_11_method_44_code 13 = .ok (.iconst 1, 1) := by decide +kernel
theorem d_MO_laySeats_14 : decode prog_11_method_44_code 14 = .ok (.aload_n 0, 1) := by decide +kernel
theorem d_MO_laySeats_15 : decode prog_11_method_44_code 15 = .ok (.getfield 123, 3) := by decide +kernel
theorem d_MO_laySeats_18 : decode prog_11_method_44_code 18 = .ok (.ishl, 1) := by decide +kernel
theorem d_MO_laySeats_19 : decode prog_11_method_44_code 19 = .ok (.if_icmp .ge 26, 3) := by decide +kernel
theorem d_MO_laySeats_22 : decode prog_11_method_44_code 22 = .ok (.aload_n 0, 1) := by decide +kernel
theorem d_MO_laySeats_23 : decode prog_11_method_44_code 23 = .ok (.getfield 43, 3) := by decide +kernel
theorem d_MO_laySeats_26 : decode prog_11_method_44_code 26 = .ok (.bipush 64, 2) := by decide +kernel
theorem d_MO_laySeats_28 : decode prog_11_method_44_code 28 = .ok (.iload_n 1, 1) := by decide +kernel
theorem d_MO_laySeats_29 : decode prog_11_method_44_code 29 = .ok (.imul, 1) := by decide +kernel
theorem d_MO_laySeats_30 : decode prog_11_method_44_code 30 = .ok (.iload_n 2, 1) := by decide +kernel
theorem d_MO_laySeats_31 : decode prog_11_method_44_code 31 = .ok (.iadd, 1) := by decide +kernel
theorem d_MO_laySeats_32 : decode prog_11_method_44_code 32 = .ok (.aload_n 0, 1) := by decide +kernel
theorem d_MO_laySeats_33 : decode prog_11_method_44_code 33 = .ok (.iload_n 1, 1) := by decide +kernel
theorem d_MO_laySeats_34 : decode prog_11_method_44_code 34 = .ok (.iload_n 2, 1) := by decide +kernel
theorem d_MO_laySeats_35 : decode prog_11_method_44_code 35 = .ok (.invokevirtual 163, 3) := by decide +kernel
theorem d_MO_laySeats_38 : decode prog_11_method_44_code 38 = .ok (.iastore, 1) := by decide +kernel
theorem d_MO_laySeats_39 : decode prog_11_method_44_code 39 = .ok (.iinc 2 1, 3) := by decide +kernel
theorem d_MO_laySeats_42 : decode prog_11_method_44_code 42 = .ok (.goto (-30), 3) := by decide +kernel
theorem d_MO_laySeats_45 : decode prog_11_method_44_code 45 = .ok (.iinc 1 1, 3) := by decide +kernel
theorem d_MO_laySeats_48 : decode prog_11_method_44_code 48 = .ok (.goto (-46), 3) := by decide +kernel
theorem d_MO_laySeats_51 : decode prog_11_method_44_code 51 = .ok (.iconst 1, 1) := by decide +kernel
theorem d_MO_laySeats_52 : decode prog_11_method_44_code 52 = .ok (.istore_n 1, 1) := by decide +kernel
theorem d_MO_laySeats_53 : decode prog_11_method_44_code 53 = .ok (.iconst 0, 1) := by decide +kernel
theorem d_MO_laySeats_54 : decode prog_11_method_44_code 54 = .ok (.istore_n 2, 1) := by decide +kernel
theorem d_MO_laySeats_55 : decode prog_11_method_44_code 55 = .ok (.iload_n 2, 1) := by decide +kernel
theorem d_MO_laySeats_56 : decode prog_11_method_44_code 56 = .ok (.aload_n 0, 1) := by decide +kernel
theorem d_MO_laySeats_57 : decode prog_11_method_44_code 57 = .ok (.getfield 123, 3) := by decide +kernel
theorem d_MO_laySeats_60 : decode prog_11_method_44_code 60 = .ok (.if_icmp .ge 16, 3) := by decide +kernel
theorem d_MO_laySeats_63 : decode prog_11_method_44_code 63 = .ok (.iload_n 1, 1) := by decide +kernel
theorem d_MO_laySeats_64 : decode prog_11_method_44_code 64 = .ok (.aload_n 0, 1) := by decide +kernel
theorem d_MO_laySeats_65 : decode prog_11_method_44_code 65 = .ok (.getfield 69, 3) := by decide +kernel
theorem d_MO_laySeats_68 : decode prog_11_method_44_code 68 = .ok (.imul, 1) := by decide +kernel
theorem d_MO_laySeats_69 : decode prog_11_method_44_code 69 = .ok (.istore_n 1, 1) := by decide +kernel
theorem d_MO_laySeats_70 : decode prog_11_method_44_code 70 = .ok (.iinc 2 1, 3) := by decide +kernel
theorem d_MO_laySeats_73 : decode prog_11_method_44_code 73 = .ok (.goto (-18), 3) := by decide +kernel
theorem d_MO_laySeats_76 : decode prog_11_method_44_code 76 = .ok (.iconst 0, 1) := by decide +kernel
theorem d_MO_laySeats_77 : decode prog_11_method_44_code 77 = .ok (.istore_n 2, 1) := by decide +kernel
theorem d_MO_laySeats_78 : decode prog_11_method_44_code 78 = .ok (.iconst 0, 1) := by decide +kernel
theorem d_MO_laySeats_79 : decode prog_11_method_44_code 79 = .ok (.istore_n 3, 1) := by decide +kernel
theorem d_MO_laySeats_80 : decode prog_11_method_44_code 80 = .ok (.iconst 0, 1) := by decide +kernel
theorem d_MO_laySeats_81 : decode prog_11_method_44_code 81 = .ok (.istore 4, 2) := by decide +kernel
theorem d_MO_laySeats_83 : decode prog_11_method_44_code 83 = .ok (.iload 4, 2) := by decide +kernel
theorem d_MO_laySeats_85 : decode prog_11_method_44_code 85 = .ok (.iload_n 1, 1) := by decide +kernel
theorem d_MO_laySeats_86 : decode prog_11_method_44_code 86 = .ok (.if_icmp .ge 166, 3) := by decide +kernel
theorem d_MO_laySeats_89 : decode prog_11_method_44_code 89 = .ok (.iconst 0, 1) := by decide +kernel
theorem d_MO_laySeats_90 : decode prog_11_method_44_code 90 = .ok (.istore 5, 2) := by decide +kernel
theorem d_MO_laySeats_92 : decode prog_11_method_44_code 92 = .ok (.iload 5, 2) := by decide +kernel
theorem d_MO_laySeats_94 : decode prog_11_method_44_code 94 = .ok (.aload_n 0, 1) := by decide +kernel
theorem d_MO_laySeats_95 : decode prog_11_method_44_code 95 = .ok (.getfield 69, 3) := by decide +kernel
theorem d_MO_laySeats_98 : decode prog_11_method_44_code 98 = .ok (.if_icmp .ge 17, 3) := by decide +kernel
theorem d_MO_laySeats_101 : decode prog_11_method_44_code 101 = .ok (.aload_n 0, 1) := by decide +kernel
theorem d_MO_laySeats_102 : decode prog_11_method_44_code 102 = .ok (.getfield 49, 3) := by decide +kernel
theorem d_MO_laySeats_105 : decode prog_11_method_44_code 105 = .ok (.iload 5, 2) := by decide +kernel
theorem d_MO_laySeats_107 : decode prog_11_method_44_code 107 = .ok (.iconst 0, 1) := by decide +kernel
theorem d_MO_laySeats_108 : decode prog_11_method_44_code 108 = .ok (.iastore, 1) := by decide +kernel
theorem d_MO_laySeats_109 : decode prog_11_method_44_code 109 = .ok (.iinc 5 1, 3) := by decide +kernel
theorem d_MO_laySeats_112 : decode prog_11_method_44_code 112 = .ok (.goto (-20), 3) := by decide +kernel
theorem d_MO_laySeats_115 : decode prog_11_method_44_code 115 = .ok (.iload 4, 2) := by decide +kernel
theorem d_MO_laySeats_117 : decode prog_11_method_44_code 117 = .ok (.istore 5, 2) := by decide +kernel
theorem d_MO_laySeats_119 : decode prog_11_method_44_code 119 = .ok (.aload_n 0, 1) := by decide +kernel
theorem d_MO_laySeats_120 : decode prog_11_method_44_code 120 = .ok (.getfield 123, 3) := by decide +kernel
theorem d_MO_laySeats_123 : decode prog_11_method_44_code 123 = .ok (.iconst 1, 1) := by decide +kernel
theorem d_MO_laySeats_124 : decode prog_11_method_44_code 124 = .ok (.isub, 1) := by decide +kernel
theorem d_MO_laySeats_125 : decode prog_11_method_44_code 125 = .ok (.istore 6, 2) := by decide +kernel
theorem d_MO_laySeats_127 : decode prog_11_method_44_code 127 = .ok (.iload 6, 2) := by decide +kernel
theorem d_MO_laySeats_129 : decode prog_11_method_44_code 129 = .ok (.ifCond .lt 37, 3) := by decide +kernel
theorem d_MO_laySeats_132 : decode prog_11_method_44_code 132 = .ok (.aload_n 0, 1) := by decide +kernel
theorem d_MO_laySeats_133 : decode prog_11_method_44_code 133 = .ok (.getfield 49, 3) := by decide +kernel
theorem d_MO_laySeats_136 : decode prog_11_method_44_code 136 = .ok (.iload 5, 2) := by decide +kernel
theorem d_MO_laySeats_138 : decode prog_11_method_44_code 138 = .ok (.aload_n 0, 1) := by decide +kernel
theorem d_MO_laySeats_139 : decode prog_11_method_44_code 139 = .ok (.getfield 69, 3) := by decide +kernel
theorem d_MO_laySeats_142 : decode prog_11_method_44_code 142 = .ok (.irem, 1) := by decide +kernel
theorem d_MO_laySeats_143 : decode prog_11_method_44_code 143 = .ok (.dup2, 1) := by decide +kernel
theorem d_MO_laySeats_144 : decode prog_11_method_44_code 144 = .ok (.iaload, 1) := by decide +kernel
theorem d_MO_laySeats_145 : decode prog_11_method_44_code 145 = .ok (.iconst 1, 1) := by decide +kernel
theorem d_MO_laySeats_146 : decode prog_11_method_44_code 146 = .ok (.iload 6, 2) := by decide +kernel
theorem d_MO_laySeats_148 : decode prog_11_method_44_code 148 = .ok (.ishl, 1) := by decide +kernel
theorem d_MO_laySeats_149 : decode prog_11_method_44_code 149 = .ok (.ior, 1) := by decide +kernel
theorem d_MO_laySeats_150 : decode prog_11_method_44_code 150 = .ok (.iastore, 1) := by decide +kernel
theorem d_MO_laySeats_151 : decode prog_11_method_44_code 151 = .ok (.iload 5, 2) := by decide +kernel
theorem d_MO_laySeats_153 : decode prog_11_method_44_code 153 = .ok (.aload_n 0, 1) := by decide +kernel
theorem d_MO_laySeats_154 : decode prog_11_method_44_code 154 = .ok (.getfield 69, 3) := by decide +kernel
theorem d_MO_laySeats_157 : decode prog_11_method_44_code 157 = .ok (.idiv, 1) := by decide +kernel
theorem d_MO_laySeats_158 : decode prog_11_method_44_code 158 = .ok (.istore 5, 2) := by decide +kernel
theorem d_MO_laySeats_160 : decode prog_11_method_44_code 160 = .ok (.iinc 6 (-1), 3) := by decide +kernel
theorem d_MO_laySeats_163 : decode prog_11_method_44_code 163 = .ok (.goto (-36), 3) := by decide +kernel
theorem d_MO_laySeats_166 : decode prog_11_method_44_code 166 = .ok (.iconst 0, 1) := by decide +kernel
theorem d_MO_laySeats_167 : decode prog_11_method_44_code 167 = .ok (.istore 6, 2) := by decide +kernel
theorem d_MO_laySeats_169 : decode prog_11_method_44_code 169 = .ok (.iconst 0, 1) := by decide +kernel
theorem d_MO_laySeats_170 : decode prog_11_method_44_code 170 = .ok (.istore 7, 2) := by decide +kernel
theorem d_MO_laySeats_172 : decode prog_11_method_44_code 172 = .ok (.iload 7, 2) := by decide +kernel
theorem d_MO_laySeats_174 : decode prog_11_method_44_code 174 = .ok (.aload_n 0, 1) := by decide +kernel
theorem d_MO_laySeats_175 : decode prog_11_method_44_code 175 = .ok (.getfield 69, 3) := by decide +kernel
theorem d_MO_laySeats_178 : decode prog_11_method_44_code 178 = .ok (.if_icmp .ge 32, 3) := by decide +kernel
theorem d_MO_laySeats_181 : decode prog_11_method_44_code 181 = .ok (.iload 6, 2) := by decide +kernel
theorem d_MO_laySeats_183 : decode prog_11_method_44_code 183 = .ok (.aload_n 0, 1) := by decide +kernel
theorem d_MO_laySeats_184 : decode prog_11_method_44_code 184 = .ok (.getfield 43, 3) := by decide +kernel
theorem d_MO_laySeats_187 : decode prog_11_method_44_code 187 = .ok (.bipush 64, 2) := by decide +kernel
theorem d_MO_laySeats_189 : decode prog_11_method_44_code 189 = .ok (.iload 7, 2) := by decide +kernel
theorem d_MO_laySeats_191 : decode prog_11_method_44_code 191 = .ok (.imul, 1) := by decide +kernel
theorem d_MO_laySeats_192 : decode prog_11_method_44_code 192 = .ok (.aload_n 0, 1) := by decide +kernel
theorem d_MO_laySeats_193 : decode prog_11_method_44_code 193 = .ok (.getfield 49, 3) := by decide +kernel
theorem d_MO_laySeats_196 : decode prog_11_method_44_code 196 = .ok (.iload 7, 2) := by decide +kernel
theorem d_MO_laySeats_198 : decode prog_11_method_44_code 198 = .ok (.iaload, 1) := by decide +kernel
theorem d_MO_laySeats_199 : decode prog_11_method_44_code 199 = .ok (.iadd, 1) := by decide +kernel
theorem d_MO_laySeats_200 : decode prog_11_method_44_code 200 = .ok (.iaload, 1) := by decide +kernel
theorem d_MO_laySeats_201 : decode prog_11_method_44_code 201 = .ok (.iadd, 1) := by decide +kernel
theorem d_MO_laySeats_202 : decode prog_11_method_44_code 202 = .ok (.istore 6, 2) := by decide +kernel
theorem d_MO_laySeats_204 : decode prog_11_method_44_code 204 = .ok (.iinc 7 1, 3) := by decide +kernel
theorem d_MO_laySeats_207 : decode prog_11_method_44_code 207 = .ok (.goto (-35), 3) := by decide +kernel
theorem d_MO_laySeats_210 : decode prog_11_method_44_code 210 = .ok (.iload 4, 2) := by decide +kernel
theorem d_MO_laySeats_212 : decode prog_11_method_44_code 212 = .ok (.ifCond .eq 9, 3) := by decide +kernel
theorem d_MO_laySeats_215 : decode prog_11_method_44_code 215 = .ok (.iload 6, 2) := by decide +kernel
theorem d_MO_laySeats_217 : decode prog_11_method_44_code 217 = .ok (.iload_n 2, 1) := by decide +kernel
theorem d_MO_laySeats_218 : decode prog_11_method_44_code 218 = .ok (.if_icmp .ge 8, 3) := by decide +kernel
theorem d_MO_laySeats_221 : decode prog_11_method_44_code 221 = .ok (.iload 4, 2) := by decide +kernel
theorem d_MO_laySeats_223 : decode prog_11_method_44_code 223 = .ok (.goto 4, 3) := by decide +kernel
theorem d_MO_laySeats_226 : decode prog_11_method_44_code 226 = .ok (.iload_n 3, 1) := by decide +kernel
theorem d_MO_laySeats_227 : decode prog_11_method_44_code 227 = .ok (.istore_n 3, 1) := by decide +kernel
theorem d_MO_laySeats_228 : decode prog_11_method_44_code 228 = .ok (.iload 4, 2) := by decide +kernel
theorem d_MO_laySeats_230 : decode prog_11_method_44_code 230 = .ok (.ifCond .eq 9, 3) := by decide +kernel
theorem d_MO_laySeats_233 : decode prog_11_method_44_code 233 = .ok (.iload 6, 2) := by decide +kernel
theorem d_MO_laySeats_235 : decode prog_11_method_44_code 235 = .ok (.iload_n 2, 1) := by decide +kernel
theorem d_MO_laySeats_236 : decode prog_11_method_44_code 236 = .ok (.if_icmp .ge 8, 3) := by decide +kernel
theorem d_MO_laySeats_239 : decode prog_11_method_44_code 239 = .ok (.iload 6, 2) := by decide +kernel
theorem d_MO_laySeats_241 : decode prog_11_method_44_code 241 = .ok (.goto 4, 3) := by decide +kernel
theorem d_MO_laySeats_244 : decode prog_11_method_44_code 244 = .ok (.iload_n 2, 1) := by decide +kernel
theorem d_MO_laySeats_245 : decode prog_11_method_44_code 245 = .ok (.istore_n 2, 1) := by decide +kernel
theorem d_MO_laySeats_246 : decode prog_11_method_44_code 246 = .ok (.iinc 4 1, 3) := by decide +kernel
theorem d_MO_laySeats_249 : decode prog_11_method_44_code 249 = .ok (.goto (-166), 3) := by decide +kernel
theorem d_MO_laySeats_252 : decode prog_11_method_44_code 252 = .ok (.aload_n 0, 1) := by decide +kernel
theorem d_MO_laySeats_253 : decode prog_11_method_44_code 253 = .ok (.getfield 123, 3) := by decide +kernel
theorem d_MO_laySeats_256 : decode prog_11_method_44_code 256 = .ok (.iconst 1, 1) := by decide +kernel
theorem d_MO_laySeats_257 : decode prog_11_method_44_code 257 = .ok (.isub, 1) := by decide +kernel
theorem d_MO_laySeats_258 : decode prog_11_method_44_code 258 = .ok (.istore 4, 2) := by decide +kernel
theorem d_MO_laySeats_260 : decode prog_11_method_44_code 260 = .ok (.iload 4, 2) := by decide +kernel
theorem d_MO_laySeats_262 : decode prog_11_method_44_code 262 = .ok (.ifCond .lt 29, 3) := by decide +kernel
theorem d_MO_laySeats_265 : decode prog_11_method_44_code 265 = .ok (.aload_n 0, 1) := by decide +kernel
theorem d_MO_laySeats_266 : decode prog_11_method_44_code 266 = .ok (.getfield 46, 3) := by decide +kernel
theorem d_MO_laySeats_269 : decode prog_11_method_44_code 269 = .ok (.iload 4, 2) := by decide +kernel
theorem d_MO_laySeats_271 : decode prog_11_method_44_code 271 = .ok (.iload_n 3, 1) := by decide +kernel
theorem d_MO_laySeats_272 : decode prog_11_method_44_code 272 = .ok (.aload_n 0, 1) := by decide +kernel
theorem d_MO_laySeats_273 : decode prog_11_method_44_code 273 = .ok (.getfield 69, 3) := by decide +kernel
theorem d_MO_laySeats_276 : decode prog_11_method_44_code 276 = .ok (.irem, 1) := by decide +kernel
theorem d_MO_laySeats_277 : decode prog_11_method_44_code 277 = .ok (.iastore, 1) := by decide +kernel
theorem d_MO_laySeats_278 : decode prog_11_method_44_code 278 = .ok (.iload_n 3, 1) := by decide +kernel
theorem d_MO_laySeats_279 : decode prog_11_method_44_code 279 = .ok (.aload_n 0, 1) := by decide +kernel
theorem d_MO_laySeats_280 : decode prog_11_method_44_code 280 = .ok (.getfield 69, 3) := by decide +kernel
theorem d_MO_laySeats_283 : decode prog_11_method_44_code 283 = .ok (.idiv, 1) := by decide +kernel
theorem d_MO_laySeats_284 : decode prog_11_method_44_code 284 = .ok (.istore_n 3, 1) := by decide +kernel
theorem d_MO_laySeats_285 : decode prog_11_method_44_code 285 = .ok (.iinc 4 (-1), 3) := by decide +kernel
theorem d_MO_laySeats_288 : decode prog_11_method_44_code 288 = .ok (.goto (-28), 3) := by decide +kernel
theorem d_MO_laySeats_291 : decode prog_11_method_44_code 291 = .ok (.iload_n 2, 1) := by decide +kernel
theorem d_MO_laySeats_292 : decode prog_11_method_44_code 292 = .ok (.ireturn, 1) := by decide +kernel
theorem d_MO_seats_0 : decode prog_11_method_45_code 0 = .ok (.aload_n 0, 1) := by decide +kernel
theorem d_MO_seats_1 : decode prog_11_method_45_code 1 = .ok (.getfield 123, 3) := by decide +kernel
theorem d_MO_seats_4 : decode prog_11_method_45_code 4 = .ok (.bipush 6, 2) := by decide +kernel
theorem d_MO_seats_6 : decode prog_11_method_45_code 6 = .ok (.if_icmp .le 8, 3) := by decide +kernel
theorem d_MO_seats_9 : decode prog_11_method_45_code 9 = .ok (.bipush (-3), 2) := by decide +kernel
theorem d_MO_seats_11 : decode prog_11_method_45_code 11 = .ok (.goto 7, 3) := by decide +kernel
theorem d_MO_seats_14 : decode prog_11_method_45_code 14 = .ok (.aload_n 0, 1) := by decide +kernel
theorem d_MO_seats_15 : decode prog_11_method_45_code 15 = .ok (.invokevirtual 178, 3) := by decide +kernel
theorem d_MO_seats_18 : decode prog_11_method_45_code 18 = .ok (.ireturn, 1) := by decide +kernel
theorem d_MO_seatAt_0 : decode prog_11_method_46_code 0 = .ok (.aload_n 0, 1) := by decide +kernel
theorem d_MO_seatAt_1 : decode prog_11_method_46_code 1 = .ok (.iload_n 1, 1) := by decide +kernel
theorem d_MO_seatAt_2 : decode prog_11_method_46_code 2 = .ok (.invokevirtual 142, 3) := by decide +kernel
theorem d_MO_seatAt_5 : decode prog_11_method_46_code 5 = .ok (.ifCond .ne 5, 3) := by decide +kernel
theorem d_MO_seatAt_8 : decode prog_11_method_46_code 8 = .ok (.iconst (-1), 1) := by decide +kernel
theorem d_MO_seatAt_9 : decode prog_11_method_46_code 9 = .ok (.ireturn, 1) := by decide +kernel
theorem d_MO_seatAt_10 : decode prog_11_method_46_code 10 = .ok (.aload_n 0, 1) := by decide +kernel
theorem d_MO_seatAt_11 : decode prog_11_method_46_code 11 = .ok (.getfield 123, 3) := by decide +kernel
theorem d_MO_seatAt_14 : decode prog_11_method_46_code 14 = .ok (.bipush 6, 2) := by decide +kernel
theorem d_MO_seatAt_16 : decode prog_11_method_46_code 16 = .ok (.if_icmp .le 6, 3) := by decide +kernel
theorem d_MO_seatAt_19 : decode prog_11_method_46_code 19 = .ok (.bipush (-3), 2) := by decide +kernel
theorem d_MO_seatAt_21 : decode prog_11_method_46_code 21 = .ok (.ireturn, 1) := by decide +kernel
theorem d_MO_seatAt_22 : decode prog_11_method_46_code 22 = .ok (.aload_n 0, 1) := by decide +kernel
theorem d_MO_seatAt_23 : decode prog_11_method_46_code 23 = .ok (.invokevirtual 178, 3) := by decide +kernel
theorem d_MO_seatAt_26 : decode prog_11_method_46_code 26 = .ok (.pop, 1) := by decide +kernel
theorem d_MO_seatAt_27 : decode prog_11_method_46_code 27 = .ok (.aload_n 0, 1) := by decide +kernel
theorem d_MO_seatAt_28 : decode prog_11_method_46_code 28 = .ok (.getfield 46, 3) := by decide +kernel
theorem d_MO_seatAt_31 : decode prog_11_method_46_code 31 = .ok (.iload_n 1, 1) := by decide +kernel
theorem d_MO_seatAt_32 : decode prog_11_method_46_code 32 = .ok (.iaload, 1) := by decide +kernel
theorem d_MO_seatAt_33 : decode prog_11_method_46_code 33 = .ok (.ireturn, 1) := by decide +kernel
theorem d_MO_isSteady_0 : decode prog_11_method_47_code 0 = .ok (.iconst 0, 1) := by decide +kernel
theorem d_MO_isSteady_1 : decode prog_11_method_47_code 1 = .ok (.istore_n 2, 1) := by decide +kernel
theorem d_MO_isSteady_2 : decode prog_11_method_47_code 2 = .ok (.iload_n 2, 1) := by decide +kernel
theorem d_MO_isSteady_3 : decode prog_11_method_47_code 3 = .ok (.aload_n 0, 1) := by decide +kernel
theorem d_MO_isSteady_4 : decode prog_11_method_47_code 4 = .ok (.getfield 123, 3) := by decide +kernel
theorem d_MO_isSteady_7 : decode prog_11_method_47_code 7 = .ok (.if_icmp .ge 43, 3) := by decide +kernel
theorem d_MO_isSteady_10 : decode prog_11_method_47_code 10 = .ok (.aload_n 0, 1) := by decide +kernel
theorem d_MO_isSteady_11 : decode prog_11_method_47_code 11 = .ok (.getfield 22, 3) := by decide +kernel
theorem d_MO_isSteady_14 : decode prog_11_method_47_code 14 = .ok (.iconst 5, 1) := by decide +kernel
theorem d_MO_isSteady_15 : decode prog_11_method_47_code 15 = .ok (.iload_n 2, 1) := by decide +kernel
theorem d_MO_isSteady_16 : decode prog_11_method_47_code 16 = .ok (.imul, 1) := by decide +kernel
theorem d_MO_isSteady_17 : decode prog_11_method_47_code 17 = .ok (.iconst 4, 1) := by decide +kernel
theorem d_MO_isSteady_18 : decode prog_11_method_47_code 18 = .ok (.iadd, 1) := by decide +kernel
theorem d_MO_isSteady_19 : decode prog_11_method_47_code 19 = .ok (.aload_n 0, 1) := by decide +kernel
theorem d_MO_isSteady_20 : decode prog_11_method_47_code 20 = .ok (.getfield 52, 3) := by decide +kernel
theorem d_MO_isSteady_23 : decode prog_11_method_47_code 23 = .ok (.iload_n 2, 1) := by decide +kernel
theorem d_MO_isSteady_24 : decode prog_11_method_47_code 24 = .ok (.iaload, 1) := by decide +kernel
theorem d_MO_isSteady_25 : decode prog_11_method_47_code 25 = .ok (.iconst 1, 1) := by decide +kernel
theorem d_MO_isSteady_26 : decode prog_11_method_47_code 26 = .ok (.if_icmp .eq 12, 3) := by decide +kernel
theorem d_MO_isSteady_29 : decode prog_11_method_47_code 29 = .ok (.iload_n 1, 1) := by decide +kernel
theorem d_MO_isSteady_30 : decode prog_11_method_47_code 30 = .ok (.iload_n 2, 1) := by decide +kernel
theorem d_MO_isSteady_31 : decode prog_11_method_47_code 31 = .ok (.ishr, 1) := by decide +kernel
theorem d_MO_isSteady_32 : decode prog_11_method_47_code 32 = .ok (.iconst 1, 1) := by decide +kernel
theorem d_MO_isSteady_33 : decode prog_11_method_47_code 33 = .ok (.iand, 1) := by decide +kernel
theorem d_MO_isSteady_34 : decode prog_11_method_47_code 34 = .ok (.iconst 1, 1) := by decide +kernel
theorem d_MO_isSteady_35 : decode prog_11_method_47_code 35 = .ok (.if_icmp .ne 7, 3) := by decide +kernel
theorem d_MO_isSteady_38 : decode prog_11_method_47_code 38 = .ok (.iconst 1, 1) := by decide +kernel
theorem d_MO_isSteady_39 : decode prog_11_method_47_code 39 = .ok (.goto 4, 3) := by decide +kernel
theorem d_MO_isSteady_42 : decode prog_11_method_47_code 42 = .ok (.iconst 0, 1) := by decide +kernel
theorem d_MO_isSteady_43 : decode prog_11_method_47_code 43 = .ok (.iastore, 1) := by decide +kernel
theorem d_MO_isSteady_44 : decode prog_11_method_47_code 44 = .ok (.iinc 2 1, 3) := by decide +kernel
theorem d_MO_isSteady_47 : decode prog_11_method_47_code 47 = .ok (.goto (-45), 3) := by decide +kernel
theorem d_MO_isSteady_50 : decode prog_11_method_47_code 50 = .ok (.aload_n 0, 1) := by decide +kernel
theorem d_MO_isSteady_51 : decode prog_11_method_47_code 51 = .ok (.invokevirtual 166, 3) := by decide +kernel
theorem d_MO_isSteady_54 : decode prog_11_method_47_code 54 = .ok (.ifCond .ne 7, 3) := by decide +kernel
theorem d_MO_isSteady_57 : decode prog_11_method_47_code 57 = .ok (.iconst 1, 1) := by decide +kernel
theorem d_MO_isSteady_58 : decode prog_11_method_47_code 58 = .ok (.goto 4, 3) := by decide +kernel
theorem d_MO_isSteady_61 : decode prog_11_method_47_code 61 = .ok (.iconst 0, 1) := by decide +kernel
theorem d_MO_isSteady_62 : decode prog_11_method_47_code 62 = .ok (.ireturn, 1) := by decide +kernel
theorem d_MO_bribes_0 : decode prog_11_method_48_code 0 = .ok (.iconst 0, 1) := by decide +kernel
theorem d_MO_bribes_1 : decode prog_11_method_48_code 1 = .ok (.istore_n 1, 1) := by decide +kernel
theorem d_MO_bribes_2 : decode prog_11_method_48_code 2 = .ok (.iconst 0, 1) := by decide +kernel
theorem d_MO_bribes_3 : decode prog_11_method_48_code 3 = .ok (.istore_n 2, 1) := by decide +kernel
theorem d_MO_bribes_4 : decode prog_11_method_48_code 4 = .ok (.iload_n 2, 1) := by decide +kernel
theorem d_MO_bribes_5 : decode prog_11_method_48_code 5 = .ok (.aload_n 0, 1) := by decide +kernel
theorem d_MO_bribes_6 : decode prog_11_method_48_code 6 = .ok (.getfield 123, 3) := by decide +kernel
theorem d_MO_bribes_9 : decode prog_11_method_48_code 9 = .ok (.if_icmp .ge 36, 3) := by decide +kernel
theorem d_MO_bribes_12 : decode prog_11_method_48_code 12 = .ok (.aload_n 0, 1) := by decide +kernel
theorem d_MO_bribes_13 : decode prog_11_method_48_code 13 = .ok (.getfield 52, 3) := by decide +kernel
theorem d_MO_bribes_16 : decode prog_11_method_48_code 16 = .ok (.iload_n 2, 1) := by decide +kernel
theorem d_MO_bribes_17 : decode prog_11_method_48_code 17 = .ok (.aload_n 0, 1) := by decide +kernel
theorem d_MO_bribes_18 : decode prog_11_method_48_code 18 = .ok (.getfield 22, 3) := by decide +kernel
theorem d_MO_bribes_21 : decode prog_11_method_48_code 21 = .ok (.iconst 5, 1) := by decide +kernel
theorem d_MO_bribes_22 : decode prog_11_method_48_code 22 = .ok (.iload_n 2, 1) := by decide +kernel
theorem d_MO_bribes_23 : decode prog_11_method_48_code 23 = .ok (.imul, 1) := by decide +kernel
theorem d_MO_bribes_24 : decode prog_11_method_48_code 24 = .ok (.iconst 4, 1) := by decide +kernel
theorem d_MO_bribes_25 : decode prog_11_method_48_code 25 = .ok (.iadd, 1) := by decide +kernel
theorem d_MO_bribes_26 : decode prog_11_method_48_code 26 = .ok (.iaload, 1) := by decide +kernel
theorem d_MO_bribes_27 : decode prog_11_method_48_code 27 = .ok (.iastore, 1) := by decide +kernel
theorem d_MO_bribes_28 : decode prog_11_method_48_code 28 = .ok (.iload_n 1, 1) := by decide +kernel
theorem d_MO_bribes_29 : decode prog_11_method_48_code 29 = .ok (.aload_n 0, 1) := by decide +kernel
theorem d_MO_bribes_30 : decode prog_11_method_48_code 30 = .ok (.getfield 52, 3) := by decide +kernel
theorem d_MO_bribes_33 : decode prog_11_method_48_code 33 = .ok (.iload_n 2, 1) := by decide +kernel
theorem d_MO_bribes_34 : decode prog_11_method_48_code 34 = .ok (.iaload, 1) := by decide +kernel
theorem d_MO_bribes_35 : decode prog_11_method_48_code 35 = .ok (.iload_n 2, 1) := by decide +kernel
theorem d_MO_bribes_36 : decode prog_11_method_48_code 36 = .ok (.ishl, 1) := by decide +kernel
theorem d_MO_bribes_37 : decode prog_11_method_48_code 37 = .ok (.ior, 1) := by decide +kernel
theorem d_MO_bribes_38 : decode prog_11_method_48_code 38 = .ok (.istore_n 1, 1) := by decide +kernel
theorem d_MO_bribes_39 : decode prog_11_method_48_code 39 = .ok (.iinc 2 1, 3) := by decide +kernel
theorem d_MO_bribes_42 : decode prog_11_method_48_code 42 = .ok (.goto (-38), 3) := by decide +kernel
theorem d_MO_bribes_45 : decode prog_11_method_48_code 45 = .ok (.bipush (-9), 2) := by decide +kernel
theorem d_MO_bribes_47 : decode prog_11_method_48_code 47 = .ok (.istore_n 2, 1) := by decide +kernel
theorem d_MO_bribes_48 : decode prog_11_method_48_code 48 = .ok (.iconst 0, 1) := by decide +kernel
theorem d_MO_bribes_49 : decode prog_11_method_48_code 49 = .ok (.istore_n 3, 1) := by decide +kernel
theorem d_MO_bribes_50 : decode prog_11_method_48_code 50 = .ok (.iload_n 3, 1) := by decide +kernel
theorem d_MO_bribes_51 : decode prog_11_method_48_code 51 = .ok (.iconst 1, 1) := by decide +kernel
theorem d_MO_bribes_52 : decode prog_11_method_48_code 52 = .ok (.aload_n 0, 1) := by decide +kernel
theorem d_MO_bribes_53 : decode prog_11_method_48_code 53 = .ok (.getfield 123, 3) := by decide +kernel
theorem d_MO_bribes_56 : decode prog_11_method_48_code 56 = .ok (.ishl, 1) := by decide +kernel
theorem d_MO_bribes_57 : decode prog_11_method_48_code 57 = .ok (.if_icmp .ge 58, 3) := by decide +kernel
theorem d_MO_bribes_60 : decode prog_11_method_48_code 60 = .ok (.iload_n 3, 1) := by decide +kernel
theorem d_MO_bribes_61 : decode prog_11_method_48_code 61 = .ok (.iload_n 1, 1) := by decide +kernel
theorem d_MO_bribes_62 : decode prog_11_method_48_code 62 = .ok (.iand, 1) := by decide +kernel
theorem d_MO_bribes_63 : decode prog_11_method_48_code 63 = .ok (.ifCond .ne 24, 3) := by decide +kernel
theorem d_MO_bribes_66 : decode prog_11_method_48_code 66 = .ok (.iload_n 2, 1) := by decide +kernel
theorem d_MO_bribes_67 : decode prog_11_method_48_code 67 = .ok (.bipush (-9), 2) := by decide +kernel
theorem d_MO_bribes_69 : decode prog_11_method_48_code 69 = .ok (.if_icmp .eq 14, 3) := by decide +kernel
theorem d_MO_bribes_72 : decode prog_11_method_48_code 72 = .ok (.iload_n 3, 1) := by decide +kernel
theorem d_MO_bribes_73 : decode prog_11_method_48_code 73 = .ok (.invokestatic 169, 3) := by decide +kernel
theorem d_MO_bribes_76 : decode prog_11_method_48_code 76 = .ok (.iload_n 2, 1) := by decide +kernel
theorem d_MO_bribes_77 : decode prog_11_method_48_code 77 = .ok (.invokestatic 169, 3) := by decide +kernel
theorem d_MO_bribes_80 : decode prog_11_method_48_code 80 = .ok (.if_icmp .ge 7, 3) := by decide +kernel
theorem d_MO_bribes_83 : decode prog_11_method_48_code 83 = .ok (.iconst 1, 1) := by decide +kernel
theorem d_MO_bribes_84 : decode prog_11_method_48_code 84 = .ok (.goto 4, 3) := by decide +kernel
theorem d_MO_bribes_87 : decode prog_11_method_48_code 87 = .ok (.iconst 0, 1) := by decide +kernel
theorem d_MO_bribes_88 : decode prog_11_method_48_code 88 = .ok (.istore 4, 2) := by decide +kernel
theorem d_MO_bribes_90 : decode prog_11_method_48_code 90 = .ok (.iload 4, 2) := by decide +kernel
theorem d_MO_bribes_92 : decode prog_11_method_48_code 92 = .ok (.ifCond .eq 15, 3) := by decide +kernel
theorem d_MO_bribes_95 : decode prog_11_method_48_code 95 = .ok (.aload_n 0, 1) := by decide +kernel
theorem d_MO_bribes_96 : decode prog_11_method_48_code 96 = .ok (.iload_n 3, 1) := by decide +kernel
theorem d_MO_bribes_97 : decode prog_11_method_48_code 97 = .ok (.invokevirtual 181, 3) := by decide +kernel
theorem d_MO_bribes_100 : decode prog_11_method_48_code 100 = .ok (.ifCond .eq 7, 3) := by decide +kernel
theorem d_MO_bribes_103 : decode prog_11_method_48_code 103 = .ok (.iload_n 3, 1) := by decide +kernel
theorem d_MO_bribes_104 : decode prog_11_method_48_code 104 = .ok (.goto 4, 3) := by decide +kernel
theorem d_MO_bribes_107 : decode prog_11_method_48_code 107 = .ok (.iload_n 2, 1) := by decide +kernel
theorem d_MO_bribes_108 : decode prog_11_method_48_code 108 = .ok (.istore_n 2, 1) := by decide +kernel
theorem d_MO_bribes_109 : decode prog_11_method_48_code 109 = .ok (.iinc 3 1, 3) := by decide +kernel
theorem d_MO_bribes_112 : decode prog_11_method_48_code 112 = .ok (.goto (-62), 3) := by decide +kernel
theorem d_MO_bribes_115 : decode prog_11_method_48_code 115 = .ok (.iconst 0, 1) := by decide +kernel
theorem d_MO_bribes_116 : decode prog_11_method_48_code 116 = .ok (.istore_n 3, 1) := by decide +kernel
theorem d_MO_bribes_117 : decode prog_11_method_48_code 117 = .ok (.iload_n 3, 1) := by decide +kernel
theorem d_MO_bribes_118 : decode prog_11_method_48_code 118 = .ok (.aload_n 0, 1) := by decide +kernel
theorem d_MO_bribes_119 : decode prog_11_method_48_code 119 = .ok (.getfield 123, 3) := by decide +kernel
theorem d_MO_bribes_122 : decode prog_11_method_48_code 122 = .ok (.if_icmp .ge 25, 3) := by decide +kernel
theorem d_MO_bribes_125 : decode prog_11_method_48_code 125 = .ok (.aload_n 0, 1) := by decide +kernel
theorem d_MO_bribes_126 : decode prog_11_method_48_code 126 = .ok (.getfield 22, 3) := by decide +kernel
theorem d_MO_bribes_129 : decode prog_11_method_48_code 129 = .ok (.iconst 5, 1) := by decide +kernel
theorem d_MO_bribes_130 : decode prog_11_method_48_code 130 = .ok (.iload_n 3, 1) := by decide +kernel
theorem d_MO_bribes_131 : decode prog_11_method_48_code 131 = .ok (.imul, 1) := by decide +kernel
theorem d_MO_bribes_132 : decode prog_11_method_48_code 132 = .ok (.iconst 4, 1) := by decide +kernel
theorem d_MO_bribes_133 : decode prog_11_method_48_code 133 = .ok (.iadd, 1) := by decide +kernel
theorem d_MO_bribes_134 : decode prog_11_method_48_code 134 = .ok (.aload_n 0, 1) := by decide +kernel
theorem d_MO_bribes_135 : decode prog_11_method_48_code 135 = .ok (.getfield 52, 3) := by decide +kernel
theorem d_MO_bribes_138 : decode prog_11_method_48_code 138 = .ok (.iload_n 3, 1) := by decide +kernel
theorem d_MO_bribes_139 : decode prog_11_method_48_code 139 = .ok (.iaload, 1) := by decide +kernel
theorem d_MO_bribes_140 : decode prog_11_method_48_code 140 = .ok (.iastore, 1) := by decide +kernel
theorem d_MO_bribes_141 : decode prog_11_method_48_code 141 = .ok (.iinc 3 1, 3) := by decide +kernel
theorem d_MO_bribes_144 : decode prog_11_method_48_code 144 = .ok (.goto (-27), 3) := by decide +kernel
theorem d_MO_bribes_147 : decode prog_11_method_48_code 147 = .ok (.iload_n 2, 1) := by decide +kernel
theorem d_MO_bribes_148 : decode prog_11_method_48_code 148 = .ok (.ireturn, 1) := by decide +kernel
theorem d_MO_needed_0 : decode prog_11_method_49_code 0 = .ok (.aload_n 0, 1) := by decide +kernel
theorem d_MO_needed_1 : decode prog_11_method_49_code 1 = .ok (.iload_n 1, 1) := by decide +kernel
theorem d_MO_needed_2 : decode prog_11_method_49_code 2 = .ok (.invokevirtual 142, 3) := by decide +kernel
theorem d_MO_needed_5 : decode prog_11_method_49_code 5 = .ok (.ifCond .ne 5, 3) := by decide +kernel
theorem d_MO_needed_8 : decode prog_11_method_49_code 8 = .ok (.iconst (-1), 1) := by decide +kernel
theorem d_MO_needed_9 : decode prog_11_method_49_code 9 = .ok (.ireturn, 1) := by decide +kernel
theorem d_MO_needed_10 : decode prog_11_method_49_code 10 = .ok (.aload_n 0, 1) := by decide +kernel
theorem d_MO_needed_11 : decode prog_11_method_49_code 11 = .ok (.getfield 22, 3) := by decide +kernel
theorem d_MO_needed_14 : decode prog_11_method_49_code 14 = .ok (.iconst 5, 1) := by decide +kernel
theorem d_MO_needed_15 : decode prog_11_method_49_code 15 = .ok (.iload_n 1, 1) := by decide +kernel
theorem d_MO_needed_16 : decode prog_11_method_49_code 16 = .ok (.imul, 1) := by decide +kernel
theorem d_MO_needed_17 : decode prog_11_method_49_code 17 = .ok (.iconst 2, 1) := by decide +kernel
theorem d_MO_needed_18 : decode prog_11_method_49_code 18 = .ok (.iadd, 1) := by decide +kernel
theorem d_MO_needed_19 : decode prog_11_method_49_code 19 = .ok (.iaload, 1) := by decide +kernel
theorem d_MO_needed_20 : decode prog_11_method_49_code 20 = .ok (.istore_n 2, 1) := by decide +kernel
theorem d_MO_needed_21 : decode prog_11_method_49_code 21 = .ok (.aload_n 0, 1) := by decide +kernel
theorem d_MO_needed_22 : decode prog_11_method_49_code 22 = .ok (.iload_n 2, 1) := by decide +kernel
theorem d_MO_needed_23 : decode prog_11_method_49_code 23 = .ok (.invokevirtual 160, 3) := by decide +kernel
theorem d_MO_needed_26 : decode prog_11_method_49_code 26 = .ok (.istore_n 3, 1) := by decide +kernel
theorem d_MO_needed_27 : decode prog_11_method_49_code 27 = .ok (.aload_n 0, 1) := by decide +kernel
theorem d_MO_needed_28 : decode prog_11_method_49_code 28 = .ok (.iload_n 2, 1) := by decide +kernel
theorem d_MO_needed_29 : decode prog_11_method_49_code 29 = .ok (.iload_n 3, 1) := by decide +kernel
theorem d_MO_needed_30 : decode prog_11_method_49_code 30 = .ok (.iconst 1, 1) := by decide +kernel
theorem d_MO_needed_31 : decode prog_11_method_49_code 31 = .ok (.iload_n 1, 1) := by decide +kernel
theorem d_MO_needed_32 : decode prog_11_method_49_code 32 = .ok (.ishl, 1) := by decide +kernel
theorem d_MO_needed_33 : decode prog_11_method_49_code 33 = .ok (.iconst (-1), 1) := by decide +kernel
theorem d_MO_needed_34 : decode prog_11_method_49_code 34 = .ok (.ixor, 1) := by decide +kernel
theorem d_MO_needed_35 : decode prog_11_method_49_code 35 = .ok (.iand, 1) := by decide +kernel
theorem d_MO_needed_36 : decode prog_11_method_49_code 36 = .ok (.invokevirtual 163, 3) := by decide +kernel
theorem d_MO_needed_39 : decode prog_11_method_49_code 39 = .ok (.aload_n 0, 1) := by decide +kernel
theorem d_MO_needed_40 : decode prog_11_method_49_code 40 = .ok (.iload_n 2, 1) := by decide +kernel
theorem d_MO_needed_41 : decode prog_11_method_49_code 41 = .ok (.iload_n 3, 1) := by decide +kernel
theorem d_MO_needed_42 : decode prog_11_method_49_code 42 = .ok (.invokevirtual 163, 3) := by decide +kernel
theorem d_MO_needed_45 : decode prog_11_method_49_code 45 = .ok (.isub, 1) := by decide +kernel
theorem d_MO_needed_46 : decode prog_11_method_49_code 46 = .ok (.ireturn, 1) := by decide +kernel
theorem d_MO_never_0 : decode prog_11_method_50_code 0 = .ok (.iconst 0, 1) := by decide +kernel
theorem d_MO_never_1 : decode prog_11_method_50_code 1 = .ok (.istore_n 1, 1) := by decide +kernel
theorem d_MO_never_2 : decode prog_11_method_50_code 2 = .ok (.iload_n 1, 1) := by decide +kernel
theorem d_MO_never_3 : decode prog_11_method_50_code 3 = .ok (.aload_n 0, 1) := by decide +kernel
theorem d_MO_never_4 : decode prog_11_method_50_code 4 = .ok (.getfield 126, 3) := by decide +kernel
theorem d_MO_never_7 : decode prog_11_method_50_code 7 = .ok (.if_icmp .ge 112, 3) := by decide +kernel
theorem d_MO_never_10 : decode prog_11_method_50_code 10 = .ok (.iconst 0, 1) := by decide +kernel
theorem d_MO_never_11 : decode prog_11_method_50_code 11 = .ok (.istore_n 2, 1) := by decide +kernel
theorem d_MO_never_12 : decode prog_11_method_50_code 12 = .ok (.iload_n 2, 1) := by decide +kernel
theorem d_MO_never_13 : decode prog_11_method_50_code 13 = .ok (.aload_n 0, 1) := by decide +kernel
theorem d_MO_never_14 : decode prog_11_method_50_code 14 = .ok (.getfield 69, 3) := by decide +kernel
theorem d_MO_never_17 : decode prog_11_method_50_code 17 = .ok (.if_icmp .ge 96, 3) := by decide +kernel
theorem d_MO_never_20 : decode prog_11_method_50_code 20 = .ok (.aload_n 0, 1) := by decide +kernel
theorem d_MO_never_21 : decode prog_11_method_50_code 21 = .ok (.getfield 132, 3) := by decide +kernel
theorem d_MO_never_24 : decode prog_11_method_50_code 24 = .ok (.istore_n 3, 1) := by decide +kernel
theorem d_MO_never_25 : decode prog_11_method_50_code 25 = .ok (.iconst 0, 1) := by decide +kernel
theorem d_MO_never_26 : decode prog_11_method_50_code 26 = .ok (.istore 4, 2) := by decide +kernel
theorem d_MO_never_28 : decode prog_11_method_50_code 28 = .ok (.iload 4, 2) := by decide +kernel
theorem d_MO_never_30 : decode prog_11_method_50_code 30 = .ok (.aload_n 0, 1) := by decide +kernel
theorem d_MO_never_31 : decode prog_11_method_50_code 31 = .ok (.getfield 123, 3) := by decide +kernel
theorem d_MO_never_34 : decode prog_11_method_50_code 34 = .ok (.if_icmp .ge 42, 3) := by decide +kernel
theorem d_MO_never_37 : decode prog_11_method_50_code 37 = .ok (.iload_n 3, 1) := by decide +kernel
theorem d_MO_never_38 : decode prog_11_method_50_code 38 = .ok (.aload_n 0, 1) := by decide +kernel
theorem d_MO_never_39 : decode prog_11_method_50_code 39 = .ok (.getfield 22, 3) := by decide +kernel
theorem d_MO_never_42 : decode prog_11_method_50_code 42 = .ok (.iconst 5, 1) := by decide +kernel
theorem d_MO_never_43 : decode prog_11_method_50_code 43 = .ok (.iload 4, 2) := by decide +kernel
theorem d_MO_never_45 : decode prog_11_method_50_code 45 = .ok (.imul, 1) := by decide +kernel
theorem d_MO_never_46 : decode prog_11_method_50_code 46 = .ok (.iconst 2, 1) := by decide +kernel
theorem d_MO_never_47 : decode prog_11_method_50_code 47 = .ok (.iadd, 1) := by decide +kernel
theorem d_MO_never_48 : decode prog_11_method_50_code 48 = .ok (.iaload, 1) := by decide +kernel
theorem d_MO_never_49 : decode prog_11_method_50_code 49 = .ok (.iload_n 2, 1) := by decide +kernel
theorem d_MO_never_50 : decode prog_11_method_50_code 50 = .ok (.if_icmp .ne 17, 3) := by decide +kernel
theorem d_MO_never_53 : decode prog_11_method_50_code 53 = .ok (.aload_n 0, 1) := by decide +kernel
theorem d_MO_never_54 : decode prog_11_method_50_code 54 = .ok (.getfield 22, 3) := by decide +kernel
theorem d_MO_never_57 : decode prog_11_method_50_code 57 = .ok (.iconst 5, 1) := by decide +kernel
theorem d_MO_never_58 : decode prog_11_method_50_code 58 = .ok (.iload 4, 2) := by decide +kernel
theorem d_MO_never_60 : decode prog_11_method_50_code 60 = .ok (.imul, 1) := by decide +kernel
theorem d_MO_never_61 : decode prog_11_method_50_code 61 = .ok (.iconst 1, 1) := by decide +kernel
theorem d_MO_never_62 : decode prog_11_method_50_code 62 = .ok (.iadd, 1) := by decide +kernel
theorem d_MO_never_63 : decode prog_11_method_50_code 63 = .ok (.iaload, 1) := by decide +kernel
theorem d_MO_never_64 : decode prog_11_method_50_code 64 = .ok (.goto 4, 3) := by decide +kernel
theorem d_MO_never_67 : decode prog_11_method_50_code 67 = .ok (.iconst 0, 1) := by decide +kernel
theorem d_MO_never_68 : decode prog_11_method_50_code 68 = .ok (.iadd, 1) := by decide +kernel
theorem d_MO_never_69 : decode prog_11_method_50_code 69 = .ok (.istore_n 3, 1) := by decide +kernel
theorem d_MO_never_70 : decode prog_11_method_50_code 70 = .ok (.iinc 4 1, 3) := by decide +kernel
theorem d_MO_never_73 : decode prog_11_method_50_code 73 = .ok (.goto (-45), 3) := by decide +kernel
theorem d_MO_never_76 : decode prog_11_method_50_code 76 = .ok (.aload_n 0, 1) := by decide +kernel
theorem d_MO_never_77 : decode prog_11_method_50_code 77 = .ok (.getfield 25, 3) := by decide +kernel
theorem d_MO_never_80 : decode prog_11_method_50_code 80 = .ok (.iload_n 1, 1) := by decide +kernel
theorem d_MO_never_81 : decode prog_11_method_50_code 81 = .ok (.iaload, 1) := by decide +kernel
theorem d_MO_never_82 : decode prog_11_method_50_code 82 = .ok (.iload_n 2, 1) := by decide +kernel
theorem d_MO_never_83 : decode prog_11_method_50_code 83 = .ok (.ishr, 1) := by decide +kernel
theorem d_MO_never_84 : decode prog_11_method_50_code 84 = .ok (.iconst 1, 1) := by decide +kernel
theorem d_MO_never_85 : decode prog_11_method_50_code 85 = .ok (.iand, 1) := by decide +kernel
theorem d_MO_never_86 : decode prog_11_method_50_code 86 = .ok (.iconst 1, 1) := by decide +kernel
theorem d_MO_never_87 : decode prog_11_method_50_code 87 = .ok (.if_icmp .ne 20, 3) := by decide +kernel
theorem d_MO_never_90 : decode prog_11_method_50_code 90 = .ok (.aload_n 0, 1) := by decide +kernel
theorem d_MO_never_91 : decode prog_11_method_50_code 91 = .ok (.getfield 19, 3) := by decide +kernel
theorem d_MO_never_94 : decode prog_11_method_50_code 94 = .ok (.iload_n 2, 1) := by decide +kernel
theorem d_MO_never_95 : decode prog_11_method_50_code 95 = .ok (.iaload, 1) := by decide +kernel
theorem d_MO_never_96 : decode prog_11_method_50_code 96 = .ok (.iload_n 3, 1) := by decide +kernel
theorem d_MO_never_97 : decode prog_11_method_50_code 97 = .ok (.if_icmp .le 10, 3) := by decide +kernel
theorem d_MO_never_100 : decode prog_11_method_50_code 100 = .ok (.bipush 10, 2) := by decide +kernel
theorem d_MO_never_102 : decode prog_11_method_50_code 102 = .ok (.iload_n 1, 1) := by decide +kernel
theorem d_MO_never_103 : decode prog_11_method_50_code 103 = .ok (.imul, 1) := by decide +kernel
theorem d_MO_never_104 : decode prog_11_method_50_code 104 = .ok (.iload_n 2, 1) := by decide +kernel
theorem d_MO_never_105 : decode prog_11_method_50_code 105 = .ok (.iadd, 1) := by decide +kernel
theorem d_MO_never_106 : decode prog_11_method_50_code 106 = .ok (.ireturn, 1) := by decide +kernel
theorem d_MO_never_107 : decode prog_11_method_50_code 107 = .ok (.iinc 2 1, 3) := by decide +kernel
theorem d_MO_never_110 : decode prog_11_method_50_code 110 = .ok (.goto (-98), 3) := by decide +kernel
theorem d_MO_never_113 : decode prog_11_method_50_code 113 = .ok (.iinc 1 1, 3) := by decide +kernel
theorem d_MO_never_116 : decode prog_11_method_50_code 116 = .ok (.goto (-114), 3) := by decide +kernel
theorem d_MO_never_119 : decode prog_11_method_50_code 119 = .ok (.bipush (-9), 2) := by decide +kernel
theorem d_MO_never_121 : decode prog_11_method_50_code 121 = .ok (.ireturn, 1) := by decide +kernel
theorem d_MO_layWays_0 : decode prog_11_method_51_code 0 = .ok (.iconst 0, 1) := by decide +kernel
theorem d_MO_layWays_1 : decode prog_11_method_51_code 1 = .ok (.istore 4, 2) := by decide +kernel
theorem d_MO_layWays_3 : decode prog_11_method_51_code 3 = .ok (.iload 4, 2) := by decide +kernel
theorem d_MO_layWays_5 : decode prog_11_method_51_code 5 = .ok (.bipush 40, 2) := by decide +kernel
theorem d_MO_layWays_7 : decode prog_11_method_51_code 7 = .ok (.if_icmp .ge 26, 3) := by decide +kernel
theorem d_MO_layWays_10 : decode prog_11_method_51_code 10 = .ok (.aload_n 0, 1) := by decide +kernel
theorem d_MO_layWays_11 : decode prog_11_method_51_code 11 = .ok (.getfield 55, 3) := by decide +kernel
theorem d_MO_layWays_14 : decode prog_11_method_51_code 14 = .ok (.iload 4, 2) := by decide +kernel
theorem d_MO_layWays_16 : decode prog_11_method_51_code 16 = .ok (.iload 4, 2) := by decide +kernel
theorem d_MO_layWays_18 : decode prog_11_method_51_code 18 = .ok (.ifCond .ne 7, 3) := by decide +kernel
theorem d_MO_layWays_21 : decode prog_11_method_51_code 21 = .ok (.lconst 1, 1) := by decide +kernel
theorem d_MO_layWays_22 : decode prog_11_method_51_code 22 = .ok (.goto 4, 3) := by decide +kernel
theorem d_MO_layWays_25 : decode prog_11_method_51_code 25 = .ok (.lconst 0, 1) := by decide +kernel
theorem d_MO_layWays_26 : decode prog_11_method_51_code 26 = .ok (.lastore, 1) := by decide +kernel
theorem d_MO_layWays_27 : decode prog_11_method_51_code 27 = .ok (.iinc 4 1, 3) := by decide +kernel
theorem d_MO_layWays_30 : decode prog_11_method_51_code 30 = .ok (.goto (-27), 3) := by decide +kernel
theorem d_MO_layWays_33 : decode prog_11_method_51_code 33 = .ok (.aload_n 0, 1) := by decide +kernel
theorem d_MO_layWays_34 : decode prog_11_method_51_code 34 = .ok (.lconst 1, 1) := by decide +kernel
theorem d_MO_layWays_35 : decode prog_11_method_51_code 35 = .ok (.putfield 184, 3) := by decide +kernel
theorem d_MO_layWays_38 : decode prog_11_method_51_code 38 = .ok (.iconst 0, 1) := by decide +kernel
theorem d_MO_layWays_39 : decode prog_11_method_51_code 39 = .ok (.istore 4, 2) := by decide +kernel
theorem d_MO_layWays_41 : decode prog_11_method_51_code 41 = .ok (.iload 4, 2) := by decide +kernel
theorem d_MO_layWays_43 : decode prog_11_method_51_code 43 = .ok (.aload_n 0, 1) := by decide +kernel
theorem d_MO_layWays_44 : decode prog_11_method_51_code 44 = .ok (.getfield 123, 3) := by decide +kernel
theorem d_MO_layWays_47 : decode prog_11_method_51_code 47 = .ok (.if_icmp .ge 118, 3) := by decide +kernel
theorem d_MO_layWays_50 : decode prog_11_method_51_code 50 = .ok (.iload_n 1, 1) := by decide +kernel
theorem d_MO_layWays_51 : decode prog_11_method_51_code 51 = .ok (.iload 4, 2) := by decide +kernel
theorem d_MO_layWays_53 : decode prog_11_method_51_code 53 = .ok (.ishr, 1) := by decide +kernel
theorem d_MO_layWays_54 : decode prog_11_method_51_code 54 = .ok (.iconst 1, 1) := by decide +kernel
theorem d_MO_layWays_55 : decode prog_11_method_51_code 55 = .ok (.iand, 1) := by decide +kernel
theorem d_MO_layWays_56 : decode prog_11_method_51_code 56 = .ok (.iconst 1, 1) := by decide +kernel
theorem d_MO_layWays_57 : decode prog_11_method_51_code 57 = .ok (.if_icmp .ne 13, 3) := by decide +kernel
theorem d_MO_layWays_60 : decode prog_11_method_51_code 60 = .ok (.aload_n 0, 1) := by decide +kernel
theorem d_MO_layWays_61 : decode prog_11_method_51_code 61 = .ok (.iload 4, 2) := by decide +kernel
theorem d_MO_layWays_63 : decode prog_11_method_51_code 63 = .ok (.iload_n 2, 1) := by decide +kernel
theorem d_MO_layWays_64 : decode prog_11_method_51_code 64 = .ok (.invokevirtual 154, 3) := by decide +kernel
theorem d_MO_layWays_67 : decode prog_11_method_51_code 67 = .ok (.goto 4, 3) := by decide +kernel
theorem d_MO_layWays_70 : decode prog_11_method_51_code 70 = .ok (.iconst 0, 1) := by decide +kernel
theorem d_MO_layWays_71 : decode prog_11_method_51_code 71 = .ok (.istore 5, 2) := by decide +kernel
theorem d_MO_layWays_73 : decode prog_11_method_51_code 73 = .ok (.bipush 39, 2) := by decide +kernel
theorem d_MO_layWays_75 : decode prog_11_method_51_code 75 = .ok (.istore 6, 2) := by decide +kernel
theorem d_MO_layWays_77 : decode prog_11_method_51_code 77 = .ok (.iload 6, 2) := by decide +kernel
theorem d_MO_layWays_79 : decode prog_11_method_51_code 79 = .ok (.ifCond .lt 59, 3) := by decide +kernel
theorem d_MO_layWays_82 : decode prog_11_method_51_code 82 = .ok (.iload 5, 2) := by decide +kernel
theorem d_MO_layWays_84 : decode prog_11_method_51_code 84 = .ok (.ifCond .le 54, 3) := by decide +kernel
theorem d_MO_layWays_87 : decode prog_11_method_51_code 87 = .ok (.aload_n 0, 1) := by decide +kernel
theorem d_MO_layWays_88 : decode prog_11_method_51_code 88 = .ok (.getfield 55, 3) := by decide +kernel
theorem d_MO_layWays_91 : decode prog_11_method_51_code 91 = .ok (.iload 6, 2) := by decide +kernel
theorem d_MO_layWays_93 : decode prog_11_method_51_code 93 = .ok (.aload_n 0, 1) := by decide +kernel
theorem d_MO_layWays_94 : decode prog_11_method_51_code 94 = .ok (.getfield 55, 3) := by decide +kernel
theorem d_MO_layWays_97 : decode prog_11_method_51_code 97 = .ok (.iload 6, 2) := by decide +kernel
theorem d_MO_layWays_99 : decode prog_11_method_51_code 99 = .ok (.laload, 1) := by decide +kernel
theorem d_MO_layWays_100 : decode prog_11_method_51_code 100 = .ok (.iload_n 3, 1) := by decide +kernel
theorem d_MO_layWays_101 : decode prog_11_method_51_code 101 = .ok (.i2l, 1) := by decide +kernel
theorem d_MO_layWays_102 : decode prog_11_method_51_code 102 = .ok (.lmul, 1) := by decide +kernel
theorem d_MO_layWays_103 : decode prog_11_method_51_code 103 = .ok (.iload 6, 2) := by decide +kernel
theorem d_MO_layWays_105 : decode prog_11_method_51_code 105 = .ok (.iload 5, 2) := by decide +kernel
theorem d_MO_layWays_107 : decode prog_11_method_51_code 107 = .ok (.if_icmp .lt 22, 3) := by decide +kernel
theorem d_MO_layWays_110 : decode prog_11_method_51_code 110 = .ok (.aload_n 0, 1) := by decide +kernel
theorem d_MO_layWays_111 : decode prog_11_method_51_code 111 = .ok (.getfield 55, 3) := by decide +kernel
theorem d_MO_layWays_114 : decode prog_11_method_51_code 114 = .ok (.iload 6, 2) := by decide +kernel
theorem d_MO_layWays_116 : decode prog_11_method_51_code 116 = .ok (.iload 5, 2) := by decide +kernel
theorem d_MO_layWays_118 : decode prog_11_method_51_code 118 = .ok (.isub, 1) := by decide +kernel
theorem d_MO_layWays_119 : decode prog_11_method_51_code 119 = .ok (.laload, 1) := by decide +kernel
theorem d_MO_layWays_120 : decode prog_11_method_51_code 120 = .ok (.bipush 10, 2) := by decide +kernel
theorem d_MO_layWays_122 : decode prog_11_method_51_code 122 = .ok (.iload_n 3, 1) := by decide +kernel
theorem d_MO_layWays_123 : decode prog_11_method_51_code 123 = .ok (.isub, 1) := by decide +kernel
theorem d_MO_layWays_124 : decode prog_11_method_51_code 124 = .ok (.i2l, 1) := by decide +kernel
theorem d_MO_layWays_125 : decode prog_11_method_51_code 125 = .ok (.lmul, 1) := by decide +kernel
theorem d_MO_layWays_126 : decode prog_11_method_51_code 126 = .ok (.goto 4, 3) := by decide +kernel
theorem d_MO_layWays_129 : decode prog_11_method_51_code 129 = .ok (.lconst 0, 1) := by decide +kernel
theorem d_MO_layWays_130 : decode prog_11_method_51_code 130 = .ok (.ladd, 1) := by decide +kernel
theorem d_MO_layWays_131 : decode prog_11_method_51_code 131 = .ok (.lastore, 1) := by decide +kernel
theorem d_MO_layWays_132 : decode prog_11_method_51_code 132 = .ok (.iinc 6 (-1), 3) := by decide +kernel
theorem d_MO_layWays_135 : decode prog_11_method_51_code 135 = .ok (.goto (-58), 3) := by decide +kernel
theorem d_MO_layWays_138 : decode prog_11_method_51_code 138 = .ok (.aload_n 0, 1) := by decide +kernel
theorem d_MO_layWays_139 : decode prog_11_method_51_code 139 = .ok (.dup, 1) := by decide +kernel
theorem d_MO_layWays_140 : decode prog_11_method_51_code 140 = .ok (.getfield 184, 3) := by decide +kernel
theorem d_MO_layWays_143 : decode prog_11_method_51_code 143 = .ok (.iload 5, 2) := by decide +kernel
theorem d_MO_layWays_145 : decode prog_11_method_51_code 145 = .ok (.ifCond .le 9, 3) := by decide +kernel
theorem d_MO_layWays_148 : decode prog_11_method_51_code 148 = .ok (.ldc2_w 188, 3) := by decide +kernel
theorem d_MO_layWays_151 : decode prog_11_method_51_code 151 = .ok (.goto 4, 3) := by decide +kernel
theorem d_MO_layWays_154 : decode prog_11_method_51_code 154 = .ok (.lconst 1, 1) := by decide +kernel
theorem d_MO_layWays_155 : decode prog_11_method_51_code 155 = .ok (.lmul, 1) := by decide +kernel
theorem d_MO_layWays_156 : decode prog_11_method_51_code 156 = .ok (.putfield 184, 3) := by decide +kernel
theorem d_MO_layWays_159 : decode prog_11_method_51_code 159 = .ok (.iinc 4 1, 3) := by decide +kernel
theorem d_MO_layWays_162 : decode prog_11_method_51_code 162 = .ok (.goto (-121), 3) := by decide +kernel
theorem d_MO_layWays_165 : decode prog_11_method_51_code 165 = .ok (.return_, 1) := by decide +kernel
theorem d_MO_less_0 : decode prog_11_method_52_code 0 = .ok (.lconst 0, 1) := by decide +kernel
theorem d_MO_less_1 : decode prog_11_method_52_code 1 = .ok (.lstore_n 2, 1) := by decide +kernel
theorem d_MO_less_2 : decode prog_11_method_52_code 2 = .ok (.iconst 0, 1) := by decide +kernel
theorem d_MO_less_3 : decode prog_11_method_52_code 3 = .ok (.istore 4, 2) := by decide +kernel
theorem d_MO_less_5 : decode prog_11_method_52_code 5 = .ok (.iload 4, 2) := by decide +kernel
theorem d_MO_less_7 : decode prog_11_method_52_code 7 = .ok (.iload_n 1, 1) := by decide +kernel
theorem d_MO_less_8 : decode prog_11_method_52_code 8 = .ok (.if_icmp .ge 19, 3) := by decide +kernel
theorem d_MO_less_11 : decode prog_11_method_52_code 11 = .ok (.lload_n 2, 1) := by decide +kernel
theorem d_MO_less_12 : decode prog_11_method_52_code 12 = .ok (.aload_n 0, 1) := by decide +kernel
theorem d_MO_less_13 : decode prog_11_method_52_code 13 = .ok (.getfield 55, 3) := by decide +kernel
theorem d_MO_less_16 : decode prog_11_method_52_code 16 = .ok (.iload 4, 2) := by decide +kernel
theorem d_MO_less_18 : decode prog_11_method_52_code 18 = .ok (.laload, 1) := by decide +kernel
theorem d_MO_less_19 : decode prog_11_method_52_code 19 = .ok (.ladd, 1) := by decide +kernel
theorem d_MO_less_20 : decode prog_11_method_52_code 20 = .ok (.lstore_n 2, 1) := by decide +kernel
theorem d_MO_less_21 : decode prog_11_method_52_code 21 = .ok (.iinc 4 1, 3) := by decide +kernel
theorem d_MO_less_24 : decode prog_11_method_52_code 24 = .ok (.goto (-19), 3) := by decide +kernel
theorem d_MO_less_27 : decode prog_11_method_52_code 27 = .ok (.lload_n 2, 1) := by decide +kernel
theorem d_MO_less_28 : decode prog_11_method_52_code 28 = .ok (.lreturn, 1) := by decide +kernel
theorem d_MO_part_0 : decode prog_11_method_53_code 0 = .ok (.lload_n 0, 1) := by decide +kernel
theorem d_MO_part_1 : decode prog_11_method_53_code 1 = .ok (.lstore 5, 2) := by decide +kernel
theorem d_MO_part_3 : decode prog_11_method_53_code 3 = .ok (.lload_n 2, 1) := by decide +kernel
theorem d_MO_part_4 : decode prog_11_method_53_code 4 = .ok (.lstore 7, 2) := by decide +kernel
theorem d_MO_part_6 : decode prog_11_method_53_code 6 = .ok (.lload 7, 2) := by decide +kernel
theorem d_MO_part_8 : decode prog_11_method_53_code 8 = .ok (.lconst 0, 1) := by decide +kernel
theorem d_MO_part_9 : decode prog_11_method_53_code 9 = .ok (.lcmp, 1) := by decide +kernel
theorem d_MO_part_10 : decode prog_11_method_53_code 10 = .ok (.ifCond .eq 21, 3) := by decide +kernel
theorem d_MO_part_13 : decode prog_11_method_53_code 13 = .ok (.lload 5, 2) := by decide +kernel
theorem d_MO_part_15 : decode prog_11_method_53_code 15 = .ok (.lload 7, 2) := by decide +kernel
theorem d_MO_part_17 : decode prog_11_method_53_code 17 = .ok (.lrem, 1) := by decide +kernel
theorem d_MO_part_18 : decode prog_11_method_53_code 18 = .ok (.lstore 9, 2) := by decide +kernel
theorem d_MO_part_20 : decode prog_11_method_53_code 20 = .ok (.lload 7, 2) := by decide +kernel
theorem d_MO_part_22 : decode prog_11_method_53_code 22 = .ok (.lstore 5, 2) := by decide +kernel
theorem d_MO_part_24 : decode prog_11_method_53_code 24 = .ok (.lload 9, 2) := by decide +kernel
theorem d_MO_part_26 : decode prog_11_method_53_code 26 = .ok (.lstore 7, 2) := by decide +kernel
theorem d_MO_part_28 : decode prog_11_method_53_code 28 = .ok (.goto (-22), 3) := by decide +kernel
theorem d_MO_part_31 : decode prog_11_method_53_code 31 = .ok (.iload 4, 2) := by decide +kernel
theorem d_MO_part_33 : decode prog_11_method_53_code 33 = .ok (.ifCond .eq 10, 3) := by decide +kernel
theorem d_MO_part_36 : decode prog_11_method_53_code 36 = .ok (.lload_n 0, 1) := by decide +kernel
theorem d_MO_part_37 : decode prog_11_method_53_code 37 = .ok (.lload 5, 2) := by decide +kernel
theorem d_MO_part_39 : decode prog_11_method_53_code 39 = .ok (.ldiv, 1) := by decide +kernel
theorem d_MO_part_40 : decode prog_11_method_53_code 40 = .ok (.goto 7, 3) := by decide +kernel
theorem d_MO_part_43 : decode prog_11_method_53_code 43 = .ok (.lload_n 2, 1) := by decide +kernel
theorem d_MO_part_44 : decode prog_11_method_53_code 44 = .ok (.lload 5, 2) := by decide +kernel
theorem d_MO_part_46 : decode prog_11_method_53_code 46 = .ok (.ldiv, 1) := by decide +kernel
theorem d_MO_part_47 : decode prog_11_method_53_code 47 = .ok (.lreturn, 1) := by decide +kernel
theorem d_MO_steady_0 : decode prog_11_method_54_code 0 = .ok (.aload_n 0, 1) := by decide +kernel
theorem d_MO_steady_1 : decode prog_11_method_54_code 1 = .ok (.iload_n 1, 1) := by decide +kernel
theorem d_MO_steady_2 : decode prog_11_method_54_code 2 = .ok (.invokevirtual 135, 3) := by decide +kernel
theorem d_MO_steady_5 : decode prog_11_method_54_code 5 = .ok (.ifCond .eq 11, 3) := by decide +kernel
theorem d_MO_steady_8 : decode prog_11_method_54_code 8 = .ok (.aload_n 0, 1) := by decide +kernel
theorem d_MO_steady_9 : decode prog_11_method_54_code 9 = .ok (.iload_n 2, 1) := by decide +kernel
theorem d_MO_steady_10 : decode prog_11_method_54_code 10 = .ok (.invokevirtual 139, 3) := by decide +kernel
theorem d_MO_steady_13 : decode prog_11_method_54_code 13 = .ok (.ifCond .ne 7, 3) := by decide +kernel
theorem d_MO_steady_16 : decode prog_11_method_54_code 16 = .ok (.ldc2_w 190, 3) := by decide +kernel
theorem d_MO_steady_19 : decode prog_11_method_54_code 19 = .ok (.lreturn, 1) := by decide +kernel
theorem d_MO_steady_20 : decode prog_11_method_54_code 20 = .ok (.iload_n 3, 1) := by decide +kernel
theorem d_MO_steady_21 : decode prog_11_method_54_code 21 = .ok (.i2l, 1) := by decide +kernel
theorem d_MO_steady_22 : decode prog_11_method_54_code 22 = .ok (.lconst 0, 1) := by decide +kernel
theorem d_MO_steady_23 : decode prog_11_method_54_code 23 = .ok (.ldc2_w 188, 3) := by decide +kernel
theorem d_MO_steady_26 : decode prog_11_method_54_code 26 = .ok (.invokestatic 75, 3) := by decide +kernel
theorem d_MO_steady_29 : decode prog_11_method_54_code 29 = .ok (.ifCond .ne 7, 3) := by decide +kernel
theorem d_MO_steady_32 : decode prog_11_method_54_code 32 = .ok (.ldc2_w 192, 3) := by decide +kernel
theorem d_MO_steady_35 : decode prog_11_method_54_code 35 = .ok (.lreturn, 1) := by decide +kernel
theorem d_MO_steady_36 : decode prog_11_method_54_code 36 = .ok (.aload_n 0, 1) := by decide +kernel
theorem d_MO_steady_37 : decode prog_11_method_54_code 37 = .ok (.aload_n 0, 1) := by decide +kernel
theorem d_MO_steady_38 : decode prog_11_method_54_code 38 = .ok (.iload_n 1, 1) := by decide +kernel
theorem d_MO_steady_39 : decode prog_11_method_54_code 39 = .ok (.invokevirtual 160, 3) := by decide +kernel
theorem d_MO_steady_42 : decode prog_11_method_54_code 42 = .ok (.iload_n 2, 1) := by decide +kernel
theorem d_MO_steady_43 : decode prog_11_method_54_code 43 = .ok (.iload_n 3, 1) := by decide +kernel
theorem d_MO_steady_44 : decode prog_11_method_54_code 44 = .ok (.invokevirtual 194, 3) := by decide +kernel
theorem d_MO_steady_47 : decode prog_11_method_54_code 47 = .ok (.aload_n 0, 1) := by decide +kernel
theorem d_MO_steady_48 : decode prog_11_method_54_code 48 = .ok (.getfield 184, 3) := by decide +kernel
theorem d_MO_steady_51 : decode prog_11_method_54_code 51 = .ok (.aload_n 0, 1) := by decide +kernel
theorem d_MO_steady_52 : decode prog_11_method_54_code 52 = .ok (.aload_n 0, 1) := by decide +kernel
theorem d_MO_steady_53 : decode prog_11_method_54_code 53 = .ok (.getfield 19, 3) := by decide +kernel
theorem d_MO_steady_56 : decode prog_11_method_54_code 56 = .ok (.iload_n 1, 1) := by decide +kernel
theorem d_MO_steady_57 : decode prog_11_method_54_code 57 = .ok (.iaload, 1) := by decide +kernel
theorem d_MO_steady_58 : decode prog_11_method_54_code 58 = .ok (.invokevirtual 198, 3) := by decide +kernel
theorem d_MO_steady_61 : decode prog_11_method_54_code 61 = .ok (.lsub, 1) := by decide +kernel
theorem d_MO_steady_62 : decode prog_11_method_54_code 62 = .ok (.aload_n 0, 1) := by decide +kernel
theorem d_MO_steady_63 : decode prog_11_method_54_code 63 = .ok (.getfield 184, 3) := by decide +kernel
theorem d_MO_steady_66 : decode prog_11_method_54_code 66 = .ok (.iload 4, 2) := by decide +kernel
theorem d_MO_steady_68 : decode prog_11_method_54_code 68 = .ok (.invokestatic 202, 3) := by decide +kernel
theorem d_MO_steady_71 : decode prog_11_method_54_code 71 = .ok (.lreturn, 1) := by decide +kernel
theorem d_MO_blame_0 : decode prog_11_method_55_code 0 = .ok (.aload_n 0, 1) := by decide +kernel
theorem d_MO_blame_1 : decode prog_11_method_55_code 1 = .ok (.iload_n 1, 1) := by decide +kernel
theorem d_MO_blame_2 : decode prog_11_method_55_code 2 = .ok (.invokevirtual 142, 3) := by decide +kernel
theorem d_MO_blame_5 : decode prog_11_method_55_code 5 = .ok (.ifCond .eq 11, 3) := by decide +kernel
theorem d_MO_blame_8 : decode prog_11_method_55_code 8 = .ok (.aload_n 0, 1) := by decide +kernel
theorem d_MO_blame_9 : decode prog_11_method_55_code 9 = .ok (.iload_n 2, 1) := by decide +kernel
theorem d_MO_blame_10 : decode prog_11_method_55_code 10 = .ok (.invokevirtual 139, 3) := by decide +kernel
theorem d_MO_blame_13 : decode prog_11_method_55_code 13 = .ok (.ifCond .ne 7, 3) := by decide +kernel
theorem d_MO_blame_16 : decode prog_11_method_55_code 16 = .ok (.ldc2_w 190, 3) := by decide +kernel
theorem d_MO_blame_19 : decode prog_11_method_55_code 19 = .ok (.lreturn, 1) := by decide +kernel
theorem d_MO_blame_20 : decode prog_11_method_55_code 20 = .ok (.iload_n 3, 1) := by decide +kernel
theorem d_MO_blame_21 : decode prog_11_method_55_code 21 = .ok (.i2l, 1) := by decide +kernel
theorem d_MO_blame_22 : decode prog_11_method_55_code 22 = .ok (.lconst 0, 1) := by decide +kernel
theorem d_MO_blame_23 : decode prog_11_method_55_code 23 = .ok (.ldc2_w 188, 3) := by decide +kernel
theorem d_MO_blame_26 : decode prog_11_method_55_code 26 = .ok (.invokestatic 75, 3) := by decide +kernel
theorem d_MO_blame_29 : decode prog_11_method_55_code 29 = .ok (.ifCond .ne 7, 3) := by decide +kernel
theorem d_MO_blame_32 : decode prog_11_method_55_code 32 = .ok (.ldc2_w 192, 3) := by decide +kernel
theorem d_MO_blame_35 : decode prog_11_method_55_code 35 = .ok (.lreturn, 1) := by decide +kernel
theorem d_MO_blame_36 : decode prog_11_method_55_code 36 = .ok (.aload_n 0, 1) := by decide +kernel
theorem d_MO_blame_37 : decode prog_11_method_55_code 37 = .ok (.getfield 22, 3) := by decide +kernel
theorem d_MO_blame_40 : decode prog_11_method_55_code 40 = .ok (.iconst 5, 1) := by decide +kernel
theorem d_MO_blame_41 : decode prog_11_method_55_code 41 = .ok (.iload_n 1, 1) := by decide +kernel
theorem d_MO_blame_42 : decode prog_11_method_55_code 42 = .ok (.imul, 1) := by decide +kernel
theorem d_MO_blame_43 : decode prog_11_method_55_code 43 = .ok (.iconst 2, 1) := by decide +kernel
theorem d_MO_blame_44 : decode prog_11_method_55_code 44 = .ok (.iadd, 1) := by decide +kernel
theorem d_MO_blame_45 : decode prog_11_method_55_code 45 = .ok (.iaload, 1) := by decide +kernel
theorem d_MO_blame_46 : decode prog_11_method_55_code 46 = .ok (.istore 5, 2) := by decide +kernel
theorem d_MO_blame_48 : decode prog_11_method_55_code 48 = .ok (.aload_n 0, 1) := by decide +kernel
theorem d_MO_blame_49 : decode prog_11_method_55_code 49 = .ok (.aload_n 0, 1) := by decide +kernel
theorem d_MO_blame_50 : decode prog_11_method_55_code 50 = .ok (.iload 5, 2) := by decide +kernel
theorem d_MO_blame_52 : decode prog_11_method_55_code 52 = .ok (.invokevirtual 160, 3) := by decide +kernel
theorem d_MO_blame_55 : decode prog_11_method_55_code 55 = .ok (.iload_n 2, 1) := by decide +kernel
theorem d_MO_blame_56 : decode prog_11_method_55_code 56 = .ok (.iload_n 3, 1) := by decide +kernel
theorem d_MO_blame_57 : decode prog_11_method_55_code 57 = .ok (.invokevirtual 194, 3) := by decide +kernel
theorem d_MO_blame_60 : decode prog_11_method_55_code 60 = .ok (.aload_n 0, 1) := by decide +kernel
theorem d_MO_blame_61 : decode prog_11_method_55_code 61 = .ok (.aload_n 0, 1) := by decide +kernel
theorem d_MO_blame_62 : decode prog_11_method_55_code 62 = .ok (.getfield 19, 3) := by decide +kernel
theorem d_MO_blame_65 : decode prog_11_method_55_code 65 = .ok (.iload 5, 2) := by decide +kernel
theorem d_MO_blame_67 : decode prog_11_method_55_code 67 = .ok (.iaload, 1) := by decide +kernel
theorem d_MO_blame_68 : decode prog_11_method_55_code 68 = .ok (.invokevirtual 198, 3) := by decide +kernel
theorem d_MO_blame_71 : decode prog_11_method_55_code 71 = .ok (.lstore 6, 2) := by decide +kernel
theorem d_MO_blame_73 : decode prog_11_method_55_code 73 = .ok (.lload 6, 2) := by decide +kernel
theorem d_MO_blame_75 : decode prog_11_method_55_code 75 = .ok (.lconst 0, 1) := by decide +kernel
theorem d_MO_blame_76 : decode prog_11_method_55_code 76 = .ok (.lcmp, 1) := by decide +kernel
theorem d_MO_blame_77 : decode prog_11_method_55_code 77 = .ok (.ifCond .ne 7, 3) := by decide +kernel
theorem d_MO_blame_80 : decode prog_11_method_55_code 80 = .ok (.ldc2_w 206, 3) := by decide +kernel
theorem d_MO_blame_83 : decode prog_11_method_55_code 83 = .ok (.lreturn, 1) := by decide +kernel
theorem d_MO_blame_84 : decode prog_11_method_55_code 84 = .ok (.aload_n 0, 1) := by decide +kernel
theorem d_MO_blame_85 : decode prog_11_method_55_code 85 = .ok (.iload_n 1, 1) := by decide +kernel
theorem d_MO_blame_86 : decode prog_11_method_55_code 86 = .ok (.iload_n 2, 1) := by decide +kernel
theorem d_MO_blame_87 : decode prog_11_method_55_code 87 = .ok (.invokevirtual 154, 3) := by decide +kernel
theorem d_MO_blame_90 : decode prog_11_method_55_code 90 = .ok (.ifCond .ne 12, 3) := by decide +kernel
theorem d_MO_blame_93 : decode prog_11_method_55_code 93 = .ok (.lconst 0, 1) := by decide +kernel
theorem d_MO_blame_94 : decode prog_11_method_55_code 94 = .ok (.lload 6, 2) := by decide +kernel
theorem d_MO_blame_96 : decode prog_11_method_55_code 96 = .ok (.iload 4, 2) := by decide +kernel
theorem d_MO_blame_98 : decode prog_11_method_55_code 98 = .ok (.invokestatic 202, 3) := by decide +kernel
theorem d_MO_blame_101 : decode prog_11_method_55_code 101 = .ok (.lreturn, 1) := by decide +kernel
theorem d_MO_blame_102 : decode prog_11_method_55_code 102 = .ok (.aload_n 0, 1) := by decide +kernel
theorem d_MO_blame_103 : decode prog_11_method_55_code 103 = .ok (.aload_n 0, 1) := by decide +kernel
theorem d_MO_blame_104 : decode prog_11_method_55_code 104 = .ok (.iload 5, 2) := by decide +kernel
theorem d_MO_blame_106 : decode prog_11_method_55_code 106 = .ok (.invokevirtual 160, 3) := by decide +kernel
theorem d_MO_blame_109 : decode prog_11_method_55_code 109 = .ok (.iconst 1, 1) := by decide +kernel
theorem d_MO_blame_110 : decode prog_11_method_55_code 110 = .ok (.iload_n 1, 1) := by decide +kernel
theorem d_MO_blame_111 : decode prog_11_method_55_code 111 = .ok (.ishl, 1) := by decide +kernel
theorem d_MO_blame_112 : decode prog_11_method_55_code 112 = .ok (.iconst (-1), 1) := by decide +kernel
theorem d_MO_blame_113 : decode prog_11_method_55_code 113 = .ok (.ixor, 1) := by decide +kernel
theorem d_MO_blame_114 : decode prog_11_method_55_code 114 = .ok (.iand, 1) := by decide +kernel
theorem d_MO_blame_115 : decode prog_11_method_55_code 115 = .ok (.iload_n 2, 1) := by decide +kernel
theorem d_MO_blame_116 : decode prog_11_method_55_code 116 = .ok (.iload_n 3, 1) := by decide +kernel
theorem d_MO_blame_117 : decode prog_11_method_55_code 117 = .ok (.invokevirtual 194, 3) := by decide +kernel
theorem d_MO_blame_120 : decode prog_11_method_55_code 120 = .ok (.aload_n 0, 1) := by decide +kernel
theorem d_MO_blame_121 : decode prog_11_method_55_code 121 = .ok (.aload_n 0, 1) := by decide +kernel
theorem d_MO_blame_122 : decode prog_11_method_55_code 122 = .ok (.getfield 19, 3) := by decide +kernel
theorem d_MO_blame_125 : decode prog_11_method_55_code 125 = .ok (.iload 5, 2) := by decide +kernel
theorem d_MO_blame_127 : decode prog_11_method_55_code 127 = .ok (.iaload, 1) := by decide +kernel
theorem d_MO_blame_128 : decode prog_11_method_55_code 128 = .ok (.invokevirtual 198, 3) := by decide +kernel
theorem d_MO_blame_131 : decode prog_11_method_55_code 131 = .ok (.iload_n 3, 1) := by decide +kernel
theorem d_MO_blame_132 : decode prog_11_method_55_code 132 = .ok (.i2l, 1) := by decide +kernel
theorem d_MO_blame_133 : decode prog_11_method_55_code 133 = .ok (.lmul, 1) := by decide +kernel
theorem d_MO_blame_134 : decode prog_11_method_55_code 134 = .ok (.lload 6, 2) := by decide +kernel
theorem d_MO_blame_136 : decode prog_11_method_55_code 136 = .ok (.iload 4, 2) := by decide +kernel
theorem d_MO_blame_138 : decode prog_11_method_55_code 138 = .ok (.invokestatic 202, 3) := by decide +kernel
theorem d_MO_blame_141 : decode prog_11_method_55_code 141 = .ok (.lreturn, 1) := by decide +kernel
theorem d_MO_keep_0 : decode prog_11_method_56_code 0 = .ok (.iload_n 1, 1) := by decide +kernel
theorem d_MO_keep_1 : decode prog_11_method_56_code 1 = .ok (.i2l, 1) := by decide +kernel
theorem d_MO_keep_2 : decode prog_11_method_56_code 2 = .ok (.lconst 0, 1) := by decide +kernel
theorem d_MO_keep_3 : decode prog_11_method_56_code 3 = .ok (.lconst 1, 1) := by decide +kernel
theorem d_MO_keep_4 : decode prog_11_method_56_code 4 = .ok (.invokestatic 75, 3) := by decide +kernel
theorem d_MO_keep_7 : decode prog_11_method_56_code 7 = .ok (.ifCond .ne 5, 3) := by decide +kernel
theorem d_MO_keep_10 : decode prog_11_method_56_code 10 = .ok (.iconst (-1), 1) := by decide +kernel
theorem d_MO_keep_11 : decode prog_11_method_56_code 11 = .ok (.ireturn, 1) := by decide +kernel
theorem d_MO_keep_12 : decode prog_11_method_56_code 12 = .ok (.aload_n 0, 1) := by decide +kernel
theorem d_MO_keep_13 : decode prog_11_method_56_code 13 = .ok (.getfield 59, 3) := by decide +kernel
theorem d_MO_keep_16 : decode prog_11_method_56_code 16 = .ok (.iload_n 1, 1) := by decide +kernel
theorem d_MO_keep_17 : decode prog_11_method_56_code 17 = .ok (.iconst 1, 1) := by decide +kernel
theorem d_MO_keep_18 : decode prog_11_method_56_code 18 = .ok (.bastore, 1) := by decide +kernel
theorem d_MO_keep_19 : decode prog_11_method_56_code 19 = .ok (.iconst 0, 1) := by decide +kernel
theorem d_MO_keep_20 : decode prog_11_method_56_code 20 = .ok (.istore_n 2, 1) := by decide +kernel
theorem d_MO_keep_21 : decode prog_11_method_56_code 21 = .ok (.iload_n 2, 1) := by decide +kernel
theorem d_MO_keep_22 : decode prog_11_method_56_code 22 = .ok (.bipush 60, 2) := by decide +kernel
theorem d_MO_keep_24 : decode prog_11_method_56_code 24 = .ok (.if_icmp .ge 26, 3) := by decide +kernel
theorem d_MO_keep_27 : decode prog_11_method_56_code 27 = .ok (.aload_n 0, 1) := by decide +kernel
theorem d_MO_keep_28 : decode prog_11_method_56_code 28 = .ok (.getfield 63, 3) := by decide +kernel
theorem d_MO_keep_31 : decode prog_11_method_56_code 31 = .ok (.bipush 60, 2) := by decide +kernel
theorem d_MO_keep_33 : decode prog_11_method_56_code 33 = .ok (.iload_n 1, 1) := by decide +kernel
theorem d_MO_keep_34 : decode prog_11_method_56_code 34 = .ok (.imul, 1) := by decide +kernel
theorem d_MO_keep_35 : decode prog_11_method_56_code 35 = .ok (.iload_n 2, 1) := by decide +kernel
theorem d_MO_keep_36 : decode prog_11_method_56_code 36 = .ok (.iadd, 1) := by decide +kernel
theorem d_MO_keep_37 : decode prog_11_method_56_code 37 = .ok (.aload_n 0, 1) := by decide +kernel
theorem d_MO_keep_38 : decode prog_11_method_56_code 38 = .ok (.getfield 22, 3) := by decide +kernel
theorem d_MO_keep_41 : decode prog_11_method_56_code 41 = .ok (.iload_n 2, 1) := by decide +kernel
theorem d_MO_keep_42 : decode prog_11_method_56_code 42 = .ok (.iaload, 1) := by decide +kernel
theorem d_MO_keep_43 : decode prog_11_method_56_code 43 = .ok (.iastore, 1) := by decide +kernel
theorem d_MO_keep_44 : decode prog_11_method_56_code 44 = .ok (.iinc 2 1, 3) := by decide +kernel
theorem d_MO_keep_47 : decode prog_11_method_56_code 47 = .ok (.goto (-26), 3) := by decide +kernel
theorem d_MO_keep_50 : decode prog_11_method_56_code 50 = .ok (.aload_n 0, 1) := by decide +kernel
theorem d_MO_keep_51 : decode prog_11_method_56_code 51 = .ok (.getfield 66, 3) := by decide +kernel
theorem d_MO_keep_54 : decode prog_11_method_56_code 54 = .ok (.iconst 2, 1) := by decide +kernel
theorem d_MO_keep_55 : decode prog_11_method_56_code 55 = .ok (.iload_n 1, 1) := by decide +kernel
theorem d_MO_keep_56 : decode prog_11_method_56_code 56 = .ok (.imul, 1) := by decide +kernel
theorem d_MO_keep_57 : decode prog_11_method_56_code 57 = .ok (.aload_n 0, 1) := by decide +kernel
theorem d_MO_keep_58 : decode prog_11_method_56_code 58 = .ok (.getfield 129, 3) := by decide +kernel
theorem d_MO_keep_61 : decode prog_11_method_56_code 61 = .ok (.iastore, 1) := by decide +kernel
theorem d_MO_keep_62 : decode prog_11_method_56_code 62 = .ok (.aload_n 0, 1) := by decide +kernel
theorem d_MO_keep_63 : decode prog_11_method_56_code 63 = .ok (.getfield 66, 3) := by decide +kernel
theorem d_MO_keep_66 : decode prog_11_method_56_code 66 = .ok (.iconst 2, 1) := by decide +kernel
theorem d_MO_keep_67 : decode prog_11_method_56_code 67 = .ok (.iload_n 1, 1) := by decide +kernel
theorem d_MO_keep_68 : decode prog_11_method_56_code 68 = .ok (.imul, 1) := by decide +kernel
theorem d_MO_keep_69 : decode prog_11_method_56_code 69 = .ok (.iconst 1, 1) := by decide +kernel
theorem d_MO_keep_70 : decode prog_11_method_56_code 70 = .ok (.iadd, 1) := by decide +kernel
theorem d_MO_keep_71 : decode prog_11_method_56_code 71 = .ok (.aload_n 0, 1) := by decide +kernel
theorem d_MO_keep_72 : decode prog_11_method_56_code 72 = .ok (.getfield 132, 3) := by decide +kernel
theorem d_MO_keep_75 : decode prog_11_method_56_code 75 = .ok (.iastore, 1) := by decide +kernel
theorem d_MO_keep_76 : decode prog_11_method_56_code 76 = .ok (.aload_n 0, 1) := by decide +kernel
theorem d_MO_keep_77 : decode prog_11_method_56_code 77 = .ok (.getfield 123, 3) := by decide +kernel
theorem d_MO_keep_80 : decode prog_11_method_56_code 80 = .ok (.ireturn, 1) := by decide +kernel
theorem d_MO_again_0 : decode prog_11_method_57_code 0 = .ok (.iload_n 1, 1) := by decide +kernel
theorem d_MO_again_1 : decode prog_11_method_57_code 1 = .ok (.i2l, 1) := by decide +kernel
theorem d_MO_again_2 : decode prog_11_method_57_code 2 = .ok (.lconst 0, 1) := by decide +kernel
theorem d_MO_again_3 : decode prog_11_method_57_code 3 = .ok (.lconst 1, 1) := by decide +kernel
theorem d_MO_again_4 : decode prog_11_method_57_code 4 = .ok (.invokestatic 75, 3) := by decide +kernel
theorem d_MO_again_7 : decode prog_11_method_57_code 7 = .ok (.ifCond .ne 5, 3) := by decide +kernel
theorem d_MO_again_10 : decode prog_11_method_57_code 10 = .ok (.iconst (-1), 1) := by decide +kernel
theorem d_MO_again_11 : decode prog_11_method_57_code 11 = .ok (.ireturn, 1) := by decide +kernel
theorem d_MO_again_12 : decode prog_11_method_57_code 12 = .ok (.aload_n 0, 1) := by decide +kernel
theorem d_MO_again_13 : decode prog_11_method_57_code 13 = .ok (.getfield 59, 3) := by decide +kernel
theorem d_MO_again_16 : decode prog_11_method_57_code 16 = .ok (.iload_n 1, 1) := by decide +kernel
theorem d_MO_again_17 : decode prog_11_method_57_code 17 = .ok (.baload, 1) := by decide +kernel
theorem d_MO_again_18 : decode prog_11_method_57_code 18 = .ok (.ifCond .ne 6, 3) := by decide +kernel
theorem d_MO_again_21 : decode prog_11_method_57_code 21 = .ok (.bipush (-3), 2) := by decide +kernel
theorem d_MO_again_23 : decode prog_11_method_57_code 23 = .ok (.ireturn, 1) := by decide +kernel
theorem d_MO_again_24 : decode prog_11_method_57_code 24 = .ok (.iconst 0, 1) := by decide +kernel
theorem d_MO_again_25 : decode prog_11_method_57_code 25 = .ok (.istore_n 2, 1) := by decide +kernel
theorem d_MO_again_26 : decode prog_11_method_57_code 26 = .ok (.iload_n 2, 1) := by decide +kernel
theorem d_MO_again_27 : decode prog_11_method_57_code 27 = .ok (.bipush 60, 2) := by decide +kernel
theorem d_MO_again_29 : decode prog_11_method_57_code 29 = .ok (.if_icmp .ge 26, 3) := by decide +kernel
theorem d_MO_again_32 : decode prog_11_method_57_code 32 = .ok (.aload_n 0, 1) := by decide +kernel
theorem d_MO_again_33 : decode prog_11_method_57_code 33 = .ok (.getfield 22, 3) := by decide +kernel
theorem d_MO_again_36 : decode prog_11_method_57_code 36 = .ok (.iload_n 2, 1) := by decide +kernel
theorem d_MO_again_37 : decode prog_11_method_57_code 37 = .ok (.aload_n 0, 1) := by decide +kernel
theorem d_MO_again_38 : decode prog_11_method_57_code 38 = .ok (.getfield 63, 3) := by decide +kernel
theorem d_MO_again_41 : decode prog_11_method_57_code 41 = .ok (.bipush 60, 2) := by decide +kernel
theorem d_MO_again_43 : decode prog_11_method_57_code 43 = .ok (.iload_n 1, 1) := by decide +kernel
theorem d_MO_again_44 : decode prog_11_method_57_code 44 = .ok (.imul, 1) := by decide +kernel
theorem d_MO_again_45 : decode prog_11_method_57_code 45 = .ok (.iload_n 2, 1) := by decide +kernel
theorem d_MO_again_46 : decode prog_11_method_57_code 46 = .ok (.iadd, 1) := by decide +kernel
theorem d_MO_again_47 : decode prog_11_method_57_code 47 = .ok (.iaload, 1) := by decide +kernel
theorem d_MO_again_48 : decode prog_11_method_57_code 48 = .ok (.iastore, 1) := by decide +kernel
theorem d_MO_again_49 : decode prog_11_method_57_code 49 = .ok (.iinc 2 1, 3) := by decide +kernel
theorem d_MO_again_52 : decode prog_11_method_57_code 52 = .ok (.goto (-26), 3) := by decide +kernel
theorem d_MO_again_55 : decode prog_11_method_57_code 55 = .ok (.aload_n 0, 1) := by decide +kernel
theorem d_MO_again_56 : decode prog_11_method_57_code 56 = .ok (.aload_n 0, 1) := by decide +kernel
theorem d_MO_again_57 : decode prog_11_method_57_code 57 = .ok (.getfield 66, 3) := by decide +kernel
theorem d_MO_again_60 : decode prog_11_method_57_code 60 = .ok (.iconst 2, 1) := by decide +kernel
theorem d_MO_again_61 : decode prog_11_method_57_code 61 = .ok (.iload_n 1, 1) := by decide +kernel
theorem d_MO_again_62 : decode prog_11_method_57_code 62 = .ok (.imul, 1) := by decide +kernel
theorem d_MO_again_63 : decode prog_11_method_57_code 63 = .ok (.iaload, 1) := by decide +kernel
theorem d_MO_again_64 : decode prog_11_method_57_code 64 = .ok (.putfield 129, 3) := by decide +kernel
theorem d_MO_again_67 : decode prog_11_method_57_code 67 = .ok (.aload_n 0, 1) := by decide +kernel
theorem d_MO_again_68 : decode prog_11_method_57_code 68 = .ok (.aload_n 0, 1) := by decide +kernel
theorem d_MO_again_69 : decode prog_11_method_57_code 69 = .ok (.getfield 66, 3) := by decide +kernel
theorem d_MO_again_72 : decode prog_11_method_57_code 72 = .ok (.iconst 2, 1) := by decide +kernel
theorem d_MO_again_73 : decode prog_11_method_57_code 73 = .ok (.iload_n 1, 1) := by decide +kernel
theorem d_MO_again_74 : decode prog_11_method_57_code 74 = .ok (.imul, 1) := by decide +kernel
theorem d_MO_again_75 : decode prog_11_method_57_code 75 = .ok (.iconst 1, 1) := by decide +kernel
theorem d_MO_again_76 : decode prog_11_method_57_code 76 = .ok (.iadd, 1) := by decide +kernel
theorem d_MO_again_77 : decode prog_11_method_57_code 77 = .ok (.iaload, 1) := by decide +kernel
theorem d_MO_again_78 : decode prog_11_method_57_code 78 = .ok (.putfield 132, 3) := by decide +kernel
theorem d_MO_again_81 : decode prog_11_method_57_code 81 = .ok (.aload_n 0, 1) := by decide +kernel
theorem d_MO_again_82 : decode prog_11_method_57_code 82 = .ok (.getfield 123, 3) := by decide +kernel
theorem d_MO_again_85 : decode prog_11_method_57_code 85 = .ok (.ireturn, 1) := by decide +kernel
theorem d_MO_count_0 : decode prog_11_method_58_code 0 = .ok (.iconst 0, 1) := by decide +kernel
theorem d_MO_count_1 : decode prog_11_method_58_code 1 = .ok (.istore_n 2, 1) := by decide +kernel
theorem d_MO_count_2 : decode prog_11_method_58_code 2 = .ok (.iconst 0, 1) := by decide +kernel
theorem d_MO_count_3 : decode prog_11_method_58_code 3 = .ok (.istore_n 3, 1) := by decide +kernel
theorem d_MO_count_4 : decode prog_11_method_58_code 4 = .ok (.iload_n 3, 1) := by decide +kernel
theorem d_MO_count_5 : decode prog_11_method_58_code 5 = .ok (.aload_n 0, 1) := by decide +kernel
theorem d_MO_count_6 : decode prog_11_method_58_code 6 = .ok (.getfield 123, 3) := by decide +kernel
theorem d_MO_count_9 : decode prog_11_method_58_code 9 = .ok (.if_icmp .ge 22, 3) := by decide +kernel
theorem d_MO_count_12 : decode prog_11_method_58_code 12 = .ok (.iload_n 2, 1) := by decide +kernel
theorem d_MO_count_13 : decode prog_11_method_58_code 13 = .ok (.aload_n 0, 1) := by decide +kernel
theorem d_MO_count_14 : decode prog_11_method_58_code 14 = .ok (.getfield 22, 3) := by decide +kernel
theorem d_MO_count_17 : decode prog_11_method_58_code 17 = .ok (.iconst 5, 1) := by decide +kernel
theorem d_MO_count_18 : decode prog_11_method_58_code 18 = .ok (.iload_n 3, 1) := by decide +kernel
theorem d_MO_count_19 : decode prog_11_method_58_code 19 = .ok (.imul, 1) := by decide +kernel
theorem d_MO_count_20 : decode prog_11_method_58_code 20 = .ok (.iconst 4, 1) := by decide +kernel
theorem d_MO_count_21 : decode prog_11_method_58_code 21 = .ok (.iadd, 1) := by decide +kernel
theorem d_MO_count_22 : decode prog_11_method_58_code 22 = .ok (.iaload, 1) := by decide +kernel
theorem d_MO_count_23 : decode prog_11_method_58_code 23 = .ok (.iadd, 1) := by decide +kernel
theorem d_MO_count_24 : decode prog_11_method_58_code 24 = .ok (.istore_n 2, 1) := by decide +kernel
theorem d_MO_count_25 : decode prog_11_method_58_code 25 = .ok (.iinc 3 1, 3) := by decide +kernel
theorem d_MO_count_28 : decode prog_11_method_58_code 28 = .ok (.goto (-24), 3) := by decide +kernel
theorem d_MO_count_31 : decode prog_11_method_58_code 31 = .ok (.iload_n 1, 1) := by decide +kernel
theorem d_MO_count_32 : decode prog_11_method_58_code 32 = .ok (.tableswitch 76 0 6 #[44, 49, 54, 59, 64, 66, 71], 44) := by decide +kernel
theorem d_MO_count_76 : decode prog_11_method_58_code 76 = .ok (.aload_n 0, 1) := by decide +kernel
theorem d_MO_count_77 : decode prog_11_method_58_code 77 = .ok (.getfield 79, 3) := by decide +kernel
theorem d_MO_count_80 : decode prog_11_method_58_code 80 = .ok (.ireturn, 1) := by decide +kernel
theorem d_MO_count_81 : decode prog_11_method_58_code 81 = .ok (.aload_n 0, 1) := by decide +kernel
theorem d_MO_count_82 : decode prog_11_method_58_code 82 = .ok (.getfield 69, 3) := by decide +kernel
theorem d_MO_count_85 : decode prog_11_method_58_code 85 = .ok (.ireturn, 1) := by decide +kernel
theorem d_MO_count_86 : decode prog_11_method_58_code 86 = .ok (.aload_n 0, 1) := by decide +kernel
theorem d_MO_count_87 : decode prog_11_method_58_code 87 = .ok (.getfield 123, 3) := by decide +kernel
theorem d_MO_count_90 : decode prog_11_method_58_code 90 = .ok (.ireturn, 1) := by decide +kernel
theorem d_MO_count_91 : decode prog_11_method_58_code 91 = .ok (.aload_n 0, 1) := by decide +kernel
theorem d_MO_count_92 : decode prog_11_method_58_code 92 = .ok (.getfield 126, 3) := by decide +kernel
theorem d_MO_count_95 : decode prog_11_method_58_code 95 = .ok (.ireturn, 1) := by decide +kernel
theorem d_MO_count_96 : decode prog_11_method_58_code 96 = .ok (.iload_n 2, 1) := by decide +kernel
theorem d_MO_count_97 : decode prog_11_method_58_code 97 = .ok (.ireturn, 1) := by decide +kernel
theorem d_MO_count_98 : decode prog_11_method_58_code 98 = .ok (.aload_n 0, 1) := by decide +kernel
theorem d_MO_count_99 : decode prog_11_method_58_code 99 = .ok (.getfield 129, 3) := by decide +kernel
theorem d_MO_count_102 : decode prog_11_method_58_code 102 = .ok (.ireturn, 1) := by decide +kernel
theorem d_MO_count_103 : decode prog_11_method_58_code 103 = .ok (.aload_n 0, 1) := by decide +kernel
theorem d_MO_count_104 : decode prog_11_method_58_code 104 = .ok (.getfield 132, 3) := by decide +kernel
theorem d_MO_count_107 : decode prog_11_method_58_code 107 = .ok (.ireturn, 1) := by decide +kernel
theorem d_MO_count_108 : decode prog_11_method_58_code 108 = .ok (.bipush (-2), 2) := by decide +kernel
theorem d_MO_count_110 : decode prog_11_method_58_code 110 = .ok (.ireturn, 1) := by decide +kernel
