/-! decode rows -/
theorem d_BP_init_0 : decode prog_2_method_1_code 0 = .ok (.aload_n 0, 1) := by decide +kernel
theorem d_BP_init_1 : decode prog_2_method_1_code 1 = .ok (.invokespecial 3, 3) := by decide +kernel
theorem d_BP_init_4 : decode prog_2_method_1_code 4 = .ok (.aload_n 0, 1) := by decide +kernel
theorem d_BP_init_5 : decode prog_2_method_1_code 5 = .ok (.aload_n 1, 1) := by decide +kernel
theorem d_BP_init_6 : decode prog_2_method_1_code 6 = .ok (.putfield 9, 3) := by decide +kernel
theorem d_BP_init_9 : decode prog_2_method_1_code 9 = .ok (.aload_n 0, 1) := by decide +kernel
theorem d_BP_init_10 : decode prog_2_method_1_code 10 = .ok (.aload_n 2, 1) := by decide +kernel
theorem d_BP_init_11 : decode prog_2_method_1_code 11 = .ok (.putfield 15, 3) := by decide +kernel
theorem d_BP_init_14 : decode prog_2_method_1_code 14 = .ok (.aload_n 0, 1) := by decide +kernel
theorem d_BP_init_15 : decode prog_2_method_1_code 15 = .ok (.aload_n 3, 1) := by decide +kernel
theorem d_BP_init_16 : decode prog_2_method_1_code 16 = .ok (.putfield 19, 3) := by decide +kernel
theorem d_BP_init_19 : decode prog_2_method_1_code 19 = .ok (.return_, 1) := by decide +kernel
theorem d_BP_find_0 : decode prog_2_method_2_code 0 = .ok (.aload_n 0, 1) := by decide +kernel
theorem d_BP_find_1 : decode prog_2_method_2_code 1 = .ok (.getfield 9, 3) := by decide +kernel
theorem d_BP_find_4 : decode prog_2_method_2_code 4 = .ok (.iload_n 1, 1) := by decide +kernel
theorem d_BP_find_5 : decode prog_2_method_2_code 5 = .ok (.invokevirtual 23, 3) := by decide +kernel
theorem d_BP_find_8 : decode prog_2_method_2_code 8 = .ok (.ifCond .ne 6, 3) := by decide +kernel
theorem d_BP_find_11 : decode prog_2_method_2_code 11 = .ok (.bipush (-9), 2) := by decide +kernel
theorem d_BP_find_13 : decode prog_2_method_2_code 13 = .ok (.ireturn, 1) := by decide +kernel
theorem d_BP_find_14 : decode prog_2_method_2_code 14 = .ok (.aload_n 0, 1) := by decide +kernel
theorem d_BP_find_15 : decode prog_2_method_2_code 15 = .ok (.iload_n 1, 1) := by decide +kernel
theorem d_BP_find_16 : decode prog_2_method_2_code 16 = .ok (.putfield 29, 3) := by decide +kernel
theorem d_BP_find_19 : decode prog_2_method_2_code 19 = .ok (.aload_n 0, 1) := by decide +kernel
theorem d_BP_find_20 : decode prog_2_method_2_code 20 = .ok (.bipush 13, 2) := by decide +kernel
theorem d_BP_find_22 : decode prog_2_method_2_code 22 = .ok (.putfield 33, 3) := by decide +kernel
theorem d_BP_find_25 : decode prog_2_method_2_code 25 = .ok (.aload_n 0, 1) := by decide +kernel
theorem d_BP_find_26 : decode prog_2_method_2_code 26 = .ok (.bipush (-9), 2) := by decide +kernel
theorem d_BP_find_28 : decode prog_2_method_2_code 28 = .ok (.putfield 36, 3) := by decide +kernel
theorem d_BP_find_31 : decode prog_2_method_2_code 31 = .ok (.aload_n 0, 1) := by decide +kernel
theorem d_BP_find_32 : decode prog_2_method_2_code 32 = .ok (.getfield 19, 3) := by decide +kernel
theorem d_BP_find_35 : decode prog_2_method_2_code 35 = .ok (.aload_n 0, 1) := by decide +kernel
theorem d_BP_find_36 : decode prog_2_method_2_code 36 = .ok (.getfield 15, 3) := by decide +kernel
theorem d_BP_find_39 : decode prog_2_method_2_code 39 = .ok (.aload_n 0, 1) := by decide +kernel
theorem d_BP_find_40 : decode prog_2_method_2_code 40 = .ok (.getfield 15, 3) := by decide +kernel
theorem d_BP_find_43 : decode prog_2_method_2_code 43 = .ok (.aload_n 0, 1) := by decide +kernel
theorem d_BP_find_44 : decode prog_2_method_2_code 44 = .ok (.getfield 29, 3) := by decide +kernel
theorem d_BP_find_47 : decode prog_2_method_2_code 47 = .ok (.invokevirtual 39, 3) := by decide +kernel
theorem d_BP_find_50 : decode prog_2_method_2_code 50 = .ok (.invokevirtual 45, 3) := by decide +kernel
theorem d_BP_find_53 : decode prog_2_method_2_code 53 = .ok (.invokevirtual 48, 3) := by decide +kernel
theorem d_BP_find_56 : decode prog_2_method_2_code 56 = .ok (.aload_n 0, 1) := by decide +kernel
theorem d_BP_find_57 : decode prog_2_method_2_code 57 = .ok (.aload_n 0, 1) := by decide +kernel
theorem d_BP_find_58 : decode prog_2_method_2_code 58 = .ok (.getfield 15, 3) := by decide +kernel
theorem d_BP_find_61 : decode prog_2_method_2_code 61 = .ok (.getfield 54, 3) := by decide +kernel
theorem d_BP_find_64 : decode prog_2_method_2_code 64 = .ok (.iconst 1, 1) := by decide +kernel
theorem d_BP_find_65 : decode prog_2_method_2_code 65 = .ok (.isub, 1) := by decide +kernel
theorem d_BP_find_66 : decode prog_2_method_2_code 66 = .ok (.iconst 0, 1) := by decide +kernel
theorem d_BP_find_67 : decode prog_2_method_2_code 67 = .ok (.invokestatic 57, 3) := by decide +kernel
theorem d_BP_find_70 : decode prog_2_method_2_code 70 = .ok (.aload_n 0, 1) := by decide +kernel
theorem d_BP_find_71 : decode prog_2_method_2_code 71 = .ok (.getfield 36, 3) := by decide +kernel
theorem d_BP_find_74 : decode prog_2_method_2_code 74 = .ok (.ireturn, 1) := by decide +kernel
theorem d_BP_decideFrom_0 : decode prog_2_method_3_code 0 = .ok (.iload_n 2, 1) := by decide +kernel
theorem d_BP_decideFrom_1 : decode prog_2_method_3_code 1 = .ok (.invokestatic 61, 3) := by decide +kernel
theorem d_BP_decideFrom_4 : decode prog_2_method_3_code 4 = .ok (.istore_n 3, 1) := by decide +kernel
theorem d_BP_decideFrom_5 : decode prog_2_method_3_code 5 = .ok (.iload_n 3, 1) := by decide +kernel
theorem d_BP_decideFrom_6 : decode prog_2_method_3_code 6 = .ok (.aload_n 0, 1) := by decide +kernel
theorem d_BP_decideFrom_7 : decode prog_2_method_3_code 7 = .ok (.getfield 33, 3) := by decide +kernel
theorem d_BP_decideFrom_10 : decode prog_2_method_3_code 10 = .ok (.if_icmp .ge 17, 3) := by decide +kernel
theorem d_BP_decideFrom_13 : decode prog_2_method_3_code 13 = .ok (.aload_n 0, 1) := by decide +kernel
theorem d_BP_decideFrom_14 : decode prog_2_method_3_code 14 = .ok (.getfield 19, 3) := by decide +kernel
theorem d_BP_decideFrom_17 : decode prog_2_method_3_code 17 = .ok (.aload_n 0, 1) := by decide +kernel
theorem d_BP_decideFrom_18 : decode prog_2_method_3_code 18 = .ok (.getfield 29, 3) := by decide +kernel
theorem d_BP_decideFrom_21 : decode prog_2_method_3_code 21 = .ok (.invokevirtual 66, 3) := by decide +kernel
theorem d_BP_decideFrom_24 : decode prog_2_method_3_code 24 = .ok (.ifCond .le 4, 3) := by decide +kernel
theorem d_BP_decideFrom_27 : decode prog_2_method_3_code 27 = .ok (.return_, 1) := by decide +kernel
theorem d_BP_decideFrom_28 : decode prog_2_method_3_code 28 = .ok (.aload_n 0, 1) := by decide +kernel
theorem d_BP_decideFrom_29 : decode prog_2_method_3_code 29 = .ok (.iload_n 1, 1) := by decide +kernel
theorem d_BP_decideFrom_30 : decode prog_2_method_3_code 30 = .ok (.invokevirtual 69, 3) := by decide +kernel
theorem d_BP_decideFrom_33 : decode prog_2_method_3_code 33 = .ok (.istore 4, 2) := by decide +kernel
theorem d_BP_decideFrom_35 : decode prog_2_method_3_code 35 = .ok (.iload 4, 2) := by decide +kernel
theorem d_BP_decideFrom_37 : decode prog_2_method_3_code 37 = .ok (.iconst (-1), 1) := by decide +kernel
theorem d_BP_decideFrom_38 : decode prog_2_method_3_code 38 = .ok (.if_icmp .ne 14, 3) := by decide +kernel
theorem d_BP_decideFrom_41 : decode prog_2_method_3_code 41 = .ok (.aload_n 0, 1) := by decide +kernel
theorem d_BP_decideFrom_42 : decode prog_2_method_3_code 42 = .ok (.iload_n 3, 1) := by decide +kernel
theorem d_BP_decideFrom_43 : decode prog_2_method_3_code 43 = .ok (.putfield 33, 3) := by decide +kernel
theorem d_BP_decideFrom_46 : decode prog_2_method_3_code 46 = .ok (.aload_n 0, 1) := by decide +kernel
theorem d_BP_decideFrom_47 : decode prog_2_method_3_code 47 = .ok (.iload_n 2, 1) := by decide +kernel
theorem d_BP_decideFrom_48 : decode prog_2_method_3_code 48 = .ok (.putfield 36, 3) := by decide +kernel
theorem d_BP_decideFrom_51 : decode prog_2_method_3_code 51 = .ok (.return_, 1) := by decide +kernel
theorem d_BP_decideFrom_52 : decode prog_2_method_3_code 52 = .ok (.aload_n 0, 1) := by decide +kernel
theorem d_BP_decideFrom_53 : decode prog_2_method_3_code 53 = .ok (.getfield 15, 3) := by decide +kernel
theorem d_BP_decideFrom_56 : decode prog_2_method_3_code 56 = .ok (.getfield 72, 3) := by decide +kernel
theorem d_BP_decideFrom_59 : decode prog_2_method_3_code 59 = .ok (.iload 4, 2) := by decide +kernel
theorem d_BP_decideFrom_61 : decode prog_2_method_3_code 61 = .ok (.iaload, 1) := by decide +kernel
theorem d_BP_decideFrom_62 : decode prog_2_method_3_code 62 = .ok (.istore 5, 2) := by decide +kernel
theorem d_BP_decideFrom_64 : decode prog_2_method_3_code 64 = .ok (.aload_n 0, 1) := by decide +kernel
theorem d_BP_decideFrom_65 : decode prog_2_method_3_code 65 = .ok (.getfield 15, 3) := by decide +kernel
theorem d_BP_decideFrom_68 : decode prog_2_method_3_code 68 = .ok (.getfield 76, 3) := by decide +kernel
theorem d_BP_decideFrom_71 : decode prog_2_method_3_code 71 = .ok (.iload 4, 2) := by decide +kernel
theorem d_BP_decideFrom_73 : decode prog_2_method_3_code 73 = .ok (.iaload, 1) := by decide +kernel
theorem d_BP_decideFrom_74 : decode prog_2_method_3_code 74 = .ok (.istore 6, 2) := by decide +kernel
theorem d_BP_decideFrom_76 : decode prog_2_method_3_code 76 = .ok (.aload_n 0, 1) := by decide +kernel
theorem d_BP_decideFrom_77 : decode prog_2_method_3_code 77 = .ok (.getfield 19, 3) := by decide +kernel
theorem d_BP_decideFrom_80 : decode prog_2_method_3_code 80 = .ok (.iload 4, 2) := by decide +kernel
theorem d_BP_decideFrom_82 : decode prog_2_method_3_code 82 = .ok (.iload 6, 2) := by decide +kernel
theorem d_BP_decideFrom_84 : decode prog_2_method_3_code 84 = .ok (.iload 5, 2) := by decide +kernel
theorem d_BP_decideFrom_86 : decode prog_2_method_3_code 86 = .ok (.ineg, 1) := by decide +kernel
theorem d_BP_decideFrom_87 : decode prog_2_method_3_code 87 = .ok (.invokevirtual 79, 3) := by decide +kernel
theorem d_BP_decideFrom_90 : decode prog_2_method_3_code 90 = .ok (.aload_n 0, 1) := by decide +kernel
theorem d_BP_decideFrom_91 : decode prog_2_method_3_code 91 = .ok (.iload 4, 2) := by decide +kernel
theorem d_BP_decideFrom_93 : decode prog_2_method_3_code 93 = .ok (.iconst 1, 1) := by decide +kernel
theorem d_BP_decideFrom_94 : decode prog_2_method_3_code 94 = .ok (.isub, 1) := by decide +kernel
theorem d_BP_decideFrom_95 : decode prog_2_method_3_code 95 = .ok (.iload_n 2, 1) := by decide +kernel
theorem d_BP_decideFrom_96 : decode prog_2_method_3_code 96 = .ok (.invokestatic 57, 3) := by decide +kernel
theorem d_BP_decideFrom_99 : decode prog_2_method_3_code 99 = .ok (.aload_n 0, 1) := by decide +kernel
theorem d_BP_decideFrom_100 : decode prog_2_method_3_code 100 = .ok (.getfield 19, 3) := by decide +kernel
theorem d_BP_decideFrom_103 : decode prog_2_method_3_code 103 = .ok (.iload 4, 2) := by decide +kernel
theorem d_BP_decideFrom_105 : decode prog_2_method_3_code 105 = .ok (.iload 6, 2) := by decide +kernel
theorem d_BP_decideFrom_107 : decode prog_2_method_3_code 107 = .ok (.iload 5, 2) := by decide +kernel
theorem d_BP_decideFrom_109 : decode prog_2_method_3_code 109 = .ok (.invokevirtual 79, 3) := by decide +kernel
theorem d_BP_decideFrom_112 : decode prog_2_method_3_code 112 = .ok (.aload_n 0, 1) := by decide +kernel
theorem d_BP_decideFrom_113 : decode prog_2_method_3_code 113 = .ok (.iload 4, 2) := by decide +kernel
theorem d_BP_decideFrom_115 : decode prog_2_method_3_code 115 = .ok (.iconst 1, 1) := by decide +kernel
theorem d_BP_decideFrom_116 : decode prog_2_method_3_code 116 = .ok (.isub, 1) := by decide +kernel
theorem d_BP_decideFrom_117 : decode prog_2_method_3_code 117 = .ok (.iload_n 2, 1) := by decide +kernel
theorem d_BP_decideFrom_118 : decode prog_2_method_3_code 118 = .ok (.iconst 1, 1) := by decide +kernel
theorem d_BP_decideFrom_119 : decode prog_2_method_3_code 119 = .ok (.iload 4, 2) := by decide +kernel
theorem d_BP_decideFrom_121 : decode prog_2_method_3_code 121 = .ok (.ishl, 1) := by decide +kernel
theorem d_BP_decideFrom_122 : decode prog_2_method_3_code 122 = .ok (.ior, 1) := by decide +kernel
theorem d_BP_decideFrom_123 : decode prog_2_method_3_code 123 = .ok (.invokestatic 57, 3) := by decide +kernel
theorem d_BP_decideFrom_126 : decode prog_2_method_3_code 126 = .ok (.return_, 1) := by decide +kernel
theorem d_BP_nextToDecide_0 : decode prog_2_method_4_code 0 = .ok (.iload_n 1, 1) := by decide +kernel
theorem d_BP_nextToDecide_1 : decode prog_2_method_4_code 1 = .ok (.aload_n 0, 1) := by decide +kernel
theorem d_BP_nextToDecide_2 : decode prog_2_method_4_code 2 = .ok (.getfield 15, 3) := by decide +kernel
theorem d_BP_nextToDecide_5 : decode prog_2_method_4_code 5 = .ok (.getfield 54, 3) := by decide +kernel
theorem d_BP_nextToDecide_8 : decode prog_2_method_4_code 8 = .ok (.iconst 1, 1) := by decide +kernel
theorem d_BP_nextToDecide_9 : decode prog_2_method_4_code 9 = .ok (.isub, 1) := by decide +kernel
theorem d_BP_nextToDecide_10 : decode prog_2_method_4_code 10 = .ok (.invokestatic 83, 3) := by decide +kernel
theorem d_BP_nextToDecide_13 : decode prog_2_method_4_code 13 = .ok (.istore_n 2, 1) := by decide +kernel
theorem d_BP_nextToDecide_14 : decode prog_2_method_4_code 14 = .ok (.iload_n 2, 1) := by decide +kernel
theorem d_BP_nextToDecide_15 : decode prog_2_method_4_code 15 = .ok (.ifCond .lt 39, 3) := by decide +kernel
theorem d_BP_nextToDecide_18 : decode prog_2_method_4_code 18 = .ok (.aload_n 0, 1) := by decide +kernel
theorem d_BP_nextToDecide_19 : decode prog_2_method_4_code 19 = .ok (.getfield 15, 3) := by decide +kernel
theorem d_BP_nextToDecide_22 : decode prog_2_method_4_code 22 = .ok (.getfield 89, 3) := by decide +kernel
theorem d_BP_nextToDecide_25 : decode prog_2_method_4_code 25 = .ok (.iload_n 2, 1) := by decide +kernel
theorem d_BP_nextToDecide_26 : decode prog_2_method_4_code 26 = .ok (.iaload, 1) := by decide +kernel
theorem d_BP_nextToDecide_27 : decode prog_2_method_4_code 27 = .ok (.aload_n 0, 1) := by decide +kernel
theorem d_BP_nextToDecide_28 : decode prog_2_method_4_code 28 = .ok (.getfield 29, 3) := by decide +kernel
theorem d_BP_nextToDecide_31 : decode prog_2_method_4_code 31 = .ok (.if_icmp .ne 17, 3) := by decide +kernel
theorem d_BP_nextToDecide_34 : decode prog_2_method_4_code 34 = .ok (.aload_n 0, 1) := by decide +kernel
theorem d_BP_nextToDecide_35 : decode prog_2_method_4_code 35 = .ok (.getfield 15, 3) := by decide +kernel
theorem d_BP_nextToDecide_38 : decode prog_2_method_4_code 38 = .ok (.getfield 92, 3) := by decide +kernel
theorem d_BP_nextToDecide_41 : decode prog_2_method_4_code 41 = .ok (.iload_n 2, 1) := by decide +kernel
theorem d_BP_nextToDecide_42 : decode prog_2_method_4_code 42 = .ok (.baload, 1) := by decide +kernel
theorem d_BP_nextToDecide_43 : decode prog_2_method_4_code 43 = .ok (.ifCond .ne 5, 3) := by decide +kernel
theorem d_BP_nextToDecide_46 : decode prog_2_method_4_code 46 = .ok (.iload_n 2, 1) := by decide +kernel
theorem d_BP_nextToDecide_47 : decode prog_2_method_4_code 47 = .ok (.ireturn, 1) := by decide +kernel
theorem d_BP_nextToDecide_48 : decode prog_2_method_4_code 48 = .ok (.iinc 2 (-1), 3) := by decide +kernel
theorem d_BP_nextToDecide_51 : decode prog_2_method_4_code 51 = .ok (.goto (-37), 3) := by decide +kernel
theorem d_BP_nextToDecide_54 : decode prog_2_method_4_code 54 = .ok (.iconst (-1), 1) := by decide +kernel
theorem d_BP_nextToDecide_55 : decode prog_2_method_4_code 55 = .ok (.ireturn, 1) := by decide +kernel
theorem d_MA_init_0 : decode prog_3_method_1_code 0 = .ok (.aload_n 0, 1) := by decide +kernel
theorem d_MA_init_1 : decode prog_3_method_1_code 1 = .ok (.invokespecial 3, 3) := by decide +kernel
theorem d_MA_init_4 : decode prog_3_method_1_code 4 = .ok (.aload_n 0, 1) := by decide +kernel
theorem d_MA_init_5 : decode prog_3_method_1_code 5 = .ok (.aload_n 1, 1) := by decide +kernel
theorem d_MA_init_6 : decode prog_3_method_1_code 6 = .ok (.putfield 9, 3) := by decide +kernel
theorem d_MA_init_9 : decode prog_3_method_1_code 9 = .ok (.aload_n 0, 1) := by decide +kernel
theorem d_MA_init_10 : decode prog_3_method_1_code 10 = .ok (.aload_n 2, 1) := by decide +kernel
theorem d_MA_init_11 : decode prog_3_method_1_code 11 = .ok (.putfield 15, 3) := by decide +kernel
theorem d_MA_init_14 : decode prog_3_method_1_code 14 = .ok (.aload_n 0, 1) := by decide +kernel
theorem d_MA_init_15 : decode prog_3_method_1_code 15 = .ok (.bipush 24, 2) := by decide +kernel
theorem d_MA_init_17 : decode prog_3_method_1_code 17 = .ok (.newarray .int, 2) := by decide +kernel
theorem d_MA_init_19 : decode prog_3_method_1_code 19 = .ok (.putfield 19, 3) := by decide +kernel
theorem d_MA_init_22 : decode prog_3_method_1_code 22 = .ok (.aload_n 0, 1) := by decide +kernel
theorem d_MA_init_23 : decode prog_3_method_1_code 23 = .ok (.bipush 24, 2) := by decide +kernel
theorem d_MA_init_25 : decode prog_3_method_1_code 25 = .ok (.newarray .int, 2) := by decide +kernel
theorem d_MA_init_27 : decode prog_3_method_1_code 27 = .ok (.putfield 23, 3) := by decide +kernel
theorem d_MA_init_30 : decode prog_3_method_1_code 30 = .ok (.aload_n 0, 1) := by decide +kernel
theorem d_MA_init_31 : decode prog_3_method_1_code 31 = .ok (.bipush 24, 2) := by decide +kernel
theorem d_MA_init_33 : decode prog_3_method_1_code 33 = .ok (.newarray .int, 2) := by decide +kernel
theorem d_MA_init_35 : decode prog_3_method_1_code 35 = .ok (.putfield 26, 3) := by decide +kernel
theorem d_MA_init_38 : decode prog_3_method_1_code 38 = .ok (.return_, 1) := by decide +kernel
theorem d_MA_gather_0 : decode prog_3_method_2_code 0 = .ok (.aload_n 0, 1) := by decide +kernel
theorem d_MA_gather_1 : decode prog_3_method_2_code 1 = .ok (.iconst 0, 1) := by decide +kernel
theorem d_MA_gather_2 : decode prog_3_method_2_code 2 = .ok (.invokevirtual 29, 3) := by decide +kernel
theorem d_MA_gather_5 : decode prog_3_method_2_code 5 = .ok (.iconst 0, 1) := by decide +kernel
theorem d_MA_gather_6 : decode prog_3_method_2_code 6 = .ok (.istore_n 3, 1) := by decide +kernel
theorem d_MA_gather_7 : decode prog_3_method_2_code 7 = .ok (.iload_n 3, 1) := by decide +kernel
theorem d_MA_gather_8 : decode prog_3_method_2_code 8 = .ok (.aload_n 0, 1) := by decide +kernel
theorem d_MA_gather_9 : decode prog_3_method_2_code 9 = .ok (.getfield 15, 3) := by decide +kernel
theorem d_MA_gather_12 : decode prog_3_method_2_code 12 = .ok (.getfield 33, 3) := by decide +kernel
theorem d_MA_gather_15 : decode prog_3_method_2_code 15 = .ok (.if_icmp .ge 63, 3) := by decide +kernel
theorem d_MA_gather_18 : decode prog_3_method_2_code 18 = .ok (.iload_n 1, 1) := by decide +kernel
theorem d_MA_gather_19 : decode prog_3_method_2_code 19 = .ok (.iload_n 3, 1) := by decide +kernel
theorem d_MA_gather_20 : decode prog_3_method_2_code 20 = .ok (.ishr, 1) := by decide +kernel
theorem d_MA_gather_21 : decode prog_3_method_2_code 21 = .ok (.iconst 1, 1) := by decide +kernel
theorem d_MA_gather_22 : decode prog_3_method_2_code 22 = .ok (.iand, 1) := by decide +kernel
theorem d_MA_gather_23 : decode prog_3_method_2_code 23 = .ok (.ifCond .ne 6, 3) := by decide +kernel
theorem d_MA_gather_26 : decode prog_3_method_2_code 26 = .ok (.goto 46, 3) := by decide +kernel
theorem d_MA_gather_29 : decode prog_3_method_2_code 29 = .ok (.iconst 0, 1) := by decide +kernel
theorem d_MA_gather_30 : decode prog_3_method_2_code 30 = .ok (.istore 4, 2) := by decide +kernel
theorem d_MA_gather_32 : decode prog_3_method_2_code 32 = .ok (.iload 4, 2) := by decide +kernel
theorem d_MA_gather_34 : decode prog_3_method_2_code 34 = .ok (.aload_n 0, 1) := by decide +kernel
theorem d_MA_gather_35 : decode prog_3_method_2_code 35 = .ok (.getfield 9, 3) := by decide +kernel
theorem d_MA_gather_38 : decode prog_3_method_2_code 38 = .ok (.getfield 39, 3) := by decide +kernel
theorem d_MA_gather_41 : decode prog_3_method_2_code 41 = .ok (.if_icmp .ge 31, 3) := by decide +kernel
theorem d_MA_gather_44 : decode prog_3_method_2_code 44 = .ok (.aload_n 0, 1) := by decide +kernel
theorem d_MA_gather_45 : decode prog_3_method_2_code 45 = .ok (.getfield 19, 3) := by decide +kernel
theorem d_MA_gather_48 : decode prog_3_method_2_code 48 = .ok (.iload 4, 2) := by decide +kernel
theorem d_MA_gather_50 : decode prog_3_method_2_code 50 = .ok (.dup2, 1) := by decide +kernel
theorem d_MA_gather_51 : decode prog_3_method_2_code 51 = .ok (.iaload, 1) := by decide +kernel
theorem d_MA_gather_52 : decode prog_3_method_2_code 52 = .ok (.aload_n 0, 1) := by decide +kernel
theorem d_MA_gather_53 : decode prog_3_method_2_code 53 = .ok (.getfield 15, 3) := by decide +kernel
theorem d_MA_gather_56 : decode prog_3_method_2_code 56 = .ok (.iload_n 3, 1) := by decide +kernel
theorem d_MA_gather_57 : decode prog_3_method_2_code 57 = .ok (.iload 4, 2) := by decide +kernel
theorem d_MA_gather_59 : decode prog_3_method_2_code 59 = .ok (.iload_n 2, 1) := by decide +kernel
theorem d_MA_gather_60 : decode prog_3_method_2_code 60 = .ok (.iadd, 1) := by decide +kernel
theorem d_MA_gather_61 : decode prog_3_method_2_code 61 = .ok (.invokevirtual 44, 3) := by decide +kernel
theorem d_MA_gather_64 : decode prog_3_method_2_code 64 = .ok (.iadd, 1) := by decide +kernel
theorem d_MA_gather_65 : decode prog_3_method_2_code 65 = .ok (.iastore, 1) := by decide +kernel
theorem d_MA_gather_66 : decode prog_3_method_2_code 66 = .ok (.iinc 4 1, 3) := by decide +kernel
theorem d_MA_gather_69 : decode prog_3_method_2_code 69 = .ok (.goto (-37), 3) := by decide +kernel
theorem d_MA_gather_72 : decode prog_3_method_2_code 72 = .ok (.iinc 3 1, 3) := by decide +kernel
theorem d_MA_gather_75 : decode prog_3_method_2_code 75 = .ok (.goto (-68), 3) := by decide +kernel
theorem d_MA_gather_78 : decode prog_3_method_2_code 78 = .ok (.return_, 1) := by decide +kernel
theorem d_MA_fill_0 : decode prog_3_method_3_code 0 = .ok (.iconst 0, 1) := by decide +kernel
theorem d_MA_fill_1 : decode prog_3_method_3_code 1 = .ok (.istore_n 2, 1) := by decide +kernel
theorem d_MA_fill_2 : decode prog_3_method_3_code 2 = .ok (.iload_n 2, 1) := by decide +kernel
theorem d_MA_fill_3 : decode prog_3_method_3_code 3 = .ok (.aload_n 0, 1) := by decide +kernel
theorem d_MA_fill_4 : decode prog_3_method_3_code 4 = .ok (.getfield 9, 3) := by decide +kernel
theorem d_MA_fill_7 : decode prog_3_method_3_code 7 = .ok (.getfield 39, 3) := by decide +kernel
theorem d_MA_fill_10 : decode prog_3_method_3_code 10 = .ok (.if_icmp .ge 16, 3) := by decide +kernel
theorem d_MA_fill_13 : decode prog_3_method_3_code 13 = .ok (.aload_n 0, 1) := by decide +kernel
theorem d_MA_fill_14 : decode prog_3_method_3_code 14 = .ok (.getfield 19, 3) := by decide +kernel
theorem d_MA_fill_17 : decode prog_3_method_3_code 17 = .ok (.iload_n 2, 1) := by decide +kernel
theorem d_MA_fill_18 : decode prog_3_method_3_code 18 = .ok (.iload_n 1, 1) := by decide +kernel
theorem d_MA_fill_19 : decode prog_3_method_3_code 19 = .ok (.iastore, 1) := by decide +kernel
theorem d_MA_fill_20 : decode prog_3_method_3_code 20 = .ok (.iinc 2 1, 3) := by decide +kernel
theorem d_MA_fill_23 : decode prog_3_method_3_code 23 = .ok (.goto (-21), 3) := by decide +kernel
theorem d_MA_fill_26 : decode prog_3_method_3_code 26 = .ok (.return_, 1) := by decide +kernel
theorem d_MA_addAtBreaths_0 : decode prog_3_method_4_code 0 = .ok (.aload_n 0, 1) := by decide +kernel
theorem d_MA_addAtBreaths_1 : decode prog_3_method_4_code 1 = .ok (.getfield 15, 3) := by decide +kernel
theorem d_MA_addAtBreaths_4 : decode prog_3_method_4_code 4 = .ok (.iload_n 1, 1) := by decide +kernel
theorem d_MA_addAtBreaths_5 : decode prog_3_method_4_code 5 = .ok (.invokevirtual 48, 3) := by decide +kernel
theorem d_MA_addAtBreaths_8 : decode prog_3_method_4_code 8 = .ok (.istore 4, 2) := by decide +kernel
theorem d_MA_addAtBreaths_10 : decode prog_3_method_4_code 10 = .ok (.aload_n 0, 1) := by decide +kernel
theorem d_MA_addAtBreaths_11 : decode prog_3_method_4_code 11 = .ok (.getfield 15, 3) := by decide +kernel
theorem d_MA_addAtBreaths_14 : decode prog_3_method_4_code 14 = .ok (.getfield 52, 3) := by decide +kernel
theorem d_MA_addAtBreaths_17 : decode prog_3_method_4_code 17 = .ok (.iload_n 1, 1) := by decide +kernel
theorem d_MA_addAtBreaths_18 : decode prog_3_method_4_code 18 = .ok (.iaload, 1) := by decide +kernel
theorem d_MA_addAtBreaths_19 : decode prog_3_method_4_code 19 = .ok (.iload_n 2, 1) := by decide +kernel
theorem d_MA_addAtBreaths_20 : decode prog_3_method_4_code 20 = .ok (.isub, 1) := by decide +kernel
theorem d_MA_addAtBreaths_21 : decode prog_3_method_4_code 21 = .ok (.aload_n 0, 1) := by decide +kernel
theorem d_MA_addAtBreaths_22 : decode prog_3_method_4_code 22 = .ok (.getfield 15, 3) := by decide +kernel
theorem d_MA_addAtBreaths_25 : decode prog_3_method_4_code 25 = .ok (.getfield 55, 3) := by decide +kernel
theorem d_MA_addAtBreaths_28 : decode prog_3_method_4_code 28 = .ok (.isub, 1) := by decide +kernel
theorem d_MA_addAtBreaths_29 : decode prog_3_method_4_code 29 = .ok (.iload 4, 2) := by decide +kernel
theorem d_MA_addAtBreaths_31 : decode prog_3_method_4_code 31 = .ok (.invokestatic 58, 3) := by decide +kernel
theorem d_MA_addAtBreaths_34 : decode prog_3_method_4_code 34 = .ok (.istore 5, 2) := by decide +kernel
theorem d_MA_addAtBreaths_36 : decode prog_3_method_4_code 36 = .ok (.iload 5, 2) := by decide +kernel
theorem d_MA_addAtBreaths_38 : decode prog_3_method_4_code 38 = .ok (.istore 6, 2) := by decide +kernel
theorem d_MA_addAtBreaths_40 : decode prog_3_method_4_code 40 = .ok (.iload 6, 2) := by decide +kernel
theorem d_MA_addAtBreaths_42 : decode prog_3_method_4_code 42 = .ok (.aload_n 0, 1) := by decide +kernel
theorem d_MA_addAtBreaths_43 : decode prog_3_method_4_code 43 = .ok (.getfield 9, 3) := by decide +kernel
theorem d_MA_addAtBreaths_46 : decode prog_3_method_4_code 46 = .ok (.getfield 39, 3) := by decide +kernel
theorem d_MA_addAtBreaths_49 : decode prog_3_method_4_code 49 = .ok (.if_icmp .ge 24, 3) := by decide +kernel
theorem d_MA_addAtBreaths_52 : decode prog_3_method_4_code 52 = .ok (.aload_n 0, 1) := by decide +kernel
theorem d_MA_addAtBreaths_53 : decode prog_3_method_4_code 53 = .ok (.getfield 19, 3) := by decide +kernel
theorem d_MA_addAtBreaths_56 : decode prog_3_method_4_code 56 = .ok (.iload 6, 2) := by decide +kernel
theorem d_MA_addAtBreaths_58 : decode prog_3_method_4_code 58 = .ok (.dup2, 1) := by decide +kernel
theorem d_MA_addAtBreaths_59 : decode prog_3_method_4_code 59 = .ok (.iaload, 1) := by decide +kernel
theorem d_MA_addAtBreaths_60 : decode prog_3_method_4_code 60 = .ok (.iload_n 3, 1) := by decide +kernel
theorem d_MA_addAtBreaths_61 : decode prog_3_method_4_code 61 = .ok (.iadd, 1) := by decide +kernel
theorem d_MA_addAtBreaths_62 : decode prog_3_method_4_code 62 = .ok (.iastore, 1) := by decide +kernel
theorem d_MA_addAtBreaths_63 : decode prog_3_method_4_code 63 = .ok (.iload 6, 2) := by decide +kernel
theorem d_MA_addAtBreaths_65 : decode prog_3_method_4_code 65 = .ok (.iload 4, 2) := by decide +kernel
theorem d_MA_addAtBreaths_67 : decode prog_3_method_4_code 67 = .ok (.iadd, 1) := by decide +kernel
theorem d_MA_addAtBreaths_68 : decode prog_3_method_4_code 68 = .ok (.istore 6, 2) := by decide +kernel
theorem d_MA_addAtBreaths_70 : decode prog_3_method_4_code 70 = .ok (.goto (-30), 3) := by decide +kernel
theorem d_MA_addAtBreaths_73 : decode prog_3_method_4_code 73 = .ok (.return_, 1) := by decide +kernel
theorem d_MA_blow_0 : decode prog_3_method_5_code 0 = .ok (.iconst 0, 1) := by decide +kernel
theorem d_MA_blow_1 : decode prog_3_method_5_code 1 = .ok (.istore_n 2, 1) := by decide +kernel
theorem d_MA_blow_2 : decode prog_3_method_5_code 2 = .ok (.iconst 0, 1) := by decide +kernel
theorem d_MA_blow_3 : decode prog_3_method_5_code 3 = .ok (.istore_n 3, 1) := by decide +kernel
theorem d_MA_blow_4 : decode prog_3_method_5_code 4 = .ok (.iconst 0, 1) := by decide +kernel
theorem d_MA_blow_5 : decode prog_3_method_5_code 5 = .ok (.istore 4, 2) := by decide +kernel
theorem d_MA_blow_7 : decode prog_3_method_5_code 7 = .ok (.iload 4, 2) := by decide +kernel
theorem d_MA_blow_9 : decode prog_3_method_5_code 9 = .ok (.aload_n 0, 1) := by decide +kernel
theorem d_MA_blow_10 : decode prog_3_method_5_code 10 = .ok (.getfield 9, 3) := by decide +kernel
theorem d_MA_blow_13 : decode prog_3_method_5_code 13 = .ok (.getfield 39, 3) := by decide +kernel
theorem d_MA_blow_16 : decode prog_3_method_5_code 16 = .ok (.if_icmp .ge 96, 3) := by decide +kernel
theorem d_MA_blow_19 : decode prog_3_method_5_code 19 = .ok (.iload_n 2, 1) := by decide +kernel
theorem d_MA_blow_20 : decode prog_3_method_5_code 20 = .ok (.aload_n 0, 1) := by decide +kernel
theorem d_MA_blow_21 : decode prog_3_method_5_code 21 = .ok (.getfield 19, 3) := by decide +kernel
theorem d_MA_blow_24 : decode prog_3_method_5_code 24 = .ok (.iload 4, 2) := by decide +kernel
theorem d_MA_blow_26 : decode prog_3_method_5_code 26 = .ok (.iaload, 1) := by decide +kernel
theorem d_MA_blow_27 : decode prog_3_method_5_code 27 = .ok (.iadd, 1) := by decide +kernel
theorem d_MA_blow_28 : decode prog_3_method_5_code 28 = .ok (.istore 5, 2) := by decide +kernel
theorem d_MA_blow_30 : decode prog_3_method_5_code 30 = .ok (.aload_n 0, 1) := by decide +kernel
theorem d_MA_blow_31 : decode prog_3_method_5_code 31 = .ok (.getfield 9, 3) := by decide +kernel
theorem d_MA_blow_34 : decode prog_3_method_5_code 34 = .ok (.iload_n 1, 1) := by decide +kernel
theorem d_MA_blow_35 : decode prog_3_method_5_code 35 = .ok (.iload 4, 2) := by decide +kernel
theorem d_MA_blow_37 : decode prog_3_method_5_code 37 = .ok (.invokevirtual 63, 3) := by decide +kernel
theorem d_MA_blow_40 : decode prog_3_method_5_code 40 = .ok (.ifCond .eq 17, 3) := by decide +kernel
theorem d_MA_blow_43 : decode prog_3_method_5_code 43 = .ok (.iload 5, 2) := by decide +kernel
theorem d_MA_blow_45 : decode prog_3_method_5_code 45 = .ok (.aload_n 0, 1) := by decide +kernel
theorem d_MA_blow_46 : decode prog_3_method_5_code 46 = .ok (.getfield 9, 3) := by decide +kernel
theorem d_MA_blow_49 : decode prog_3_method_5_code 49 = .ok (.getfield 67, 3) := by decide +kernel
theorem d_MA_blow_52 : decode prog_3_method_5_code 52 = .ok (.iload_n 1, 1) := by decide +kernel
theorem d_MA_blow_53 : decode prog_3_method_5_code 53 = .ok (.iaload, 1) := by decide +kernel
theorem d_MA_blow_54 : decode prog_3_method_5_code 54 = .ok (.isub, 1) := by decide +kernel
theorem d_MA_blow_55 : decode prog_3_method_5_code 55 = .ok (.istore 5, 2) := by decide +kernel
theorem d_MA_blow_57 : decode prog_3_method_5_code 57 = .ok (.iconst 0, 1) := by decide +kernel
theorem d_MA_blow_58 : decode prog_3_method_5_code 58 = .ok (.iload 5, 2) := by decide +kernel
theorem d_MA_blow_60 : decode prog_3_method_5_code 60 = .ok (.aload_n 0, 1) := by decide +kernel
theorem d_MA_blow_61 : decode prog_3_method_5_code 61 = .ok (.getfield 15, 3) := by decide +kernel
theorem d_MA_blow_64 : decode prog_3_method_5_code 64 = .ok (.getfield 70, 3) := by decide +kernel
theorem d_MA_blow_67 : decode prog_3_method_5_code 67 = .ok (.invokestatic 73, 3) := by decide +kernel
theorem d_MA_blow_70 : decode prog_3_method_5_code 70 = .ok (.invokestatic 76, 3) := by decide +kernel
theorem d_MA_blow_73 : decode prog_3_method_5_code 73 = .ok (.istore_n 2, 1) := by decide +kernel
theorem d_MA_blow_74 : decode prog_3_method_5_code 74 = .ok (.aload_n 0, 1) := by decide +kernel
theorem d_MA_blow_75 : decode prog_3_method_5_code 75 = .ok (.getfield 23, 3) := by decide +kernel
theorem d_MA_blow_78 : decode prog_3_method_5_code 78 = .ok (.iload 4, 2) := by decide +kernel
theorem d_MA_blow_80 : decode prog_3_method_5_code 80 = .ok (.iload_n 2, 1) := by decide +kernel
theorem d_MA_blow_81 : decode prog_3_method_5_code 81 = .ok (.iastore, 1) := by decide +kernel
theorem d_MA_blow_82 : decode prog_3_method_5_code 82 = .ok (.aload_n 0, 1) := by decide +kernel
theorem d_MA_blow_83 : decode prog_3_method_5_code 83 = .ok (.getfield 26, 3) := by decide +kernel
theorem d_MA_blow_86 : decode prog_3_method_5_code 86 = .ok (.iload 4, 2) := by decide +kernel
theorem d_MA_blow_88 : decode prog_3_method_5_code 88 = .ok (.iconst 0, 1) := by decide +kernel
theorem d_MA_blow_89 : decode prog_3_method_5_code 89 = .ok (.iload 5, 2) := by decide +kernel
theorem d_MA_blow_91 : decode prog_3_method_5_code 91 = .ok (.ineg, 1) := by decide +kernel
theorem d_MA_blow_92 : decode prog_3_method_5_code 92 = .ok (.invokestatic 76, 3) := by decide +kernel
theorem d_MA_blow_95 : decode prog_3_method_5_code 95 = .ok (.iastore, 1) := by decide +kernel
theorem d_MA_blow_96 : decode prog_3_method_5_code 96 = .ok (.iload_n 3, 1) := by decide +kernel
theorem d_MA_blow_97 : decode prog_3_method_5_code 97 = .ok (.aload_n 0, 1) := by decide +kernel
theorem d_MA_blow_98 : decode prog_3_method_5_code 98 = .ok (.getfield 26, 3) := by decide +kernel
theorem d_MA_blow_101 : decode prog_3_method_5_code 101 = .ok (.iload 4, 2) := by decide +kernel
theorem d_MA_blow_103 : decode prog_3_method_5_code 103 = .ok (.iaload, 1) := by decide +kernel
theorem d_MA_blow_104 : decode prog_3_method_5_code 104 = .ok (.iadd, 1) := by decide +kernel
theorem d_MA_blow_105 : decode prog_3_method_5_code 105 = .ok (.istore_n 3, 1) := by decide +kernel
theorem d_MA_blow_106 : decode prog_3_method_5_code 106 = .ok (.iinc 4 1, 3) := by decide +kernel
theorem d_MA_blow_109 : decode prog_3_method_5_code 109 = .ok (.goto (-102), 3) := by decide +kernel
theorem d_MA_blow_112 : decode prog_3_method_5_code 112 = .ok (.iload_n 3, 1) := by decide +kernel
theorem d_MA_blow_113 : decode prog_3_method_5_code 113 = .ok (.ireturn, 1) := by decide +kernel
theorem d_MA_play_0 : decode prog_3_method_6_code 0 = .ok (.aload_n 0, 1) := by decide +kernel
theorem d_MA_play_1 : decode prog_3_method_6_code 1 = .ok (.aload_n 0, 1) := by decide +kernel
theorem d_MA_play_2 : decode prog_3_method_6_code 2 = .ok (.getfield 15, 3) := by decide +kernel
theorem d_MA_play_5 : decode prog_3_method_6_code 5 = .ok (.iload_n 1, 1) := by decide +kernel
theorem d_MA_play_6 : decode prog_3_method_6_code 6 = .ok (.invokevirtual 79, 3) := by decide +kernel
theorem d_MA_play_9 : decode prog_3_method_6_code 9 = .ok (.iload_n 2, 1) := by decide +kernel
theorem d_MA_play_10 : decode prog_3_method_6_code 10 = .ok (.invokevirtual 82, 3) := by decide +kernel
theorem d_MA_play_13 : decode prog_3_method_6_code 13 = .ok (.aload_n 0, 1) := by decide +kernel
theorem d_MA_play_14 : decode prog_3_method_6_code 14 = .ok (.iload_n 1, 1) := by decide +kernel
theorem d_MA_play_15 : decode prog_3_method_6_code 15 = .ok (.invokevirtual 86, 3) := by decide +kernel
theorem d_MA_play_18 : decode prog_3_method_6_code 18 = .ok (.ireturn, 1) := by decide +kernel
theorem d_MA_playAll_0 : decode prog_3_method_7_code 0 = .ok (.iconst 0, 1) := by decide +kernel
theorem d_MA_playAll_1 : decode prog_3_method_7_code 1 = .ok (.istore_n 2, 1) := by decide +kernel
theorem d_MA_playAll_2 : decode prog_3_method_7_code 2 = .ok (.iconst 0, 1) := by decide +kernel
theorem d_MA_playAll_3 : decode prog_3_method_7_code 3 = .ok (.istore_n 3, 1) := by decide +kernel
theorem d_MA_playAll_4 : decode prog_3_method_7_code 4 = .ok (.iload_n 3, 1) := by decide +kernel
theorem d_MA_playAll_5 : decode prog_3_method_7_code 5 = .ok (.aload_n 0, 1) := by decide +kernel
theorem d_MA_playAll_6 : decode prog_3_method_7_code 6 = .ok (.getfield 9, 3) := by decide +kernel
theorem d_MA_playAll_9 : decode prog_3_method_7_code 9 = .ok (.getfield 89, 3) := by decide +kernel
theorem d_MA_playAll_12 : decode prog_3_method_7_code 12 = .ok (.if_icmp .ge 18, 3) := by decide +kernel
theorem d_MA_playAll_15 : decode prog_3_method_7_code 15 = .ok (.iload_n 2, 1) := by decide +kernel
theorem d_MA_playAll_16 : decode prog_3_method_7_code 16 = .ok (.aload_n 0, 1) := by decide +kernel
theorem d_MA_playAll_17 : decode prog_3_method_7_code 17 = .ok (.iload_n 3, 1) := by decide +kernel
theorem d_MA_playAll_18 : decode prog_3_method_7_code 18 = .ok (.iload_n 1, 1) := by decide +kernel
theorem d_MA_playAll_19 : decode prog_3_method_7_code 19 = .ok (.invokevirtual 90, 3) := by decide +kernel
theorem d_MA_playAll_22 : decode prog_3_method_7_code 22 = .ok (.iadd, 1) := by decide +kernel
theorem d_MA_playAll_23 : decode prog_3_method_7_code 23 = .ok (.istore_n 2, 1) := by decide +kernel
theorem d_MA_playAll_24 : decode prog_3_method_7_code 24 = .ok (.iinc 3 1, 3) := by decide +kernel
theorem d_MA_playAll_27 : decode prog_3_method_7_code 27 = .ok (.goto (-23), 3) := by decide +kernel
theorem d_MA_playAll_30 : decode prog_3_method_7_code 30 = .ok (.iload_n 2, 1) := by decide +kernel
theorem d_MA_playAll_31 : decode prog_3_method_7_code 31 = .ok (.ireturn, 1) := by decide +kernel
theorem d_MA_firstMissing_0 : decode prog_3_method_8_code 0 = .ok (.iconst 0, 1) := by decide +kernel
theorem d_MA_firstMissing_1 : decode prog_3_method_8_code 1 = .ok (.istore_n 1, 1) := by decide +kernel
theorem d_MA_firstMissing_2 : decode prog_3_method_8_code 2 = .ok (.iload_n 1, 1) := by decide +kernel
theorem d_MA_firstMissing_3 : decode prog_3_method_8_code 3 = .ok (.aload_n 0, 1) := by decide +kernel
theorem d_MA_firstMissing_4 : decode prog_3_method_8_code 4 = .ok (.getfield 9, 3) := by decide +kernel
theorem d_MA_firstMissing_7 : decode prog_3_method_8_code 7 = .ok (.getfield 39, 3) := by decide +kernel
theorem d_MA_firstMissing_10 : decode prog_3_method_8_code 10 = .ok (.if_icmp .ge 20, 3) := by decide +kernel
theorem d_MA_firstMissing_13 : decode prog_3_method_8_code 13 = .ok (.aload_n 0, 1) := by decide +kernel
theorem d_MA_firstMissing_14 : decode prog_3_method_8_code 14 = .ok (.getfield 26, 3) := by decide +kernel
theorem d_MA_firstMissing_17 : decode prog_3_method_8_code 17 = .ok (.iload_n 1, 1) := by decide +kernel
theorem d_MA_firstMissing_18 : decode prog_3_method_8_code 18 = .ok (.iaload, 1) := by decide +kernel
theorem d_MA_firstMissing_19 : decode prog_3_method_8_code 19 = .ok (.ifCond .le 5, 3) := by decide +kernel
theorem d_MA_firstMissing_22 : decode prog_3_method_8_code 22 = .ok (.iload_n 1, 1) := by decide +kernel
theorem d_MA_firstMissing_23 : decode prog_3_method_8_code 23 = .ok (.ireturn, 1) := by decide +kernel
theorem d_MA_firstMissing_24 : decode prog_3_method_8_code 24 = .ok (.iinc 1 1, 3) := by decide +kernel
theorem d_MA_firstMissing_27 : decode prog_3_method_8_code 27 = .ok (.goto (-25), 3) := by decide +kernel
theorem d_MA_firstMissing_30 : decode prog_3_method_8_code 30 = .ok (.bipush (-9), 2) := by decide +kernel
theorem d_MA_firstMissing_32 : decode prog_3_method_8_code 32 = .ok (.ireturn, 1) := by decide +kernel
theorem d_PE_init_0 : decode prog_4_method_1_code 0 = .ok (.aload_n 0, 1) := by decide +kernel
theorem d_PE_init_1 : decode prog_4_method_1_code 1 = .ok (.invokespecial 3, 3) := by decide +kernel
theorem d_PE_init_4 : decode prog_4_method_1_code 4 = .ok (.aload_n 0, 1) := by decide +kernel
theorem d_PE_init_5 : decode prog_4_method_1_code 5 = .ok (.bipush 12, 2) := by decide +kernel
theorem d_PE_init_7 : decode prog_4_method_1_code 7 = .ok (.newarray .int, 2) := by decide +kernel
theorem d_PE_init_9 : decode prog_4_method_1_code 9 = .ok (.putfield 9, 3) := by decide +kernel
theorem d_PE_init_12 : decode prog_4_method_1_code 12 = .ok (.aload_n 0, 1) := by decide +kernel
theorem d_PE_init_13 : decode prog_4_method_1_code 13 = .ok (.bipush 12, 2) := by decide +kernel
theorem d_PE_init_15 : decode prog_4_method_1_code 15 = .ok (.newarray .int, 2) := by decide +kernel
theorem d_PE_init_17 : decode prog_4_method_1_code 17 = .ok (.putfield 15, 3) := by decide +kernel
theorem d_PE_init_20 : decode prog_4_method_1_code 20 = .ok (.aload_n 0, 1) := by decide +kernel
theorem d_PE_init_21 : decode prog_4_method_1_code 21 = .ok (.bipush 12, 2) := by decide +kernel
theorem d_PE_init_23 : decode prog_4_method_1_code 23 = .ok (.newarray .int, 2) := by decide +kernel
theorem d_PE_init_25 : decode prog_4_method_1_code 25 = .ok (.putfield 18, 3) := by decide +kernel
theorem d_PE_init_28 : decode prog_4_method_1_code 28 = .ok (.aload_n 0, 1) := by decide +kernel
theorem d_PE_init_29 : decode prog_4_method_1_code 29 = .ok (.bipush 12, 2) := by decide +kernel
theorem d_PE_init_31 : decode prog_4_method_1_code 31 = .ok (.newarray .int, 2) := by decide +kernel
theorem d_PE_init_33 : decode prog_4_method_1_code 33 = .ok (.putfield 21, 3) := by decide +kernel
theorem d_PE_init_36 : decode prog_4_method_1_code 36 = .ok (.aload_n 0, 1) := by decide +kernel
theorem d_PE_init_37 : decode prog_4_method_1_code 37 = .ok (.bipush 12, 2) := by decide +kernel
theorem d_PE_init_39 : decode prog_4_method_1_code 39 = .ok (.newarray .boolean, 2) := by decide +kernel
theorem d_PE_init_41 : decode prog_4_method_1_code 41 = .ok (.putfield 24, 3) := by decide +kernel
theorem d_PE_init_44 : decode prog_4_method_1_code 44 = .ok (.return_, 1) := by decide +kernel
theorem d_PE_takeFrom_0 : decode prog_4_method_2_code 0 = .ok (.aload_n 0, 1) := by decide +kernel
theorem d_PE_takeFrom_1 : decode prog_4_method_2_code 1 = .ok (.aload_n 1, 1) := by decide +kernel
theorem d_PE_takeFrom_2 : decode prog_4_method_2_code 2 = .ok (.getfield 28, 3) := by decide +kernel
theorem d_PE_takeFrom_5 : decode prog_4_method_2_code 5 = .ok (.putfield 34, 3) := by decide +kernel
theorem d_PE_takeFrom_8 : decode prog_4_method_2_code 8 = .ok (.aload_n 0, 1) := by decide +kernel
theorem d_PE_takeFrom_9 : decode prog_4_method_2_code 9 = .ok (.iconst 0, 1) := by decide +kernel
theorem d_PE_takeFrom_10 : decode prog_4_method_2_code 10 = .ok (.putfield 37, 3) := by decide +kernel
theorem d_PE_takeFrom_13 : decode prog_4_method_2_code 13 = .ok (.aload_n 0, 1) := by decide +kernel
theorem d_PE_takeFrom_14 : decode prog_4_method_2_code 14 = .ok (.iconst 0, 1) := by decide +kernel
theorem d_PE_takeFrom_15 : decode prog_4_method_2_code 15 = .ok (.putfield 40, 3) := by decide +kernel
theorem d_PE_takeFrom_18 : decode prog_4_method_2_code 18 = .ok (.iconst 0, 1) := by decide +kernel
theorem d_PE_takeFrom_19 : decode prog_4_method_2_code 19 = .ok (.istore_n 2, 1) := by decide +kernel
theorem d_PE_takeFrom_20 : decode prog_4_method_2_code 20 = .ok (.iload_n 2, 1) := by decide +kernel
theorem d_PE_takeFrom_21 : decode prog_4_method_2_code 21 = .ok (.aload_n 0, 1) := by decide +kernel
theorem d_PE_takeFrom_22 : decode prog_4_method_2_code 22 = .ok (.getfield 34, 3) := by decide +kernel
theorem d_PE_takeFrom_25 : decode prog_4_method_2_code 25 = .ok (.if_icmp .ge 59, 3) := by decide +kernel
theorem d_PE_takeFrom_28 : decode prog_4_method_2_code 28 = .ok (.aload_n 0, 1) := by decide +kernel
theorem d_PE_takeFrom_29 : decode prog_4_method_2_code 29 = .ok (.getfield 9, 3) := by decide +kernel
theorem d_PE_takeFrom_32 : decode prog_4_method_2_code 32 = .ok (.iload_n 2, 1) := by decide +kernel
theorem d_PE_takeFrom_33 : decode prog_4_method_2_code 33 = .ok (.aload_n 1, 1) := by decide +kernel
theorem d_PE_takeFrom_34 : decode prog_4_method_2_code 34 = .ok (.iload_n 2, 1) := by decide +kernel
theorem d_PE_takeFrom_35 : decode prog_4_method_2_code 35 = .ok (.iconst 0, 1) := by decide +kernel
theorem d_PE_takeFrom_36 : decode prog_4_method_2_code 36 = .ok (.invokevirtual 43, 3) := by decide +kernel
theorem d_PE_takeFrom_39 : decode prog_4_method_2_code 39 = .ok (.iastore, 1) := by decide +kernel
theorem d_PE_takeFrom_40 : decode prog_4_method_2_code 40 = .ok (.aload_n 0, 1) := by decide +kernel
theorem d_PE_takeFrom_41 : decode prog_4_method_2_code 41 = .ok (.getfield 15, 3) := by decide +kernel
theorem d_PE_takeFrom_44 : decode prog_4_method_2_code 44 = .ok (.iload_n 2, 1) := by decide +kernel
theorem d_PE_takeFrom_45 : decode prog_4_method_2_code 45 = .ok (.aload_n 1, 1) := by decide +kernel
theorem d_PE_takeFrom_46 : decode prog_4_method_2_code 46 = .ok (.iload_n 2, 1) := by decide +kernel
theorem d_PE_takeFrom_47 : decode prog_4_method_2_code 47 = .ok (.iconst 1, 1) := by decide +kernel
theorem d_PE_takeFrom_48 : decode prog_4_method_2_code 48 = .ok (.invokevirtual 43, 3) := by decide +kernel
theorem d_PE_takeFrom_51 : decode prog_4_method_2_code 51 = .ok (.iastore, 1) := by decide +kernel
theorem d_PE_takeFrom_52 : decode prog_4_method_2_code 52 = .ok (.aload_n 0, 1) := by decide +kernel
theorem d_PE_takeFrom_53 : decode prog_4_method_2_code 53 = .ok (.getfield 18, 3) := by decide +kernel
theorem d_PE_takeFrom_56 : decode prog_4_method_2_code 56 = .ok (.iload_n 2, 1) := by decide +kernel
theorem d_PE_takeFrom_57 : decode prog_4_method_2_code 57 = .ok (.aload_n 1, 1) := by decide +kernel
theorem d_PE_takeFrom_58 : decode prog_4_method_2_code 58 = .ok (.iload_n 2, 1) := by decide +kernel
theorem d_PE_takeFrom_59 : decode prog_4_method_2_code 59 = .ok (.iconst 2, 1) := by decide +kernel
theorem d_PE_takeFrom_60 : decode prog_4_method_2_code 60 = .ok (.invokevirtual 43, 3) := by decide +kernel
theorem d_PE_takeFrom_63 : decode prog_4_method_2_code 63 = .ok (.iastore, 1) := by decide +kernel
theorem d_PE_takeFrom_64 : decode prog_4_method_2_code 64 = .ok (.aload_n 0, 1) := by decide +kernel
theorem d_PE_takeFrom_65 : decode prog_4_method_2_code 65 = .ok (.getfield 21, 3) := by decide +kernel
theorem d_PE_takeFrom_68 : decode prog_4_method_2_code 68 = .ok (.iload_n 2, 1) := by decide +kernel
theorem d_PE_takeFrom_69 : decode prog_4_method_2_code 69 = .ok (.iconst 0, 1) := by decide +kernel
theorem d_PE_takeFrom_70 : decode prog_4_method_2_code 70 = .ok (.iastore, 1) := by decide +kernel
theorem d_PE_takeFrom_71 : decode prog_4_method_2_code 71 = .ok (.aload_n 0, 1) := by decide +kernel
theorem d_PE_takeFrom_72 : decode prog_4_method_2_code 72 = .ok (.getfield 24, 3) := by decide +kernel
theorem d_PE_takeFrom_75 : decode prog_4_method_2_code 75 = .ok (.iload_n 2, 1) := by decide +kernel
theorem d_PE_takeFrom_76 : decode prog_4_method_2_code 76 = .ok (.iconst 0, 1) := by decide +kernel
theorem d_PE_takeFrom_77 : decode prog_4_method_2_code 77 = .ok (.bastore, 1) := by decide +kernel
theorem d_PE_takeFrom_78 : decode prog_4_method_2_code 78 = .ok (.iinc 2 1, 3) := by decide +kernel
theorem d_PE_takeFrom_81 : decode prog_4_method_2_code 81 = .ok (.goto (-61), 3) := by decide +kernel
theorem d_PE_takeFrom_84 : decode prog_4_method_2_code 84 = .ok (.return_, 1) := by decide +kernel
theorem d_PE_copyFrom_0 : decode prog_4_method_3_code 0 = .ok (.aload_n 0, 1) := by decide +kernel
theorem d_PE_copyFrom_1 : decode prog_4_method_3_code 1 = .ok (.aload_n 1, 1) := by decide +kernel
theorem d_PE_copyFrom_2 : decode prog_4_method_3_code 2 = .ok (.getfield 34, 3) := by decide +kernel
theorem d_PE_copyFrom_5 : decode prog_4_method_3_code 5 = .ok (.putfield 34, 3) := by decide +kernel
theorem d_PE_copyFrom_8 : decode prog_4_method_3_code 8 = .ok (.aload_n 0, 1) := by decide +kernel
theorem d_PE_copyFrom_9 : decode prog_4_method_3_code 9 = .ok (.aload_n 1, 1) := by decide +kernel
theorem d_PE_copyFrom_10 : decode prog_4_method_3_code 10 = .ok (.getfield 37, 3) := by decide +kernel
theorem d_PE_copyFrom_13 : decode prog_4_method_3_code 13 = .ok (.putfield 37, 3) := by decide +kernel
theorem d_PE_copyFrom_16 : decode prog_4_method_3_code 16 = .ok (.aload_n 0, 1) := by decide +kernel
theorem d_PE_copyFrom_17 : decode prog_4_method_3_code 17 = .ok (.aload_n 1, 1) := by decide +kernel
theorem d_PE_copyFrom_18 : decode prog_4_method_3_code 18 = .ok (.getfield 40, 3) := by decide +kernel
theorem d_PE_copyFrom_21 : decode prog_4_method_3_code 21 = .ok (.putfield 40, 3) := by decide +kernel
theorem d_PE_copyFrom_24 : decode prog_4_method_3_code 24 = .ok (.iconst 0, 1) := by decide +kernel
theorem d_PE_copyFrom_25 : decode prog_4_method_3_code 25 = .ok (.istore_n 2, 1) := by decide +kernel
theorem d_PE_copyFrom_26 : decode prog_4_method_3_code 26 = .ok (.iload_n 2, 1) := by decide +kernel
theorem d_PE_copyFrom_27 : decode prog_4_method_3_code 27 = .ok (.aload_n 0, 1) := by decide +kernel
theorem d_PE_copyFrom_28 : decode prog_4_method_3_code 28 = .ok (.getfield 34, 3) := by decide +kernel
theorem d_PE_copyFrom_31 : decode prog_4_method_3_code 31 = .ok (.if_icmp .ge 69, 3) := by decide +kernel
theorem d_PE_copyFrom_34 : decode prog_4_method_3_code 34 = .ok (.aload_n 0, 1) := by decide +kernel
theorem d_PE_copyFrom_35 : decode prog_4_method_3_code 35 = .ok (.getfield 9, 3) := by decide +kernel
theorem d_PE_copyFrom_38 : decode prog_4_method_3_code 38 = .ok (.iload_n 2, 1) := by decide +kernel
theorem d_PE_copyFrom_39 : decode prog_4_method_3_code 39 = .ok (.aload_n 1, 1) := by decide +kernel
theorem d_PE_copyFrom_40 : decode prog_4_method_3_code 40 = .ok (.getfield 9, 3) := by decide +kernel
theorem d_PE_copyFrom_43 : decode prog_4_method_3_code 43 = .ok (.iload_n 2, 1) := by decide +kernel
theorem d_PE_copyFrom_44 : decode prog_4_method_3_code 44 = .ok (.iaload, 1) := by decide +kernel
theorem d_PE_copyFrom_45 : decode prog_4_method_3_code 45 = .ok (.iastore, 1) := by decide +kernel
theorem d_PE_copyFrom_46 : decode prog_4_method_3_code 46 = .ok (.aload_n 0, 1) := by decide +kernel
theorem d_PE_copyFrom_47 : decode prog_4_method_3_code 47 = .ok (.getfield 15, 3) := by decide +kernel
theorem d_PE_copyFrom_50 : decode prog_4_method_3_code 50 = .ok (.iload_n 2, 1) := by decide +kernel
theorem d_PE_copyFrom_51 : decode prog_4_method_3_code 51 = .ok (.aload_n 1, 1) := by decide +kernel
theorem d_PE_copyFrom_52 : decode prog_4_method_3_code 52 = .ok (.getfield 15, 3) := by decide +kernel
theorem d_PE_copyFrom_55 : decode prog_4_method_3_code 55 = .ok (.iload_n 2, 1) := by decide +kernel
theorem d_PE_copyFrom_56 : decode prog_4_method_3_code 56 = .ok (.iaload, 1) := by decide +kernel
theorem d_PE_copyFrom_57 : decode prog_4_method_3_code 57 = .ok (.iastore, 1) := by decide +kernel
theorem d_PE_copyFrom_58 : decode prog_4_method_3_code 58 = .ok (.aload_n 0, 1) := by decide +kernel
theorem d_PE_copyFrom_59 : decode prog_4_method_3_code 59 = .ok (.getfield 18, 3) := by decide +kernel
theorem d_PE_copyFrom_62 : decode prog_4_method_3_code 62 = .ok (.iload_n 2, 1) := by decide +kernel
theorem d_PE_copyFrom_63 : decode prog_4_method_3_code 63 = .ok (.aload_n 1, 1) := by decide +kernel
theorem d_PE_copyFrom_64 : decode prog_4_method_3_code 64 = .ok (.getfield 18, 3) := by decide +kernel
theorem d_PE_copyFrom_67 : decode prog_4_method_3_code 67 = .ok (.iload_n 2, 1) := by decide +kernel
theorem d_PE_copyFrom_68 : decode prog_4_method_3_code 68 = .ok (.iaload, 1) := by decide +kernel
theorem d_PE_copyFrom_69 : decode prog_4_method_3_code 69 = .ok (.iastore, 1) := by decide +kernel
theorem d_PE_copyFrom_70 : decode prog_4_method_3_code 70 = .ok (.aload_n 0, 1) := by decide +kernel
theorem d_PE_copyFrom_71 : decode prog_4_method_3_code 71 = .ok (.getfield 21, 3) := by decide +kernel
theorem d_PE_copyFrom_74 : decode prog_4_method_3_code 74 = .ok (.iload_n 2, 1) := by decide +kernel
theorem d_PE_copyFrom_75 : decode prog_4_method_3_code 75 = .ok (.aload_n 1, 1) := by decide +kernel
theorem d_PE_copyFrom_76 : decode prog_4_method_3_code 76 = .ok (.getfield 21, 3) := by decide +kernel
theorem d_PE_copyFrom_79 : decode prog_4_method_3_code 79 = .ok (.iload_n 2, 1) := by decide +kernel
theorem d_PE_copyFrom_80 : decode prog_4_method_3_code 80 = .ok (.iaload, 1) := by decide +kernel
theorem d_PE_copyFrom_81 : decode prog_4_method_3_code 81 = .ok (.iastore, 1) := by decide +kernel
theorem d_PE_copyFrom_82 : decode prog_4_method_3_code 82 = .ok (.aload_n 0, 1) := by decide +kernel
theorem d_PE_copyFrom_83 : decode prog_4_method_3_code 83 = .ok (.getfield 24, 3) := by decide +kernel
theorem d_PE_copyFrom_86 : decode prog_4_method_3_code 86 = .ok (.iload_n 2, 1) := by decide +kernel
theorem d_PE_copyFrom_87 : decode prog_4_method_3_code 87 = .ok (.aload_n 1, 1) := by decide +kernel
theorem d_PE_copyFrom_88 : decode prog_4_method_3_code 88 = .ok (.getfield 24, 3) := by decide +kernel
theorem d_PE_copyFrom_91 : decode prog_4_method_3_code 91 = .ok (.iload_n 2, 1) := by decide +kernel
theorem d_PE_copyFrom_92 : decode prog_4_method_3_code 92 = .ok (.baload, 1) := by decide +kernel
theorem d_PE_copyFrom_93 : decode prog_4_method_3_code 93 = .ok (.bastore, 1) := by decide +kernel
theorem d_PE_copyFrom_94 : decode prog_4_method_3_code 94 = .ok (.iinc 2 1, 3) := by decide +kernel
theorem d_PE_copyFrom_97 : decode prog_4_method_3_code 97 = .ok (.goto (-71), 3) := by decide +kernel
theorem d_PE_copyFrom_100 : decode prog_4_method_3_code 100 = .ok (.return_, 1) := by decide +kernel
theorem d_PE_has_0 : decode prog_4_method_4_code 0 = .ok (.iload_n 1, 1) := by decide +kernel
theorem d_PE_has_1 : decode prog_4_method_4_code 1 = .ok (.ifCond .lt 15, 3) := by decide +kernel
theorem d_PE_has_4 : decode prog_4_method_4_code 4 = .ok (.iload_n 1, 1) := by decide +kernel
theorem d_PE_has_5 : decode prog_4_method_4_code 5 = .ok (.aload_n 0, 1) := by decide +kernel
theorem d_PE_has_6 : decode prog_4_method_4_code 6 = .ok (.getfield 34, 3) := by decide +kernel
theorem d_PE_has_9 : decode prog_4_method_4_code 9 = .ok (.if_icmp .ge 7, 3) := by decide +kernel
theorem d_PE_has_12 : decode prog_4_method_4_code 12 = .ok (.iconst 1, 1) := by decide +kernel
theorem d_PE_has_13 : decode prog_4_method_4_code 13 = .ok (.goto 4, 3) := by decide +kernel
theorem d_PE_has_16 : decode prog_4_method_4_code 16 = .ok (.iconst 0, 1) := by decide +kernel
theorem d_PE_has_17 : decode prog_4_method_4_code 17 = .ok (.ireturn, 1) := by decide +kernel
theorem d_PE_turnOf_0 : decode prog_4_method_5_code 0 = .ok (.aload_n 0, 1) := by decide +kernel
theorem d_PE_turnOf_1 : decode prog_4_method_5_code 1 = .ok (.getfield 9, 3) := by decide +kernel
theorem d_PE_turnOf_4 : decode prog_4_method_5_code 4 = .ok (.iload_n 1, 1) := by decide +kernel
theorem d_PE_turnOf_5 : decode prog_4_method_5_code 5 = .ok (.iaload, 1) := by decide +kernel
theorem d_PE_turnOf_6 : decode prog_4_method_5_code 6 = .ok (.iconst 0, 1) := by decide +kernel
theorem d_PE_turnOf_7 : decode prog_4_method_5_code 7 = .ok (.invokestatic 47, 3) := by decide +kernel
theorem d_PE_turnOf_10 : decode prog_4_method_5_code 10 = .ok (.iconst 1, 1) := by decide +kernel
theorem d_PE_turnOf_11 : decode prog_4_method_5_code 11 = .ok (.iadd, 1) := by decide +kernel
theorem d_PE_turnOf_12 : decode prog_4_method_5_code 12 = .ok (.ireturn, 1) := by decide +kernel
theorem d_PE_givenAt_0 : decode prog_4_method_6_code 0 = .ok (.iload_n 2, 1) := by decide +kernel
theorem d_PE_givenAt_1 : decode prog_4_method_6_code 1 = .ok (.aload_n 0, 1) := by decide +kernel
theorem d_PE_givenAt_2 : decode prog_4_method_6_code 2 = .ok (.getfield 21, 3) := by decide +kernel
theorem d_PE_givenAt_5 : decode prog_4_method_6_code 5 = .ok (.iload_n 1, 1) := by decide +kernel
theorem d_PE_givenAt_6 : decode prog_4_method_6_code 6 = .ok (.iaload, 1) := by decide +kernel
theorem d_PE_givenAt_7 : decode prog_4_method_6_code 7 = .ok (.iadd, 1) := by decide +kernel
theorem d_PE_givenAt_8 : decode prog_4_method_6_code 8 = .ok (.aload_n 0, 1) := by decide +kernel
theorem d_PE_givenAt_9 : decode prog_4_method_6_code 9 = .ok (.iload_n 1, 1) := by decide +kernel
theorem d_PE_givenAt_10 : decode prog_4_method_6_code 10 = .ok (.invokevirtual 52, 3) := by decide +kernel
theorem d_PE_givenAt_13 : decode prog_4_method_6_code 13 = .ok (.irem, 1) := by decide +kernel
theorem d_PE_givenAt_14 : decode prog_4_method_6_code 14 = .ok (.aload_n 0, 1) := by decide +kernel
theorem d_PE_givenAt_15 : decode prog_4_method_6_code 15 = .ok (.getfield 9, 3) := by decide +kernel
theorem d_PE_givenAt_18 : decode prog_4_method_6_code 18 = .ok (.iload_n 1, 1) := by decide +kernel
theorem d_PE_givenAt_19 : decode prog_4_method_6_code 19 = .ok (.iaload, 1) := by decide +kernel
theorem d_PE_givenAt_20 : decode prog_4_method_6_code 20 = .ok (.if_icmp .ne 7, 3) := by decide +kernel
theorem d_PE_givenAt_23 : decode prog_4_method_6_code 23 = .ok (.iconst 1, 1) := by decide +kernel
theorem d_PE_givenAt_24 : decode prog_4_method_6_code 24 = .ok (.goto 4, 3) := by decide +kernel
theorem d_PE_givenAt_27 : decode prog_4_method_6_code 27 = .ok (.iconst 0, 1) := by decide +kernel
theorem d_PE_givenAt_28 : decode prog_4_method_6_code 28 = .ok (.istore_n 3, 1) := by decide +kernel
theorem d_PE_givenAt_29 : decode prog_4_method_6_code 29 = .ok (.iload_n 3, 1) := by decide +kernel
theorem d_PE_givenAt_30 : decode prog_4_method_6_code 30 = .ok (.ifCond .eq 16, 3) := by decide +kernel
theorem d_PE_givenAt_33 : decode prog_4_method_6_code 33 = .ok (.aload_n 0, 1) := by decide +kernel
theorem d_PE_givenAt_34 : decode prog_4_method_6_code 34 = .ok (.getfield 24, 3) := by decide +kernel
theorem d_PE_givenAt_37 : decode prog_4_method_6_code 37 = .ok (.iload_n 1, 1) := by decide +kernel
theorem d_PE_givenAt_38 : decode prog_4_method_6_code 38 = .ok (.baload, 1) := by decide +kernel
theorem d_PE_givenAt_39 : decode prog_4_method_6_code 39 = .ok (.ifCond .ne 7, 3) := by decide +kernel
theorem d_PE_givenAt_42 : decode prog_4_method_6_code 42 = .ok (.iconst 0, 1) := by decide +kernel
theorem d_PE_givenAt_43 : decode prog_4_method_6_code 43 = .ok (.goto 9, 3) := by decide +kernel
theorem d_PE_givenAt_46 : decode prog_4_method_6_code 46 = .ok (.aload_n 0, 1) := by decide +kernel
theorem d_PE_givenAt_47 : decode prog_4_method_6_code 47 = .ok (.getfield 15, 3) := by decide +kernel
theorem d_PE_givenAt_50 : decode prog_4_method_6_code 50 = .ok (.iload_n 1, 1) := by decide +kernel
theorem d_PE_givenAt_51 : decode prog_4_method_6_code 51 = .ok (.iaload, 1) := by decide +kernel
theorem d_PE_givenAt_52 : decode prog_4_method_6_code 52 = .ok (.ireturn, 1) := by decide +kernel
theorem d_PE_sittingAt_0 : decode prog_4_method_7_code 0 = .ok (.iconst 0, 1) := by decide +kernel
theorem d_PE_sittingAt_1 : decode prog_4_method_7_code 1 = .ok (.istore_n 2, 1) := by decide +kernel
theorem d_PE_sittingAt_2 : decode prog_4_method_7_code 2 = .ok (.iconst 0, 1) := by decide +kernel
theorem d_PE_sittingAt_3 : decode prog_4_method_7_code 3 = .ok (.istore_n 3, 1) := by decide +kernel
theorem d_PE_sittingAt_4 : decode prog_4_method_7_code 4 = .ok (.iload_n 3, 1) := by decide +kernel
theorem d_PE_sittingAt_5 : decode prog_4_method_7_code 5 = .ok (.aload_n 0, 1) := by decide +kernel
theorem d_PE_sittingAt_6 : decode prog_4_method_7_code 6 = .ok (.getfield 34, 3) := by decide +kernel
theorem d_PE_sittingAt_9 : decode prog_4_method_7_code 9 = .ok (.if_icmp .ge 25, 3) := by decide +kernel
theorem d_PE_sittingAt_12 : decode prog_4_method_7_code 12 = .ok (.aload_n 0, 1) := by decide +kernel
theorem d_PE_sittingAt_13 : decode prog_4_method_7_code 13 = .ok (.getfield 18, 3) := by decide +kernel
theorem d_PE_sittingAt_16 : decode prog_4_method_7_code 16 = .ok (.iload_n 3, 1) := by decide +kernel
theorem d_PE_sittingAt_17 : decode prog_4_method_7_code 17 = .ok (.iaload, 1) := by decide +kernel
theorem d_PE_sittingAt_18 : decode prog_4_method_7_code 18 = .ok (.iload_n 1, 1) := by decide +kernel
theorem d_PE_sittingAt_19 : decode prog_4_method_7_code 19 = .ok (.if_icmp .ne 9, 3) := by decide +kernel
theorem d_PE_sittingAt_22 : decode prog_4_method_7_code 22 = .ok (.iload_n 2, 1) := by decide +kernel
theorem d_PE_sittingAt_23 : decode prog_4_method_7_code 23 = .ok (.iconst 1, 1) := by decide +kernel
theorem d_PE_sittingAt_24 : decode prog_4_method_7_code 24 = .ok (.iload_n 3, 1) := by decide +kernel
theorem d_PE_sittingAt_25 : decode prog_4_method_7_code 25 = .ok (.ishl, 1) := by decide +kernel
theorem d_PE_sittingAt_26 : decode prog_4_method_7_code 26 = .ok (.ior, 1) := by decide +kernel
theorem d_PE_sittingAt_27 : decode prog_4_method_7_code 27 = .ok (.istore_n 2, 1) := by decide +kernel
theorem d_PE_sittingAt_28 : decode prog_4_method_7_code 28 = .ok (.iinc 3 1, 3) := by decide +kernel
theorem d_PE_sittingAt_31 : decode prog_4_method_7_code 31 = .ok (.goto (-27), 3) := by decide +kernel
theorem d_PE_sittingAt_34 : decode prog_4_method_7_code 34 = .ok (.iload_n 2, 1) := by decide +kernel
theorem d_PE_sittingAt_35 : decode prog_4_method_7_code 35 = .ok (.ireturn, 1) := by decide +kernel
theorem d_PE_forceOf_0 : decode prog_4_method_8_code 0 = .ok (.iconst 0, 1) := by decide +kernel
theorem d_PE_forceOf_1 : decode prog_4_method_8_code 1 = .ok (.istore_n 2, 1) := by decide +kernel
theorem d_PE_forceOf_2 : decode prog_4_method_8_code 2 = .ok (.iconst 0, 1) := by decide +kernel
theorem d_PE_forceOf_3 : decode prog_4_method_8_code 3 = .ok (.istore_n 3, 1) := by decide +kernel
theorem d_PE_forceOf_4 : decode prog_4_method_8_code 4 = .ok (.iload_n 3, 1) := by decide +kernel
theorem d_PE_forceOf_5 : decode prog_4_method_8_code 5 = .ok (.aload_n 0, 1) := by decide +kernel
theorem d_PE_forceOf_6 : decode prog_4_method_8_code 6 = .ok (.getfield 34, 3) := by decide +kernel
theorem d_PE_forceOf_9 : decode prog_4_method_8_code 9 = .ok (.if_icmp .ge 27, 3) := by decide +kernel
theorem d_PE_forceOf_12 : decode prog_4_method_8_code 12 = .ok (.iload_n 1, 1) := by decide +kernel
theorem d_PE_forceOf_13 : decode prog_4_method_8_code 13 = .ok (.iload_n 3, 1) := by decide +kernel
theorem d_PE_forceOf_14 : decode prog_4_method_8_code 14 = .ok (.ishr, 1) := by decide +kernel
theorem d_PE_forceOf_15 : decode prog_4_method_8_code 15 = .ok (.iconst 1, 1) := by decide +kernel
theorem d_PE_forceOf_16 : decode prog_4_method_8_code 16 = .ok (.iand, 1) := by decide +kernel
theorem d_PE_forceOf_17 : decode prog_4_method_8_code 17 = .ok (.iconst 1, 1) := by decide +kernel
theorem d_PE_forceOf_18 : decode prog_4_method_8_code 18 = .ok (.if_icmp .ne 12, 3) := by decide +kernel
theorem d_PE_forceOf_21 : decode prog_4_method_8_code 21 = .ok (.iload_n 2, 1) := by decide +kernel
theorem d_PE_forceOf_22 : decode prog_4_method_8_code 22 = .ok (.aload_n 0, 1) := by decide +kernel
theorem d_PE_forceOf_23 : decode prog_4_method_8_code 23 = .ok (.getfield 15, 3) := by decide +kernel
theorem d_PE_forceOf_26 : decode prog_4_method_8_code 26 = .ok (.iload_n 3, 1) := by decide +kernel
theorem d_PE_forceOf_27 : decode prog_4_method_8_code 27 = .ok (.iaload, 1) := by decide +kernel
theorem d_PE_forceOf_28 : decode prog_4_method_8_code 28 = .ok (.iadd, 1) := by decide +kernel
theorem d_PE_forceOf_29 : decode prog_4_method_8_code 29 = .ok (.istore_n 2, 1) := by decide +kernel
theorem d_PE_forceOf_30 : decode prog_4_method_8_code 30 = .ok (.iinc 3 1, 3) := by decide +kernel
theorem d_PE_forceOf_33 : decode prog_4_method_8_code 33 = .ok (.goto (-29), 3) := by decide +kernel
theorem d_PE_forceOf_36 : decode prog_4_method_8_code 36 = .ok (.iload_n 2, 1) := by decide +kernel
theorem d_PE_forceOf_37 : decode prog_4_method_8_code 37 = .ok (.ireturn, 1) := by decide +kernel
theorem d_PE_bribedOnes_0 : decode prog_4_method_9_code 0 = .ok (.iconst 0, 1) := by decide +kernel
theorem d_PE_bribedOnes_1 : decode prog_4_method_9_code 1 = .ok (.istore_n 1, 1) := by decide +kernel
theorem d_PE_bribedOnes_2 : decode prog_4_method_9_code 2 = .ok (.iconst 0, 1) := by decide +kernel
theorem d_PE_bribedOnes_3 : decode prog_4_method_9_code 3 = .ok (.istore_n 2, 1) := by decide +kernel
theorem d_PE_bribedOnes_4 : decode prog_4_method_9_code 4 = .ok (.iload_n 2, 1) := by decide +kernel
theorem d_PE_bribedOnes_5 : decode prog_4_method_9_code 5 = .ok (.aload_n 0, 1) := by decide +kernel
theorem d_PE_bribedOnes_6 : decode prog_4_method_9_code 6 = .ok (.getfield 34, 3) := by decide +kernel
theorem d_PE_bribedOnes_9 : decode prog_4_method_9_code 9 = .ok (.if_icmp .ge 21, 3) := by decide +kernel
theorem d_PE_bribedOnes_12 : decode prog_4_method_9_code 12 = .ok (.aload_n 0, 1) := by decide +kernel
theorem d_PE_bribedOnes_13 : decode prog_4_method_9_code 13 = .ok (.getfield 24, 3) := by decide +kernel
theorem d_PE_bribedOnes_16 : decode prog_4_method_9_code 16 = .ok (.iload_n 2, 1) := by decide +kernel
theorem d_PE_bribedOnes_17 : decode prog_4_method_9_code 17 = .ok (.baload, 1) := by decide +kernel
theorem d_PE_bribedOnes_18 : decode prog_4_method_9_code 18 = .ok (.ifCond .eq 6, 3) := by decide +kernel
theorem d_PE_bribedOnes_21 : decode prog_4_method_9_code 21 = .ok (.iinc 1 1, 3) := by decide +kernel
theorem d_PE_bribedOnes_24 : decode prog_4_method_9_code 24 = .ok (.iinc 2 1, 3) := by decide +kernel
theorem d_PE_bribedOnes_27 : decode prog_4_method_9_code 27 = .ok (.goto (-23), 3) := by decide +kernel
theorem d_PE_bribedOnes_30 : decode prog_4_method_9_code 30 = .ok (.iload_n 1, 1) := by decide +kernel
theorem d_PE_bribedOnes_31 : decode prog_4_method_9_code 31 = .ok (.ireturn, 1) := by decide +kernel
theorem d_PH_init_0 : decode prog_5_method_1_code 0 = .ok (.aload_n 0, 1) := by decide +kernel
theorem d_PH_init_1 : decode prog_5_method_1_code 1 = .ok (.invokespecial 3, 3) := by decide +kernel
theorem d_PH_init_4 : decode prog_5_method_1_code 4 = .ok (.aload_n 0, 1) := by decide +kernel
theorem d_PH_init_5 : decode prog_5_method_1_code 5 = .ok (.aload_n 1, 1) := by decide +kernel
theorem d_PH_init_6 : decode prog_5_method_1_code 6 = .ok (.putfield 9, 3) := by decide +kernel
theorem d_PH_init_9 : decode prog_5_method_1_code 9 = .ok (.aload_n 0, 1) := by decide +kernel
theorem d_PH_init_10 : decode prog_5_method_1_code 10 = .ok (.aload_n 2, 1) := by decide +kernel
theorem d_PH_init_11 : decode prog_5_method_1_code 11 = .ok (.putfield 15, 3) := by decide +kernel
theorem d_PH_init_14 : decode prog_5_method_1_code 14 = .ok (.aload_n 0, 1) := by decide +kernel
theorem d_PH_init_15 : decode prog_5_method_1_code 15 = .ok (.iconst 4, 1) := by decide +kernel
theorem d_PH_init_16 : decode prog_5_method_1_code 16 = .ok (.newarray .int, 2) := by decide +kernel
theorem d_PH_init_18 : decode prog_5_method_1_code 18 = .ok (.putfield 19, 3) := by decide +kernel
theorem d_PH_init_21 : decode prog_5_method_1_code 21 = .ok (.aload_n 0, 1) := by decide +kernel
theorem d_PH_init_22 : decode prog_5_method_1_code 22 = .ok (.iconst 4, 1) := by decide +kernel
theorem d_PH_init_23 : decode prog_5_method_1_code 23 = .ok (.newarray .int, 2) := by decide +kernel
theorem d_PH_init_25 : decode prog_5_method_1_code 25 = .ok (.putfield 23, 3) := by decide +kernel
theorem d_PH_init_28 : decode prog_5_method_1_code 28 = .ok (.aload_n 0, 1) := by decide +kernel
theorem d_PH_init_29 : decode prog_5_method_1_code 29 = .ok (.iconst 4, 1) := by decide +kernel
theorem d_PH_init_30 : decode prog_5_method_1_code 30 = .ok (.newarray .int, 2) := by decide +kernel
theorem d_PH_init_32 : decode prog_5_method_1_code 32 = .ok (.putfield 26, 3) := by decide +kernel
theorem d_PH_init_35 : decode prog_5_method_1_code 35 = .ok (.aload_n 0, 1) := by decide +kernel
theorem d_PH_init_36 : decode prog_5_method_1_code 36 = .ok (.iconst 5, 1) := by decide +kernel
theorem d_PH_init_37 : decode prog_5_method_1_code 37 = .ok (.newarray .int, 2) := by decide +kernel
theorem d_PH_init_39 : decode prog_5_method_1_code 39 = .ok (.putfield 29, 3) := by decide +kernel
theorem d_PH_init_42 : decode prog_5_method_1_code 42 = .ok (.return_, 1) := by decide +kernel
theorem d_PH_find_0 : decode prog_5_method_2_code 0 = .ok (.aload_n 0, 1) := by decide +kernel
theorem d_PH_find_1 : decode prog_5_method_2_code 1 = .ok (.getfield 9, 3) := by decide +kernel
theorem d_PH_find_4 : decode prog_5_method_2_code 4 = .ok (.iload_n 1, 1) := by decide +kernel
theorem d_PH_find_5 : decode prog_5_method_2_code 5 = .ok (.invokevirtual 32, 3) := by decide +kernel
theorem d_PH_find_8 : decode prog_5_method_2_code 8 = .ok (.istore_n 2, 1) := by decide +kernel
theorem d_PH_find_9 : decode prog_5_method_2_code 9 = .ok (.iload_n 2, 1) := by decide +kernel
theorem d_PH_find_10 : decode prog_5_method_2_code 10 = .ok (.invokestatic 38, 3) := by decide +kernel
theorem d_PH_find_13 : decode prog_5_method_2_code 13 = .ok (.iconst 4, 1) := by decide +kernel
theorem d_PH_find_14 : decode prog_5_method_2_code 14 = .ok (.if_icmp .le 5, 3) := by decide +kernel
theorem d_PH_find_17 : decode prog_5_method_2_code 17 = .ok (.iconst 0, 1) := by decide +kernel
theorem d_PH_find_18 : decode prog_5_method_2_code 18 = .ok (.ireturn, 1) := by decide +kernel
theorem d_PH_find_19 : decode prog_5_method_2_code 19 = .ok (.aload_n 0, 1) := by decide +kernel
theorem d_PH_find_20 : decode prog_5_method_2_code 20 = .ok (.iload_n 1, 1) := by decide +kernel
theorem d_PH_find_21 : decode prog_5_method_2_code 21 = .ok (.putfield 43, 3) := by decide +kernel
theorem d_PH_find_24 : decode prog_5_method_2_code 24 = .ok (.aload_n 0, 1) := by decide +kernel
theorem d_PH_find_25 : decode prog_5_method_2_code 25 = .ok (.iload_n 2, 1) := by decide +kernel
theorem d_PH_find_26 : decode prog_5_method_2_code 26 = .ok (.invokevirtual 47, 3) := by decide +kernel
theorem d_PH_find_29 : decode prog_5_method_2_code 29 = .ok (.aload_n 0, 1) := by decide +kernel
theorem d_PH_find_30 : decode prog_5_method_2_code 30 = .ok (.getfield 15, 3) := by decide +kernel
theorem d_PH_find_33 : decode prog_5_method_2_code 33 = .ok (.aload_n 0, 1) := by decide +kernel
theorem d_PH_find_34 : decode prog_5_method_2_code 34 = .ok (.getfield 9, 3) := by decide +kernel
theorem d_PH_find_37 : decode prog_5_method_2_code 37 = .ok (.iload_n 2, 1) := by decide +kernel
theorem d_PH_find_38 : decode prog_5_method_2_code 38 = .ok (.invokevirtual 51, 3) := by decide +kernel
theorem d_PH_find_41 : decode prog_5_method_2_code 41 = .ok (.invokevirtual 54, 3) := by decide +kernel
theorem d_PH_find_44 : decode prog_5_method_2_code 44 = .ok (.aload_n 0, 1) := by decide +kernel
theorem d_PH_find_45 : decode prog_5_method_2_code 45 = .ok (.invokevirtual 59, 3) := by decide +kernel
theorem d_PH_find_48 : decode prog_5_method_2_code 48 = .ok (.aload_n 0, 1) := by decide +kernel
theorem d_PH_find_49 : decode prog_5_method_2_code 49 = .ok (.ldc 62, 2) := by decide +kernel
theorem d_PH_find_51 : decode prog_5_method_2_code 51 = .ok (.putfield 63, 3) := by decide +kernel
theorem d_PH_find_54 : decode prog_5_method_2_code 54 = .ok (.aload_n 0, 1) := by decide +kernel
theorem d_PH_find_55 : decode prog_5_method_2_code 55 = .ok (.iconst 0, 1) := by decide +kernel
theorem d_PH_find_56 : decode prog_5_method_2_code 56 = .ok (.invokestatic 66, 3) := by decide +kernel
theorem d_PH_find_59 : decode prog_5_method_2_code 59 = .ok (.iconst 1, 1) := by decide +kernel
theorem d_PH_find_60 : decode prog_5_method_2_code 60 = .ok (.ireturn, 1) := by decide +kernel
theorem d_PH_list_0 : decode prog_5_method_3_code 0 = .ok (.aload_n 0, 1) := by decide +kernel
theorem d_PH_list_1 : decode prog_5_method_3_code 1 = .ok (.iconst 0, 1) := by decide +kernel
theorem d_PH_list_2 : decode prog_5_method_3_code 2 = .ok (.putfield 70, 3) := by decide +kernel
theorem d_PH_list_5 : decode prog_5_method_3_code 5 = .ok (.iconst 0, 1) := by decide +kernel
theorem d_PH_list_6 : decode prog_5_method_3_code 6 = .ok (.istore_n 2, 1) := by decide +kernel
theorem d_PH_list_7 : decode prog_5_method_3_code 7 = .ok (.iload_n 2, 1) := by decide +kernel
theorem d_PH_list_8 : decode prog_5_method_3_code 8 = .ok (.aload_n 0, 1) := by decide +kernel
theorem d_PH_list_9 : decode prog_5_method_3_code 9 = .ok (.getfield 9, 3) := by decide +kernel
theorem d_PH_list_12 : decode prog_5_method_3_code 12 = .ok (.getfield 73, 3) := by decide +kernel
theorem d_PH_list_15 : decode prog_5_method_3_code 15 = .ok (.if_icmp .ge 46, 3) := by decide +kernel
theorem d_PH_list_18 : decode prog_5_method_3_code 18 = .ok (.aload_n 0, 1) := by decide +kernel
theorem d_PH_list_19 : decode prog_5_method_3_code 19 = .ok (.getfield 70, 3) := by decide +kernel
theorem d_PH_list_22 : decode prog_5_method_3_code 22 = .ok (.iconst 4, 1) := by decide +kernel
theorem d_PH_list_23 : decode prog_5_method_3_code 23 = .ok (.if_icmp .ge 38, 3) := by decide +kernel
theorem d_PH_list_26 : decode prog_5_method_3_code 26 = .ok (.iload_n 1, 1) := by decide +kernel
theorem d_PH_list_27 : decode prog_5_method_3_code 27 = .ok (.iload_n 2, 1) := by decide +kernel
theorem d_PH_list_28 : decode prog_5_method_3_code 28 = .ok (.ishr, 1) := by decide +kernel
theorem d_PH_list_29 : decode prog_5_method_3_code 29 = .ok (.iconst 1, 1) := by decide +kernel
theorem d_PH_list_30 : decode prog_5_method_3_code 30 = .ok (.iand, 1) := by decide +kernel
theorem d_PH_list_31 : decode prog_5_method_3_code 31 = .ok (.iconst 1, 1) := by decide +kernel
theorem d_PH_list_32 : decode prog_5_method_3_code 32 = .ok (.if_icmp .ne 23, 3) := by decide +kernel
theorem d_PH_list_35 : decode prog_5_method_3_code 35 = .ok (.aload_n 0, 1) := by decide +kernel
theorem d_PH_list_36 : decode prog_5_method_3_code 36 = .ok (.getfield 19, 3) := by decide +kernel
theorem d_PH_list_39 : decode prog_5_method_3_code 39 = .ok (.aload_n 0, 1) := by decide +kernel
theorem d_PH_list_40 : decode prog_5_method_3_code 40 = .ok (.getfield 70, 3) := by decide +kernel
theorem d_PH_list_43 : decode prog_5_method_3_code 43 = .ok (.iload_n 2, 1) := by decide +kernel
theorem d_PH_list_44 : decode prog_5_method_3_code 44 = .ok (.iastore, 1) := by decide +kernel
theorem d_PH_list_45 : decode prog_5_method_3_code 45 = .ok (.aload_n 0, 1) := by decide +kernel
theorem d_PH_list_46 : decode prog_5_method_3_code 46 = .ok (.dup, 1) := by decide +kernel
theorem d_PH_list_47 : decode prog_5_method_3_code 47 = .ok (.getfield 70, 3) := by decide +kernel
theorem d_PH_list_50 : decode prog_5_method_3_code 50 = .ok (.iconst 1, 1) := by decide +kernel
theorem d_PH_list_51 : decode prog_5_method_3_code 51 = .ok (.iadd, 1) := by decide +kernel
theorem d_PH_list_52 : decode prog_5_method_3_code 52 = .ok (.putfield 70, 3) := by decide +kernel
theorem d_PH_list_55 : decode prog_5_method_3_code 55 = .ok (.iinc 2 1, 3) := by decide +kernel
theorem d_PH_list_58 : decode prog_5_method_3_code 58 = .ok (.goto (-51), 3) := by decide +kernel
theorem d_PH_list_61 : decode prog_5_method_3_code 61 = .ok (.return_, 1) := by decide +kernel
theorem d_PH_foresee_0 : decode prog_5_method_4_code 0 = .ok (.aload_n 0, 1) := by decide +kernel
theorem d_PH_foresee_1 : decode prog_5_method_4_code 1 = .ok (.getfield 15, 3) := by decide +kernel
theorem d_PH_foresee_4 : decode prog_5_method_4_code 4 = .ok (.aload_n 0, 1) := by decide +kernel
theorem d_PH_foresee_5 : decode prog_5_method_4_code 5 = .ok (.getfield 43, 3) := by decide +kernel
theorem d_PH_foresee_8 : decode prog_5_method_4_code 8 = .ok (.invokevirtual 76, 3) := by decide +kernel
theorem d_PH_foresee_11 : decode prog_5_method_4_code 11 = .ok (.istore_n 1, 1) := by decide +kernel
theorem d_PH_foresee_12 : decode prog_5_method_4_code 12 = .ok (.aload_n 0, 1) := by decide +kernel
theorem d_PH_foresee_13 : decode prog_5_method_4_code 13 = .ok (.getfield 29, 3) := by decide +kernel
theorem d_PH_foresee_16 : decode prog_5_method_4_code 16 = .ok (.aload_n 0, 1) := by decide +kernel
theorem d_PH_foresee_17 : decode prog_5_method_4_code 17 = .ok (.getfield 70, 3) := by decide +kernel
theorem d_PH_foresee_20 : decode prog_5_method_4_code 20 = .ok (.iconst 0, 1) := by decide +kernel
theorem d_PH_foresee_21 : decode prog_5_method_4_code 21 = .ok (.iastore, 1) := by decide +kernel
theorem d_PH_foresee_22 : decode prog_5_method_4_code 22 = .ok (.aload_n 0, 1) := by decide +kernel
theorem d_PH_foresee_23 : decode prog_5_method_4_code 23 = .ok (.getfield 70, 3) := by decide +kernel
theorem d_PH_foresee_26 : decode prog_5_method_4_code 26 = .ok (.iconst 1, 1) := by decide +kernel
theorem d_PH_foresee_27 : decode prog_5_method_4_code 27 = .ok (.isub, 1) := by decide +kernel
theorem d_PH_foresee_28 : decode prog_5_method_4_code 28 = .ok (.istore_n 2, 1) := by decide +kernel
theorem d_PH_foresee_29 : decode prog_5_method_4_code 29 = .ok (.iload_n 2, 1) := by decide +kernel
theorem d_PH_foresee_30 : decode prog_5_method_4_code 30 = .ok (.ifCond .lt 36, 3) := by decide +kernel
theorem d_PH_foresee_33 : decode prog_5_method_4_code 33 = .ok (.aload_n 0, 1) := by decide +kernel
theorem d_PH_foresee_34 : decode prog_5_method_4_code 34 = .ok (.getfield 29, 3) := by decide +kernel
theorem d_PH_foresee_37 : decode prog_5_method_4_code 37 = .ok (.iload_n 2, 1) := by decide +kernel
theorem d_PH_foresee_38 : decode prog_5_method_4_code 38 = .ok (.aload_n 0, 1) := by decide +kernel
theorem d_PH_foresee_39 : decode prog_5_method_4_code 39 = .ok (.getfield 29, 3) := by decide +kernel
theorem d_PH_foresee_42 : decode prog_5_method_4_code 42 = .ok (.iload_n 2, 1) := by decide +kernel
theorem d_PH_foresee_43 : decode prog_5_method_4_code 43 = .ok (.iconst 1, 1) := by decide +kernel
theorem d_PH_foresee_44 : decode prog_5_method_4_code 44 = .ok (.iadd, 1) := by decide +kernel
theorem d_PH_foresee_45 : decode prog_5_method_4_code 45 = .ok (.iaload, 1) := by decide +kernel
theorem d_PH_foresee_46 : decode prog_5_method_4_code 46 = .ok (.aload_n 0, 1) := by decide +kernel
theorem d_PH_foresee_47 : decode prog_5_method_4_code 47 = .ok (.aload_n 0, 1) := by decide +kernel
theorem d_PH_foresee_48 : decode prog_5_method_4_code 48 = .ok (.getfield 19, 3) := by decide +kernel
theorem d_PH_foresee_51 : decode prog_5_method_4_code 51 = .ok (.iload_n 2, 1) := by decide +kernel
theorem d_PH_foresee_52 : decode prog_5_method_4_code 52 = .ok (.iaload, 1) := by decide +kernel
theorem d_PH_foresee_53 : decode prog_5_method_4_code 53 = .ok (.invokevirtual 79, 3) := by decide +kernel
theorem d_PH_foresee_56 : decode prog_5_method_4_code 56 = .ok (.iadd, 1) := by decide +kernel
theorem d_PH_foresee_57 : decode prog_5_method_4_code 57 = .ok (.iload_n 1, 1) := by decide +kernel
theorem d_PH_foresee_58 : decode prog_5_method_4_code 58 = .ok (.isub, 1) := by decide +kernel
theorem d_PH_foresee_59 : decode prog_5_method_4_code 59 = .ok (.iastore, 1) := by decide +kernel
theorem d_PH_foresee_60 : decode prog_5_method_4_code 60 = .ok (.iinc 2 (-1), 3) := by decide +kernel
theorem d_PH_foresee_63 : decode prog_5_method_4_code 63 = .ok (.goto (-34), 3) := by decide +kernel
theorem d_PH_foresee_66 : decode prog_5_method_4_code 66 = .ok (.return_, 1) := by decide +kernel
theorem d_PH_leastAlone_0 : decode prog_5_method_5_code 0 = .ok (.ldc 62, 2) := by decide +kernel
theorem d_PH_leastAlone_2 : decode prog_5_method_5_code 2 = .ok (.istore_n 2, 1) := by decide +kernel
theorem d_PH_leastAlone_3 : decode prog_5_method_5_code 3 = .ok (.iconst 0, 1) := by decide +kernel
theorem d_PH_leastAlone_4 : decode prog_5_method_5_code 4 = .ok (.istore_n 3, 1) := by decide +kernel
theorem d_PH_leastAlone_5 : decode prog_5_method_5_code 5 = .ok (.iload_n 3, 1) := by decide +kernel
theorem d_PH_leastAlone_6 : decode prog_5_method_5_code 6 = .ok (.aload_n 0, 1) := by decide +kernel
theorem d_PH_leastAlone_7 : decode prog_5_method_5_code 7 = .ok (.iload_n 1, 1) := by decide +kernel
theorem d_PH_leastAlone_8 : decode prog_5_method_5_code 8 = .ok (.invokevirtual 82, 3) := by decide +kernel
theorem d_PH_leastAlone_11 : decode prog_5_method_5_code 11 = .ok (.if_icmp .gt 54, 3) := by decide +kernel
theorem d_PH_leastAlone_14 : decode prog_5_method_5_code 14 = .ok (.aload_n 0, 1) := by decide +kernel
theorem d_PH_leastAlone_15 : decode prog_5_method_5_code 15 = .ok (.getfield 15, 3) := by decide +kernel
theorem d_PH_leastAlone_18 : decode prog_5_method_5_code 18 = .ok (.iload_n 1, 1) := by decide +kernel
theorem d_PH_leastAlone_19 : decode prog_5_method_5_code 19 = .ok (.iload_n 3, 1) := by decide +kernel
theorem d_PH_leastAlone_20 : decode prog_5_method_5_code 20 = .ok (.aload_n 0, 1) := by decide +kernel
theorem d_PH_leastAlone_21 : decode prog_5_method_5_code 21 = .ok (.iload_n 1, 1) := by decide +kernel
theorem d_PH_leastAlone_22 : decode prog_5_method_5_code 22 = .ok (.invokevirtual 85, 3) := by decide +kernel
theorem d_PH_leastAlone_25 : decode prog_5_method_5_code 25 = .ok (.ineg, 1) := by decide +kernel
theorem d_PH_leastAlone_26 : decode prog_5_method_5_code 26 = .ok (.invokevirtual 88, 3) := by decide +kernel
theorem d_PH_leastAlone_29 : decode prog_5_method_5_code 29 = .ok (.iload_n 2, 1) := by decide +kernel
theorem d_PH_leastAlone_30 : decode prog_5_method_5_code 30 = .ok (.aload_n 0, 1) := by decide +kernel
theorem d_PH_leastAlone_31 : decode prog_5_method_5_code 31 = .ok (.getfield 15, 3) := by decide +kernel
theorem d_PH_leastAlone_34 : decode prog_5_method_5_code 34 = .ok (.aload_n 0, 1) := by decide +kernel
theorem d_PH_leastAlone_35 : decode prog_5_method_5_code 35 = .ok (.getfield 43, 3) := by decide +kernel
theorem d_PH_leastAlone_38 : decode prog_5_method_5_code 38 = .ok (.invokevirtual 76, 3) := by decide +kernel
theorem d_PH_leastAlone_41 : decode prog_5_method_5_code 41 = .ok (.invokestatic 92, 3) := by decide +kernel
theorem d_PH_leastAlone_44 : decode prog_5_method_5_code 44 = .ok (.istore_n 2, 1) := by decide +kernel
theorem d_PH_leastAlone_45 : decode prog_5_method_5_code 45 = .ok (.aload_n 0, 1) := by decide +kernel
theorem d_PH_leastAlone_46 : decode prog_5_method_5_code 46 = .ok (.getfield 15, 3) := by decide +kernel
theorem d_PH_leastAlone_49 : decode prog_5_method_5_code 49 = .ok (.iload_n 1, 1) := by decide +kernel
theorem d_PH_leastAlone_50 : decode prog_5_method_5_code 50 = .ok (.iload_n 3, 1) := by decide +kernel
theorem d_PH_leastAlone_51 : decode prog_5_method_5_code 51 = .ok (.aload_n 0, 1) := by decide +kernel
theorem d_PH_leastAlone_52 : decode prog_5_method_5_code 52 = .ok (.iload_n 1, 1) := by decide +kernel
theorem d_PH_leastAlone_53 : decode prog_5_method_5_code 53 = .ok (.invokevirtual 85, 3) := by decide +kernel
theorem d_PH_leastAlone_56 : decode prog_5_method_5_code 56 = .ok (.invokevirtual 88, 3) := by decide +kernel
theorem d_PH_leastAlone_59 : decode prog_5_method_5_code 59 = .ok (.iinc 3 1, 3) := by decide +kernel
theorem d_PH_leastAlone_62 : decode prog_5_method_5_code 62 = .ok (.goto (-57), 3) := by decide +kernel
theorem d_PH_leastAlone_65 : decode prog_5_method_5_code 65 = .ok (.iload_n 2, 1) := by decide +kernel
theorem d_PH_leastAlone_66 : decode prog_5_method_5_code 66 = .ok (.ireturn, 1) := by decide +kernel
theorem d_PH_lastPhase_0 : decode prog_5_method_6_code 0 = .ok (.aload_n 0, 1) := by decide +kernel
theorem d_PH_lastPhase_1 : decode prog_5_method_6_code 1 = .ok (.getfield 9, 3) := by decide +kernel
theorem d_PH_lastPhase_4 : decode prog_5_method_6_code 4 = .ok (.getfield 98, 3) := by decide +kernel
theorem d_PH_lastPhase_7 : decode prog_5_method_6_code 7 = .ok (.iload_n 1, 1) := by decide +kernel
theorem d_PH_lastPhase_8 : decode prog_5_method_6_code 8 = .ok (.baload, 1) := by decide +kernel
theorem d_PH_lastPhase_9 : decode prog_5_method_6_code 9 = .ok (.ifCond .eq 7, 3) := by decide +kernel
theorem d_PH_lastPhase_12 : decode prog_5_method_6_code 12 = .ok (.iconst 0, 1) := by decide +kernel
theorem d_PH_lastPhase_13 : decode prog_5_method_6_code 13 = .ok (.goto 12, 3) := by decide +kernel
theorem d_PH_lastPhase_16 : decode prog_5_method_6_code 16 = .ok (.aload_n 0, 1) := by decide +kernel
theorem d_PH_lastPhase_17 : decode prog_5_method_6_code 17 = .ok (.getfield 9, 3) := by decide +kernel
theorem d_PH_lastPhase_20 : decode prog_5_method_6_code 20 = .ok (.getfield 102, 3) := by decide +kernel
theorem d_PH_lastPhase_23 : decode prog_5_method_6_code 23 = .ok (.iload_n 1, 1) := by decide +kernel
theorem d_PH_lastPhase_24 : decode prog_5_method_6_code 24 = .ok (.iaload, 1) := by decide +kernel
theorem d_PH_lastPhase_25 : decode prog_5_method_6_code 25 = .ok (.ireturn, 1) := by decide +kernel
theorem d_PH_breath_0 : decode prog_5_method_7_code 0 = .ok (.aload_n 0, 1) := by decide +kernel
theorem d_PH_breath_1 : decode prog_5_method_7_code 1 = .ok (.getfield 9, 3) := by decide +kernel
theorem d_PH_breath_4 : decode prog_5_method_7_code 4 = .ok (.getfield 98, 3) := by decide +kernel
theorem d_PH_breath_7 : decode prog_5_method_7_code 7 = .ok (.iload_n 1, 1) := by decide +kernel
theorem d_PH_breath_8 : decode prog_5_method_7_code 8 = .ok (.baload, 1) := by decide +kernel
theorem d_PH_breath_9 : decode prog_5_method_7_code 9 = .ok (.ifCond .eq 7, 3) := by decide +kernel
theorem d_PH_breath_12 : decode prog_5_method_7_code 12 = .ok (.iconst 0, 1) := by decide +kernel
theorem d_PH_breath_13 : decode prog_5_method_7_code 13 = .ok (.goto 12, 3) := by decide +kernel
theorem d_PH_breath_16 : decode prog_5_method_7_code 16 = .ok (.aload_n 0, 1) := by decide +kernel
theorem d_PH_breath_17 : decode prog_5_method_7_code 17 = .ok (.getfield 9, 3) := by decide +kernel
theorem d_PH_breath_20 : decode prog_5_method_7_code 20 = .ok (.getfield 105, 3) := by decide +kernel
theorem d_PH_breath_23 : decode prog_5_method_7_code 23 = .ok (.iload_n 1, 1) := by decide +kernel
theorem d_PH_breath_24 : decode prog_5_method_7_code 24 = .ok (.iaload, 1) := by decide +kernel
theorem d_PH_breath_25 : decode prog_5_method_7_code 25 = .ok (.ireturn, 1) := by decide +kernel
theorem d_PH_tryFrom_0 : decode prog_5_method_8_code 0 = .ok (.iload_n 1, 1) := by decide +kernel
theorem d_PH_tryFrom_1 : decode prog_5_method_8_code 1 = .ok (.aload_n 0, 1) := by decide +kernel
theorem d_PH_tryFrom_2 : decode prog_5_method_8_code 2 = .ok (.getfield 70, 3) := by decide +kernel
theorem d_PH_tryFrom_5 : decode prog_5_method_8_code 5 = .ok (.if_icmp .gt 8, 3) := by decide +kernel
theorem d_PH_tryFrom_8 : decode prog_5_method_8_code 8 = .ok (.iload_n 1, 1) := by decide +kernel
theorem d_PH_tryFrom_9 : decode prog_5_method_8_code 9 = .ok (.iconst 4, 1) := by decide +kernel
theorem d_PH_tryFrom_10 : decode prog_5_method_8_code 10 = .ok (.if_icmp .le 4, 3) := by decide +kernel
theorem d_PH_tryFrom_13 : decode prog_5_method_8_code 13 = .ok (.return_, 1) := by decide +kernel
theorem d_PH_tryFrom_14 : decode prog_5_method_8_code 14 = .ok (.aload_n 0, 1) := by decide +kernel
theorem d_PH_tryFrom_15 : decode prog_5_method_8_code 15 = .ok (.getfield 15, 3) := by decide +kernel
theorem d_PH_tryFrom_18 : decode prog_5_method_8_code 18 = .ok (.aload_n 0, 1) := by decide +kernel
theorem d_PH_tryFrom_19 : decode prog_5_method_8_code 19 = .ok (.getfield 43, 3) := by decide +kernel
theorem d_PH_tryFrom_22 : decode prog_5_method_8_code 22 = .ok (.invokevirtual 76, 3) := by decide +kernel
theorem d_PH_tryFrom_25 : decode prog_5_method_8_code 25 = .ok (.istore_n 2, 1) := by decide +kernel
theorem d_PH_tryFrom_26 : decode prog_5_method_8_code 26 = .ok (.iload_n 2, 1) := by decide +kernel
theorem d_PH_tryFrom_27 : decode prog_5_method_8_code 27 = .ok (.aload_n 0, 1) := by decide +kernel
theorem d_PH_tryFrom_28 : decode prog_5_method_8_code 28 = .ok (.getfield 29, 3) := by decide +kernel
theorem d_PH_tryFrom_31 : decode prog_5_method_8_code 31 = .ok (.iload_n 1, 1) := by decide +kernel
theorem d_PH_tryFrom_32 : decode prog_5_method_8_code 32 = .ok (.iaload, 1) := by decide +kernel
theorem d_PH_tryFrom_33 : decode prog_5_method_8_code 33 = .ok (.iadd, 1) := by decide +kernel
theorem d_PH_tryFrom_34 : decode prog_5_method_8_code 34 = .ok (.aload_n 0, 1) := by decide +kernel
theorem d_PH_tryFrom_35 : decode prog_5_method_8_code 35 = .ok (.getfield 63, 3) := by decide +kernel
theorem d_PH_tryFrom_38 : decode prog_5_method_8_code 38 = .ok (.if_icmp .lt 4, 3) := by decide +kernel
theorem d_PH_tryFrom_41 : decode prog_5_method_8_code 41 = .ok (.return_, 1) := by decide +kernel
theorem d_PH_tryFrom_42 : decode prog_5_method_8_code 42 = .ok (.iload_n 1, 1) := by decide +kernel
theorem d_PH_tryFrom_43 : decode prog_5_method_8_code 43 = .ok (.aload_n 0, 1) := by decide +kernel
theorem d_PH_tryFrom_44 : decode prog_5_method_8_code 44 = .ok (.getfield 70, 3) := by decide +kernel
theorem d_PH_tryFrom_47 : decode prog_5_method_8_code 47 = .ok (.if_icmp .ne 9, 3) := by decide +kernel
theorem d_PH_tryFrom_50 : decode prog_5_method_8_code 50 = .ok (.aload_n 0, 1) := by decide +kernel
theorem d_PH_tryFrom_51 : decode prog_5_method_8_code 51 = .ok (.iload_n 2, 1) := by decide +kernel
theorem d_PH_tryFrom_52 : decode prog_5_method_8_code 52 = .ok (.invokevirtual 108, 3) := by decide +kernel
theorem d_PH_tryFrom_55 : decode prog_5_method_8_code 55 = .ok (.return_, 1) := by decide +kernel
theorem d_PH_tryFrom_56 : decode prog_5_method_8_code 56 = .ok (.aload_n 0, 1) := by decide +kernel
theorem d_PH_tryFrom_57 : decode prog_5_method_8_code 57 = .ok (.getfield 19, 3) := by decide +kernel
theorem d_PH_tryFrom_60 : decode prog_5_method_8_code 60 = .ok (.iload_n 1, 1) := by decide +kernel
theorem d_PH_tryFrom_61 : decode prog_5_method_8_code 61 = .ok (.iaload, 1) := by decide +kernel
theorem d_PH_tryFrom_62 : decode prog_5_method_8_code 62 = .ok (.istore_n 3, 1) := by decide +kernel
theorem d_PH_tryFrom_63 : decode prog_5_method_8_code 63 = .ok (.iconst 0, 1) := by decide +kernel
theorem d_PH_tryFrom_64 : decode prog_5_method_8_code 64 = .ok (.istore 4, 2) := by decide +kernel
theorem d_PH_tryFrom_66 : decode prog_5_method_8_code 66 = .ok (.iload 4, 2) := by decide +kernel
theorem d_PH_tryFrom_68 : decode prog_5_method_8_code 68 = .ok (.aload_n 0, 1) := by decide +kernel
theorem d_PH_tryFrom_69 : decode prog_5_method_8_code 69 = .ok (.iload_n 3, 1) := by decide +kernel
theorem d_PH_tryFrom_70 : decode prog_5_method_8_code 70 = .ok (.invokevirtual 82, 3) := by decide +kernel
theorem d_PH_tryFrom_73 : decode prog_5_method_8_code 73 = .ok (.if_icmp .gt 55, 3) := by decide +kernel
theorem d_PH_tryFrom_76 : decode prog_5_method_8_code 76 = .ok (.aload_n 0, 1) := by decide +kernel
theorem d_PH_tryFrom_77 : decode prog_5_method_8_code 77 = .ok (.getfield 23, 3) := by decide +kernel
theorem d_PH_tryFrom_80 : decode prog_5_method_8_code 80 = .ok (.iload_n 1, 1) := by decide +kernel
theorem d_PH_tryFrom_81 : decode prog_5_method_8_code 81 = .ok (.iload 4, 2) := by decide +kernel
theorem d_PH_tryFrom_83 : decode prog_5_method_8_code 83 = .ok (.iastore, 1) := by decide +kernel
theorem d_PH_tryFrom_84 : decode prog_5_method_8_code 84 = .ok (.aload_n 0, 1) := by decide +kernel
theorem d_PH_tryFrom_85 : decode prog_5_method_8_code 85 = .ok (.getfield 15, 3) := by decide +kernel
theorem d_PH_tryFrom_88 : decode prog_5_method_8_code 88 = .ok (.iload_n 3, 1) := by decide +kernel
theorem d_PH_tryFrom_89 : decode prog_5_method_8_code 89 = .ok (.iload 4, 2) := by decide +kernel
theorem d_PH_tryFrom_91 : decode prog_5_method_8_code 91 = .ok (.aload_n 0, 1) := by decide +kernel
theorem d_PH_tryFrom_92 : decode prog_5_method_8_code 92 = .ok (.iload_n 3, 1) := by decide +kernel
theorem d_PH_tryFrom_93 : decode prog_5_method_8_code 93 = .ok (.invokevirtual 85, 3) := by decide +kernel
theorem d_PH_tryFrom_96 : decode prog_5_method_8_code 96 = .ok (.ineg, 1) := by decide +kernel
theorem d_PH_tryFrom_97 : decode prog_5_method_8_code 97 = .ok (.invokevirtual 88, 3) := by decide +kernel
theorem d_PH_tryFrom_100 : decode prog_5_method_8_code 100 = .ok (.aload_n 0, 1) := by decide +kernel
theorem d_PH_tryFrom_101 : decode prog_5_method_8_code 101 = .ok (.iload_n 1, 1) := by decide +kernel
theorem d_PH_tryFrom_102 : decode prog_5_method_8_code 102 = .ok (.iconst 1, 1) := by decide +kernel
theorem d_PH_tryFrom_103 : decode prog_5_method_8_code 103 = .ok (.iadd, 1) := by decide +kernel
theorem d_PH_tryFrom_104 : decode prog_5_method_8_code 104 = .ok (.invokestatic 66, 3) := by decide +kernel
theorem d_PH_tryFrom_107 : decode prog_5_method_8_code 107 = .ok (.aload_n 0, 1) := by decide +kernel
theorem d_PH_tryFrom_108 : decode prog_5_method_8_code 108 = .ok (.getfield 15, 3) := by decide +kernel
theorem d_PH_tryFrom_111 : decode prog_5_method_8_code 111 = .ok (.iload_n 3, 1) := by decide +kernel
theorem d_PH_tryFrom_112 : decode prog_5_method_8_code 112 = .ok (.iload 4, 2) := by decide +kernel
theorem d_PH_tryFrom_114 : decode prog_5_method_8_code 114 = .ok (.aload_n 0, 1) := by decide +kernel
theorem d_PH_tryFrom_115 : decode prog_5_method_8_code 115 = .ok (.iload_n 3, 1) := by decide +kernel
theorem d_PH_tryFrom_116 : decode prog_5_method_8_code 116 = .ok (.invokevirtual 85, 3) := by decide +kernel
theorem d_PH_tryFrom_119 : decode prog_5_method_8_code 119 = .ok (.invokevirtual 88, 3) := by decide +kernel
theorem d_PH_tryFrom_122 : decode prog_5_method_8_code 122 = .ok (.iinc 4 1, 3) := by decide +kernel
theorem d_PH_tryFrom_125 : decode prog_5_method_8_code 125 = .ok (.goto (-59), 3) := by decide +kernel
theorem d_PH_tryFrom_128 : decode prog_5_method_8_code 128 = .ok (.return_, 1) := by decide +kernel
theorem d_PH_settle_0 : decode prog_5_method_9_code 0 = .ok (.aload_n 0, 1) := by decide +kernel
theorem d_PH_settle_1 : decode prog_5_method_9_code 1 = .ok (.iload_n 1, 1) := by decide +kernel
theorem d_PH_settle_2 : decode prog_5_method_9_code 2 = .ok (.putfield 63, 3) := by decide +kernel
theorem d_PH_settle_5 : decode prog_5_method_9_code 5 = .ok (.iconst 0, 1) := by decide +kernel
theorem d_PH_settle_6 : decode prog_5_method_9_code 6 = .ok (.istore_n 2, 1) := by decide +kernel
theorem d_PH_settle_7 : decode prog_5_method_9_code 7 = .ok (.iload_n 2, 1) := by decide +kernel
theorem d_PH_settle_8 : decode prog_5_method_9_code 8 = .ok (.aload_n 0, 1) := by decide +kernel
theorem d_PH_settle_9 : decode prog_5_method_9_code 9 = .ok (.getfield 70, 3) := by decide +kernel
theorem d_PH_settle_12 : decode prog_5_method_9_code 12 = .ok (.if_icmp .ge 21, 3) := by decide +kernel
theorem d_PH_settle_15 : decode prog_5_method_9_code 15 = .ok (.aload_n 0, 1) := by decide +kernel
theorem d_PH_settle_16 : decode prog_5_method_9_code 16 = .ok (.getfield 26, 3) := by decide +kernel
theorem d_PH_settle_19 : decode prog_5_method_9_code 19 = .ok (.iload_n 2, 1) := by decide +kernel
theorem d_PH_settle_20 : decode prog_5_method_9_code 20 = .ok (.aload_n 0, 1) := by decide +kernel
theorem d_PH_settle_21 : decode prog_5_method_9_code 21 = .ok (.getfield 23, 3) := by decide +kernel
theorem d_PH_settle_24 : decode prog_5_method_9_code 24 = .ok (.iload_n 2, 1) := by decide +kernel
theorem d_PH_settle_25 : decode prog_5_method_9_code 25 = .ok (.iaload, 1) := by decide +kernel
theorem d_PH_settle_26 : decode prog_5_method_9_code 26 = .ok (.iastore, 1) := by decide +kernel
theorem d_PH_settle_27 : decode prog_5_method_9_code 27 = .ok (.iinc 2 1, 3) := by decide +kernel
theorem d_PH_settle_30 : decode prog_5_method_9_code 30 = .ok (.goto (-23), 3) := by decide +kernel
theorem d_PH_settle_33 : decode prog_5_method_9_code 33 = .ok (.return_, 1) := by decide +kernel
theorem d_PH_phaseOf_0 : decode prog_5_method_10_code 0 = .ok (.iload_n 1, 1) := by decide +kernel
theorem d_PH_phaseOf_1 : decode prog_5_method_10_code 1 = .ok (.ifCond .lt 20, 3) := by decide +kernel
theorem d_PH_phaseOf_4 : decode prog_5_method_10_code 4 = .ok (.iload_n 1, 1) := by decide +kernel
theorem d_PH_phaseOf_5 : decode prog_5_method_10_code 5 = .ok (.aload_n 0, 1) := by decide +kernel
theorem d_PH_phaseOf_6 : decode prog_5_method_10_code 6 = .ok (.getfield 70, 3) := by decide +kernel
theorem d_PH_phaseOf_9 : decode prog_5_method_10_code 9 = .ok (.if_icmp .ge 12, 3) := by decide +kernel
theorem d_PH_phaseOf_12 : decode prog_5_method_10_code 12 = .ok (.aload_n 0, 1) := by decide +kernel
theorem d_PH_phaseOf_13 : decode prog_5_method_10_code 13 = .ok (.getfield 26, 3) := by decide +kernel
theorem d_PH_phaseOf_16 : decode prog_5_method_10_code 16 = .ok (.iload_n 1, 1) := by decide +kernel
theorem d_PH_phaseOf_17 : decode prog_5_method_10_code 17 = .ok (.iaload, 1) := by decide +kernel
theorem d_PH_phaseOf_18 : decode prog_5_method_10_code 18 = .ok (.goto 5, 3) := by decide +kernel
theorem d_PH_phaseOf_21 : decode prog_5_method_10_code 21 = .ok (.bipush (-9), 2) := by decide +kernel
theorem d_PH_phaseOf_23 : decode prog_5_method_10_code 23 = .ok (.ireturn, 1) := by decide +kernel
theorem d_PI_init_0 : decode prog_6_method_1_code 0 = .ok (.aload_n 0, 1) := by decide +kernel
theorem d_PI_init_1 : decode prog_6_method_1_code 1 = .ok (.invokespecial 3, 3) := by decide +kernel
theorem d_PI_init_4 : decode prog_6_method_1_code 4 = .ok (.aload_n 0, 1) := by decide +kernel
theorem d_PI_init_5 : decode prog_6_method_1_code 5 = .ok (.bipush 6, 2) := by decide +kernel
theorem d_PI_init_7 : decode prog_6_method_1_code 7 = .ok (.newarray .int, 2) := by decide +kernel
theorem d_PI_init_9 : decode prog_6_method_1_code 9 = .ok (.putfield 9, 3) := by decide +kernel
theorem d_PI_init_12 : decode prog_6_method_1_code 12 = .ok (.aload_n 0, 1) := by decide +kernel
theorem d_PI_init_13 : decode prog_6_method_1_code 13 = .ok (.bipush 24, 2) := by decide +kernel
theorem d_PI_init_15 : decode prog_6_method_1_code 15 = .ok (.newarray .int, 2) := by decide +kernel
theorem d_PI_init_17 : decode prog_6_method_1_code 17 = .ok (.putfield 15, 3) := by decide +kernel
theorem d_PI_init_20 : decode prog_6_method_1_code 20 = .ok (.aload_n 0, 1) := by decide +kernel
theorem d_PI_init_21 : decode prog_6_method_1_code 21 = .ok (.iconst 1, 1) := by decide +kernel
theorem d_PI_init_22 : decode prog_6_method_1_code 22 = .ok (.putfield 18, 3) := by decide +kernel
theorem d_PI_init_25 : decode prog_6_method_1_code 25 = .ok (.aload_n 0, 1) := by decide +kernel
theorem d_PI_init_26 : decode prog_6_method_1_code 26 = .ok (.getfield 9, 3) := by decide +kernel
theorem d_PI_init_29 : decode prog_6_method_1_code 29 = .ok (.iconst 0, 1) := by decide +kernel
theorem d_PI_init_30 : decode prog_6_method_1_code 30 = .ok (.iconst 1, 1) := by decide +kernel
theorem d_PI_init_31 : decode prog_6_method_1_code 31 = .ok (.iastore, 1) := by decide +kernel
theorem d_PI_init_32 : decode prog_6_method_1_code 32 = .ok (.return_, 1) := by decide +kernel
theorem d_PI_takeFrom_0 : decode prog_6_method_2_code 0 = .ok (.aload_n 0, 1) := by decide +kernel
theorem d_PI_takeFrom_1 : decode prog_6_method_2_code 1 = .ok (.aload_n 1, 1) := by decide +kernel
theorem d_PI_takeFrom_2 : decode prog_6_method_2_code 2 = .ok (.getfield 22, 3) := by decide +kernel
theorem d_PI_takeFrom_5 : decode prog_6_method_2_code 5 = .ok (.putfield 18, 3) := by decide +kernel
theorem d_PI_takeFrom_8 : decode prog_6_method_2_code 8 = .ok (.aload_n 0, 1) := by decide +kernel
theorem d_PI_takeFrom_9 : decode prog_6_method_2_code 9 = .ok (.aload_n 1, 1) := by decide +kernel
theorem d_PI_takeFrom_10 : decode prog_6_method_2_code 10 = .ok (.getfield 27, 3) := by decide +kernel
theorem d_PI_takeFrom_13 : decode prog_6_method_2_code 13 = .ok (.putfield 30, 3) := by decide +kernel
theorem d_PI_takeFrom_16 : decode prog_6_method_2_code 16 = .ok (.iconst 0, 1) := by decide +kernel
theorem d_PI_takeFrom_17 : decode prog_6_method_2_code 17 = .ok (.istore_n 2, 1) := by decide +kernel
theorem d_PI_takeFrom_18 : decode prog_6_method_2_code 18 = .ok (.iload_n 2, 1) := by decide +kernel
theorem d_PI_takeFrom_19 : decode prog_6_method_2_code 19 = .ok (.aload_n 0, 1) := by decide +kernel
theorem d_PI_takeFrom_20 : decode prog_6_method_2_code 20 = .ok (.getfield 18, 3) := by decide +kernel
theorem d_PI_takeFrom_23 : decode prog_6_method_2_code 23 = .ok (.if_icmp .ge 20, 3) := by decide +kernel
theorem d_PI_takeFrom_26 : decode prog_6_method_2_code 26 = .ok (.aload_n 0, 1) := by decide +kernel
theorem d_PI_takeFrom_27 : decode prog_6_method_2_code 27 = .ok (.getfield 9, 3) := by decide +kernel
theorem d_PI_takeFrom_30 : decode prog_6_method_2_code 30 = .ok (.iload_n 2, 1) := by decide +kernel
theorem d_PI_takeFrom_31 : decode prog_6_method_2_code 31 = .ok (.aload_n 1, 1) := by decide +kernel
theorem d_PI_takeFrom_32 : decode prog_6_method_2_code 32 = .ok (.iload_n 2, 1) := by decide +kernel
theorem d_PI_takeFrom_33 : decode prog_6_method_2_code 33 = .ok (.invokevirtual 33, 3) := by decide +kernel
theorem d_PI_takeFrom_36 : decode prog_6_method_2_code 36 = .ok (.iastore, 1) := by decide +kernel
theorem d_PI_takeFrom_37 : decode prog_6_method_2_code 37 = .ok (.iinc 2 1, 3) := by decide +kernel
theorem d_PI_takeFrom_40 : decode prog_6_method_2_code 40 = .ok (.goto (-22), 3) := by decide +kernel
theorem d_PI_takeFrom_43 : decode prog_6_method_2_code 43 = .ok (.iconst 0, 1) := by decide +kernel
theorem d_PI_takeFrom_44 : decode prog_6_method_2_code 44 = .ok (.istore_n 2, 1) := by decide +kernel
theorem d_PI_takeFrom_45 : decode prog_6_method_2_code 45 = .ok (.iload_n 2, 1) := by decide +kernel
theorem d_PI_takeFrom_46 : decode prog_6_method_2_code 46 = .ok (.aload_n 0, 1) := by decide +kernel
theorem d_PI_takeFrom_47 : decode prog_6_method_2_code 47 = .ok (.getfield 30, 3) := by decide +kernel
theorem d_PI_takeFrom_50 : decode prog_6_method_2_code 50 = .ok (.if_icmp .ge 20, 3) := by decide +kernel
theorem d_PI_takeFrom_53 : decode prog_6_method_2_code 53 = .ok (.aload_n 0, 1) := by decide +kernel
theorem d_PI_takeFrom_54 : decode prog_6_method_2_code 54 = .ok (.getfield 15, 3) := by decide +kernel
theorem d_PI_takeFrom_57 : decode prog_6_method_2_code 57 = .ok (.iload_n 2, 1) := by decide +kernel
theorem d_PI_takeFrom_58 : decode prog_6_method_2_code 58 = .ok (.aload_n 1, 1) := by decide +kernel
theorem d_PI_takeFrom_59 : decode prog_6_method_2_code 59 = .ok (.iload_n 2, 1) := by decide +kernel
theorem d_PI_takeFrom_60 : decode prog_6_method_2_code 60 = .ok (.invokevirtual 37, 3) := by decide +kernel
theorem d_PI_takeFrom_63 : decode prog_6_method_2_code 63 = .ok (.iastore, 1) := by decide +kernel
theorem d_PI_takeFrom_64 : decode prog_6_method_2_code 64 = .ok (.iinc 2 1, 3) := by decide +kernel
theorem d_PI_takeFrom_67 : decode prog_6_method_2_code 67 = .ok (.goto (-22), 3) := by decide +kernel
theorem d_PI_takeFrom_70 : decode prog_6_method_2_code 70 = .ok (.return_, 1) := by decide +kernel
theorem d_PI_has_0 : decode prog_6_method_3_code 0 = .ok (.iload_n 1, 1) := by decide +kernel
theorem d_PI_has_1 : decode prog_6_method_3_code 1 = .ok (.ifCond .lt 15, 3) := by decide +kernel
theorem d_PI_has_4 : decode prog_6_method_3_code 4 = .ok (.iload_n 1, 1) := by decide +kernel
theorem d_PI_has_5 : decode prog_6_method_3_code 5 = .ok (.aload_n 0, 1) := by decide +kernel
theorem d_PI_has_6 : decode prog_6_method_3_code 6 = .ok (.getfield 18, 3) := by decide +kernel
theorem d_PI_has_9 : decode prog_6_method_3_code 9 = .ok (.if_icmp .ge 7, 3) := by decide +kernel
theorem d_PI_has_12 : decode prog_6_method_3_code 12 = .ok (.iconst 1, 1) := by decide +kernel
theorem d_PI_has_13 : decode prog_6_method_3_code 13 = .ok (.goto 4, 3) := by decide +kernel
theorem d_PI_has_16 : decode prog_6_method_3_code 16 = .ok (.iconst 0, 1) := by decide +kernel
theorem d_PI_has_17 : decode prog_6_method_3_code 17 = .ok (.ireturn, 1) := by decide +kernel
theorem d_PI_hasBeat_0 : decode prog_6_method_4_code 0 = .ok (.iload_n 1, 1) := by decide +kernel
theorem d_PI_hasBeat_1 : decode prog_6_method_4_code 1 = .ok (.ifCond .lt 15, 3) := by decide +kernel
theorem d_PI_hasBeat_4 : decode prog_6_method_4_code 4 = .ok (.iload_n 1, 1) := by decide +kernel
theorem d_PI_hasBeat_5 : decode prog_6_method_4_code 5 = .ok (.aload_n 0, 1) := by decide +kernel
theorem d_PI_hasBeat_6 : decode prog_6_method_4_code 6 = .ok (.getfield 30, 3) := by decide +kernel
theorem d_PI_hasBeat_9 : decode prog_6_method_4_code 9 = .ok (.if_icmp .ge 7, 3) := by decide +kernel
theorem d_PI_hasBeat_12 : decode prog_6_method_4_code 12 = .ok (.iconst 1, 1) := by decide +kernel
theorem d_PI_hasBeat_13 : decode prog_6_method_4_code 13 = .ok (.goto 4, 3) := by decide +kernel
theorem d_PI_hasBeat_16 : decode prog_6_method_4_code 16 = .ok (.iconst 0, 1) := by decide +kernel
theorem d_PI_hasBeat_17 : decode prog_6_method_4_code 17 = .ok (.ireturn, 1) := by decide +kernel
theorem d_PI_hasBoth_0 : decode prog_6_method_5_code 0 = .ok (.aload_n 0, 1) := by decide +kernel
theorem d_PI_hasBoth_1 : decode prog_6_method_5_code 1 = .ok (.iload_n 1, 1) := by decide +kernel
theorem d_PI_hasBoth_2 : decode prog_6_method_5_code 2 = .ok (.invokevirtual 40, 3) := by decide +kernel
theorem d_PI_hasBoth_5 : decode prog_6_method_5_code 5 = .ok (.ifCond .eq 15, 3) := by decide +kernel
theorem d_PI_hasBoth_8 : decode prog_6_method_5_code 8 = .ok (.aload_n 0, 1) := by decide +kernel
theorem d_PI_hasBoth_9 : decode prog_6_method_5_code 9 = .ok (.iload_n 2, 1) := by decide +kernel
theorem d_PI_hasBoth_10 : decode prog_6_method_5_code 10 = .ok (.invokevirtual 44, 3) := by decide +kernel
theorem d_PI_hasBoth_13 : decode prog_6_method_5_code 13 = .ok (.ifCond .eq 7, 3) := by decide +kernel
theorem d_PI_hasBoth_16 : decode prog_6_method_5_code 16 = .ok (.iconst 1, 1) := by decide +kernel
theorem d_PI_hasBoth_17 : decode prog_6_method_5_code 17 = .ok (.goto 4, 3) := by decide +kernel
theorem d_PI_hasBoth_20 : decode prog_6_method_5_code 20 = .ok (.iconst 0, 1) := by decide +kernel
theorem d_PI_hasBoth_21 : decode prog_6_method_5_code 21 = .ok (.ireturn, 1) := by decide +kernel
theorem d_PI_isSounding_0 : decode prog_6_method_6_code 0 = .ok (.aload_n 0, 1) := by decide +kernel
theorem d_PI_isSounding_1 : decode prog_6_method_6_code 1 = .ok (.getfield 15, 3) := by decide +kernel
theorem d_PI_isSounding_4 : decode prog_6_method_6_code 4 = .ok (.iload_n 2, 1) := by decide +kernel
theorem d_PI_isSounding_5 : decode prog_6_method_6_code 5 = .ok (.iaload, 1) := by decide +kernel
theorem d_PI_isSounding_6 : decode prog_6_method_6_code 6 = .ok (.iload_n 1, 1) := by decide +kernel
theorem d_PI_isSounding_7 : decode prog_6_method_6_code 7 = .ok (.ishr, 1) := by decide +kernel
theorem d_PI_isSounding_8 : decode prog_6_method_6_code 8 = .ok (.iconst 1, 1) := by decide +kernel
theorem d_PI_isSounding_9 : decode prog_6_method_6_code 9 = .ok (.iand, 1) := by decide +kernel
theorem d_PI_isSounding_10 : decode prog_6_method_6_code 10 = .ok (.iconst 1, 1) := by decide +kernel
theorem d_PI_isSounding_11 : decode prog_6_method_6_code 11 = .ok (.if_icmp .ne 7, 3) := by decide +kernel
theorem d_PI_isSounding_14 : decode prog_6_method_6_code 14 = .ok (.iconst 1, 1) := by decide +kernel
theorem d_PI_isSounding_15 : decode prog_6_method_6_code 15 = .ok (.goto 4, 3) := by decide +kernel
theorem d_PI_isSounding_18 : decode prog_6_method_6_code 18 = .ok (.iconst 0, 1) := by decide +kernel
theorem d_PI_isSounding_19 : decode prog_6_method_6_code 19 = .ok (.ireturn, 1) := by decide +kernel
theorem d_SC_init_0 : decode prog_7_method_1_code 0 = .ok (.aload_n 0, 1) := by decide +kernel
theorem d_SC_init_1 : decode prog_7_method_1_code 1 = .ok (.invokespecial 3, 3) := by decide +kernel
theorem d_SC_init_4 : decode prog_7_method_1_code 4 = .ok (.aload_n 0, 1) := by decide +kernel
theorem d_SC_init_5 : decode prog_7_method_1_code 5 = .ok (.bipush 104, 2) := by decide +kernel
theorem d_SC_init_7 : decode prog_7_method_1_code 7 = .ok (.newarray .byte, 2) := by decide +kernel
theorem d_SC_init_9 : decode prog_7_method_1_code 9 = .ok (.putfield 9, 3) := by decide +kernel
theorem d_SC_init_12 : decode prog_7_method_1_code 12 = .ok (.return_, 1) := by decide +kernel
theorem d_SC_hasRoom_0 : decode prog_7_method_2_code 0 = .ok (.iload_n 1, 1) := by decide +kernel
theorem d_SC_hasRoom_1 : decode prog_7_method_2_code 1 = .ok (.bipush 104, 2) := by decide +kernel
theorem d_SC_hasRoom_3 : decode prog_7_method_2_code 3 = .ok (.aload_n 0, 1) := by decide +kernel
theorem d_SC_hasRoom_4 : decode prog_7_method_2_code 4 = .ok (.getfield 15, 3) := by decide +kernel
theorem d_SC_hasRoom_7 : decode prog_7_method_2_code 7 = .ok (.isub, 1) := by decide +kernel
theorem d_SC_hasRoom_8 : decode prog_7_method_2_code 8 = .ok (.if_icmp .gt 7, 3) := by decide +kernel
theorem d_SC_hasRoom_11 : decode prog_7_method_2_code 11 = .ok (.iconst 1, 1) := by decide +kernel
theorem d_SC_hasRoom_12 : decode prog_7_method_2_code 12 = .ok (.goto 4, 3) := by decide +kernel
theorem d_SC_hasRoom_15 : decode prog_7_method_2_code 15 = .ok (.iconst 0, 1) := by decide +kernel
theorem d_SC_hasRoom_16 : decode prog_7_method_2_code 16 = .ok (.ireturn, 1) := by decide +kernel
theorem d_SC_append_0 : decode prog_7_method_3_code 0 = .ok (.iload_n 1, 1) := by decide +kernel
theorem d_SC_append_1 : decode prog_7_method_3_code 1 = .ok (.iconst 1, 1) := by decide +kernel
theorem d_SC_append_2 : decode prog_7_method_3_code 2 = .ok (.isub, 1) := by decide +kernel
theorem d_SC_append_3 : decode prog_7_method_3_code 3 = .ok (.istore 4, 2) := by decide +kernel
theorem d_SC_append_5 : decode prog_7_method_3_code 5 = .ok (.iload 4, 2) := by decide +kernel
theorem d_SC_append_7 : decode prog_7_method_3_code 7 = .ok (.ifCond .lt 46, 3) := by decide +kernel
theorem d_SC_append_10 : decode prog_7_method_3_code 10 = .ok (.aload_n 0, 1) := by decide +kernel
theorem d_SC_append_11 : decode prog_7_method_3_code 11 = .ok (.getfield 15, 3) := by decide +kernel
theorem d_SC_append_14 : decode prog_7_method_3_code 14 = .ok (.bipush 104, 2) := by decide +kernel
theorem d_SC_append_16 : decode prog_7_method_3_code 16 = .ok (.if_icmp .ge 37, 3) := by decide +kernel
theorem d_SC_append_19 : decode prog_7_method_3_code 19 = .ok (.aload_n 0, 1) := by decide +kernel
theorem d_SC_append_20 : decode prog_7_method_3_code 20 = .ok (.getfield 9, 3) := by decide +kernel
theorem d_SC_append_23 : decode prog_7_method_3_code 23 = .ok (.aload_n 0, 1) := by decide +kernel
theorem d_SC_append_24 : decode prog_7_method_3_code 24 = .ok (.getfield 15, 3) := by decide +kernel
theorem d_SC_append_27 : decode prog_7_method_3_code 27 = .ok (.lload_n 2, 1) := by decide +kernel
theorem d_SC_append_28 : decode prog_7_method_3_code 28 = .ok (.bipush 8, 2) := by decide +kernel
theorem d_SC_append_30 : decode prog_7_method_3_code 30 = .ok (.iload 4, 2) := by decide +kernel
theorem d_SC_append_32 : decode prog_7_method_3_code 32 = .ok (.imul, 1) := by decide +kernel
theorem d_SC_append_33 : decode prog_7_method_3_code 33 = .ok (.lshr, 1) := by decide +kernel
theorem d_SC_append_34 : decode prog_7_method_3_code 34 = .ok (.l2i, 1) := by decide +kernel
theorem d_SC_append_35 : decode prog_7_method_3_code 35 = .ok (.i2b, 1) := by decide +kernel
theorem d_SC_append_36 : decode prog_7_method_3_code 36 = .ok (.bastore, 1) := by decide +kernel
theorem d_SC_append_37 : decode prog_7_method_3_code 37 = .ok (.aload_n 0, 1) := by decide +kernel
theorem d_SC_append_38 : decode prog_7_method_3_code 38 = .ok (.dup, 1) := by decide +kernel
theorem d_SC_append_39 : decode prog_7_method_3_code 39 = .ok (.getfield 15, 3) := by decide +kernel
theorem d_SC_append_42 : decode prog_7_method_3_code 42 = .ok (.iconst 1, 1) := by decide +kernel
theorem d_SC_append_43 : decode prog_7_method_3_code 43 = .ok (.iadd, 1) := by decide +kernel
theorem d_SC_append_44 : decode prog_7_method_3_code 44 = .ok (.putfield 15, 3) := by decide +kernel
theorem d_SC_append_47 : decode prog_7_method_3_code 47 = .ok (.iinc 4 (-1), 3) := by decide +kernel
theorem d_SC_append_50 : decode prog_7_method_3_code 50 = .ok (.goto (-45), 3) := by decide +kernel
theorem d_SC_append_53 : decode prog_7_method_3_code 53 = .ok (.aload_n 0, 1) := by decide +kernel
theorem d_SC_append_54 : decode prog_7_method_3_code 54 = .ok (.getfield 15, 3) := by decide +kernel
theorem d_SC_append_57 : decode prog_7_method_3_code 57 = .ok (.ireturn, 1) := by decide +kernel
theorem d_SC_clear_0 : decode prog_7_method_4_code 0 = .ok (.aload_n 0, 1) := by decide +kernel
theorem d_SC_clear_1 : decode prog_7_method_4_code 1 = .ok (.getfield 15, 3) := by decide +kernel
theorem d_SC_clear_4 : decode prog_7_method_4_code 4 = .ok (.istore_n 1, 1) := by decide +kernel
theorem d_SC_clear_5 : decode prog_7_method_4_code 5 = .ok (.aload_n 0, 1) := by decide +kernel
theorem d_SC_clear_6 : decode prog_7_method_4_code 6 = .ok (.iconst 0, 1) := by decide +kernel
theorem d_SC_clear_7 : decode prog_7_method_4_code 7 = .ok (.putfield 15, 3) := by decide +kernel
theorem d_SC_clear_10 : decode prog_7_method_4_code 10 = .ok (.iload_n 1, 1) := by decide +kernel
theorem d_SC_clear_11 : decode prog_7_method_4_code 11 = .ok (.ireturn, 1) := by decide +kernel
theorem d_SC_read_0 : decode prog_7_method_5_code 0 = .ok (.aload_n 0, 1) := by decide +kernel
theorem d_SC_read_1 : decode prog_7_method_5_code 1 = .ok (.iconst 0, 1) := by decide +kernel
theorem d_SC_read_2 : decode prog_7_method_5_code 2 = .ok (.putfield 19, 3) := by decide +kernel
theorem d_SC_read_5 : decode prog_7_method_5_code 5 = .ok (.aload_n 0, 1) := by decide +kernel
theorem d_SC_read_6 : decode prog_7_method_5_code 6 = .ok (.iconst 0, 1) := by decide +kernel
theorem d_SC_read_7 : decode prog_7_method_5_code 7 = .ok (.putfield 22, 3) := by decide +kernel
theorem d_SC_read_10 : decode prog_7_method_5_code 10 = .ok (.aload_n 0, 1) := by decide +kernel
theorem d_SC_read_11 : decode prog_7_method_5_code 11 = .ok (.iconst 0, 1) := by decide +kernel
theorem d_SC_read_12 : decode prog_7_method_5_code 12 = .ok (.putfield 25, 3) := by decide +kernel
theorem d_SC_read_15 : decode prog_7_method_5_code 15 = .ok (.aload_n 0, 1) := by decide +kernel
theorem d_SC_read_16 : decode prog_7_method_5_code 16 = .ok (.iconst 0, 1) := by decide +kernel
theorem d_SC_read_17 : decode prog_7_method_5_code 17 = .ok (.putfield 28, 3) := by decide +kernel
theorem d_SC_read_20 : decode prog_7_method_5_code 20 = .ok (.aload_n 0, 1) := by decide +kernel
theorem d_SC_read_21 : decode prog_7_method_5_code 21 = .ok (.bipush 79, 2) := by decide +kernel
theorem d_SC_read_23 : decode prog_7_method_5_code 23 = .ok (.invokevirtual 31, 3) := by decide +kernel
theorem d_SC_read_26 : decode prog_7_method_5_code 26 = .ok (.ifCond .eq 39, 3) := by decide +kernel
theorem d_SC_read_29 : decode prog_7_method_5_code 29 = .ok (.aload_n 0, 1) := by decide +kernel
theorem d_SC_read_30 : decode prog_7_method_5_code 30 = .ok (.invokevirtual 35, 3) := by decide +kernel
theorem d_SC_read_33 : decode prog_7_method_5_code 33 = .ok (.ifCond .eq 32, 3) := by decide +kernel
theorem d_SC_read_36 : decode prog_7_method_5_code 36 = .ok (.aload_n 0, 1) := by decide +kernel
theorem d_SC_read_37 : decode prog_7_method_5_code 37 = .ok (.invokevirtual 39, 3) := by decide +kernel
theorem d_SC_read_40 : decode prog_7_method_5_code 40 = .ok (.ifCond .eq 25, 3) := by decide +kernel
theorem d_SC_read_43 : decode prog_7_method_5_code 43 = .ok (.aload_n 0, 1) := by decide +kernel
theorem d_SC_read_44 : decode prog_7_method_5_code 44 = .ok (.invokevirtual 42, 3) := by decide +kernel
theorem d_SC_read_47 : decode prog_7_method_5_code 47 = .ok (.ifCond .eq 18, 3) := by decide +kernel
theorem d_SC_read_50 : decode prog_7_method_5_code 50 = .ok (.aload_n 0, 1) := by decide +kernel
theorem d_SC_read_51 : decode prog_7_method_5_code 51 = .ok (.getfield 19, 3) := by decide +kernel
theorem d_SC_read_54 : decode prog_7_method_5_code 54 = .ok (.aload_n 0, 1) := by decide +kernel
theorem d_SC_read_55 : decode prog_7_method_5_code 55 = .ok (.getfield 15, 3) := by decide +kernel
theorem d_SC_read_58 : decode prog_7_method_5_code 58 = .ok (.if_icmp .ne 7, 3) := by decide +kernel
theorem d_SC_read_61 : decode prog_7_method_5_code 61 = .ok (.iconst 1, 1) := by decide +kernel
theorem d_SC_read_62 : decode prog_7_method_5_code 62 = .ok (.goto 4, 3) := by decide +kernel
theorem d_SC_read_65 : decode prog_7_method_5_code 65 = .ok (.iconst 0, 1) := by decide +kernel
theorem d_SC_read_66 : decode prog_7_method_5_code 66 = .ok (.istore_n 1, 1) := by decide +kernel
theorem d_SC_read_67 : decode prog_7_method_5_code 67 = .ok (.iload_n 1, 1) := by decide +kernel
theorem d_SC_read_68 : decode prog_7_method_5_code 68 = .ok (.ifCond .eq 8, 3) := by decide +kernel
theorem d_SC_read_71 : decode prog_7_method_5_code 71 = .ok (.bipush (-9), 2) := by decide +kernel
theorem d_SC_read_73 : decode prog_7_method_5_code 73 = .ok (.goto 7, 3) := by decide +kernel
theorem d_SC_read_76 : decode prog_7_method_5_code 76 = .ok (.aload_n 0, 1) := by decide +kernel
theorem d_SC_read_77 : decode prog_7_method_5_code 77 = .ok (.getfield 19, 3) := by decide +kernel
theorem d_SC_read_80 : decode prog_7_method_5_code 80 = .ok (.ireturn, 1) := by decide +kernel
theorem d_SC_signAt_0 : decode prog_7_method_6_code 0 = .ok (.iload_n 1, 1) := by decide +kernel
theorem d_SC_signAt_1 : decode prog_7_method_6_code 1 = .ok (.ifCond .lt 30, 3) := by decide +kernel
theorem d_SC_signAt_4 : decode prog_7_method_6_code 4 = .ok (.iload_n 1, 1) := by decide +kernel
theorem d_SC_signAt_5 : decode prog_7_method_6_code 5 = .ok (.aload_n 0, 1) := by decide +kernel
theorem d_SC_signAt_6 : decode prog_7_method_6_code 6 = .ok (.getfield 15, 3) := by decide +kernel
theorem d_SC_signAt_9 : decode prog_7_method_6_code 9 = .ok (.if_icmp .ge 22, 3) := by decide +kernel
theorem d_SC_signAt_12 : decode prog_7_method_6_code 12 = .ok (.iload_n 1, 1) := by decide +kernel
theorem d_SC_signAt_13 : decode prog_7_method_6_code 13 = .ok (.bipush 104, 2) := by decide +kernel
theorem d_SC_signAt_15 : decode prog_7_method_6_code 15 = .ok (.if_icmp .ge 16, 3) := by decide +kernel
theorem d_SC_signAt_18 : decode prog_7_method_6_code 18 = .ok (.aload_n 0, 1) := by decide +kernel
theorem d_SC_signAt_19 : decode prog_7_method_6_code 19 = .ok (.getfield 9, 3) := by decide +kernel
theorem d_SC_signAt_22 : decode prog_7_method_6_code 22 = .ok (.iload_n 1, 1) := by decide +kernel
theorem d_SC_signAt_23 : decode prog_7_method_6_code 23 = .ok (.baload, 1) := by decide +kernel
theorem d_SC_signAt_24 : decode prog_7_method_6_code 24 = .ok (.sipush 255, 3) := by decide +kernel
theorem d_SC_signAt_27 : decode prog_7_method_6_code 27 = .ok (.iand, 1) := by decide +kernel
theorem d_SC_signAt_28 : decode prog_7_method_6_code 28 = .ok (.goto 4, 3) := by decide +kernel
theorem d_SC_signAt_31 : decode prog_7_method_6_code 31 = .ok (.iconst (-1), 1) := by decide +kernel
theorem d_SC_signAt_32 : decode prog_7_method_6_code 32 = .ok (.ireturn, 1) := by decide +kernel
theorem d_SC_figureAt_0 : decode prog_7_method_7_code 0 = .ok (.aload_n 0, 1) := by decide +kernel
theorem d_SC_figureAt_1 : decode prog_7_method_7_code 1 = .ok (.iload_n 1, 1) := by decide +kernel
theorem d_SC_figureAt_2 : decode prog_7_method_7_code 2 = .ok (.invokevirtual 45, 3) := by decide +kernel
theorem d_SC_figureAt_5 : decode prog_7_method_7_code 5 = .ok (.bipush 48, 2) := by decide +kernel
theorem d_SC_figureAt_7 : decode prog_7_method_7_code 7 = .ok (.isub, 1) := by decide +kernel
theorem d_SC_figureAt_8 : decode prog_7_method_7_code 8 = .ok (.ireturn, 1) := by decide +kernel
theorem d_SC_takeSign_0 : decode prog_7_method_8_code 0 = .ok (.aload_n 0, 1) := by decide +kernel
theorem d_SC_takeSign_1 : decode prog_7_method_8_code 1 = .ok (.aload_n 0, 1) := by decide +kernel
theorem d_SC_takeSign_2 : decode prog_7_method_8_code 2 = .ok (.getfield 19, 3) := by decide +kernel
theorem d_SC_takeSign_5 : decode prog_7_method_8_code 5 = .ok (.invokevirtual 45, 3) := by decide +kernel
theorem d_SC_takeSign_8 : decode prog_7_method_8_code 8 = .ok (.iload_n 1, 1) := by decide +kernel
theorem d_SC_takeSign_9 : decode prog_7_method_8_code 9 = .ok (.if_icmp .eq 5, 3) := by decide +kernel
theorem d_SC_takeSign_12 : decode prog_7_method_8_code 12 = .ok (.iconst 0, 1) := by decide +kernel
theorem d_SC_takeSign_13 : decode prog_7_method_8_code 13 = .ok (.ireturn, 1) := by decide +kernel
theorem d_SC_takeSign_14 : decode prog_7_method_8_code 14 = .ok (.aload_n 0, 1) := by decide +kernel
theorem d_SC_takeSign_15 : decode prog_7_method_8_code 15 = .ok (.dup, 1) := by decide +kernel
theorem d_SC_takeSign_16 : decode prog_7_method_8_code 16 = .ok (.getfield 19, 3) := by decide +kernel
theorem d_SC_takeSign_19 : decode prog_7_method_8_code 19 = .ok (.iconst 1, 1) := by decide +kernel
theorem d_SC_takeSign_20 : decode prog_7_method_8_code 20 = .ok (.iadd, 1) := by decide +kernel
theorem d_SC_takeSign_21 : decode prog_7_method_8_code 21 = .ok (.putfield 19, 3) := by decide +kernel
theorem d_SC_takeSign_24 : decode prog_7_method_8_code 24 = .ok (.iconst 1, 1) := by decide +kernel
theorem d_SC_takeSign_25 : decode prog_7_method_8_code 25 = .ok (.ireturn, 1) := by decide +kernel
theorem d_SC_takeFigure_0 : decode prog_7_method_9_code 0 = .ok (.aload_n 0, 1) := by decide +kernel
theorem d_SC_takeFigure_1 : decode prog_7_method_9_code 1 = .ok (.aload_n 0, 1) := by decide +kernel
theorem d_SC_takeFigure_2 : decode prog_7_method_9_code 2 = .ok (.getfield 19, 3) := by decide +kernel
theorem d_SC_takeFigure_5 : decode prog_7_method_9_code 5 = .ok (.invokevirtual 49, 3) := by decide +kernel
theorem d_SC_takeFigure_8 : decode prog_7_method_9_code 8 = .ok (.istore_n 3, 1) := by decide +kernel
theorem d_SC_takeFigure_9 : decode prog_7_method_9_code 9 = .ok (.iload_n 3, 1) := by decide +kernel
theorem d_SC_takeFigure_10 : decode prog_7_method_9_code 10 = .ok (.iload_n 1, 1) := by decide +kernel
theorem d_SC_takeFigure_11 : decode prog_7_method_9_code 11 = .ok (.if_icmp .lt 8, 3) := by decide +kernel
theorem d_SC_takeFigure_14 : decode prog_7_method_9_code 14 = .ok (.iload_n 3, 1) := by decide +kernel
theorem d_SC_takeFigure_15 : decode prog_7_method_9_code 15 = .ok (.iload_n 2, 1) := by decide +kernel
theorem d_SC_takeFigure_16 : decode prog_7_method_9_code 16 = .ok (.if_icmp .le 5, 3) := by decide +kernel
theorem d_SC_takeFigure_19 : decode prog_7_method_9_code 19 = .ok (.iconst 0, 1) := by decide +kernel
theorem d_SC_takeFigure_20 : decode prog_7_method_9_code 20 = .ok (.ireturn, 1) := by decide +kernel
theorem d_SC_takeFigure_21 : decode prog_7_method_9_code 21 = .ok (.aload_n 0, 1) := by decide +kernel
theorem d_SC_takeFigure_22 : decode prog_7_method_9_code 22 = .ok (.dup, 1) := by decide +kernel
theorem d_SC_takeFigure_23 : decode prog_7_method_9_code 23 = .ok (.getfield 19, 3) := by decide +kernel
theorem d_SC_takeFigure_26 : decode prog_7_method_9_code 26 = .ok (.iconst 1, 1) := by decide +kernel
theorem d_SC_takeFigure_27 : decode prog_7_method_9_code 27 = .ok (.iadd, 1) := by decide +kernel
theorem d_SC_takeFigure_28 : decode prog_7_method_9_code 28 = .ok (.putfield 19, 3) := by decide +kernel
theorem d_SC_takeFigure_31 : decode prog_7_method_9_code 31 = .ok (.iconst 1, 1) := by decide +kernel
theorem d_SC_takeFigure_32 : decode prog_7_method_9_code 32 = .ok (.ireturn, 1) := by decide +kernel
theorem d_SC_takePipes_0 : decode prog_7_method_10_code 0 = .ok (.iconst 0, 1) := by decide +kernel
theorem d_SC_takePipes_1 : decode prog_7_method_10_code 1 = .ok (.istore_n 1, 1) := by decide +kernel
theorem d_SC_takePipes_2 : decode prog_7_method_10_code 2 = .ok (.iload_n 1, 1) := by decide +kernel
theorem d_SC_takePipes_3 : decode prog_7_method_10_code 3 = .ok (.bipush 6, 2) := by decide +kernel
theorem d_SC_takePipes_5 : decode prog_7_method_10_code 5 = .ok (.if_icmp .ge 29, 3) := by decide +kernel
theorem d_SC_takePipes_8 : decode prog_7_method_10_code 8 = .ok (.aload_n 0, 1) := by decide +kernel
theorem d_SC_takePipes_9 : decode prog_7_method_10_code 9 = .ok (.iconst 1, 1) := by decide +kernel
theorem d_SC_takePipes_10 : decode prog_7_method_10_code 10 = .ok (.bipush 9, 2) := by decide +kernel
theorem d_SC_takePipes_12 : decode prog_7_method_10_code 12 = .ok (.invokevirtual 52, 3) := by decide +kernel
theorem d_SC_takePipes_15 : decode prog_7_method_10_code 15 = .ok (.ifCond .eq 19, 3) := by decide +kernel
theorem d_SC_takePipes_18 : decode prog_7_method_10_code 18 = .ok (.aload_n 0, 1) := by decide +kernel
theorem d_SC_takePipes_19 : decode prog_7_method_10_code 19 = .ok (.dup, 1) := by decide +kernel
theorem d_SC_takePipes_20 : decode prog_7_method_10_code 20 = .ok (.getfield 22, 3) := by decide +kernel
theorem d_SC_takePipes_23 : decode prog_7_method_10_code 23 = .ok (.iconst 1, 1) := by decide +kernel
theorem d_SC_takePipes_24 : decode prog_7_method_10_code 24 = .ok (.iadd, 1) := by decide +kernel
theorem d_SC_takePipes_25 : decode prog_7_method_10_code 25 = .ok (.putfield 22, 3) := by decide +kernel
theorem d_SC_takePipes_28 : decode prog_7_method_10_code 28 = .ok (.iinc 1 1, 3) := by decide +kernel
theorem d_SC_takePipes_31 : decode prog_7_method_10_code 31 = .ok (.goto (-29), 3) := by decide +kernel
theorem d_SC_takePipes_34 : decode prog_7_method_10_code 34 = .ok (.aload_n 0, 1) := by decide +kernel
theorem d_SC_takePipes_35 : decode prog_7_method_10_code 35 = .ok (.getfield 22, 3) := by decide +kernel
theorem d_SC_takePipes_38 : decode prog_7_method_10_code 38 = .ok (.ifCond .le 7, 3) := by decide +kernel
theorem d_SC_takePipes_41 : decode prog_7_method_10_code 41 = .ok (.iconst 1, 1) := by decide +kernel
theorem d_SC_takePipes_42 : decode prog_7_method_10_code 42 = .ok (.goto 4, 3) := by decide +kernel
theorem d_SC_takePipes_45 : decode prog_7_method_10_code 45 = .ok (.iconst 0, 1) := by decide +kernel
theorem d_SC_takePipes_46 : decode prog_7_method_10_code 46 = .ok (.ireturn, 1) := by decide +kernel
theorem d_SC_takePeople_0 : decode prog_7_method_11_code 0 = .ok (.iconst 0, 1) := by decide +kernel
theorem d_SC_takePeople_1 : decode prog_7_method_11_code 1 = .ok (.istore_n 1, 1) := by decide +kernel
theorem d_SC_takePeople_2 : decode prog_7_method_11_code 2 = .ok (.iload_n 1, 1) := by decide +kernel
theorem d_SC_takePeople_3 : decode prog_7_method_11_code 3 = .ok (.bipush 12, 2) := by decide +kernel
theorem d_SC_takePeople_5 : decode prog_7_method_11_code 5 = .ok (.if_icmp .ge 63, 3) := by decide +kernel
theorem d_SC_takePeople_8 : decode prog_7_method_11_code 8 = .ok (.aload_n 0, 1) := by decide +kernel
theorem d_SC_takePeople_9 : decode prog_7_method_11_code 9 = .ok (.bipush 77, 2) := by decide +kernel
theorem d_SC_takePeople_11 : decode prog_7_method_11_code 11 = .ok (.invokevirtual 31, 3) := by decide +kernel
theorem d_SC_takePeople_14 : decode prog_7_method_11_code 14 = .ok (.ifCond .eq 54, 3) := by decide +kernel
theorem d_SC_takePeople_17 : decode prog_7_method_11_code 17 = .ok (.aload_n 0, 1) := by decide +kernel
theorem d_SC_takePeople_18 : decode prog_7_method_11_code 18 = .ok (.iconst 1, 1) := by decide +kernel
theorem d_SC_takePeople_19 : decode prog_7_method_11_code 19 = .ok (.bipush 9, 2) := by decide +kernel
theorem d_SC_takePeople_21 : decode prog_7_method_11_code 21 = .ok (.invokevirtual 52, 3) := by decide +kernel
theorem d_SC_takePeople_24 : decode prog_7_method_11_code 24 = .ok (.ifCond .eq 26, 3) := by decide +kernel
theorem d_SC_takePeople_27 : decode prog_7_method_11_code 27 = .ok (.aload_n 0, 1) := by decide +kernel
theorem d_SC_takePeople_28 : decode prog_7_method_11_code 28 = .ok (.iconst 1, 1) := by decide +kernel
theorem d_SC_takePeople_29 : decode prog_7_method_11_code 29 = .ok (.iconst 3, 1) := by decide +kernel
theorem d_SC_takePeople_30 : decode prog_7_method_11_code 30 = .ok (.invokevirtual 52, 3) := by decide +kernel
theorem d_SC_takePeople_33 : decode prog_7_method_11_code 33 = .ok (.ifCond .eq 17, 3) := by decide +kernel
theorem d_SC_takePeople_36 : decode prog_7_method_11_code 36 = .ok (.aload_n 0, 1) := by decide +kernel
theorem d_SC_takePeople_37 : decode prog_7_method_11_code 37 = .ok (.iconst 0, 1) := by decide +kernel
theorem d_SC_takePeople_38 : decode prog_7_method_11_code 38 = .ok (.aload_n 0, 1) := by decide +kernel
theorem d_SC_takePeople_39 : decode prog_7_method_11_code 39 = .ok (.getfield 22, 3) := by decide +kernel
theorem d_SC_takePeople_42 : decode prog_7_method_11_code 42 = .ok (.iconst 1, 1) := by decide +kernel
theorem d_SC_takePeople_43 : decode prog_7_method_11_code 43 = .ok (.isub, 1) := by decide +kernel
theorem d_SC_takePeople_44 : decode prog_7_method_11_code 44 = .ok (.invokevirtual 52, 3) := by decide +kernel
theorem d_SC_takePeople_47 : decode prog_7_method_11_code 47 = .ok (.ifCond .ne 5, 3) := by decide +kernel
theorem d_SC_takePeople_50 : decode prog_7_method_11_code 50 = .ok (.iconst 0, 1) := by decide +kernel
theorem d_SC_takePeople_51 : decode prog_7_method_11_code 51 = .ok (.ireturn, 1) := by decide +kernel
theorem d_SC_takePeople_52 : decode prog_7_method_11_code 52 = .ok (.aload_n 0, 1) := by decide +kernel
theorem d_SC_takePeople_53 : decode prog_7_method_11_code 53 = .ok (.dup, 1) := by decide +kernel
theorem d_SC_takePeople_54 : decode prog_7_method_11_code 54 = .ok (.getfield 25, 3) := by decide +kernel
theorem d_SC_takePeople_57 : decode prog_7_method_11_code 57 = .ok (.iconst 1, 1) := by decide +kernel
theorem d_SC_takePeople_58 : decode prog_7_method_11_code 58 = .ok (.iadd, 1) := by decide +kernel
theorem d_SC_takePeople_59 : decode prog_7_method_11_code 59 = .ok (.putfield 25, 3) := by decide +kernel
theorem d_SC_takePeople_62 : decode prog_7_method_11_code 62 = .ok (.iinc 1 1, 3) := by decide +kernel
theorem d_SC_takePeople_65 : decode prog_7_method_11_code 65 = .ok (.goto (-63), 3) := by decide +kernel
theorem d_SC_takePeople_68 : decode prog_7_method_11_code 68 = .ok (.iconst 1, 1) := by decide +kernel
theorem d_SC_takePeople_69 : decode prog_7_method_11_code 69 = .ok (.ireturn, 1) := by decide +kernel
theorem d_SC_takeHymn_0 : decode prog_7_method_12_code 0 = .ok (.aload_n 0, 1) := by decide +kernel
theorem d_SC_takeHymn_1 : decode prog_7_method_12_code 1 = .ok (.getfield 19, 3) := by decide +kernel
theorem d_SC_takeHymn_4 : decode prog_7_method_12_code 4 = .ok (.aload_n 0, 1) := by decide +kernel
theorem d_SC_takeHymn_5 : decode prog_7_method_12_code 5 = .ok (.getfield 15, 3) := by decide +kernel
theorem d_SC_takeHymn_8 : decode prog_7_method_12_code 8 = .ok (.if_icmp .ne 5, 3) := by decide +kernel
theorem d_SC_takeHymn_11 : decode prog_7_method_12_code 11 = .ok (.iconst 1, 1) := by decide +kernel
theorem d_SC_takeHymn_12 : decode prog_7_method_12_code 12 = .ok (.ireturn, 1) := by decide +kernel
theorem d_SC_takeHymn_13 : decode prog_7_method_12_code 13 = .ok (.aload_n 0, 1) := by decide +kernel
theorem d_SC_takeHymn_14 : decode prog_7_method_12_code 14 = .ok (.bipush 47, 2) := by decide +kernel
theorem d_SC_takeHymn_16 : decode prog_7_method_12_code 16 = .ok (.invokevirtual 31, 3) := by decide +kernel
theorem d_SC_takeHymn_19 : decode prog_7_method_12_code 19 = .ok (.ifCond .ne 5, 3) := by decide +kernel
theorem d_SC_takeHymn_22 : decode prog_7_method_12_code 22 = .ok (.iconst 0, 1) := by decide +kernel
theorem d_SC_takeHymn_23 : decode prog_7_method_12_code 23 = .ok (.ireturn, 1) := by decide +kernel
theorem d_SC_takeHymn_24 : decode prog_7_method_12_code 24 = .ok (.iconst 1, 1) := by decide +kernel
theorem d_SC_takeHymn_25 : decode prog_7_method_12_code 25 = .ok (.aload_n 0, 1) := by decide +kernel
theorem d_SC_takeHymn_26 : decode prog_7_method_12_code 26 = .ok (.getfield 22, 3) := by decide +kernel
theorem d_SC_takeHymn_29 : decode prog_7_method_12_code 29 = .ok (.iconst 3, 1) := by decide +kernel
theorem d_SC_takeHymn_30 : decode prog_7_method_12_code 30 = .ok (.invokestatic 56, 3) := by decide +kernel
theorem d_SC_takeHymn_33 : decode prog_7_method_12_code 33 = .ok (.ishl, 1) := by decide +kernel
theorem d_SC_takeHymn_34 : decode prog_7_method_12_code 34 = .ok (.iconst 1, 1) := by decide +kernel
theorem d_SC_takeHymn_35 : decode prog_7_method_12_code 35 = .ok (.isub, 1) := by decide +kernel
theorem d_SC_takeHymn_36 : decode prog_7_method_12_code 36 = .ok (.istore_n 1, 1) := by decide +kernel
theorem d_SC_takeHymn_37 : decode prog_7_method_12_code 37 = .ok (.iconst 1, 1) := by decide +kernel
theorem d_SC_takeHymn_38 : decode prog_7_method_12_code 38 = .ok (.aload_n 0, 1) := by decide +kernel
theorem d_SC_takeHymn_39 : decode prog_7_method_12_code 39 = .ok (.getfield 22, 3) := by decide +kernel
theorem d_SC_takeHymn_42 : decode prog_7_method_12_code 42 = .ok (.iconst 3, 1) := by decide +kernel
theorem d_SC_takeHymn_43 : decode prog_7_method_12_code 43 = .ok (.isub, 1) := by decide +kernel
theorem d_SC_takeHymn_44 : decode prog_7_method_12_code 44 = .ok (.iconst 0, 1) := by decide +kernel
theorem d_SC_takeHymn_45 : decode prog_7_method_12_code 45 = .ok (.invokestatic 62, 3) := by decide +kernel
theorem d_SC_takeHymn_48 : decode prog_7_method_12_code 48 = .ok (.ishl, 1) := by decide +kernel
theorem d_SC_takeHymn_49 : decode prog_7_method_12_code 49 = .ok (.iconst 1, 1) := by decide +kernel
theorem d_SC_takeHymn_50 : decode prog_7_method_12_code 50 = .ok (.isub, 1) := by decide +kernel
theorem d_SC_takeHymn_51 : decode prog_7_method_12_code 51 = .ok (.istore_n 2, 1) := by decide +kernel
theorem d_SC_takeHymn_52 : decode prog_7_method_12_code 52 = .ok (.iconst 0, 1) := by decide +kernel
theorem d_SC_takeHymn_53 : decode prog_7_method_12_code 53 = .ok (.istore_n 3, 1) := by decide +kernel
theorem d_SC_takeHymn_54 : decode prog_7_method_12_code 54 = .ok (.iload_n 3, 1) := by decide +kernel
theorem d_SC_takeHymn_55 : decode prog_7_method_12_code 55 = .ok (.bipush 24, 2) := by decide +kernel
theorem d_SC_takeHymn_57 : decode prog_7_method_12_code 57 = .ok (.if_icmp .ge 54, 3) := by decide +kernel
theorem d_SC_takeHymn_60 : decode prog_7_method_12_code 60 = .ok (.iload_n 3, 1) := by decide +kernel
theorem d_SC_takeHymn_61 : decode prog_7_method_12_code 61 = .ok (.ifCond .eq 14, 3) := by decide +kernel
theorem d_SC_takeHymn_64 : decode prog_7_method_12_code 64 = .ok (.aload_n 0, 1) := by decide +kernel
theorem d_SC_takeHymn_65 : decode prog_7_method_12_code 65 = .ok (.getfield 19, 3) := by decide +kernel
theorem d_SC_takeHymn_68 : decode prog_7_method_12_code 68 = .ok (.aload_n 0, 1) := by decide +kernel
theorem d_SC_takeHymn_69 : decode prog_7_method_12_code 69 = .ok (.getfield 15, 3) := by decide +kernel
theorem d_SC_takeHymn_72 : decode prog_7_method_12_code 72 = .ok (.if_icmp .ge 39, 3) := by decide +kernel
theorem d_SC_takeHymn_75 : decode prog_7_method_12_code 75 = .ok (.aload_n 0, 1) := by decide +kernel
theorem d_SC_takeHymn_76 : decode prog_7_method_12_code 76 = .ok (.iconst 0, 1) := by decide +kernel
theorem d_SC_takeHymn_77 : decode prog_7_method_12_code 77 = .ok (.iload_n 1, 1) := by decide +kernel
theorem d_SC_takeHymn_78 : decode prog_7_method_12_code 78 = .ok (.invokevirtual 52, 3) := by decide +kernel
theorem d_SC_takeHymn_81 : decode prog_7_method_12_code 81 = .ok (.ifCond .eq 12, 3) := by decide +kernel
theorem d_SC_takeHymn_84 : decode prog_7_method_12_code 84 = .ok (.aload_n 0, 1) := by decide +kernel
theorem d_SC_takeHymn_85 : decode prog_7_method_12_code 85 = .ok (.iconst 0, 1) := by decide +kernel
theorem d_SC_takeHymn_86 : decode prog_7_method_12_code 86 = .ok (.iload_n 2, 1) := by decide +kernel
theorem d_SC_takeHymn_87 : decode prog_7_method_12_code 87 = .ok (.invokevirtual 52, 3) := by decide +kernel
theorem d_SC_takeHymn_90 : decode prog_7_method_12_code 90 = .ok (.ifCond .ne 5, 3) := by decide +kernel
theorem d_SC_takeHymn_93 : decode prog_7_method_12_code 93 = .ok (.iconst 0, 1) := by decide +kernel
theorem d_SC_takeHymn_94 : decode prog_7_method_12_code 94 = .ok (.ireturn, 1) := by decide +kernel
theorem d_SC_takeHymn_95 : decode prog_7_method_12_code 95 = .ok (.aload_n 0, 1) := by decide +kernel
theorem d_SC_takeHymn_96 : decode prog_7_method_12_code 96 = .ok (.dup, 1) := by decide +kernel
theorem d_SC_takeHymn_97 : decode prog_7_method_12_code 97 = .ok (.getfield 28, 3) := by decide +kernel
theorem d_SC_takeHymn_100 : decode prog_7_method_12_code 100 = .ok (.iconst 1, 1) := by decide +kernel
theorem d_SC_takeHymn_101 : decode prog_7_method_12_code 101 = .ok (.iadd, 1) := by decide +kernel
theorem d_SC_takeHymn_102 : decode prog_7_method_12_code 102 = .ok (.putfield 28, 3) := by decide +kernel
theorem d_SC_takeHymn_105 : decode prog_7_method_12_code 105 = .ok (.iinc 3 1, 3) := by decide +kernel
theorem d_SC_takeHymn_108 : decode prog_7_method_12_code 108 = .ok (.goto (-54), 3) := by decide +kernel
theorem d_SC_takeHymn_111 : decode prog_7_method_12_code 111 = .ok (.iconst 1, 1) := by decide +kernel
theorem d_SC_takeHymn_112 : decode prog_7_method_12_code 112 = .ok (.ireturn, 1) := by decide +kernel
theorem d_SC_thirstRead_0 : decode prog_7_method_13_code 0 = .ok (.aload_n 0, 1) := by decide +kernel
theorem d_SC_thirstRead_1 : decode prog_7_method_13_code 1 = .ok (.iconst 1, 1) := by decide +kernel
theorem d_SC_thirstRead_2 : decode prog_7_method_13_code 2 = .ok (.iload_n 1, 1) := by decide +kernel
theorem d_SC_thirstRead_3 : decode prog_7_method_13_code 3 = .ok (.iadd, 1) := by decide +kernel
theorem d_SC_thirstRead_4 : decode prog_7_method_13_code 4 = .ok (.invokevirtual 49, 3) := by decide +kernel
theorem d_SC_thirstRead_7 : decode prog_7_method_13_code 7 = .ok (.ireturn, 1) := by decide +kernel
theorem d_SC_personRead_0 : decode prog_7_method_14_code 0 = .ok (.aload_n 0, 1) := by decide +kernel
theorem d_SC_personRead_1 : decode prog_7_method_14_code 1 = .ok (.iconst 2, 1) := by decide +kernel
theorem d_SC_personRead_2 : decode prog_7_method_14_code 2 = .ok (.aload_n 0, 1) := by decide +kernel
theorem d_SC_personRead_3 : decode prog_7_method_14_code 3 = .ok (.getfield 22, 3) := by decide +kernel
theorem d_SC_personRead_6 : decode prog_7_method_14_code 6 = .ok (.iadd, 1) := by decide +kernel
theorem d_SC_personRead_7 : decode prog_7_method_14_code 7 = .ok (.iconst 4, 1) := by decide +kernel
theorem d_SC_personRead_8 : decode prog_7_method_14_code 8 = .ok (.iload_n 1, 1) := by decide +kernel
theorem d_SC_personRead_9 : decode prog_7_method_14_code 9 = .ok (.imul, 1) := by decide +kernel
theorem d_SC_personRead_10 : decode prog_7_method_14_code 10 = .ok (.iadd, 1) := by decide +kernel
theorem d_SC_personRead_11 : decode prog_7_method_14_code 11 = .ok (.iload_n 2, 1) := by decide +kernel
theorem d_SC_personRead_12 : decode prog_7_method_14_code 12 = .ok (.iadd, 1) := by decide +kernel
theorem d_SC_personRead_13 : decode prog_7_method_14_code 13 = .ok (.invokevirtual 49, 3) := by decide +kernel
theorem d_SC_personRead_16 : decode prog_7_method_14_code 16 = .ok (.ireturn, 1) := by decide +kernel
theorem d_SC_beatRead_0 : decode prog_7_method_15_code 0 = .ok (.iconst 2, 1) := by decide +kernel
theorem d_SC_beatRead_1 : decode prog_7_method_15_code 1 = .ok (.aload_n 0, 1) := by decide +kernel
theorem d_SC_beatRead_2 : decode prog_7_method_15_code 2 = .ok (.getfield 22, 3) := by decide +kernel
theorem d_SC_beatRead_5 : decode prog_7_method_15_code 5 = .ok (.iadd, 1) := by decide +kernel
theorem d_SC_beatRead_6 : decode prog_7_method_15_code 6 = .ok (.iconst 4, 1) := by decide +kernel
theorem d_SC_beatRead_7 : decode prog_7_method_15_code 7 = .ok (.aload_n 0, 1) := by decide +kernel
theorem d_SC_beatRead_8 : decode prog_7_method_15_code 8 = .ok (.getfield 25, 3) := by decide +kernel
theorem d_SC_beatRead_11 : decode prog_7_method_15_code 11 = .ok (.imul, 1) := by decide +kernel
theorem d_SC_beatRead_12 : decode prog_7_method_15_code 12 = .ok (.iadd, 1) := by decide +kernel
theorem d_SC_beatRead_13 : decode prog_7_method_15_code 13 = .ok (.iconst 2, 1) := by decide +kernel
theorem d_SC_beatRead_14 : decode prog_7_method_15_code 14 = .ok (.iload_n 1, 1) := by decide +kernel
theorem d_SC_beatRead_15 : decode prog_7_method_15_code 15 = .ok (.imul, 1) := by decide +kernel
theorem d_SC_beatRead_16 : decode prog_7_method_15_code 16 = .ok (.iadd, 1) := by decide +kernel
theorem d_SC_beatRead_17 : decode prog_7_method_15_code 17 = .ok (.istore_n 2, 1) := by decide +kernel
theorem d_SC_beatRead_18 : decode prog_7_method_15_code 18 = .ok (.aload_n 0, 1) := by decide +kernel
theorem d_SC_beatRead_19 : decode prog_7_method_15_code 19 = .ok (.iload_n 2, 1) := by decide +kernel
theorem d_SC_beatRead_20 : decode prog_7_method_15_code 20 = .ok (.invokevirtual 49, 3) := by decide +kernel
theorem d_SC_beatRead_23 : decode prog_7_method_15_code 23 = .ok (.aload_n 0, 1) := by decide +kernel
theorem d_SC_beatRead_24 : decode prog_7_method_15_code 24 = .ok (.iload_n 2, 1) := by decide +kernel
theorem d_SC_beatRead_25 : decode prog_7_method_15_code 25 = .ok (.iconst 1, 1) := by decide +kernel
theorem d_SC_beatRead_26 : decode prog_7_method_15_code 26 = .ok (.iadd, 1) := by decide +kernel
theorem d_SC_beatRead_27 : decode prog_7_method_15_code 27 = .ok (.invokevirtual 49, 3) := by decide +kernel
theorem d_SC_beatRead_30 : decode prog_7_method_15_code 30 = .ok (.iconst 3, 1) := by decide +kernel
theorem d_SC_beatRead_31 : decode prog_7_method_15_code 31 = .ok (.ishl, 1) := by decide +kernel
theorem d_SC_beatRead_32 : decode prog_7_method_15_code 32 = .ok (.ior, 1) := by decide +kernel
theorem d_SC_beatRead_33 : decode prog_7_method_15_code 33 = .ok (.ireturn, 1) := by decide +kernel
