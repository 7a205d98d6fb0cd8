/-! decode rows -/
theorem d_SE_init_0 : decode prog_8_method_1_code 0 = .ok (.aload_n 0, 1) := by decide +kernel
theorem d_SE_init_1 : decode prog_8_method_1_code 1 = .ok (.invokespecial 3, 3) := by decide +kernel
theorem d_SE_init_4 : decode prog_8_method_1_code 4 = .ok (.aload_n 0, 1) := by decide +kernel
theorem d_SE_init_5 : decode prog_8_method_1_code 5 = .ok (.aload_n 1, 1) := by decide +kernel
theorem d_SE_init_6 : decode prog_8_method_1_code 6 = .ok (.putfield 9, 3) := by decide +kernel
theorem d_SE_init_9 : decode prog_8_method_1_code 9 = .ok (.aload_n 0, 1) := by decide +kernel
theorem d_SE_init_10 : decode prog_8_method_1_code 10 = .ok (.aload_n 2, 1) := by decide +kernel
theorem d_SE_init_11 : decode prog_8_method_1_code 11 = .ok (.putfield 15, 3) := by decide +kernel
theorem d_SE_init_14 : decode prog_8_method_1_code 14 = .ok (.aload_n 0, 1) := by decide +kernel
theorem d_SE_init_15 : decode prog_8_method_1_code 15 = .ok (.aload_n 3, 1) := by decide +kernel
theorem d_SE_init_16 : decode prog_8_method_1_code 16 = .ok (.putfield 19, 3) := by decide +kernel
theorem d_SE_init_19 : decode prog_8_method_1_code 19 = .ok (.aload_n 0, 1) := by decide +kernel
theorem d_SE_init_20 : decode prog_8_method_1_code 20 = .ok (.sipush 384, 3) := by decide +kernel
theorem d_SE_init_23 : decode prog_8_method_1_code 23 = .ok (.newarray .int, 2) := by decide +kernel
theorem d_SE_init_25 : decode prog_8_method_1_code 25 = .ok (.putfield 23, 3) := by decide +kernel
theorem d_SE_init_28 : decode prog_8_method_1_code 28 = .ok (.aload_n 0, 1) := by decide +kernel
theorem d_SE_init_29 : decode prog_8_method_1_code 29 = .ok (.bipush 64, 2) := by decide +kernel
theorem d_SE_init_31 : decode prog_8_method_1_code 31 = .ok (.newarray .int, 2) := by decide +kernel
theorem d_SE_init_33 : decode prog_8_method_1_code 33 = .ok (.putfield 27, 3) := by decide +kernel
theorem d_SE_init_36 : decode prog_8_method_1_code 36 = .ok (.return_, 1) := by decide +kernel
theorem d_SE_find_0 : decode prog_8_method_2_code 0 = .ok (.aload_n 0, 1) := by decide +kernel
theorem d_SE_find_1 : decode prog_8_method_2_code 1 = .ok (.getfield 15, 3) := by decide +kernel
theorem d_SE_find_4 : decode prog_8_method_2_code 4 = .ok (.getfield 30, 3) := by decide +kernel
theorem d_SE_find_7 : decode prog_8_method_2_code 7 = .ok (.bipush 6, 2) := by decide +kernel
theorem d_SE_find_9 : decode prog_8_method_2_code 9 = .ok (.if_icmp .le 5, 3) := by decide +kernel
theorem d_SE_find_12 : decode prog_8_method_2_code 12 = .ok (.iconst 0, 1) := by decide +kernel
theorem d_SE_find_13 : decode prog_8_method_2_code 13 = .ok (.ireturn, 1) := by decide +kernel
theorem d_SE_find_14 : decode prog_8_method_2_code 14 = .ok (.iconst 1, 1) := by decide +kernel
theorem d_SE_find_15 : decode prog_8_method_2_code 15 = .ok (.aload_n 0, 1) := by decide +kernel
theorem d_SE_find_16 : decode prog_8_method_2_code 16 = .ok (.getfield 15, 3) := by decide +kernel
theorem d_SE_find_19 : decode prog_8_method_2_code 19 = .ok (.getfield 30, 3) := by decide +kernel
theorem d_SE_find_22 : decode prog_8_method_2_code 22 = .ok (.ishl, 1) := by decide +kernel
theorem d_SE_find_23 : decode prog_8_method_2_code 23 = .ok (.istore_n 1, 1) := by decide +kernel
theorem d_SE_find_24 : decode prog_8_method_2_code 24 = .ok (.iconst 0, 1) := by decide +kernel
theorem d_SE_find_25 : decode prog_8_method_2_code 25 = .ok (.istore_n 2, 1) := by decide +kernel
theorem d_SE_find_26 : decode prog_8_method_2_code 26 = .ok (.iload_n 2, 1) := by decide +kernel
theorem d_SE_find_27 : decode prog_8_method_2_code 27 = .ok (.iload_n 1, 1) := by decide +kernel
theorem d_SE_find_28 : decode prog_8_method_2_code 28 = .ok (.if_icmp .ge 26, 3) := by decide +kernel
theorem d_SE_find_31 : decode prog_8_method_2_code 31 = .ok (.aload_n 0, 1) := by decide +kernel
theorem d_SE_find_32 : decode prog_8_method_2_code 32 = .ok (.iload_n 2, 1) := by decide +kernel
theorem d_SE_find_33 : decode prog_8_method_2_code 33 = .ok (.invokevirtual 36, 3) := by decide +kernel
theorem d_SE_find_36 : decode prog_8_method_2_code 36 = .ok (.aload_n 0, 1) := by decide +kernel
theorem d_SE_find_37 : decode prog_8_method_2_code 37 = .ok (.getfield 27, 3) := by decide +kernel
theorem d_SE_find_40 : decode prog_8_method_2_code 40 = .ok (.iload_n 2, 1) := by decide +kernel
theorem d_SE_find_41 : decode prog_8_method_2_code 41 = .ok (.aload_n 0, 1) := by decide +kernel
theorem d_SE_find_42 : decode prog_8_method_2_code 42 = .ok (.getfield 23, 3) := by decide +kernel
theorem d_SE_find_45 : decode prog_8_method_2_code 45 = .ok (.iload_n 2, 1) := by decide +kernel
theorem d_SE_find_46 : decode prog_8_method_2_code 46 = .ok (.iaload, 1) := by decide +kernel
theorem d_SE_find_47 : decode prog_8_method_2_code 47 = .ok (.iastore, 1) := by decide +kernel
theorem d_SE_find_48 : decode prog_8_method_2_code 48 = .ok (.iinc 2 1, 3) := by decide +kernel
theorem d_SE_find_51 : decode prog_8_method_2_code 51 = .ok (.goto (-25), 3) := by decide +kernel
theorem d_SE_find_54 : decode prog_8_method_2_code 54 = .ok (.iconst 1, 1) := by decide +kernel
theorem d_SE_find_55 : decode prog_8_method_2_code 55 = .ok (.istore_n 2, 1) := by decide +kernel
theorem d_SE_find_56 : decode prog_8_method_2_code 56 = .ok (.iload_n 2, 1) := by decide +kernel
theorem d_SE_find_57 : decode prog_8_method_2_code 57 = .ok (.aload_n 0, 1) := by decide +kernel
theorem d_SE_find_58 : decode prog_8_method_2_code 58 = .ok (.getfield 9, 3) := by decide +kernel
theorem d_SE_find_61 : decode prog_8_method_2_code 61 = .ok (.getfield 40, 3) := by decide +kernel
theorem d_SE_find_64 : decode prog_8_method_2_code 64 = .ok (.if_icmp .ge 35, 3) := by decide +kernel
theorem d_SE_find_67 : decode prog_8_method_2_code 67 = .ok (.iload_n 1, 1) := by decide +kernel
theorem d_SE_find_68 : decode prog_8_method_2_code 68 = .ok (.iconst 1, 1) := by decide +kernel
theorem d_SE_find_69 : decode prog_8_method_2_code 69 = .ok (.isub, 1) := by decide +kernel
theorem d_SE_find_70 : decode prog_8_method_2_code 70 = .ok (.istore_n 3, 1) := by decide +kernel
theorem d_SE_find_71 : decode prog_8_method_2_code 71 = .ok (.iload_n 3, 1) := by decide +kernel
theorem d_SE_find_72 : decode prog_8_method_2_code 72 = .ok (.ifCond .lt 21, 3) := by decide +kernel
theorem d_SE_find_75 : decode prog_8_method_2_code 75 = .ok (.aload_n 0, 1) := by decide +kernel
theorem d_SE_find_76 : decode prog_8_method_2_code 76 = .ok (.getfield 27, 3) := by decide +kernel
theorem d_SE_find_79 : decode prog_8_method_2_code 79 = .ok (.iload_n 3, 1) := by decide +kernel
theorem d_SE_find_80 : decode prog_8_method_2_code 80 = .ok (.aload_n 0, 1) := by decide +kernel
theorem d_SE_find_81 : decode prog_8_method_2_code 81 = .ok (.iload_n 2, 1) := by decide +kernel
theorem d_SE_find_82 : decode prog_8_method_2_code 82 = .ok (.iload_n 3, 1) := by decide +kernel
theorem d_SE_find_83 : decode prog_8_method_2_code 83 = .ok (.invokevirtual 43, 3) := by decide +kernel
theorem d_SE_find_86 : decode prog_8_method_2_code 86 = .ok (.iastore, 1) := by decide +kernel
theorem d_SE_find_87 : decode prog_8_method_2_code 87 = .ok (.iinc 3 (-1), 3) := by decide +kernel
theorem d_SE_find_90 : decode prog_8_method_2_code 90 = .ok (.goto (-19), 3) := by decide +kernel
theorem d_SE_find_93 : decode prog_8_method_2_code 93 = .ok (.iinc 2 1, 3) := by decide +kernel
theorem d_SE_find_96 : decode prog_8_method_2_code 96 = .ok (.goto (-40), 3) := by decide +kernel
theorem d_SE_find_99 : decode prog_8_method_2_code 99 = .ok (.iconst 1, 1) := by decide +kernel
theorem d_SE_find_100 : decode prog_8_method_2_code 100 = .ok (.ireturn, 1) := by decide +kernel
theorem d_SE_setPrices_0 : decode prog_8_method_3_code 0 = .ok (.aload_n 0, 1) := by decide +kernel
theorem d_SE_setPrices_1 : decode prog_8_method_3_code 1 = .ok (.getfield 19, 3) := by decide +kernel
theorem d_SE_setPrices_4 : decode prog_8_method_3_code 4 = .ok (.iload_n 1, 1) := by decide +kernel
theorem d_SE_setPrices_5 : decode prog_8_method_3_code 5 = .ok (.aload_n 0, 1) := by decide +kernel
theorem d_SE_setPrices_6 : decode prog_8_method_3_code 6 = .ok (.getfield 15, 3) := by decide +kernel
theorem d_SE_setPrices_9 : decode prog_8_method_3_code 9 = .ok (.getfield 47, 3) := by decide +kernel
theorem d_SE_setPrices_12 : decode prog_8_method_3_code 12 = .ok (.invokevirtual 50, 3) := by decide +kernel
theorem d_SE_setPrices_15 : decode prog_8_method_3_code 15 = .ok (.iload_n 1, 1) := by decide +kernel
theorem d_SE_setPrices_16 : decode prog_8_method_3_code 16 = .ok (.invokestatic 56, 3) := by decide +kernel
theorem d_SE_setPrices_19 : decode prog_8_method_3_code 19 = .ok (.istore_n 2, 1) := by decide +kernel
theorem d_SE_setPrices_20 : decode prog_8_method_3_code 20 = .ok (.iconst 0, 1) := by decide +kernel
theorem d_SE_setPrices_21 : decode prog_8_method_3_code 21 = .ok (.istore_n 3, 1) := by decide +kernel
theorem d_SE_setPrices_22 : decode prog_8_method_3_code 22 = .ok (.iload_n 3, 1) := by decide +kernel
theorem d_SE_setPrices_23 : decode prog_8_method_3_code 23 = .ok (.aload_n 0, 1) := by decide +kernel
theorem d_SE_setPrices_24 : decode prog_8_method_3_code 24 = .ok (.getfield 9, 3) := by decide +kernel
theorem d_SE_setPrices_27 : decode prog_8_method_3_code 27 = .ok (.getfield 40, 3) := by decide +kernel
theorem d_SE_setPrices_30 : decode prog_8_method_3_code 30 = .ok (.if_icmp .ge 35, 3) := by decide +kernel
theorem d_SE_setPrices_33 : decode prog_8_method_3_code 33 = .ok (.aload_n 0, 1) := by decide +kernel
theorem d_SE_setPrices_34 : decode prog_8_method_3_code 34 = .ok (.getfield 23, 3) := by decide +kernel
theorem d_SE_setPrices_37 : decode prog_8_method_3_code 37 = .ok (.iload_n 3, 1) := by decide +kernel
theorem d_SE_setPrices_38 : decode prog_8_method_3_code 38 = .ok (.bipush 64, 2) := by decide +kernel
theorem d_SE_setPrices_40 : decode prog_8_method_3_code 40 = .ok (.imul, 1) := by decide +kernel
theorem d_SE_setPrices_41 : decode prog_8_method_3_code 41 = .ok (.iload_n 1, 1) := by decide +kernel
theorem d_SE_setPrices_42 : decode prog_8_method_3_code 42 = .ok (.iadd, 1) := by decide +kernel
theorem d_SE_setPrices_43 : decode prog_8_method_3_code 43 = .ok (.aload_n 0, 1) := by decide +kernel
theorem d_SE_setPrices_44 : decode prog_8_method_3_code 44 = .ok (.getfield 19, 3) := by decide +kernel
theorem d_SE_setPrices_47 : decode prog_8_method_3_code 47 = .ok (.iload_n 3, 1) := by decide +kernel
theorem d_SE_setPrices_48 : decode prog_8_method_3_code 48 = .ok (.invokevirtual 60, 3) := by decide +kernel
theorem d_SE_setPrices_51 : decode prog_8_method_3_code 51 = .ok (.ldc 63, 2) := by decide +kernel
theorem d_SE_setPrices_53 : decode prog_8_method_3_code 53 = .ok (.imul, 1) := by decide +kernel
theorem d_SE_setPrices_54 : decode prog_8_method_3_code 54 = .ok (.iload_n 3, 1) := by decide +kernel
theorem d_SE_setPrices_55 : decode prog_8_method_3_code 55 = .ok (.iload_n 2, 1) := by decide +kernel
theorem d_SE_setPrices_56 : decode prog_8_method_3_code 56 = .ok (.imul, 1) := by decide +kernel
theorem d_SE_setPrices_57 : decode prog_8_method_3_code 57 = .ok (.iadd, 1) := by decide +kernel
theorem d_SE_setPrices_58 : decode prog_8_method_3_code 58 = .ok (.iastore, 1) := by decide +kernel
theorem d_SE_setPrices_59 : decode prog_8_method_3_code 59 = .ok (.iinc 3 1, 3) := by decide +kernel
theorem d_SE_setPrices_62 : decode prog_8_method_3_code 62 = .ok (.goto (-40), 3) := by decide +kernel
theorem d_SE_setPrices_65 : decode prog_8_method_3_code 65 = .ok (.return_, 1) := by decide +kernel
theorem d_SE_seatsOf_0 : decode prog_8_method_4_code 0 = .ok (.iconst 0, 1) := by decide +kernel
theorem d_SE_seatsOf_1 : decode prog_8_method_4_code 1 = .ok (.istore_n 1, 1) := by decide +kernel
theorem d_SE_seatsOf_2 : decode prog_8_method_4_code 2 = .ok (.iconst 0, 1) := by decide +kernel
theorem d_SE_seatsOf_3 : decode prog_8_method_4_code 3 = .ok (.istore_n 2, 1) := by decide +kernel
theorem d_SE_seatsOf_4 : decode prog_8_method_4_code 4 = .ok (.iload_n 2, 1) := by decide +kernel
theorem d_SE_seatsOf_5 : decode prog_8_method_4_code 5 = .ok (.bipush 6, 2) := by decide +kernel
theorem d_SE_seatsOf_7 : decode prog_8_method_4_code 7 = .ok (.if_icmp .ge 26, 3) := by decide +kernel
theorem d_SE_seatsOf_10 : decode prog_8_method_4_code 10 = .ok (.iload_n 0, 1) := by decide +kernel
theorem d_SE_seatsOf_11 : decode prog_8_method_4_code 11 = .ok (.iload_n 2, 1) := by decide +kernel
theorem d_SE_seatsOf_12 : decode prog_8_method_4_code 12 = .ok (.ishr, 1) := by decide +kernel
theorem d_SE_seatsOf_13 : decode prog_8_method_4_code 13 = .ok (.iconst 1, 1) := by decide +kernel
theorem d_SE_seatsOf_14 : decode prog_8_method_4_code 14 = .ok (.iand, 1) := by decide +kernel
theorem d_SE_seatsOf_15 : decode prog_8_method_4_code 15 = .ok (.iconst 1, 1) := by decide +kernel
theorem d_SE_seatsOf_16 : decode prog_8_method_4_code 16 = .ok (.if_icmp .ne 11, 3) := by decide +kernel
theorem d_SE_seatsOf_19 : decode prog_8_method_4_code 19 = .ok (.iload_n 1, 1) := by decide +kernel
theorem d_SE_seatsOf_20 : decode prog_8_method_4_code 20 = .ok (.getstatic 64, 3) := by decide +kernel
theorem d_SE_seatsOf_23 : decode prog_8_method_4_code 23 = .ok (.iload_n 2, 1) := by decide +kernel
theorem d_SE_seatsOf_24 : decode prog_8_method_4_code 24 = .ok (.iaload, 1) := by decide +kernel
theorem d_SE_seatsOf_25 : decode prog_8_method_4_code 25 = .ok (.iadd, 1) := by decide +kernel
theorem d_SE_seatsOf_26 : decode prog_8_method_4_code 26 = .ok (.istore_n 1, 1) := by decide +kernel
theorem d_SE_seatsOf_27 : decode prog_8_method_4_code 27 = .ok (.iinc 2 1, 3) := by decide +kernel
theorem d_SE_seatsOf_30 : decode prog_8_method_4_code 30 = .ok (.goto (-26), 3) := by decide +kernel
theorem d_SE_seatsOf_33 : decode prog_8_method_4_code 33 = .ok (.iload_n 1, 1) := by decide +kernel
theorem d_SE_seatsOf_34 : decode prog_8_method_4_code 34 = .ok (.ireturn, 1) := by decide +kernel
theorem d_SE_bestWith_0 : decode prog_8_method_5_code 0 = .ok (.ldc 67, 2) := by decide +kernel
theorem d_SE_bestWith_2 : decode prog_8_method_5_code 2 = .ok (.istore_n 3, 1) := by decide +kernel
theorem d_SE_bestWith_3 : decode prog_8_method_5_code 3 = .ok (.iconst 0, 1) := by decide +kernel
theorem d_SE_bestWith_4 : decode prog_8_method_5_code 4 = .ok (.istore 4, 2) := by decide +kernel
theorem d_SE_bestWith_6 : decode prog_8_method_5_code 6 = .ok (.iload 4, 2) := by decide +kernel
theorem d_SE_bestWith_8 : decode prog_8_method_5_code 8 = .ok (.iload_n 2, 1) := by decide +kernel
theorem d_SE_bestWith_9 : decode prog_8_method_5_code 9 = .ok (.if_icmp .gt 47, 3) := by decide +kernel
theorem d_SE_bestWith_12 : decode prog_8_method_5_code 12 = .ok (.iload 4, 2) := by decide +kernel
theorem d_SE_bestWith_14 : decode prog_8_method_5_code 14 = .ok (.iload_n 2, 1) := by decide +kernel
theorem d_SE_bestWith_15 : decode prog_8_method_5_code 15 = .ok (.iconst (-1), 1) := by decide +kernel
theorem d_SE_bestWith_16 : decode prog_8_method_5_code 16 = .ok (.ixor, 1) := by decide +kernel
theorem d_SE_bestWith_17 : decode prog_8_method_5_code 17 = .ok (.iand, 1) := by decide +kernel
theorem d_SE_bestWith_18 : decode prog_8_method_5_code 18 = .ok (.ifCond .ne 32, 3) := by decide +kernel
theorem d_SE_bestWith_21 : decode prog_8_method_5_code 21 = .ok (.iload_n 3, 1) := by decide +kernel
theorem d_SE_bestWith_22 : decode prog_8_method_5_code 22 = .ok (.aload_n 0, 1) := by decide +kernel
theorem d_SE_bestWith_23 : decode prog_8_method_5_code 23 = .ok (.getfield 23, 3) := by decide +kernel
theorem d_SE_bestWith_26 : decode prog_8_method_5_code 26 = .ok (.iload_n 1, 1) := by decide +kernel
theorem d_SE_bestWith_27 : decode prog_8_method_5_code 27 = .ok (.bipush 64, 2) := by decide +kernel
theorem d_SE_bestWith_29 : decode prog_8_method_5_code 29 = .ok (.imul, 1) := by decide +kernel
theorem d_SE_bestWith_30 : decode prog_8_method_5_code 30 = .ok (.iload 4, 2) := by decide +kernel
theorem d_SE_bestWith_32 : decode prog_8_method_5_code 32 = .ok (.iadd, 1) := by decide +kernel
theorem d_SE_bestWith_33 : decode prog_8_method_5_code 33 = .ok (.iaload, 1) := by decide +kernel
theorem d_SE_bestWith_34 : decode prog_8_method_5_code 34 = .ok (.aload_n 0, 1) := by decide +kernel
theorem d_SE_bestWith_35 : decode prog_8_method_5_code 35 = .ok (.getfield 27, 3) := by decide +kernel
theorem d_SE_bestWith_38 : decode prog_8_method_5_code 38 = .ok (.iload_n 2, 1) := by decide +kernel
theorem d_SE_bestWith_39 : decode prog_8_method_5_code 39 = .ok (.iload 4, 2) := by decide +kernel
theorem d_SE_bestWith_41 : decode prog_8_method_5_code 41 = .ok (.iconst (-1), 1) := by decide +kernel
theorem d_SE_bestWith_42 : decode prog_8_method_5_code 42 = .ok (.ixor, 1) := by decide +kernel
theorem d_SE_bestWith_43 : decode prog_8_method_5_code 43 = .ok (.iand, 1) := by decide +kernel
theorem d_SE_bestWith_44 : decode prog_8_method_5_code 44 = .ok (.iaload, 1) := by decide +kernel
theorem d_SE_bestWith_45 : decode prog_8_method_5_code 45 = .ok (.iadd, 1) := by decide +kernel
theorem d_SE_bestWith_46 : decode prog_8_method_5_code 46 = .ok (.invokestatic 68, 3) := by decide +kernel
theorem d_SE_bestWith_49 : decode prog_8_method_5_code 49 = .ok (.istore_n 3, 1) := by decide +kernel
theorem d_SE_bestWith_50 : decode prog_8_method_5_code 50 = .ok (.iinc 4 1, 3) := by decide +kernel
theorem d_SE_bestWith_53 : decode prog_8_method_5_code 53 = .ok (.goto (-47), 3) := by decide +kernel
theorem d_SE_bestWith_56 : decode prog_8_method_5_code 56 = .ok (.iload_n 3, 1) := by decide +kernel
theorem d_SE_bestWith_57 : decode prog_8_method_5_code 57 = .ok (.ireturn, 1) := by decide +kernel
theorem d_SE_plan_0 : decode prog_8_method_6_code 0 = .ok (.aload_n 0, 1) := by decide +kernel
theorem d_SE_plan_1 : decode prog_8_method_6_code 1 = .ok (.getfield 27, 3) := by decide +kernel
theorem d_SE_plan_4 : decode prog_8_method_6_code 4 = .ok (.iconst 1, 1) := by decide +kernel
theorem d_SE_plan_5 : decode prog_8_method_6_code 5 = .ok (.aload_n 0, 1) := by decide +kernel
theorem d_SE_plan_6 : decode prog_8_method_6_code 6 = .ok (.getfield 15, 3) := by decide +kernel
theorem d_SE_plan_9 : decode prog_8_method_6_code 9 = .ok (.getfield 30, 3) := by decide +kernel
theorem d_SE_plan_12 : decode prog_8_method_6_code 12 = .ok (.bipush 6, 2) := by decide +kernel
theorem d_SE_plan_14 : decode prog_8_method_6_code 14 = .ok (.invokestatic 68, 3) := by decide +kernel
theorem d_SE_plan_17 : decode prog_8_method_6_code 17 = .ok (.ishl, 1) := by decide +kernel
theorem d_SE_plan_18 : decode prog_8_method_6_code 18 = .ok (.iconst 1, 1) := by decide +kernel
theorem d_SE_plan_19 : decode prog_8_method_6_code 19 = .ok (.isub, 1) := by decide +kernel
theorem d_SE_plan_20 : decode prog_8_method_6_code 20 = .ok (.iaload, 1) := by decide +kernel
theorem d_SE_plan_21 : decode prog_8_method_6_code 21 = .ok (.ireturn, 1) := by decide +kernel
theorem d_SE_least_0 : decode prog_8_method_7_code 0 = .ok (.aload_n 0, 1) := by decide +kernel
theorem d_SE_least_1 : decode prog_8_method_7_code 1 = .ok (.invokevirtual 73, 3) := by decide +kernel
theorem d_SE_least_4 : decode prog_8_method_7_code 4 = .ok (.ldc 63, 2) := by decide +kernel
theorem d_SE_least_6 : decode prog_8_method_7_code 6 = .ok (.idiv, 1) := by decide +kernel
theorem d_SE_least_7 : decode prog_8_method_7_code 7 = .ok (.ireturn, 1) := by decide +kernel
theorem d_SE_placeOf_0 : decode prog_8_method_8_code 0 = .ok (.iload_n 1, 1) := by decide +kernel
theorem d_SE_placeOf_1 : decode prog_8_method_8_code 1 = .ok (.ifCond .lt 25, 3) := by decide +kernel
theorem d_SE_placeOf_4 : decode prog_8_method_8_code 4 = .ok (.iload_n 1, 1) := by decide +kernel
theorem d_SE_placeOf_5 : decode prog_8_method_8_code 5 = .ok (.bipush 6, 2) := by decide +kernel
theorem d_SE_placeOf_7 : decode prog_8_method_8_code 7 = .ok (.if_icmp .ge 19, 3) := by decide +kernel
theorem d_SE_placeOf_10 : decode prog_8_method_8_code 10 = .ok (.aload_n 0, 1) := by decide +kernel
theorem d_SE_placeOf_11 : decode prog_8_method_8_code 11 = .ok (.invokevirtual 73, 3) := by decide +kernel
theorem d_SE_placeOf_14 : decode prog_8_method_8_code 14 = .ok (.getstatic 64, 3) := by decide +kernel
theorem d_SE_placeOf_17 : decode prog_8_method_8_code 17 = .ok (.iload_n 1, 1) := by decide +kernel
theorem d_SE_placeOf_18 : decode prog_8_method_8_code 18 = .ok (.iaload, 1) := by decide +kernel
theorem d_SE_placeOf_19 : decode prog_8_method_8_code 19 = .ok (.idiv, 1) := by decide +kernel
theorem d_SE_placeOf_20 : decode prog_8_method_8_code 20 = .ok (.bipush 6, 2) := by decide +kernel
theorem d_SE_placeOf_22 : decode prog_8_method_8_code 22 = .ok (.irem, 1) := by decide +kernel
theorem d_SE_placeOf_23 : decode prog_8_method_8_code 23 = .ok (.goto 5, 3) := by decide +kernel
theorem d_SE_placeOf_26 : decode prog_8_method_8_code 26 = .ok (.bipush (-9), 2) := by decide +kernel
theorem d_SE_placeOf_28 : decode prog_8_method_8_code 28 = .ok (.ireturn, 1) := by decide +kernel
theorem d_SN_init_0 : decode prog_9_method_1_code 0 = .ok (.aload_n 0, 1) := by decide +kernel
theorem d_SN_init_1 : decode prog_9_method_1_code 1 = .ok (.invokespecial 3, 3) := by decide +kernel
theorem d_SN_init_4 : decode prog_9_method_1_code 4 = .ok (.aload_n 0, 1) := by decide +kernel
theorem d_SN_init_5 : decode prog_9_method_1_code 5 = .ok (.aload_n 1, 1) := by decide +kernel
theorem d_SN_init_6 : decode prog_9_method_1_code 6 = .ok (.putfield 9, 3) := by decide +kernel
theorem d_SN_init_9 : decode prog_9_method_1_code 9 = .ok (.aload_n 0, 1) := by decide +kernel
theorem d_SN_init_10 : decode prog_9_method_1_code 10 = .ok (.aload_n 2, 1) := by decide +kernel
theorem d_SN_init_11 : decode prog_9_method_1_code 11 = .ok (.putfield 15, 3) := by decide +kernel
theorem d_SN_init_14 : decode prog_9_method_1_code 14 = .ok (.aload_n 0, 1) := by decide +kernel
theorem d_SN_init_15 : decode prog_9_method_1_code 15 = .ok (.bipush 37, 2) := by decide +kernel
theorem d_SN_init_17 : decode prog_9_method_1_code 17 = .ok (.newarray .long, 2) := by decide +kernel
theorem d_SN_init_19 : decode prog_9_method_1_code 19 = .ok (.putfield 19, 3) := by decide +kernel
theorem d_SN_init_22 : decode prog_9_method_1_code 22 = .ok (.return_, 1) := by decide +kernel
theorem d_SN_weighEnough_0 : decode prog_9_method_2_code 0 = .ok (.aload_n 0, 1) := by decide +kernel
theorem d_SN_weighEnough_1 : decode prog_9_method_2_code 1 = .ok (.aload_n 0, 1) := by decide +kernel
theorem d_SN_weighEnough_2 : decode prog_9_method_2_code 2 = .ok (.getfield 15, 3) := by decide +kernel
theorem d_SN_weighEnough_5 : decode prog_9_method_2_code 5 = .ok (.iload_n 1, 1) := by decide +kernel
theorem d_SN_weighEnough_6 : decode prog_9_method_2_code 6 = .ok (.invokevirtual 23, 3) := by decide +kernel
theorem d_SN_weighEnough_9 : decode prog_9_method_2_code 9 = .ok (.iload_n 2, 1) := by decide +kernel
theorem d_SN_weighEnough_10 : decode prog_9_method_2_code 10 = .ok (.iload_n 3, 1) := by decide +kernel
theorem d_SN_weighEnough_11 : decode prog_9_method_2_code 11 = .ok (.invokevirtual 29, 3) := by decide +kernel
theorem d_SN_weighEnough_14 : decode prog_9_method_2_code 14 = .ok (.aload_n 0, 1) := by decide +kernel
theorem d_SN_weighEnough_15 : decode prog_9_method_2_code 15 = .ok (.aload_n 0, 1) := by decide +kernel
theorem d_SN_weighEnough_16 : decode prog_9_method_2_code 16 = .ok (.getfield 33, 3) := by decide +kernel
theorem d_SN_weighEnough_19 : decode prog_9_method_2_code 19 = .ok (.aload_n 0, 1) := by decide +kernel
theorem d_SN_weighEnough_20 : decode prog_9_method_2_code 20 = .ok (.aload_n 0, 1) := by decide +kernel
theorem d_SN_weighEnough_21 : decode prog_9_method_2_code 21 = .ok (.getfield 9, 3) := by decide +kernel
theorem d_SN_weighEnough_24 : decode prog_9_method_2_code 24 = .ok (.getfield 37, 3) := by decide +kernel
theorem d_SN_weighEnough_27 : decode prog_9_method_2_code 27 = .ok (.iload_n 1, 1) := by decide +kernel
theorem d_SN_weighEnough_28 : decode prog_9_method_2_code 28 = .ok (.iaload, 1) := by decide +kernel
theorem d_SN_weighEnough_29 : decode prog_9_method_2_code 29 = .ok (.invokevirtual 43, 3) := by decide +kernel
theorem d_SN_weighEnough_32 : decode prog_9_method_2_code 32 = .ok (.lsub, 1) := by decide +kernel
theorem d_SN_weighEnough_33 : decode prog_9_method_2_code 33 = .ok (.aload_n 0, 1) := by decide +kernel
theorem d_SN_weighEnough_34 : decode prog_9_method_2_code 34 = .ok (.getfield 33, 3) := by decide +kernel
theorem d_SN_weighEnough_37 : decode prog_9_method_2_code 37 = .ok (.invokevirtual 47, 3) := by decide +kernel
theorem d_SN_weighEnough_40 : decode prog_9_method_2_code 40 = .ok (.return_, 1) := by decide +kernel
theorem d_SN_weighGuilt_0 : decode prog_9_method_3_code 0 = .ok (.aload_n 0, 1) := by decide +kernel
theorem d_SN_weighGuilt_1 : decode prog_9_method_3_code 1 = .ok (.getfield 15, 3) := by decide +kernel
theorem d_SN_weighGuilt_4 : decode prog_9_method_3_code 4 = .ok (.getfield 51, 3) := by decide +kernel
theorem d_SN_weighGuilt_7 : decode prog_9_method_3_code 7 = .ok (.iload_n 1, 1) := by decide +kernel
theorem d_SN_weighGuilt_8 : decode prog_9_method_3_code 8 = .ok (.iaload, 1) := by decide +kernel
theorem d_SN_weighGuilt_9 : decode prog_9_method_3_code 9 = .ok (.istore 4, 2) := by decide +kernel
theorem d_SN_weighGuilt_11 : decode prog_9_method_3_code 11 = .ok (.aload_n 0, 1) := by decide +kernel
theorem d_SN_weighGuilt_12 : decode prog_9_method_3_code 12 = .ok (.getfield 9, 3) := by decide +kernel
theorem d_SN_weighGuilt_15 : decode prog_9_method_3_code 15 = .ok (.getfield 37, 3) := by decide +kernel
theorem d_SN_weighGuilt_18 : decode prog_9_method_3_code 18 = .ok (.iload 4, 2) := by decide +kernel
theorem d_SN_weighGuilt_20 : decode prog_9_method_3_code 20 = .ok (.iaload, 1) := by decide +kernel
theorem d_SN_weighGuilt_21 : decode prog_9_method_3_code 21 = .ok (.istore 5, 2) := by decide +kernel
theorem d_SN_weighGuilt_23 : decode prog_9_method_3_code 23 = .ok (.aload_n 0, 1) := by decide +kernel
theorem d_SN_weighGuilt_24 : decode prog_9_method_3_code 24 = .ok (.getfield 15, 3) := by decide +kernel
theorem d_SN_weighGuilt_27 : decode prog_9_method_3_code 27 = .ok (.iload_n 1, 1) := by decide +kernel
theorem d_SN_weighGuilt_28 : decode prog_9_method_3_code 28 = .ok (.iload_n 2, 1) := by decide +kernel
theorem d_SN_weighGuilt_29 : decode prog_9_method_3_code 29 = .ok (.aload_n 0, 1) := by decide +kernel
theorem d_SN_weighGuilt_30 : decode prog_9_method_3_code 30 = .ok (.getfield 15, 3) := by decide +kernel
theorem d_SN_weighGuilt_33 : decode prog_9_method_3_code 33 = .ok (.getfield 54, 3) := by decide +kernel
theorem d_SN_weighGuilt_36 : decode prog_9_method_3_code 36 = .ok (.iadd, 1) := by decide +kernel
theorem d_SN_weighGuilt_37 : decode prog_9_method_3_code 37 = .ok (.invokevirtual 58, 3) := by decide +kernel
theorem d_SN_weighGuilt_40 : decode prog_9_method_3_code 40 = .ok (.istore 6, 2) := by decide +kernel
theorem d_SN_weighGuilt_42 : decode prog_9_method_3_code 42 = .ok (.aload_n 0, 1) := by decide +kernel
theorem d_SN_weighGuilt_43 : decode prog_9_method_3_code 43 = .ok (.aload_n 0, 1) := by decide +kernel
theorem d_SN_weighGuilt_44 : decode prog_9_method_3_code 44 = .ok (.getfield 15, 3) := by decide +kernel
theorem d_SN_weighGuilt_47 : decode prog_9_method_3_code 47 = .ok (.iload 4, 2) := by decide +kernel
theorem d_SN_weighGuilt_49 : decode prog_9_method_3_code 49 = .ok (.invokevirtual 23, 3) := by decide +kernel
theorem d_SN_weighGuilt_52 : decode prog_9_method_3_code 52 = .ok (.iconst 1, 1) := by decide +kernel
theorem d_SN_weighGuilt_53 : decode prog_9_method_3_code 53 = .ok (.iload_n 1, 1) := by decide +kernel
theorem d_SN_weighGuilt_54 : decode prog_9_method_3_code 54 = .ok (.ishl, 1) := by decide +kernel
theorem d_SN_weighGuilt_55 : decode prog_9_method_3_code 55 = .ok (.iconst (-1), 1) := by decide +kernel
theorem d_SN_weighGuilt_56 : decode prog_9_method_3_code 56 = .ok (.ixor, 1) := by decide +kernel
theorem d_SN_weighGuilt_57 : decode prog_9_method_3_code 57 = .ok (.iand, 1) := by decide +kernel
theorem d_SN_weighGuilt_58 : decode prog_9_method_3_code 58 = .ok (.iload_n 2, 1) := by decide +kernel
theorem d_SN_weighGuilt_59 : decode prog_9_method_3_code 59 = .ok (.iload_n 3, 1) := by decide +kernel
theorem d_SN_weighGuilt_60 : decode prog_9_method_3_code 60 = .ok (.invokevirtual 29, 3) := by decide +kernel
theorem d_SN_weighGuilt_63 : decode prog_9_method_3_code 63 = .ok (.iload 6, 2) := by decide +kernel
theorem d_SN_weighGuilt_65 : decode prog_9_method_3_code 65 = .ok (.ifCond .le 15, 3) := by decide +kernel
theorem d_SN_weighGuilt_68 : decode prog_9_method_3_code 68 = .ok (.iload_n 3, 1) := by decide +kernel
theorem d_SN_weighGuilt_69 : decode prog_9_method_3_code 69 = .ok (.i2l, 1) := by decide +kernel
theorem d_SN_weighGuilt_70 : decode prog_9_method_3_code 70 = .ok (.aload_n 0, 1) := by decide +kernel
theorem d_SN_weighGuilt_71 : decode prog_9_method_3_code 71 = .ok (.iload 5, 2) := by decide +kernel
theorem d_SN_weighGuilt_73 : decode prog_9_method_3_code 73 = .ok (.invokevirtual 43, 3) := by decide +kernel
theorem d_SN_weighGuilt_76 : decode prog_9_method_3_code 76 = .ok (.lmul, 1) := by decide +kernel
theorem d_SN_weighGuilt_77 : decode prog_9_method_3_code 77 = .ok (.goto 4, 3) := by decide +kernel
theorem d_SN_weighGuilt_80 : decode prog_9_method_3_code 80 = .ok (.lconst 0, 1) := by decide +kernel
theorem d_SN_weighGuilt_81 : decode prog_9_method_3_code 81 = .ok (.lstore 7, 2) := by decide +kernel
theorem d_SN_weighGuilt_83 : decode prog_9_method_3_code 83 = .ok (.iload 6, 2) := by decide +kernel
theorem d_SN_weighGuilt_85 : decode prog_9_method_3_code 85 = .ok (.ifCond .le 21, 3) := by decide +kernel
theorem d_SN_weighGuilt_88 : decode prog_9_method_3_code 88 = .ok (.bipush 10, 2) := by decide +kernel
theorem d_SN_weighGuilt_90 : decode prog_9_method_3_code 90 = .ok (.iload_n 3, 1) := by decide +kernel
theorem d_SN_weighGuilt_91 : decode prog_9_method_3_code 91 = .ok (.isub, 1) := by decide +kernel
theorem d_SN_weighGuilt_92 : decode prog_9_method_3_code 92 = .ok (.i2l, 1) := by decide +kernel
theorem d_SN_weighGuilt_93 : decode prog_9_method_3_code 93 = .ok (.aload_n 0, 1) := by decide +kernel
theorem d_SN_weighGuilt_94 : decode prog_9_method_3_code 94 = .ok (.iload 5, 2) := by decide +kernel
theorem d_SN_weighGuilt_96 : decode prog_9_method_3_code 96 = .ok (.iload 6, 2) := by decide +kernel
theorem d_SN_weighGuilt_98 : decode prog_9_method_3_code 98 = .ok (.isub, 1) := by decide +kernel
theorem d_SN_weighGuilt_99 : decode prog_9_method_3_code 99 = .ok (.invokevirtual 43, 3) := by decide +kernel
theorem d_SN_weighGuilt_102 : decode prog_9_method_3_code 102 = .ok (.lmul, 1) := by decide +kernel
theorem d_SN_weighGuilt_103 : decode prog_9_method_3_code 103 = .ok (.goto 9, 3) := by decide +kernel
theorem d_SN_weighGuilt_106 : decode prog_9_method_3_code 106 = .ok (.aload_n 0, 1) := by decide +kernel
theorem d_SN_weighGuilt_107 : decode prog_9_method_3_code 107 = .ok (.iload 5, 2) := by decide +kernel
theorem d_SN_weighGuilt_109 : decode prog_9_method_3_code 109 = .ok (.invokevirtual 43, 3) := by decide +kernel
theorem d_SN_weighGuilt_112 : decode prog_9_method_3_code 112 = .ok (.lstore 9, 2) := by decide +kernel
theorem d_SN_weighGuilt_114 : decode prog_9_method_3_code 114 = .ok (.lload 7, 2) := by decide +kernel
theorem d_SN_weighGuilt_116 : decode prog_9_method_3_code 116 = .ok (.lload 9, 2) := by decide +kernel
theorem d_SN_weighGuilt_118 : decode prog_9_method_3_code 118 = .ok (.ladd, 1) := by decide +kernel
theorem d_SN_weighGuilt_119 : decode prog_9_method_3_code 119 = .ok (.lconst 0, 1) := by decide +kernel
theorem d_SN_weighGuilt_120 : decode prog_9_method_3_code 120 = .ok (.lcmp, 1) := by decide +kernel
theorem d_SN_weighGuilt_121 : decode prog_9_method_3_code 121 = .ok (.ifCond .ne 5, 3) := by decide +kernel
theorem d_SN_weighGuilt_124 : decode prog_9_method_3_code 124 = .ok (.iconst 0, 1) := by decide +kernel
theorem d_SN_weighGuilt_125 : decode prog_9_method_3_code 125 = .ok (.ireturn, 1) := by decide +kernel
theorem d_SN_weighGuilt_126 : decode prog_9_method_3_code 126 = .ok (.aload_n 0, 1) := by decide +kernel
theorem d_SN_weighGuilt_127 : decode prog_9_method_3_code 127 = .ok (.lload 7, 2) := by decide +kernel
theorem d_SN_weighGuilt_129 : decode prog_9_method_3_code 129 = .ok (.lload 7, 2) := by decide +kernel
theorem d_SN_weighGuilt_131 : decode prog_9_method_3_code 131 = .ok (.lload 9, 2) := by decide +kernel
theorem d_SN_weighGuilt_133 : decode prog_9_method_3_code 133 = .ok (.ladd, 1) := by decide +kernel
theorem d_SN_weighGuilt_134 : decode prog_9_method_3_code 134 = .ok (.invokevirtual 47, 3) := by decide +kernel
theorem d_SN_weighGuilt_137 : decode prog_9_method_3_code 137 = .ok (.iconst 1, 1) := by decide +kernel
theorem d_SN_weighGuilt_138 : decode prog_9_method_3_code 138 = .ok (.ireturn, 1) := by decide +kernel
theorem d_SN_spread_0 : decode prog_9_method_4_code 0 = .ok (.iconst 0, 1) := by decide +kernel
theorem d_SN_spread_1 : decode prog_9_method_4_code 1 = .ok (.istore 4, 2) := by decide +kernel
theorem d_SN_spread_3 : decode prog_9_method_4_code 3 = .ok (.iload 4, 2) := by decide +kernel
theorem d_SN_spread_5 : decode prog_9_method_4_code 5 = .ok (.bipush 36, 2) := by decide +kernel
theorem d_SN_spread_7 : decode prog_9_method_4_code 7 = .ok (.if_icmp .gt 17, 3) := by decide +kernel
theorem d_SN_spread_10 : decode prog_9_method_4_code 10 = .ok (.aload_n 0, 1) := by decide +kernel
theorem d_SN_spread_11 : decode prog_9_method_4_code 11 = .ok (.getfield 19, 3) := by decide +kernel
theorem d_SN_spread_14 : decode prog_9_method_4_code 14 = .ok (.iload 4, 2) := by decide +kernel
theorem d_SN_spread_16 : decode prog_9_method_4_code 16 = .ok (.lconst 0, 1) := by decide +kernel
theorem d_SN_spread_17 : decode prog_9_method_4_code 17 = .ok (.lastore, 1) := by decide +kernel
theorem d_SN_spread_18 : decode prog_9_method_4_code 18 = .ok (.iinc 4 1, 3) := by decide +kernel
theorem d_SN_spread_21 : decode prog_9_method_4_code 21 = .ok (.goto (-18), 3) := by decide +kernel
theorem d_SN_spread_24 : decode prog_9_method_4_code 24 = .ok (.aload_n 0, 1) := by decide +kernel
theorem d_SN_spread_25 : decode prog_9_method_4_code 25 = .ok (.getfield 19, 3) := by decide +kernel
theorem d_SN_spread_28 : decode prog_9_method_4_code 28 = .ok (.iconst 0, 1) := by decide +kernel
theorem d_SN_spread_29 : decode prog_9_method_4_code 29 = .ok (.lconst 1, 1) := by decide +kernel
theorem d_SN_spread_30 : decode prog_9_method_4_code 30 = .ok (.lastore, 1) := by decide +kernel
theorem d_SN_spread_31 : decode prog_9_method_4_code 31 = .ok (.aload_n 0, 1) := by decide +kernel
theorem d_SN_spread_32 : decode prog_9_method_4_code 32 = .ok (.lconst 1, 1) := by decide +kernel
theorem d_SN_spread_33 : decode prog_9_method_4_code 33 = .ok (.putfield 33, 3) := by decide +kernel
theorem d_SN_spread_36 : decode prog_9_method_4_code 36 = .ok (.iconst 0, 1) := by decide +kernel
theorem d_SN_spread_37 : decode prog_9_method_4_code 37 = .ok (.istore 4, 2) := by decide +kernel
theorem d_SN_spread_39 : decode prog_9_method_4_code 39 = .ok (.iload 4, 2) := by decide +kernel
theorem d_SN_spread_41 : decode prog_9_method_4_code 41 = .ok (.aload_n 0, 1) := by decide +kernel
theorem d_SN_spread_42 : decode prog_9_method_4_code 42 = .ok (.getfield 15, 3) := by decide +kernel
theorem d_SN_spread_45 : decode prog_9_method_4_code 45 = .ok (.getfield 62, 3) := by decide +kernel
theorem d_SN_spread_48 : decode prog_9_method_4_code 48 = .ok (.if_icmp .ge 51, 3) := by decide +kernel
theorem d_SN_spread_51 : decode prog_9_method_4_code 51 = .ok (.aload_n 0, 1) := by decide +kernel
theorem d_SN_spread_52 : decode prog_9_method_4_code 52 = .ok (.getfield 15, 3) := by decide +kernel
theorem d_SN_spread_55 : decode prog_9_method_4_code 55 = .ok (.iload 4, 2) := by decide +kernel
theorem d_SN_spread_57 : decode prog_9_method_4_code 57 = .ok (.iload_n 2, 1) := by decide +kernel
theorem d_SN_spread_58 : decode prog_9_method_4_code 58 = .ok (.aload_n 0, 1) := by decide +kernel
theorem d_SN_spread_59 : decode prog_9_method_4_code 59 = .ok (.getfield 15, 3) := by decide +kernel
theorem d_SN_spread_62 : decode prog_9_method_4_code 62 = .ok (.getfield 54, 3) := by decide +kernel
theorem d_SN_spread_65 : decode prog_9_method_4_code 65 = .ok (.iadd, 1) := by decide +kernel
theorem d_SN_spread_66 : decode prog_9_method_4_code 66 = .ok (.invokevirtual 58, 3) := by decide +kernel
theorem d_SN_spread_69 : decode prog_9_method_4_code 69 = .ok (.istore 5, 2) := by decide +kernel
theorem d_SN_spread_71 : decode prog_9_method_4_code 71 = .ok (.iload_n 1, 1) := by decide +kernel
theorem d_SN_spread_72 : decode prog_9_method_4_code 72 = .ok (.iload 4, 2) := by decide +kernel
theorem d_SN_spread_74 : decode prog_9_method_4_code 74 = .ok (.ishr, 1) := by decide +kernel
theorem d_SN_spread_75 : decode prog_9_method_4_code 75 = .ok (.iconst 1, 1) := by decide +kernel
theorem d_SN_spread_76 : decode prog_9_method_4_code 76 = .ok (.iand, 1) := by decide +kernel
theorem d_SN_spread_77 : decode prog_9_method_4_code 77 = .ok (.iconst 1, 1) := by decide +kernel
theorem d_SN_spread_78 : decode prog_9_method_4_code 78 = .ok (.if_icmp .ne 15, 3) := by decide +kernel
theorem d_SN_spread_81 : decode prog_9_method_4_code 81 = .ok (.iload 5, 2) := by decide +kernel
theorem d_SN_spread_83 : decode prog_9_method_4_code 83 = .ok (.ifCond .le 10, 3) := by decide +kernel
theorem d_SN_spread_86 : decode prog_9_method_4_code 86 = .ok (.aload_n 0, 1) := by decide +kernel
theorem d_SN_spread_87 : decode prog_9_method_4_code 87 = .ok (.iload 5, 2) := by decide +kernel
theorem d_SN_spread_89 : decode prog_9_method_4_code 89 = .ok (.iload_n 3, 1) := by decide +kernel
theorem d_SN_spread_90 : decode prog_9_method_4_code 90 = .ok (.invokevirtual 65, 3) := by decide +kernel
theorem d_SN_spread_93 : decode prog_9_method_4_code 93 = .ok (.iinc 4 1, 3) := by decide +kernel
theorem d_SN_spread_96 : decode prog_9_method_4_code 96 = .ok (.goto (-57), 3) := by decide +kernel
theorem d_SN_spread_99 : decode prog_9_method_4_code 99 = .ok (.return_, 1) := by decide +kernel
theorem d_SN_admit_0 : decode prog_9_method_5_code 0 = .ok (.bipush 36, 2) := by decide +kernel
theorem d_SN_admit_2 : decode prog_9_method_5_code 2 = .ok (.istore_n 3, 1) := by decide +kernel
theorem d_SN_admit_3 : decode prog_9_method_5_code 3 = .ok (.iload_n 3, 1) := by decide +kernel
theorem d_SN_admit_4 : decode prog_9_method_5_code 4 = .ok (.ifCond .lt 52, 3) := by decide +kernel
theorem d_SN_admit_7 : decode prog_9_method_5_code 7 = .ok (.iload_n 3, 1) := by decide +kernel
theorem d_SN_admit_8 : decode prog_9_method_5_code 8 = .ok (.iload_n 1, 1) := by decide +kernel
theorem d_SN_admit_9 : decode prog_9_method_5_code 9 = .ok (.if_icmp .lt 20, 3) := by decide +kernel
theorem d_SN_admit_12 : decode prog_9_method_5_code 12 = .ok (.aload_n 0, 1) := by decide +kernel
theorem d_SN_admit_13 : decode prog_9_method_5_code 13 = .ok (.getfield 19, 3) := by decide +kernel
theorem d_SN_admit_16 : decode prog_9_method_5_code 16 = .ok (.iload_n 3, 1) := by decide +kernel
theorem d_SN_admit_17 : decode prog_9_method_5_code 17 = .ok (.iload_n 1, 1) := by decide +kernel
theorem d_SN_admit_18 : decode prog_9_method_5_code 18 = .ok (.isub, 1) := by decide +kernel
theorem d_SN_admit_19 : decode prog_9_method_5_code 19 = .ok (.laload, 1) := by decide +kernel
theorem d_SN_admit_20 : decode prog_9_method_5_code 20 = .ok (.bipush 10, 2) := by decide +kernel
theorem d_SN_admit_22 : decode prog_9_method_5_code 22 = .ok (.iload_n 2, 1) := by decide +kernel
theorem d_SN_admit_23 : decode prog_9_method_5_code 23 = .ok (.isub, 1) := by decide +kernel
theorem d_SN_admit_24 : decode prog_9_method_5_code 24 = .ok (.i2l, 1) := by decide +kernel
theorem d_SN_admit_25 : decode prog_9_method_5_code 25 = .ok (.lmul, 1) := by decide +kernel
theorem d_SN_admit_26 : decode prog_9_method_5_code 26 = .ok (.goto 4, 3) := by decide +kernel
theorem d_SN_admit_29 : decode prog_9_method_5_code 29 = .ok (.lconst 0, 1) := by decide +kernel
theorem d_SN_admit_30 : decode prog_9_method_5_code 30 = .ok (.lstore 4, 2) := by decide +kernel
theorem d_SN_admit_32 : decode prog_9_method_5_code 32 = .ok (.aload_n 0, 1) := by decide +kernel
theorem d_SN_admit_33 : decode prog_9_method_5_code 33 = .ok (.getfield 19, 3) := by decide +kernel
theorem d_SN_admit_36 : decode prog_9_method_5_code 36 = .ok (.iload_n 3, 1) := by decide +kernel
theorem d_SN_admit_37 : decode prog_9_method_5_code 37 = .ok (.aload_n 0, 1) := by decide +kernel
theorem d_SN_admit_38 : decode prog_9_method_5_code 38 = .ok (.getfield 19, 3) := by decide +kernel
theorem d_SN_admit_41 : decode prog_9_method_5_code 41 = .ok (.iload_n 3, 1) := by decide +kernel
theorem d_SN_admit_42 : decode prog_9_method_5_code 42 = .ok (.laload, 1) := by decide +kernel
theorem d_SN_admit_43 : decode prog_9_method_5_code 43 = .ok (.iload_n 2, 1) := by decide +kernel
theorem d_SN_admit_44 : decode prog_9_method_5_code 44 = .ok (.i2l, 1) := by decide +kernel
theorem d_SN_admit_45 : decode prog_9_method_5_code 45 = .ok (.lmul, 1) := by decide +kernel
theorem d_SN_admit_46 : decode prog_9_method_5_code 46 = .ok (.lload 4, 2) := by decide +kernel
theorem d_SN_admit_48 : decode prog_9_method_5_code 48 = .ok (.ladd, 1) := by decide +kernel
theorem d_SN_admit_49 : decode prog_9_method_5_code 49 = .ok (.lastore, 1) := by decide +kernel
theorem d_SN_admit_50 : decode prog_9_method_5_code 50 = .ok (.iinc 3 (-1), 3) := by decide +kernel
theorem d_SN_admit_53 : decode prog_9_method_5_code 53 = .ok (.goto (-50), 3) := by decide +kernel
theorem d_SN_admit_56 : decode prog_9_method_5_code 56 = .ok (.aload_n 0, 1) := by decide +kernel
theorem d_SN_admit_57 : decode prog_9_method_5_code 57 = .ok (.dup, 1) := by decide +kernel
theorem d_SN_admit_58 : decode prog_9_method_5_code 58 = .ok (.getfield 33, 3) := by decide +kernel
theorem d_SN_admit_61 : decode prog_9_method_5_code 61 = .ok (.ldc2_w 69, 3) := by decide +kernel
theorem d_SN_admit_64 : decode prog_9_method_5_code 64 = .ok (.lmul, 1) := by decide +kernel
theorem d_SN_admit_65 : decode prog_9_method_5_code 65 = .ok (.putfield 33, 3) := by decide +kernel
theorem d_SN_admit_68 : decode prog_9_method_5_code 68 = .ok (.return_, 1) := by decide +kernel
theorem d_SN_casesUnder_0 : decode prog_9_method_6_code 0 = .ok (.lconst 0, 1) := by decide +kernel
theorem d_SN_casesUnder_1 : decode prog_9_method_6_code 1 = .ok (.lstore_n 2, 1) := by decide +kernel
theorem d_SN_casesUnder_2 : decode prog_9_method_6_code 2 = .ok (.iconst 0, 1) := by decide +kernel
theorem d_SN_casesUnder_3 : decode prog_9_method_6_code 3 = .ok (.istore 4, 2) := by decide +kernel
theorem d_SN_casesUnder_5 : decode prog_9_method_6_code 5 = .ok (.iload 4, 2) := by decide +kernel
theorem d_SN_casesUnder_7 : decode prog_9_method_6_code 7 = .ok (.iload_n 1, 1) := by decide +kernel
theorem d_SN_casesUnder_8 : decode prog_9_method_6_code 8 = .ok (.if_icmp .ge 26, 3) := by decide +kernel
theorem d_SN_casesUnder_11 : decode prog_9_method_6_code 11 = .ok (.iload 4, 2) := by decide +kernel
theorem d_SN_casesUnder_13 : decode prog_9_method_6_code 13 = .ok (.bipush 36, 2) := by decide +kernel
theorem d_SN_casesUnder_15 : decode prog_9_method_6_code 15 = .ok (.if_icmp .gt 19, 3) := by decide +kernel
theorem d_SN_casesUnder_18 : decode prog_9_method_6_code 18 = .ok (.lload_n 2, 1) := by decide +kernel
theorem d_SN_casesUnder_19 : decode prog_9_method_6_code 19 = .ok (.aload_n 0, 1) := by decide +kernel
theorem d_SN_casesUnder_20 : decode prog_9_method_6_code 20 = .ok (.getfield 19, 3) := by decide +kernel
theorem d_SN_casesUnder_23 : decode prog_9_method_6_code 23 = .ok (.iload 4, 2) := by decide +kernel
theorem d_SN_casesUnder_25 : decode prog_9_method_6_code 25 = .ok (.laload, 1) := by decide +kernel
theorem d_SN_casesUnder_26 : decode prog_9_method_6_code 26 = .ok (.ladd, 1) := by decide +kernel
theorem d_SN_casesUnder_27 : decode prog_9_method_6_code 27 = .ok (.lstore_n 2, 1) := by decide +kernel
theorem d_SN_casesUnder_28 : decode prog_9_method_6_code 28 = .ok (.iinc 4 1, 3) := by decide +kernel
theorem d_SN_casesUnder_31 : decode prog_9_method_6_code 31 = .ok (.goto (-26), 3) := by decide +kernel
theorem d_SN_casesUnder_34 : decode prog_9_method_6_code 34 = .ok (.lload_n 2, 1) := by decide +kernel
theorem d_SN_casesUnder_35 : decode prog_9_method_6_code 35 = .ok (.lreturn, 1) := by decide +kernel
theorem d_SN_reduce_0 : decode prog_9_method_7_code 0 = .ok (.lload_n 3, 1) := by decide +kernel
theorem d_SN_reduce_1 : decode prog_9_method_7_code 1 = .ok (.lstore 5, 2) := by decide +kernel
theorem d_SN_reduce_3 : decode prog_9_method_7_code 3 = .ok (.lload_n 1, 1) := by decide +kernel
theorem d_SN_reduce_4 : decode prog_9_method_7_code 4 = .ok (.lstore 7, 2) := by decide +kernel
theorem d_SN_reduce_6 : decode prog_9_method_7_code 6 = .ok (.iconst 0, 1) := by decide +kernel
theorem d_SN_reduce_7 : decode prog_9_method_7_code 7 = .ok (.istore 9, 2) := by decide +kernel
theorem d_SN_reduce_9 : decode prog_9_method_7_code 9 = .ok (.iload 9, 2) := by decide +kernel
theorem d_SN_reduce_11 : decode prog_9_method_7_code 11 = .ok (.sipush 200, 3) := by decide +kernel
theorem d_SN_reduce_14 : decode prog_9_method_7_code 14 = .ok (.if_icmp .ge 31, 3) := by decide +kernel
theorem d_SN_reduce_17 : decode prog_9_method_7_code 17 = .ok (.lload 7, 2) := by decide +kernel
theorem d_SN_reduce_19 : decode prog_9_method_7_code 19 = .ok (.lconst 0, 1) := by decide +kernel
theorem d_SN_reduce_20 : decode prog_9_method_7_code 20 = .ok (.lcmp, 1) := by decide +kernel
theorem d_SN_reduce_21 : decode prog_9_method_7_code 21 = .ok (.ifCond .eq 24, 3) := by decide +kernel
theorem d_SN_reduce_24 : decode prog_9_method_7_code 24 = .ok (.lload 5, 2) := by decide +kernel
theorem d_SN_reduce_26 : decode prog_9_method_7_code 26 = .ok (.lload 7, 2) := by decide +kernel
theorem d_SN_reduce_28 : decode prog_9_method_7_code 28 = .ok (.lrem, 1) := by decide +kernel
theorem d_SN_reduce_29 : decode prog_9_method_7_code 29 = .ok (.lstore 10, 2) := by decide +kernel
theorem d_SN_reduce_31 : decode prog_9_method_7_code 31 = .ok (.lload 7, 2) := by decide +kernel
theorem d_SN_reduce_33 : decode prog_9_method_7_code 33 = .ok (.lstore 5, 2) := by decide +kernel
theorem d_SN_reduce_35 : decode prog_9_method_7_code 35 = .ok (.lload 10, 2) := by decide +kernel
theorem d_SN_reduce_37 : decode prog_9_method_7_code 37 = .ok (.lstore 7, 2) := by decide +kernel
theorem d_SN_reduce_39 : decode prog_9_method_7_code 39 = .ok (.iinc 9 1, 3) := by decide +kernel
theorem d_SN_reduce_42 : decode prog_9_method_7_code 42 = .ok (.goto (-33), 3) := by decide +kernel
theorem d_SN_reduce_45 : decode prog_9_method_7_code 45 = .ok (.aload_n 0, 1) := by decide +kernel
theorem d_SN_reduce_46 : decode prog_9_method_7_code 46 = .ok (.lload 5, 2) := by decide +kernel
theorem d_SN_reduce_48 : decode prog_9_method_7_code 48 = .ok (.lconst 0, 1) := by decide +kernel
theorem d_SN_reduce_49 : decode prog_9_method_7_code 49 = .ok (.lcmp, 1) := by decide +kernel
theorem d_SN_reduce_50 : decode prog_9_method_7_code 50 = .ok (.ifCond .ne 7, 3) := by decide +kernel
theorem d_SN_reduce_53 : decode prog_9_method_7_code 53 = .ok (.lload_n 1, 1) := by decide +kernel
theorem d_SN_reduce_54 : decode prog_9_method_7_code 54 = .ok (.goto 7, 3) := by decide +kernel
theorem d_SN_reduce_57 : decode prog_9_method_7_code 57 = .ok (.lload_n 1, 1) := by decide +kernel
theorem d_SN_reduce_58 : decode prog_9_method_7_code 58 = .ok (.lload 5, 2) := by decide +kernel
theorem d_SN_reduce_60 : decode prog_9_method_7_code 60 = .ok (.ldiv, 1) := by decide +kernel
theorem d_SN_reduce_61 : decode prog_9_method_7_code 61 = .ok (.putfield 71, 3) := by decide +kernel
theorem d_SN_reduce_64 : decode prog_9_method_7_code 64 = .ok (.aload_n 0, 1) := by decide +kernel
theorem d_SN_reduce_65 : decode prog_9_method_7_code 65 = .ok (.lload 5, 2) := by decide +kernel
theorem d_SN_reduce_67 : decode prog_9_method_7_code 67 = .ok (.lconst 0, 1) := by decide +kernel
theorem d_SN_reduce_68 : decode prog_9_method_7_code 68 = .ok (.lcmp, 1) := by decide +kernel
theorem d_SN_reduce_69 : decode prog_9_method_7_code 69 = .ok (.ifCond .ne 7, 3) := by decide +kernel
theorem d_SN_reduce_72 : decode prog_9_method_7_code 72 = .ok (.lload_n 3, 1) := by decide +kernel
theorem d_SN_reduce_73 : decode prog_9_method_7_code 73 = .ok (.goto 7, 3) := by decide +kernel
theorem d_SN_reduce_76 : decode prog_9_method_7_code 76 = .ok (.lload_n 3, 1) := by decide +kernel
theorem d_SN_reduce_77 : decode prog_9_method_7_code 77 = .ok (.lload 5, 2) := by decide +kernel
theorem d_SN_reduce_79 : decode prog_9_method_7_code 79 = .ok (.ldiv, 1) := by decide +kernel
theorem d_SN_reduce_80 : decode prog_9_method_7_code 80 = .ok (.putfield 74, 3) := by decide +kernel
theorem d_SN_reduce_83 : decode prog_9_method_7_code 83 = .ok (.return_, 1) := by decide +kernel
theorem d_BB_init_0 : decode prog_1_method_1_code 0 = .ok (.aload_n 0, 1) := by decide +kernel
theorem d_BB_init_1 : decode prog_1_method_1_code 1 = .ok (.invokespecial 1, 3) := by decide +kernel
theorem d_BB_init_4 : decode prog_1_method_1_code 4 = .ok (.aload_n 0, 1) := by decide +kernel
theorem d_BB_init_5 : decode prog_1_method_1_code 5 = .ok (.new 7, 3) := by decide +kernel
theorem d_BB_init_8 : decode prog_1_method_1_code 8 = .ok (.dup, 1) := by decide +kernel
theorem d_BB_init_9 : decode prog_1_method_1_code 9 = .ok (.invokespecial 9, 3) := by decide +kernel
theorem d_BB_init_12 : decode prog_1_method_1_code 12 = .ok (.putfield 10, 3) := by decide +kernel
theorem d_BB_init_15 : decode prog_1_method_1_code 15 = .ok (.aload_n 0, 1) := by decide +kernel
theorem d_BB_init_16 : decode prog_1_method_1_code 16 = .ok (.new 16, 3) := by decide +kernel
theorem d_BB_init_19 : decode prog_1_method_1_code 19 = .ok (.dup, 1) := by decide +kernel
theorem d_BB_init_20 : decode prog_1_method_1_code 20 = .ok (.invokespecial 18, 3) := by decide +kernel
theorem d_BB_init_23 : decode prog_1_method_1_code 23 = .ok (.putfield 19, 3) := by decide +kernel
theorem d_BB_init_26 : decode prog_1_method_1_code 26 = .ok (.aload_n 0, 1) := by decide +kernel
theorem d_BB_init_27 : decode prog_1_method_1_code 27 = .ok (.new 23, 3) := by decide +kernel
theorem d_BB_init_30 : decode prog_1_method_1_code 30 = .ok (.dup, 1) := by decide +kernel
theorem d_BB_init_31 : decode prog_1_method_1_code 31 = .ok (.invokespecial 25, 3) := by decide +kernel
theorem d_BB_init_34 : decode prog_1_method_1_code 34 = .ok (.putfield 26, 3) := by decide +kernel
theorem d_BB_init_37 : decode prog_1_method_1_code 37 = .ok (.aload_n 0, 1) := by decide +kernel
theorem d_BB_init_38 : decode prog_1_method_1_code 38 = .ok (.new 30, 3) := by decide +kernel
theorem d_BB_init_41 : decode prog_1_method_1_code 41 = .ok (.dup, 1) := by decide +kernel
theorem d_BB_init_42 : decode prog_1_method_1_code 42 = .ok (.aload_n 0, 1) := by decide +kernel
theorem d_BB_init_43 : decode prog_1_method_1_code 43 = .ok (.getfield 19, 3) := by decide +kernel
theorem d_BB_init_46 : decode prog_1_method_1_code 46 = .ok (.aload_n 0, 1) := by decide +kernel
theorem d_BB_init_47 : decode prog_1_method_1_code 47 = .ok (.getfield 26, 3) := by decide +kernel
theorem d_BB_init_50 : decode prog_1_method_1_code 50 = .ok (.invokespecial 32, 3) := by decide +kernel
theorem d_BB_init_53 : decode prog_1_method_1_code 53 = .ok (.putfield 35, 3) := by decide +kernel
theorem d_BB_init_56 : decode prog_1_method_1_code 56 = .ok (.aload_n 0, 1) := by decide +kernel
theorem d_BB_init_57 : decode prog_1_method_1_code 57 = .ok (.new 39, 3) := by decide +kernel
theorem d_BB_init_60 : decode prog_1_method_1_code 60 = .ok (.dup, 1) := by decide +kernel
theorem d_BB_init_61 : decode prog_1_method_1_code 61 = .ok (.aload_n 0, 1) := by decide +kernel
theorem d_BB_init_62 : decode prog_1_method_1_code 62 = .ok (.getfield 26, 3) := by decide +kernel
theorem d_BB_init_65 : decode prog_1_method_1_code 65 = .ok (.aload_n 0, 1) := by decide +kernel
theorem d_BB_init_66 : decode prog_1_method_1_code 66 = .ok (.getfield 35, 3) := by decide +kernel
theorem d_BB_init_69 : decode prog_1_method_1_code 69 = .ok (.invokespecial 41, 3) := by decide +kernel
theorem d_BB_init_72 : decode prog_1_method_1_code 72 = .ok (.putfield 44, 3) := by decide +kernel
theorem d_BB_init_75 : decode prog_1_method_1_code 75 = .ok (.aload_n 0, 1) := by decide +kernel
theorem d_BB_init_76 : decode prog_1_method_1_code 76 = .ok (.new 48, 3) := by decide +kernel
theorem d_BB_init_79 : decode prog_1_method_1_code 79 = .ok (.dup, 1) := by decide +kernel
theorem d_BB_init_80 : decode prog_1_method_1_code 80 = .ok (.aload_n 0, 1) := by decide +kernel
theorem d_BB_init_81 : decode prog_1_method_1_code 81 = .ok (.getfield 19, 3) := by decide +kernel
theorem d_BB_init_84 : decode prog_1_method_1_code 84 = .ok (.aload_n 0, 1) := by decide +kernel
theorem d_BB_init_85 : decode prog_1_method_1_code 85 = .ok (.getfield 26, 3) := by decide +kernel
theorem d_BB_init_88 : decode prog_1_method_1_code 88 = .ok (.aload_n 0, 1) := by decide +kernel
theorem d_BB_init_89 : decode prog_1_method_1_code 89 = .ok (.getfield 35, 3) := by decide +kernel
theorem d_BB_init_92 : decode prog_1_method_1_code 92 = .ok (.invokespecial 50, 3) := by decide +kernel
theorem d_BB_init_95 : decode prog_1_method_1_code 95 = .ok (.putfield 53, 3) := by decide +kernel
theorem d_BB_init_98 : decode prog_1_method_1_code 98 = .ok (.aload_n 0, 1) := by decide +kernel
theorem d_BB_init_99 : decode prog_1_method_1_code 99 = .ok (.new 57, 3) := by decide +kernel
theorem d_BB_init_102 : decode prog_1_method_1_code 102 = .ok (.dup, 1) := by decide +kernel
theorem d_BB_init_103 : decode prog_1_method_1_code 103 = .ok (.aload_n 0, 1) := by decide +kernel
theorem d_BB_init_104 : decode prog_1_method_1_code 104 = .ok (.getfield 19, 3) := by decide +kernel
theorem d_BB_init_107 : decode prog_1_method_1_code 107 = .ok (.aload_n 0, 1) := by decide +kernel
theorem d_BB_init_108 : decode prog_1_method_1_code 108 = .ok (.getfield 26, 3) := by decide +kernel
theorem d_BB_init_111 : decode prog_1_method_1_code 111 = .ok (.aload_n 0, 1) := by decide +kernel
theorem d_BB_init_112 : decode prog_1_method_1_code 112 = .ok (.getfield 35, 3) := by decide +kernel
theorem d_BB_init_115 : decode prog_1_method_1_code 115 = .ok (.invokespecial 59, 3) := by decide +kernel
theorem d_BB_init_118 : decode prog_1_method_1_code 118 = .ok (.putfield 60, 3) := by decide +kernel
theorem d_BB_init_121 : decode prog_1_method_1_code 121 = .ok (.aload_n 0, 1) := by decide +kernel
theorem d_BB_init_122 : decode prog_1_method_1_code 122 = .ok (.new 64, 3) := by decide +kernel
theorem d_BB_init_125 : decode prog_1_method_1_code 125 = .ok (.dup, 1) := by decide +kernel
theorem d_BB_init_126 : decode prog_1_method_1_code 126 = .ok (.aload_n 0, 1) := by decide +kernel
theorem d_BB_init_127 : decode prog_1_method_1_code 127 = .ok (.getfield 19, 3) := by decide +kernel
theorem d_BB_init_130 : decode prog_1_method_1_code 130 = .ok (.aload_n 0, 1) := by decide +kernel
theorem d_BB_init_131 : decode prog_1_method_1_code 131 = .ok (.getfield 26, 3) := by decide +kernel
theorem d_BB_init_134 : decode prog_1_method_1_code 134 = .ok (.invokespecial 66, 3) := by decide +kernel
theorem d_BB_init_137 : decode prog_1_method_1_code 137 = .ok (.putfield 67, 3) := by decide +kernel
theorem d_BB_init_140 : decode prog_1_method_1_code 140 = .ok (.aload_n 0, 1) := by decide +kernel
theorem d_BB_init_141 : decode prog_1_method_1_code 141 = .ok (.iconst 2, 1) := by decide +kernel
theorem d_BB_init_142 : decode prog_1_method_1_code 142 = .ok (.anewarray 23, 3) := by decide +kernel
theorem d_BB_init_145 : decode prog_1_method_1_code 145 = .ok (.putfield 71, 3) := by decide +kernel
theorem d_BB_init_148 : decode prog_1_method_1_code 148 = .ok (.aload_n 0, 1) := by decide +kernel
theorem d_BB_init_149 : decode prog_1_method_1_code 149 = .ok (.iconst 2, 1) := by decide +kernel
theorem d_BB_init_150 : decode prog_1_method_1_code 150 = .ok (.newarray .boolean, 2) := by decide +kernel
theorem d_BB_init_152 : decode prog_1_method_1_code 152 = .ok (.putfield 75, 3) := by decide +kernel
theorem d_BB_init_155 : decode prog_1_method_1_code 155 = .ok (.iconst 0, 1) := by decide +kernel
theorem d_BB_init_156 : decode prog_1_method_1_code 156 = .ok (.istore_n 1, 1) := by decide +kernel
theorem d_BB_init_157 : decode prog_1_method_1_code 157 = .ok (.iload_n 1, 1) := by decide +kernel
theorem d_BB_init_158 : decode prog_1_method_1_code 158 = .ok (.iconst 2, 1) := by decide +kernel
theorem d_BB_init_159 : decode prog_1_method_1_code 159 = .ok (.if_icmp .ge 22, 3) := by decide +kernel
theorem d_BB_init_162 : decode prog_1_method_1_code 162 = .ok (.aload_n 0, 1) := by decide +kernel
theorem d_BB_init_163 : decode prog_1_method_1_code 163 = .ok (.getfield 71, 3) := by decide +kernel
theorem d_BB_init_166 : decode prog_1_method_1_code 166 = .ok (.iload_n 1, 1) := by decide +kernel
theorem d_BB_init_167 : decode prog_1_method_1_code 167 = .ok (.new 23, 3) := by decide +kernel
theorem d_BB_init_170 : decode prog_1_method_1_code 170 = .ok (.dup, 1) := by decide +kernel
theorem d_BB_init_171 : decode prog_1_method_1_code 171 = .ok (.invokespecial 25, 3) := by decide +kernel
theorem d_BB_init_174 : decode prog_1_method_1_code 174 = .ok (.aastore, 1) := by decide +kernel
theorem d_BB_init_175 : decode prog_1_method_1_code 175 = .ok (.iinc 1 1, 3) := by decide +kernel
theorem d_BB_init_178 : decode prog_1_method_1_code 178 = .ok (.goto (-21), 3) := by decide +kernel
theorem d_BB_init_181 : decode prog_1_method_1_code 181 = .ok (.return_, 1) := by decide +kernel
theorem d_BB_write_0 : decode prog_1_method_2_code 0 = .ok (.iload_n 1, 1) := by decide +kernel
theorem d_BB_write_1 : decode prog_1_method_2_code 1 = .ok (.iconst 1, 1) := by decide +kernel
theorem d_BB_write_2 : decode prog_1_method_2_code 2 = .ok (.if_icmp .lt 9, 3) := by decide +kernel
theorem d_BB_write_5 : decode prog_1_method_2_code 5 = .ok (.iload_n 1, 1) := by decide +kernel
theorem d_BB_write_6 : decode prog_1_method_2_code 6 = .ok (.bipush 8, 2) := by decide +kernel
theorem d_BB_write_8 : decode prog_1_method_2_code 8 = .ok (.if_icmp .le 6, 3) := by decide +kernel
theorem d_BB_write_11 : decode prog_1_method_2_code 11 = .ok (.bipush (-2), 2) := by decide +kernel
theorem d_BB_write_13 : decode prog_1_method_2_code 13 = .ok (.ireturn, 1) := by decide +kernel
theorem d_BB_write_14 : decode prog_1_method_2_code 14 = .ok (.aload_n 0, 1) := by decide +kernel
theorem d_BB_write_15 : decode prog_1_method_2_code 15 = .ok (.getfield 10, 3) := by decide +kernel
theorem d_BB_write_18 : decode prog_1_method_2_code 18 = .ok (.iload_n 1, 1) := by decide +kernel
theorem d_BB_write_19 : decode prog_1_method_2_code 19 = .ok (.invokevirtual 79, 3) := by decide +kernel
theorem d_BB_write_22 : decode prog_1_method_2_code 22 = .ok (.ifCond .eq 15, 3) := by decide +kernel
theorem d_BB_write_25 : decode prog_1_method_2_code 25 = .ok (.aload_n 0, 1) := by decide +kernel
theorem d_BB_write_26 : decode prog_1_method_2_code 26 = .ok (.getfield 10, 3) := by decide +kernel
theorem d_BB_write_29 : decode prog_1_method_2_code 29 = .ok (.iload_n 1, 1) := by decide +kernel
theorem d_BB_write_30 : decode prog_1_method_2_code 30 = .ok (.lload_n 2, 1) := by decide +kernel
theorem d_BB_write_31 : decode prog_1_method_2_code 31 = .ok (.invokevirtual 83, 3) := by decide +kernel
theorem d_BB_write_34 : decode prog_1_method_2_code 34 = .ok (.goto 5, 3) := by decide +kernel
theorem d_BB_write_37 : decode prog_1_method_2_code 37 = .ok (.bipush (-4), 2) := by decide +kernel
theorem d_BB_write_39 : decode prog_1_method_2_code 39 = .ok (.ireturn, 1) := by decide +kernel
theorem d_BB_wipe_0 : decode prog_1_method_3_code 0 = .ok (.aload_n 0, 1) := by decide +kernel
theorem d_BB_wipe_1 : decode prog_1_method_3_code 1 = .ok (.getfield 10, 3) := by decide +kernel
theorem d_BB_wipe_4 : decode prog_1_method_3_code 4 = .ok (.invokevirtual 87, 3) := by decide +kernel
theorem d_BB_wipe_7 : decode prog_1_method_3_code 7 = .ok (.ireturn, 1) := by decide +kernel
theorem d_BB_fault_0 : decode prog_1_method_4_code 0 = .ok (.aload_n 0, 1) := by decide +kernel
theorem d_BB_fault_1 : decode prog_1_method_4_code 1 = .ok (.getfield 10, 3) := by decide +kernel
theorem d_BB_fault_4 : decode prog_1_method_4_code 4 = .ok (.invokevirtual 91, 3) := by decide +kernel
theorem d_BB_fault_7 : decode prog_1_method_4_code 7 = .ok (.ireturn, 1) := by decide +kernel
theorem d_BB_organ_0 : decode prog_1_method_5_code 0 = .ok (.aload_n 0, 1) := by decide +kernel
theorem d_BB_organ_1 : decode prog_1_method_5_code 1 = .ok (.getfield 10, 3) := by decide +kernel
theorem d_BB_organ_4 : decode prog_1_method_5_code 4 = .ok (.invokevirtual 91, 3) := by decide +kernel
theorem d_BB_organ_7 : decode prog_1_method_5_code 7 = .ok (.bipush (-9), 2) := by decide +kernel
theorem d_BB_organ_9 : decode prog_1_method_5_code 9 = .ok (.if_icmp .eq 6, 3) := by decide +kernel
theorem d_BB_organ_12 : decode prog_1_method_5_code 12 = .ok (.bipush (-3), 2) := by decide +kernel
theorem d_BB_organ_14 : decode prog_1_method_5_code 14 = .ok (.ireturn, 1) := by decide +kernel
theorem d_BB_organ_15 : decode prog_1_method_5_code 15 = .ok (.aload_n 0, 1) := by decide +kernel
theorem d_BB_organ_16 : decode prog_1_method_5_code 16 = .ok (.getfield 19, 3) := by decide +kernel
theorem d_BB_organ_19 : decode prog_1_method_5_code 19 = .ok (.aload_n 0, 1) := by decide +kernel
theorem d_BB_organ_20 : decode prog_1_method_5_code 20 = .ok (.getfield 10, 3) := by decide +kernel
theorem d_BB_organ_23 : decode prog_1_method_5_code 23 = .ok (.invokevirtual 94, 3) := by decide +kernel
theorem d_BB_organ_26 : decode prog_1_method_5_code 26 = .ok (.aload_n 0, 1) := by decide +kernel
theorem d_BB_organ_27 : decode prog_1_method_5_code 27 = .ok (.getfield 26, 3) := by decide +kernel
theorem d_BB_organ_30 : decode prog_1_method_5_code 30 = .ok (.aload_n 0, 1) := by decide +kernel
theorem d_BB_organ_31 : decode prog_1_method_5_code 31 = .ok (.getfield 10, 3) := by decide +kernel
theorem d_BB_organ_34 : decode prog_1_method_5_code 34 = .ok (.invokevirtual 98, 3) := by decide +kernel
theorem d_BB_organ_37 : decode prog_1_method_5_code 37 = .ok (.iconst 0, 1) := by decide +kernel
theorem d_BB_organ_38 : decode prog_1_method_5_code 38 = .ok (.istore_n 1, 1) := by decide +kernel
theorem d_BB_organ_39 : decode prog_1_method_5_code 39 = .ok (.iload_n 1, 1) := by decide +kernel
theorem d_BB_organ_40 : decode prog_1_method_5_code 40 = .ok (.iconst 2, 1) := by decide +kernel
theorem d_BB_organ_41 : decode prog_1_method_5_code 41 = .ok (.if_icmp .ge 16, 3) := by decide +kernel
theorem d_BB_organ_44 : decode prog_1_method_5_code 44 = .ok (.aload_n 0, 1) := by decide +kernel
theorem d_BB_organ_45 : decode prog_1_method_5_code 45 = .ok (.getfield 75, 3) := by decide +kernel
theorem d_BB_organ_48 : decode prog_1_method_5_code 48 = .ok (.iload_n 1, 1) := by decide +kernel
theorem d_BB_organ_49 : decode prog_1_method_5_code 49 = .ok (.iconst 0, 1) := by decide +kernel
theorem d_BB_organ_50 : decode prog_1_method_5_code 50 = .ok (.bastore, 1) := by decide +kernel
theorem d_BB_organ_51 : decode prog_1_method_5_code 51 = .ok (.iinc 1 1, 3) := by decide +kernel
theorem d_BB_organ_54 : decode prog_1_method_5_code 54 = .ok (.goto (-15), 3) := by decide +kernel
theorem d_BB_organ_57 : decode prog_1_method_5_code 57 = .ok (.bipush 100, 2) := by decide +kernel
theorem d_BB_organ_59 : decode prog_1_method_5_code 59 = .ok (.aload_n 0, 1) := by decide +kernel
theorem d_BB_organ_60 : decode prog_1_method_5_code 60 = .ok (.getfield 19, 3) := by decide +kernel
theorem d_BB_organ_63 : decode prog_1_method_5_code 63 = .ok (.getfield 99, 3) := by decide +kernel
theorem d_BB_organ_66 : decode prog_1_method_5_code 66 = .ok (.imul, 1) := by decide +kernel
theorem d_BB_organ_67 : decode prog_1_method_5_code 67 = .ok (.aload_n 0, 1) := by decide +kernel
theorem d_BB_organ_68 : decode prog_1_method_5_code 68 = .ok (.getfield 26, 3) := by decide +kernel
theorem d_BB_organ_71 : decode prog_1_method_5_code 71 = .ok (.getfield 103, 3) := by decide +kernel
theorem d_BB_organ_74 : decode prog_1_method_5_code 74 = .ok (.iadd, 1) := by decide +kernel
theorem d_BB_organ_75 : decode prog_1_method_5_code 75 = .ok (.ireturn, 1) := by decide +kernel
theorem d_BB_drinks_0 : decode prog_1_method_6_code 0 = .ok (.aload_n 0, 1) := by decide +kernel
theorem d_BB_drinks_1 : decode prog_1_method_6_code 1 = .ok (.getfield 19, 3) := by decide +kernel
theorem d_BB_drinks_4 : decode prog_1_method_6_code 4 = .ok (.iload_n 1, 1) := by decide +kernel
theorem d_BB_drinks_5 : decode prog_1_method_6_code 5 = .ok (.invokevirtual 104, 3) := by decide +kernel
theorem d_BB_drinks_8 : decode prog_1_method_6_code 8 = .ok (.ifCond .eq 15, 3) := by decide +kernel
theorem d_BB_drinks_11 : decode prog_1_method_6_code 11 = .ok (.aload_n 0, 1) := by decide +kernel
theorem d_BB_drinks_12 : decode prog_1_method_6_code 12 = .ok (.getfield 19, 3) := by decide +kernel
theorem d_BB_drinks_15 : decode prog_1_method_6_code 15 = .ok (.getfield 107, 3) := by decide +kernel
theorem d_BB_drinks_18 : decode prog_1_method_6_code 18 = .ok (.iload_n 1, 1) := by decide +kernel
theorem d_BB_drinks_19 : decode prog_1_method_6_code 19 = .ok (.iaload, 1) := by decide +kernel
theorem d_BB_drinks_20 : decode prog_1_method_6_code 20 = .ok (.goto 4, 3) := by decide +kernel
theorem d_BB_drinks_23 : decode prog_1_method_6_code 23 = .ok (.iconst (-1), 1) := by decide +kernel
theorem d_BB_drinks_24 : decode prog_1_method_6_code 24 = .ok (.ireturn, 1) := by decide +kernel
theorem d_BB_sounds_0 : decode prog_1_method_7_code 0 = .ok (.aload_n 0, 1) := by decide +kernel
theorem d_BB_sounds_1 : decode prog_1_method_7_code 1 = .ok (.getfield 19, 3) := by decide +kernel
theorem d_BB_sounds_4 : decode prog_1_method_7_code 4 = .ok (.iload_n 1, 1) := by decide +kernel
theorem d_BB_sounds_5 : decode prog_1_method_7_code 5 = .ok (.iload_n 2, 1) := by decide +kernel
theorem d_BB_sounds_6 : decode prog_1_method_7_code 6 = .ok (.invokevirtual 111, 3) := by decide +kernel
theorem d_BB_sounds_9 : decode prog_1_method_7_code 9 = .ok (.ifCond .ne 5, 3) := by decide +kernel
theorem d_BB_sounds_12 : decode prog_1_method_7_code 12 = .ok (.iconst (-1), 1) := by decide +kernel
theorem d_BB_sounds_13 : decode prog_1_method_7_code 13 = .ok (.ireturn, 1) := by decide +kernel
theorem d_BB_sounds_14 : decode prog_1_method_7_code 14 = .ok (.aload_n 0, 1) := by decide +kernel
theorem d_BB_sounds_15 : decode prog_1_method_7_code 15 = .ok (.getfield 19, 3) := by decide +kernel
theorem d_BB_sounds_18 : decode prog_1_method_7_code 18 = .ok (.iload_n 1, 1) := by decide +kernel
theorem d_BB_sounds_19 : decode prog_1_method_7_code 19 = .ok (.iload_n 2, 1) := by decide +kernel
theorem d_BB_sounds_20 : decode prog_1_method_7_code 20 = .ok (.invokevirtual 115, 3) := by decide +kernel
theorem d_BB_sounds_23 : decode prog_1_method_7_code 23 = .ok (.ifCond .eq 7, 3) := by decide +kernel
theorem d_BB_sounds_26 : decode prog_1_method_7_code 26 = .ok (.iconst 1, 1) := by decide +kernel
theorem d_BB_sounds_27 : decode prog_1_method_7_code 27 = .ok (.goto 4, 3) := by decide +kernel
theorem d_BB_sounds_30 : decode prog_1_method_7_code 30 = .ok (.iconst 0, 1) := by decide +kernel
theorem d_BB_sounds_31 : decode prog_1_method_7_code 31 = .ok (.ireturn, 1) := by decide +kernel
theorem d_BB_person_0 : decode prog_1_method_8_code 0 = .ok (.aload_n 0, 1) := by decide +kernel
theorem d_BB_person_1 : decode prog_1_method_8_code 1 = .ok (.getfield 26, 3) := by decide +kernel
theorem d_BB_person_4 : decode prog_1_method_8_code 4 = .ok (.iload_n 1, 1) := by decide +kernel
theorem d_BB_person_5 : decode prog_1_method_8_code 5 = .ok (.invokevirtual 118, 3) := by decide +kernel
theorem d_BB_person_8 : decode prog_1_method_8_code 8 = .ok (.ifCond .ne 5, 3) := by decide +kernel
theorem d_BB_person_11 : decode prog_1_method_8_code 11 = .ok (.iconst (-1), 1) := by decide +kernel
theorem d_BB_person_12 : decode prog_1_method_8_code 12 = .ok (.ireturn, 1) := by decide +kernel
theorem d_BB_person_13 : decode prog_1_method_8_code 13 = .ok (.iload_n 2, 1) := by decide +kernel
theorem d_BB_person_14 : decode prog_1_method_8_code 14 = .ok (.tableswitch 92 0 4 #[34, 44, 54, 64, 74], 34) := by decide +kernel
theorem d_BB_person_48 : decode prog_1_method_8_code 48 = .ok (.aload_n 0, 1) := by decide +kernel
theorem d_BB_person_49 : decode prog_1_method_8_code 49 = .ok (.getfield 26, 3) := by decide +kernel
theorem d_BB_person_52 : decode prog_1_method_8_code 52 = .ok (.getfield 119, 3) := by decide +kernel
theorem d_BB_person_55 : decode prog_1_method_8_code 55 = .ok (.iload_n 1, 1) := by decide +kernel
theorem d_BB_person_56 : decode prog_1_method_8_code 56 = .ok (.iaload, 1) := by decide +kernel
theorem d_BB_person_57 : decode prog_1_method_8_code 57 = .ok (.ireturn, 1) := by decide +kernel
theorem d_BB_person_58 : decode prog_1_method_8_code 58 = .ok (.aload_n 0, 1) := by decide +kernel
theorem d_BB_person_59 : decode prog_1_method_8_code 59 = .ok (.getfield 26, 3) := by decide +kernel
theorem d_BB_person_62 : decode prog_1_method_8_code 62 = .ok (.getfield 122, 3) := by decide +kernel
theorem d_BB_person_65 : decode prog_1_method_8_code 65 = .ok (.iload_n 1, 1) := by decide +kernel
theorem d_BB_person_66 : decode prog_1_method_8_code 66 = .ok (.iaload, 1) := by decide +kernel
theorem d_BB_person_67 : decode prog_1_method_8_code 67 = .ok (.ireturn, 1) := by decide +kernel
theorem d_BB_person_68 : decode prog_1_method_8_code 68 = .ok (.aload_n 0, 1) := by decide +kernel
theorem d_BB_person_69 : decode prog_1_method_8_code 69 = .ok (.getfield 26, 3) := by decide +kernel
theorem d_BB_person_72 : decode prog_1_method_8_code 72 = .ok (.getfield 125, 3) := by decide +kernel
theorem d_BB_person_75 : decode prog_1_method_8_code 75 = .ok (.iload_n 1, 1) := by decide +kernel
theorem d_BB_person_76 : decode prog_1_method_8_code 76 = .ok (.iaload, 1) := by decide +kernel
theorem d_BB_person_77 : decode prog_1_method_8_code 77 = .ok (.ireturn, 1) := by decide +kernel
theorem d_BB_person_78 : decode prog_1_method_8_code 78 = .ok (.aload_n 0, 1) := by decide +kernel
theorem d_BB_person_79 : decode prog_1_method_8_code 79 = .ok (.getfield 26, 3) := by decide +kernel
theorem d_BB_person_82 : decode prog_1_method_8_code 82 = .ok (.getfield 128, 3) := by decide +kernel
theorem d_BB_person_85 : decode prog_1_method_8_code 85 = .ok (.iload_n 1, 1) := by decide +kernel
theorem d_BB_person_86 : decode prog_1_method_8_code 86 = .ok (.iaload, 1) := by decide +kernel
theorem d_BB_person_87 : decode prog_1_method_8_code 87 = .ok (.ireturn, 1) := by decide +kernel
theorem d_BB_person_88 : decode prog_1_method_8_code 88 = .ok (.aload_n 0, 1) := by decide +kernel
theorem d_BB_person_89 : decode prog_1_method_8_code 89 = .ok (.getfield 26, 3) := by decide +kernel
theorem d_BB_person_92 : decode prog_1_method_8_code 92 = .ok (.getfield 131, 3) := by decide +kernel
theorem d_BB_person_95 : decode prog_1_method_8_code 95 = .ok (.iload_n 1, 1) := by decide +kernel
theorem d_BB_person_96 : decode prog_1_method_8_code 96 = .ok (.baload, 1) := by decide +kernel
theorem d_BB_person_97 : decode prog_1_method_8_code 97 = .ok (.ifCond .eq 7, 3) := by decide +kernel
theorem d_BB_person_100 : decode prog_1_method_8_code 100 = .ok (.iconst 1, 1) := by decide +kernel
theorem d_BB_person_101 : decode prog_1_method_8_code 101 = .ok (.goto 4, 3) := by decide +kernel
theorem d_BB_person_104 : decode prog_1_method_8_code 104 = .ok (.iconst 0, 1) := by decide +kernel
theorem d_BB_person_105 : decode prog_1_method_8_code 105 = .ok (.ireturn, 1) := by decide +kernel
theorem d_BB_person_106 : decode prog_1_method_8_code 106 = .ok (.bipush (-2), 2) := by decide +kernel
theorem d_BB_person_108 : decode prog_1_method_8_code 108 = .ok (.ireturn, 1) := by decide +kernel
theorem d_BB_seat_0 : decode prog_1_method_9_code 0 = .ok (.aload_n 0, 1) := by decide +kernel
theorem d_BB_seat_1 : decode prog_1_method_9_code 1 = .ok (.getfield 26, 3) := by decide +kernel
theorem d_BB_seat_4 : decode prog_1_method_9_code 4 = .ok (.iload_n 1, 1) := by decide +kernel
theorem d_BB_seat_5 : decode prog_1_method_9_code 5 = .ok (.invokevirtual 118, 3) := by decide +kernel
theorem d_BB_seat_8 : decode prog_1_method_9_code 8 = .ok (.ifCond .eq 14, 3) := by decide +kernel
theorem d_BB_seat_11 : decode prog_1_method_9_code 11 = .ok (.aload_n 0, 1) := by decide +kernel
theorem d_BB_seat_12 : decode prog_1_method_9_code 12 = .ok (.getfield 19, 3) := by decide +kernel
theorem d_BB_seat_15 : decode prog_1_method_9_code 15 = .ok (.iload_n 2, 1) := by decide +kernel
theorem d_BB_seat_16 : decode prog_1_method_9_code 16 = .ok (.invokevirtual 104, 3) := by decide +kernel
theorem d_BB_seat_19 : decode prog_1_method_9_code 19 = .ok (.ifCond .ne 5, 3) := by decide +kernel
theorem d_BB_seat_22 : decode prog_1_method_9_code 22 = .ok (.iconst (-1), 1) := by decide +kernel
theorem d_BB_seat_23 : decode prog_1_method_9_code 23 = .ok (.ireturn, 1) := by decide +kernel
theorem d_BB_seat_24 : decode prog_1_method_9_code 24 = .ok (.aload_n 0, 1) := by decide +kernel
theorem d_BB_seat_25 : decode prog_1_method_9_code 25 = .ok (.getfield 26, 3) := by decide +kernel
theorem d_BB_seat_28 : decode prog_1_method_9_code 28 = .ok (.getfield 125, 3) := by decide +kernel
theorem d_BB_seat_31 : decode prog_1_method_9_code 31 = .ok (.iload_n 1, 1) := by decide +kernel
theorem d_BB_seat_32 : decode prog_1_method_9_code 32 = .ok (.iaload, 1) := by decide +kernel
theorem d_BB_seat_33 : decode prog_1_method_9_code 33 = .ok (.istore_n 3, 1) := by decide +kernel
theorem d_BB_seat_34 : decode prog_1_method_9_code 34 = .ok (.aload_n 0, 1) := by decide +kernel
theorem d_BB_seat_35 : decode prog_1_method_9_code 35 = .ok (.getfield 26, 3) := by decide +kernel
theorem d_BB_seat_38 : decode prog_1_method_9_code 38 = .ok (.getfield 125, 3) := by decide +kernel
theorem d_BB_seat_41 : decode prog_1_method_9_code 41 = .ok (.iload_n 1, 1) := by decide +kernel
theorem d_BB_seat_42 : decode prog_1_method_9_code 42 = .ok (.iload_n 2, 1) := by decide +kernel
theorem d_BB_seat_43 : decode prog_1_method_9_code 43 = .ok (.iastore, 1) := by decide +kernel
theorem d_BB_seat_44 : decode prog_1_method_9_code 44 = .ok (.iload_n 3, 1) := by decide +kernel
theorem d_BB_seat_45 : decode prog_1_method_9_code 45 = .ok (.ireturn, 1) := by decide +kernel
theorem d_BB_phase_0 : decode prog_1_method_10_code 0 = .ok (.aload_n 0, 1) := by decide +kernel
theorem d_BB_phase_1 : decode prog_1_method_10_code 1 = .ok (.getfield 26, 3) := by decide +kernel
theorem d_BB_phase_4 : decode prog_1_method_10_code 4 = .ok (.iload_n 1, 1) := by decide +kernel
theorem d_BB_phase_5 : decode prog_1_method_10_code 5 = .ok (.invokevirtual 118, 3) := by decide +kernel
theorem d_BB_phase_8 : decode prog_1_method_10_code 8 = .ok (.ifCond .ne 5, 3) := by decide +kernel
theorem d_BB_phase_11 : decode prog_1_method_10_code 11 = .ok (.iconst (-1), 1) := by decide +kernel
theorem d_BB_phase_12 : decode prog_1_method_10_code 12 = .ok (.ireturn, 1) := by decide +kernel
theorem d_BB_phase_13 : decode prog_1_method_10_code 13 = .ok (.iload_n 2, 1) := by decide +kernel
theorem d_BB_phase_14 : decode prog_1_method_10_code 14 = .ok (.ifCond .lt 16, 3) := by decide +kernel
theorem d_BB_phase_17 : decode prog_1_method_10_code 17 = .ok (.iload_n 2, 1) := by decide +kernel
theorem d_BB_phase_18 : decode prog_1_method_10_code 18 = .ok (.aload_n 0, 1) := by decide +kernel
theorem d_BB_phase_19 : decode prog_1_method_10_code 19 = .ok (.getfield 26, 3) := by decide +kernel
theorem d_BB_phase_22 : decode prog_1_method_10_code 22 = .ok (.getfield 119, 3) := by decide +kernel
theorem d_BB_phase_25 : decode prog_1_method_10_code 25 = .ok (.iload_n 1, 1) := by decide +kernel
theorem d_BB_phase_26 : decode prog_1_method_10_code 26 = .ok (.iaload, 1) := by decide +kernel
theorem d_BB_phase_27 : decode prog_1_method_10_code 27 = .ok (.if_icmp .le 6, 3) := by decide +kernel
theorem d_BB_phase_30 : decode prog_1_method_10_code 30 = .ok (.bipush (-2), 2) := by decide +kernel
theorem d_BB_phase_32 : decode prog_1_method_10_code 32 = .ok (.ireturn, 1) := by decide +kernel
theorem d_BB_phase_33 : decode prog_1_method_10_code 33 = .ok (.aload_n 0, 1) := by decide +kernel
theorem d_BB_phase_34 : decode prog_1_method_10_code 34 = .ok (.getfield 26, 3) := by decide +kernel
theorem d_BB_phase_37 : decode prog_1_method_10_code 37 = .ok (.getfield 128, 3) := by decide +kernel
theorem d_BB_phase_40 : decode prog_1_method_10_code 40 = .ok (.iload_n 1, 1) := by decide +kernel
theorem d_BB_phase_41 : decode prog_1_method_10_code 41 = .ok (.iaload, 1) := by decide +kernel
theorem d_BB_phase_42 : decode prog_1_method_10_code 42 = .ok (.istore_n 3, 1) := by decide +kernel
theorem d_BB_phase_43 : decode prog_1_method_10_code 43 = .ok (.aload_n 0, 1) := by decide +kernel
theorem d_BB_phase_44 : decode prog_1_method_10_code 44 = .ok (.getfield 26, 3) := by decide +kernel
theorem d_BB_phase_47 : decode prog_1_method_10_code 47 = .ok (.getfield 128, 3) := by decide +kernel
theorem d_BB_phase_50 : decode prog_1_method_10_code 50 = .ok (.iload_n 1, 1) := by decide +kernel
theorem d_BB_phase_51 : decode prog_1_method_10_code 51 = .ok (.iload_n 2, 1) := by decide +kernel
theorem d_BB_phase_52 : decode prog_1_method_10_code 52 = .ok (.iastore, 1) := by decide +kernel
theorem d_BB_phase_53 : decode prog_1_method_10_code 53 = .ok (.iload_n 3, 1) := by decide +kernel
theorem d_BB_phase_54 : decode prog_1_method_10_code 54 = .ok (.ireturn, 1) := by decide +kernel
theorem d_BB_bribe_0 : decode prog_1_method_11_code 0 = .ok (.aload_n 0, 1) := by decide +kernel
theorem d_BB_bribe_1 : decode prog_1_method_11_code 1 = .ok (.getfield 26, 3) := by decide +kernel
theorem d_BB_bribe_4 : decode prog_1_method_11_code 4 = .ok (.iload_n 1, 1) := by decide +kernel
theorem d_BB_bribe_5 : decode prog_1_method_11_code 5 = .ok (.invokevirtual 118, 3) := by decide +kernel
theorem d_BB_bribe_8 : decode prog_1_method_11_code 8 = .ok (.ifCond .ne 5, 3) := by decide +kernel
theorem d_BB_bribe_11 : decode prog_1_method_11_code 11 = .ok (.iconst (-1), 1) := by decide +kernel
theorem d_BB_bribe_12 : decode prog_1_method_11_code 12 = .ok (.ireturn, 1) := by decide +kernel
theorem d_BB_bribe_13 : decode prog_1_method_11_code 13 = .ok (.aload_n 0, 1) := by decide +kernel
theorem d_BB_bribe_14 : decode prog_1_method_11_code 14 = .ok (.getfield 26, 3) := by decide +kernel
theorem d_BB_bribe_17 : decode prog_1_method_11_code 17 = .ok (.getfield 131, 3) := by decide +kernel
theorem d_BB_bribe_20 : decode prog_1_method_11_code 20 = .ok (.iload_n 1, 1) := by decide +kernel
theorem d_BB_bribe_21 : decode prog_1_method_11_code 21 = .ok (.baload, 1) := by decide +kernel
theorem d_BB_bribe_22 : decode prog_1_method_11_code 22 = .ok (.istore_n 3, 1) := by decide +kernel
theorem d_BB_bribe_23 : decode prog_1_method_11_code 23 = .ok (.aload_n 0, 1) := by decide +kernel
theorem d_BB_bribe_24 : decode prog_1_method_11_code 24 = .ok (.getfield 26, 3) := by decide +kernel
theorem d_BB_bribe_27 : decode prog_1_method_11_code 27 = .ok (.getfield 131, 3) := by decide +kernel
theorem d_BB_bribe_30 : decode prog_1_method_11_code 30 = .ok (.iload_n 1, 1) := by decide +kernel
theorem d_BB_bribe_31 : decode prog_1_method_11_code 31 = .ok (.iload_n 2, 1) := by decide +kernel
theorem d_BB_bribe_32 : decode prog_1_method_11_code 32 = .ok (.bastore, 1) := by decide +kernel
theorem d_BB_bribe_33 : decode prog_1_method_11_code 33 = .ok (.iload_n 3, 1) := by decide +kernel
theorem d_BB_bribe_34 : decode prog_1_method_11_code 34 = .ok (.iload_n 2, 1) := by decide +kernel
theorem d_BB_bribe_35 : decode prog_1_method_11_code 35 = .ok (.if_icmp .ne 7, 3) := by decide +kernel
theorem d_BB_bribe_38 : decode prog_1_method_11_code 38 = .ok (.iconst 0, 1) := by decide +kernel
theorem d_BB_bribe_39 : decode prog_1_method_11_code 39 = .ok (.goto 4, 3) := by decide +kernel
theorem d_BB_bribe_42 : decode prog_1_method_11_code 42 = .ok (.iconst 1, 1) := by decide +kernel
theorem d_BB_bribe_43 : decode prog_1_method_11_code 43 = .ok (.ireturn, 1) := by decide +kernel
theorem d_BB_grow_0 : decode prog_1_method_12_code 0 = .ok (.aload_n 0, 1) := by decide +kernel
theorem d_BB_grow_1 : decode prog_1_method_12_code 1 = .ok (.getfield 26, 3) := by decide +kernel
theorem d_BB_grow_4 : decode prog_1_method_12_code 4 = .ok (.iload_n 1, 1) := by decide +kernel
theorem d_BB_grow_5 : decode prog_1_method_12_code 5 = .ok (.invokevirtual 118, 3) := by decide +kernel
theorem d_BB_grow_8 : decode prog_1_method_12_code 8 = .ok (.ifCond .ne 5, 3) := by decide +kernel
theorem d_BB_grow_11 : decode prog_1_method_12_code 11 = .ok (.iconst (-1), 1) := by decide +kernel
theorem d_BB_grow_12 : decode prog_1_method_12_code 12 = .ok (.ireturn, 1) := by decide +kernel
theorem d_BB_grow_13 : decode prog_1_method_12_code 13 = .ok (.aload_n 0, 1) := by decide +kernel
theorem d_BB_grow_14 : decode prog_1_method_12_code 14 = .ok (.getfield 26, 3) := by decide +kernel
theorem d_BB_grow_17 : decode prog_1_method_12_code 17 = .ok (.getfield 119, 3) := by decide +kernel
theorem d_BB_grow_20 : decode prog_1_method_12_code 20 = .ok (.iload_n 1, 1) := by decide +kernel
theorem d_BB_grow_21 : decode prog_1_method_12_code 21 = .ok (.iaload, 1) := by decide +kernel
theorem d_BB_grow_22 : decode prog_1_method_12_code 22 = .ok (.bipush 9, 2) := by decide +kernel
theorem d_BB_grow_24 : decode prog_1_method_12_code 24 = .ok (.if_icmp .lt 6, 3) := by decide +kernel
theorem d_BB_grow_27 : decode prog_1_method_12_code 27 = .ok (.bipush (-3), 2) := by decide +kernel
theorem d_BB_grow_29 : decode prog_1_method_12_code 29 = .ok (.ireturn, 1) := by decide +kernel
theorem d_BB_grow_30 : decode prog_1_method_12_code 30 = .ok (.aload_n 0, 1) := by decide +kernel
theorem d_BB_grow_31 : decode prog_1_method_12_code 31 = .ok (.getfield 26, 3) := by decide +kernel
theorem d_BB_grow_34 : decode prog_1_method_12_code 34 = .ok (.getfield 119, 3) := by decide +kernel
theorem d_BB_grow_37 : decode prog_1_method_12_code 37 = .ok (.iload_n 1, 1) := by decide +kernel
theorem d_BB_grow_38 : decode prog_1_method_12_code 38 = .ok (.dup2, 1) := by decide +kernel
theorem d_BB_grow_39 : decode prog_1_method_12_code 39 = .ok (.iaload, 1) := by decide +kernel
theorem d_BB_grow_40 : decode prog_1_method_12_code 40 = .ok (.iconst 1, 1) := by decide +kernel
theorem d_BB_grow_41 : decode prog_1_method_12_code 41 = .ok (.iadd, 1) := by decide +kernel
theorem d_BB_grow_42 : decode prog_1_method_12_code 42 = .ok (.iastore, 1) := by decide +kernel
theorem d_BB_grow_43 : decode prog_1_method_12_code 43 = .ok (.aload_n 0, 1) := by decide +kernel
theorem d_BB_grow_44 : decode prog_1_method_12_code 44 = .ok (.getfield 26, 3) := by decide +kernel
theorem d_BB_grow_47 : decode prog_1_method_12_code 47 = .ok (.getfield 119, 3) := by decide +kernel
theorem d_BB_grow_50 : decode prog_1_method_12_code 50 = .ok (.iload_n 1, 1) := by decide +kernel
theorem d_BB_grow_51 : decode prog_1_method_12_code 51 = .ok (.iaload, 1) := by decide +kernel
theorem d_BB_grow_52 : decode prog_1_method_12_code 52 = .ok (.ireturn, 1) := by decide +kernel
theorem d_BB_store_0 : decode prog_1_method_13_code 0 = .ok (.iload_n 1, 1) := by decide +kernel
theorem d_BB_store_1 : decode prog_1_method_13_code 1 = .ok (.ifCond .lt 9, 3) := by decide +kernel
theorem d_BB_store_4 : decode prog_1_method_13_code 4 = .ok (.iload_n 1, 1) := by decide +kernel
theorem d_BB_store_5 : decode prog_1_method_13_code 5 = .ok (.bipush 9, 2) := by decide +kernel
theorem d_BB_store_7 : decode prog_1_method_13_code 7 = .ok (.if_icmp .le 6, 3) := by decide +kernel
theorem d_BB_store_10 : decode prog_1_method_13_code 10 = .ok (.bipush (-2), 2) := by decide +kernel
theorem d_BB_store_12 : decode prog_1_method_13_code 12 = .ok (.ireturn, 1) := by decide +kernel
theorem d_BB_store_13 : decode prog_1_method_13_code 13 = .ok (.aload_n 0, 1) := by decide +kernel
theorem d_BB_store_14 : decode prog_1_method_13_code 14 = .ok (.getfield 26, 3) := by decide +kernel
theorem d_BB_store_17 : decode prog_1_method_13_code 17 = .ok (.getfield 134, 3) := by decide +kernel
theorem d_BB_store_20 : decode prog_1_method_13_code 20 = .ok (.istore_n 2, 1) := by decide +kernel
theorem d_BB_store_21 : decode prog_1_method_13_code 21 = .ok (.aload_n 0, 1) := by decide +kernel
theorem d_BB_store_22 : decode prog_1_method_13_code 22 = .ok (.getfield 26, 3) := by decide +kernel
theorem d_BB_store_25 : decode prog_1_method_13_code 25 = .ok (.iload_n 1, 1) := by decide +kernel
theorem d_BB_store_26 : decode prog_1_method_13_code 26 = .ok (.putfield 134, 3) := by decide +kernel
theorem d_BB_store_29 : decode prog_1_method_13_code 29 = .ok (.iload_n 2, 1) := by decide +kernel
theorem d_BB_store_30 : decode prog_1_method_13_code 30 = .ok (.ireturn, 1) := by decide +kernel
theorem d_BB_late_0 : decode prog_1_method_14_code 0 = .ok (.iload_n 1, 1) := by decide +kernel
theorem d_BB_late_1 : decode prog_1_method_14_code 1 = .ok (.ifCond .lt 9, 3) := by decide +kernel
theorem d_BB_late_4 : decode prog_1_method_14_code 4 = .ok (.iload_n 1, 1) := by decide +kernel
theorem d_BB_late_5 : decode prog_1_method_14_code 5 = .ok (.bipush 99, 2) := by decide +kernel
theorem d_BB_late_7 : decode prog_1_method_14_code 7 = .ok (.if_icmp .le 6, 3) := by decide +kernel
theorem d_BB_late_10 : decode prog_1_method_14_code 10 = .ok (.bipush (-2), 2) := by decide +kernel
theorem d_BB_late_12 : decode prog_1_method_14_code 12 = .ok (.ireturn, 1) := by decide +kernel
theorem d_BB_late_13 : decode prog_1_method_14_code 13 = .ok (.aload_n 0, 1) := by decide +kernel
theorem d_BB_late_14 : decode prog_1_method_14_code 14 = .ok (.getfield 26, 3) := by decide +kernel
theorem d_BB_late_17 : decode prog_1_method_14_code 17 = .ok (.getfield 137, 3) := by decide +kernel
theorem d_BB_late_20 : decode prog_1_method_14_code 20 = .ok (.istore_n 2, 1) := by decide +kernel
theorem d_BB_late_21 : decode prog_1_method_14_code 21 = .ok (.aload_n 0, 1) := by decide +kernel
theorem d_BB_late_22 : decode prog_1_method_14_code 22 = .ok (.getfield 26, 3) := by decide +kernel
theorem d_BB_late_25 : decode prog_1_method_14_code 25 = .ok (.iload_n 1, 1) := by decide +kernel
theorem d_BB_late_26 : decode prog_1_method_14_code 26 = .ok (.putfield 137, 3) := by decide +kernel
theorem d_BB_late_29 : decode prog_1_method_14_code 29 = .ok (.iload_n 2, 1) := by decide +kernel
theorem d_BB_late_30 : decode prog_1_method_14_code 30 = .ok (.ireturn, 1) := by decide +kernel
theorem d_BB_gives_0 : decode prog_1_method_15_code 0 = .ok (.aload_n 0, 1) := by decide +kernel
theorem d_BB_gives_1 : decode prog_1_method_15_code 1 = .ok (.getfield 26, 3) := by decide +kernel
theorem d_BB_gives_4 : decode prog_1_method_15_code 4 = .ok (.iload_n 1, 1) := by decide +kernel
theorem d_BB_gives_5 : decode prog_1_method_15_code 5 = .ok (.invokevirtual 118, 3) := by decide +kernel
theorem d_BB_gives_8 : decode prog_1_method_15_code 8 = .ok (.ifCond .eq 14, 3) := by decide +kernel
theorem d_BB_gives_11 : decode prog_1_method_15_code 11 = .ok (.aload_n 0, 1) := by decide +kernel
theorem d_BB_gives_12 : decode prog_1_method_15_code 12 = .ok (.getfield 19, 3) := by decide +kernel
theorem d_BB_gives_15 : decode prog_1_method_15_code 15 = .ok (.iload_n 2, 1) := by decide +kernel
theorem d_BB_gives_16 : decode prog_1_method_15_code 16 = .ok (.invokevirtual 140, 3) := by decide +kernel
theorem d_BB_gives_19 : decode prog_1_method_15_code 19 = .ok (.ifCond .ne 5, 3) := by decide +kernel
theorem d_BB_gives_22 : decode prog_1_method_15_code 22 = .ok (.iconst (-1), 1) := by decide +kernel
theorem d_BB_gives_23 : decode prog_1_method_15_code 23 = .ok (.ireturn, 1) := by decide +kernel
theorem d_BB_gives_24 : decode prog_1_method_15_code 24 = .ok (.aload_n 0, 1) := by decide +kernel
theorem d_BB_gives_25 : decode prog_1_method_15_code 25 = .ok (.getfield 26, 3) := by decide +kernel
theorem d_BB_gives_28 : decode prog_1_method_15_code 28 = .ok (.iload_n 1, 1) := by decide +kernel
theorem d_BB_gives_29 : decode prog_1_method_15_code 29 = .ok (.iload_n 2, 1) := by decide +kernel
theorem d_BB_gives_30 : decode prog_1_method_15_code 30 = .ok (.aload_n 0, 1) := by decide +kernel
theorem d_BB_gives_31 : decode prog_1_method_15_code 31 = .ok (.getfield 26, 3) := by decide +kernel
theorem d_BB_gives_34 : decode prog_1_method_15_code 34 = .ok (.getfield 137, 3) := by decide +kernel
theorem d_BB_gives_37 : decode prog_1_method_15_code 37 = .ok (.iadd, 1) := by decide +kernel
theorem d_BB_gives_38 : decode prog_1_method_15_code 38 = .ok (.invokevirtual 143, 3) := by decide +kernel
theorem d_BB_gives_41 : decode prog_1_method_15_code 41 = .ok (.ireturn, 1) := by decide +kernel
theorem d_BB_air_0 : decode prog_1_method_16_code 0 = .ok (.aload_n 0, 1) := by decide +kernel
theorem d_BB_air_1 : decode prog_1_method_16_code 1 = .ok (.getfield 19, 3) := by decide +kernel
theorem d_BB_air_4 : decode prog_1_method_16_code 4 = .ok (.iload_n 1, 1) := by decide +kernel
theorem d_BB_air_5 : decode prog_1_method_16_code 5 = .ok (.iload_n 2, 1) := by decide +kernel
theorem d_BB_air_6 : decode prog_1_method_16_code 6 = .ok (.invokevirtual 111, 3) := by decide +kernel
theorem d_BB_air_9 : decode prog_1_method_16_code 9 = .ok (.ifCond .ne 5, 3) := by decide +kernel
theorem d_BB_air_12 : decode prog_1_method_16_code 12 = .ok (.iconst (-1), 1) := by decide +kernel
theorem d_BB_air_13 : decode prog_1_method_16_code 13 = .ok (.ireturn, 1) := by decide +kernel
theorem d_BB_air_14 : decode prog_1_method_16_code 14 = .ok (.aload_n 0, 1) := by decide +kernel
theorem d_BB_air_15 : decode prog_1_method_16_code 15 = .ok (.getfield 35, 3) := by decide +kernel
theorem d_BB_air_18 : decode prog_1_method_16_code 18 = .ok (.aload_n 0, 1) := by decide +kernel
theorem d_BB_air_19 : decode prog_1_method_16_code 19 = .ok (.getfield 26, 3) := by decide +kernel
theorem d_BB_air_22 : decode prog_1_method_16_code 22 = .ok (.iload_n 1, 1) := by decide +kernel
theorem d_BB_air_23 : decode prog_1_method_16_code 23 = .ok (.invokevirtual 147, 3) := by decide +kernel
theorem d_BB_air_26 : decode prog_1_method_16_code 26 = .ok (.aload_n 0, 1) := by decide +kernel
theorem d_BB_air_27 : decode prog_1_method_16_code 27 = .ok (.getfield 26, 3) := by decide +kernel
theorem d_BB_air_30 : decode prog_1_method_16_code 30 = .ok (.getfield 137, 3) := by decide +kernel
theorem d_BB_air_33 : decode prog_1_method_16_code 33 = .ok (.invokevirtual 151, 3) := by decide +kernel
theorem d_BB_air_36 : decode prog_1_method_16_code 36 = .ok (.aload_n 0, 1) := by decide +kernel
theorem d_BB_air_37 : decode prog_1_method_16_code 37 = .ok (.getfield 35, 3) := by decide +kernel
theorem d_BB_air_40 : decode prog_1_method_16_code 40 = .ok (.getfield 155, 3) := by decide +kernel
theorem d_BB_air_43 : decode prog_1_method_16_code 43 = .ok (.iload_n 2, 1) := by decide +kernel
theorem d_BB_air_44 : decode prog_1_method_16_code 44 = .ok (.iaload, 1) := by decide +kernel
theorem d_BB_air_45 : decode prog_1_method_16_code 45 = .ok (.ireturn, 1) := by decide +kernel
theorem d_BB_stored_0 : decode prog_1_method_17_code 0 = .ok (.aload_n 0, 1) := by decide +kernel
theorem d_BB_stored_1 : decode prog_1_method_17_code 1 = .ok (.getfield 19, 3) := by decide +kernel
theorem d_BB_stored_4 : decode prog_1_method_17_code 4 = .ok (.iload_n 1, 1) := by decide +kernel
theorem d_BB_stored_5 : decode prog_1_method_17_code 5 = .ok (.iload_n 2, 1) := by decide +kernel
theorem d_BB_stored_6 : decode prog_1_method_17_code 6 = .ok (.invokevirtual 111, 3) := by decide +kernel
theorem d_BB_stored_9 : decode prog_1_method_17_code 9 = .ok (.ifCond .ne 5, 3) := by decide +kernel
theorem d_BB_stored_12 : decode prog_1_method_17_code 12 = .ok (.iconst (-1), 1) := by decide +kernel
theorem d_BB_stored_13 : decode prog_1_method_17_code 13 = .ok (.ireturn, 1) := by decide +kernel
theorem d_BB_stored_14 : decode prog_1_method_17_code 14 = .ok (.aload_n 0, 1) := by decide +kernel
theorem d_BB_stored_15 : decode prog_1_method_17_code 15 = .ok (.getfield 35, 3) := by decide +kernel
theorem d_BB_stored_18 : decode prog_1_method_17_code 18 = .ok (.iload_n 1, 1) := by decide +kernel
theorem d_BB_stored_19 : decode prog_1_method_17_code 19 = .ok (.aload_n 0, 1) := by decide +kernel
theorem d_BB_stored_20 : decode prog_1_method_17_code 20 = .ok (.getfield 26, 3) := by decide +kernel
theorem d_BB_stored_23 : decode prog_1_method_17_code 23 = .ok (.getfield 137, 3) := by decide +kernel
theorem d_BB_stored_26 : decode prog_1_method_17_code 26 = .ok (.invokevirtual 158, 3) := by decide +kernel
theorem d_BB_stored_29 : decode prog_1_method_17_code 29 = .ok (.pop, 1) := by decide +kernel
theorem d_BB_stored_30 : decode prog_1_method_17_code 30 = .ok (.aload_n 0, 1) := by decide +kernel
theorem d_BB_stored_31 : decode prog_1_method_17_code 31 = .ok (.getfield 35, 3) := by decide +kernel
theorem d_BB_stored_34 : decode prog_1_method_17_code 34 = .ok (.getfield 161, 3) := by decide +kernel
theorem d_BB_stored_37 : decode prog_1_method_17_code 37 = .ok (.iload_n 2, 1) := by decide +kernel
theorem d_BB_stored_38 : decode prog_1_method_17_code 38 = .ok (.iaload, 1) := by decide +kernel
theorem d_BB_stored_39 : decode prog_1_method_17_code 39 = .ok (.ireturn, 1) := by decide +kernel
theorem d_BB_sags_0 : decode prog_1_method_18_code 0 = .ok (.aload_n 0, 1) := by decide +kernel
theorem d_BB_sags_1 : decode prog_1_method_18_code 1 = .ok (.getfield 19, 3) := by decide +kernel
theorem d_BB_sags_4 : decode prog_1_method_18_code 4 = .ok (.iload_n 1, 1) := by decide +kernel
theorem d_BB_sags_5 : decode prog_1_method_18_code 5 = .ok (.iload_n 2, 1) := by decide +kernel
theorem d_BB_sags_6 : decode prog_1_method_18_code 6 = .ok (.invokevirtual 111, 3) := by decide +kernel
theorem d_BB_sags_9 : decode prog_1_method_18_code 9 = .ok (.ifCond .ne 5, 3) := by decide +kernel
theorem d_BB_sags_12 : decode prog_1_method_18_code 12 = .ok (.iconst (-1), 1) := by decide +kernel
theorem d_BB_sags_13 : decode prog_1_method_18_code 13 = .ok (.ireturn, 1) := by decide +kernel
theorem d_BB_sags_14 : decode prog_1_method_18_code 14 = .ok (.aload_n 0, 1) := by decide +kernel
theorem d_BB_sags_15 : decode prog_1_method_18_code 15 = .ok (.getfield 35, 3) := by decide +kernel
theorem d_BB_sags_18 : decode prog_1_method_18_code 18 = .ok (.iload_n 1, 1) := by decide +kernel
theorem d_BB_sags_19 : decode prog_1_method_18_code 19 = .ok (.aload_n 0, 1) := by decide +kernel
theorem d_BB_sags_20 : decode prog_1_method_18_code 20 = .ok (.getfield 26, 3) := by decide +kernel
theorem d_BB_sags_23 : decode prog_1_method_18_code 23 = .ok (.getfield 137, 3) := by decide +kernel
theorem d_BB_sags_26 : decode prog_1_method_18_code 26 = .ok (.invokevirtual 158, 3) := by decide +kernel
theorem d_BB_sags_29 : decode prog_1_method_18_code 29 = .ok (.pop, 1) := by decide +kernel
theorem d_BB_sags_30 : decode prog_1_method_18_code 30 = .ok (.aload_n 0, 1) := by decide +kernel
theorem d_BB_sags_31 : decode prog_1_method_18_code 31 = .ok (.getfield 35, 3) := by decide +kernel
theorem d_BB_sags_34 : decode prog_1_method_18_code 34 = .ok (.getfield 164, 3) := by decide +kernel
theorem d_BB_sags_37 : decode prog_1_method_18_code 37 = .ok (.iload_n 2, 1) := by decide +kernel
theorem d_BB_sags_38 : decode prog_1_method_18_code 38 = .ok (.iaload, 1) := by decide +kernel
theorem d_BB_sags_39 : decode prog_1_method_18_code 39 = .ok (.ireturn, 1) := by decide +kernel
theorem d_BB_total_0 : decode prog_1_method_19_code 0 = .ok (.aload_n 0, 1) := by decide +kernel
theorem d_BB_total_1 : decode prog_1_method_19_code 1 = .ok (.getfield 35, 3) := by decide +kernel
theorem d_BB_total_4 : decode prog_1_method_19_code 4 = .ok (.aload_n 0, 1) := by decide +kernel
theorem d_BB_total_5 : decode prog_1_method_19_code 5 = .ok (.getfield 26, 3) := by decide +kernel
theorem d_BB_total_8 : decode prog_1_method_19_code 8 = .ok (.getfield 137, 3) := by decide +kernel
theorem d_BB_total_11 : decode prog_1_method_19_code 11 = .ok (.invokevirtual 167, 3) := by decide +kernel
theorem d_BB_total_14 : decode prog_1_method_19_code 14 = .ok (.ireturn, 1) := by decide +kernel
theorem d_BB_first_0 : decode prog_1_method_20_code 0 = .ok (.bipush (-9), 2) := by decide +kernel
theorem d_BB_first_2 : decode prog_1_method_20_code 2 = .ok (.istore_n 1, 1) := by decide +kernel
theorem d_BB_first_3 : decode prog_1_method_20_code 3 = .ok (.iconst 0, 1) := by decide +kernel
theorem d_BB_first_4 : decode prog_1_method_20_code 4 = .ok (.istore_n 2, 1) := by decide +kernel
theorem d_BB_first_5 : decode prog_1_method_20_code 5 = .ok (.iload_n 2, 1) := by decide +kernel
theorem d_BB_first_6 : decode prog_1_method_20_code 6 = .ok (.aload_n 0, 1) := by decide +kernel
theorem d_BB_first_7 : decode prog_1_method_20_code 7 = .ok (.getfield 19, 3) := by decide +kernel
theorem d_BB_first_10 : decode prog_1_method_20_code 10 = .ok (.getfield 99, 3) := by decide +kernel
theorem d_BB_first_13 : decode prog_1_method_20_code 13 = .ok (.if_icmp .ge 62, 3) := by decide +kernel
theorem d_BB_first_16 : decode prog_1_method_20_code 16 = .ok (.aload_n 0, 1) := by decide +kernel
theorem d_BB_first_17 : decode prog_1_method_20_code 17 = .ok (.getfield 35, 3) := by decide +kernel
theorem d_BB_first_20 : decode prog_1_method_20_code 20 = .ok (.iload_n 2, 1) := by decide +kernel
theorem d_BB_first_21 : decode prog_1_method_20_code 21 = .ok (.aload_n 0, 1) := by decide +kernel
theorem d_BB_first_22 : decode prog_1_method_20_code 22 = .ok (.getfield 26, 3) := by decide +kernel
theorem d_BB_first_25 : decode prog_1_method_20_code 25 = .ok (.getfield 137, 3) := by decide +kernel
theorem d_BB_first_28 : decode prog_1_method_20_code 28 = .ok (.invokevirtual 158, 3) := by decide +kernel
theorem d_BB_first_31 : decode prog_1_method_20_code 31 = .ok (.pop, 1) := by decide +kernel
theorem d_BB_first_32 : decode prog_1_method_20_code 32 = .ok (.aload_n 0, 1) := by decide +kernel
theorem d_BB_first_33 : decode prog_1_method_20_code 33 = .ok (.getfield 35, 3) := by decide +kernel
theorem d_BB_first_36 : decode prog_1_method_20_code 36 = .ok (.invokevirtual 170, 3) := by decide +kernel
theorem d_BB_first_39 : decode prog_1_method_20_code 39 = .ok (.istore_n 3, 1) := by decide +kernel
theorem d_BB_first_40 : decode prog_1_method_20_code 40 = .ok (.iload_n 3, 1) := by decide +kernel
theorem d_BB_first_41 : decode prog_1_method_20_code 41 = .ok (.bipush (-9), 2) := by decide +kernel
theorem d_BB_first_43 : decode prog_1_method_20_code 43 = .ok (.if_icmp .eq 26, 3) := by decide +kernel
theorem d_BB_first_46 : decode prog_1_method_20_code 46 = .ok (.iload_n 1, 1) := by decide +kernel
theorem d_BB_first_47 : decode prog_1_method_20_code 47 = .ok (.bipush (-9), 2) := by decide +kernel
theorem d_BB_first_49 : decode prog_1_method_20_code 49 = .ok (.if_icmp .eq 13, 3) := by decide +kernel
theorem d_BB_first_52 : decode prog_1_method_20_code 52 = .ok (.bipush 10, 2) := by decide +kernel
theorem d_BB_first_54 : decode prog_1_method_20_code 54 = .ok (.iload_n 3, 1) := by decide +kernel
theorem d_BB_first_55 : decode prog_1_method_20_code 55 = .ok (.imul, 1) := by decide +kernel
theorem d_BB_first_56 : decode prog_1_method_20_code 56 = .ok (.iload_n 2, 1) := by decide +kernel
theorem d_BB_first_57 : decode prog_1_method_20_code 57 = .ok (.iadd, 1) := by decide +kernel
theorem d_BB_first_58 : decode prog_1_method_20_code 58 = .ok (.iload_n 1, 1) := by decide +kernel
theorem d_BB_first_59 : decode prog_1_method_20_code 59 = .ok (.if_icmp .ge 10, 3) := by decide +kernel
theorem d_BB_first_62 : decode prog_1_method_20_code 62 = .ok (.bipush 10, 2) := by decide +kernel
theorem d_BB_first_64 : decode prog_1_method_20_code 64 = .ok (.iload_n 3, 1) := by decide +kernel
theorem d_BB_first_65 : decode prog_1_method_20_code 65 = .ok (.imul, 1) := by decide +kernel
theorem d_BB_first_66 : decode prog_1_method_20_code 66 = .ok (.iload_n 2, 1) := by decide +kernel
theorem d_BB_first_67 : decode prog_1_method_20_code 67 = .ok (.iadd, 1) := by decide +kernel
theorem d_BB_first_68 : decode prog_1_method_20_code 68 = .ok (.istore_n 1, 1) := by decide +kernel
theorem d_BB_first_69 : decode prog_1_method_20_code 69 = .ok (.iinc 2 1, 3) := by decide +kernel
theorem d_BB_first_72 : decode prog_1_method_20_code 72 = .ok (.goto (-67), 3) := by decide +kernel
theorem d_BB_first_75 : decode prog_1_method_20_code 75 = .ok (.iload_n 1, 1) := by decide +kernel
theorem d_BB_first_76 : decode prog_1_method_20_code 76 = .ok (.ireturn, 1) := by decide +kernel
theorem d_BB_worst_0 : decode prog_1_method_21_code 0 = .ok (.bipush (-9), 2) := by decide +kernel
theorem d_BB_worst_2 : decode prog_1_method_21_code 2 = .ok (.istore_n 1, 1) := by decide +kernel
theorem d_BB_worst_3 : decode prog_1_method_21_code 3 = .ok (.iconst 0, 1) := by decide +kernel
theorem d_BB_worst_4 : decode prog_1_method_21_code 4 = .ok (.istore_n 2, 1) := by decide +kernel
theorem d_BB_worst_5 : decode prog_1_method_21_code 5 = .ok (.iconst 0, 1) := by decide +kernel
theorem d_BB_worst_6 : decode prog_1_method_21_code 6 = .ok (.istore_n 3, 1) := by decide +kernel
theorem d_BB_worst_7 : decode prog_1_method_21_code 7 = .ok (.iload_n 3, 1) := by decide +kernel
theorem d_BB_worst_8 : decode prog_1_method_21_code 8 = .ok (.aload_n 0, 1) := by decide +kernel
theorem d_BB_worst_9 : decode prog_1_method_21_code 9 = .ok (.getfield 19, 3) := by decide +kernel
theorem d_BB_worst_12 : decode prog_1_method_21_code 12 = .ok (.getfield 99, 3) := by decide +kernel
theorem d_BB_worst_15 : decode prog_1_method_21_code 15 = .ok (.if_icmp .ge 37, 3) := by decide +kernel
theorem d_BB_worst_18 : decode prog_1_method_21_code 18 = .ok (.aload_n 0, 1) := by decide +kernel
theorem d_BB_worst_19 : decode prog_1_method_21_code 19 = .ok (.getfield 35, 3) := by decide +kernel
theorem d_BB_worst_22 : decode prog_1_method_21_code 22 = .ok (.iload_n 3, 1) := by decide +kernel
theorem d_BB_worst_23 : decode prog_1_method_21_code 23 = .ok (.aload_n 0, 1) := by decide +kernel
theorem d_BB_worst_24 : decode prog_1_method_21_code 24 = .ok (.getfield 26, 3) := by decide +kernel
theorem d_BB_worst_27 : decode prog_1_method_21_code 27 = .ok (.getfield 137, 3) := by decide +kernel
theorem d_BB_worst_30 : decode prog_1_method_21_code 30 = .ok (.invokevirtual 158, 3) := by decide +kernel
theorem d_BB_worst_33 : decode prog_1_method_21_code 33 = .ok (.istore 4, 2) := by decide +kernel
theorem d_BB_worst_35 : decode prog_1_method_21_code 35 = .ok (.iload 4, 2) := by decide +kernel
theorem d_BB_worst_37 : decode prog_1_method_21_code 37 = .ok (.iload_n 2, 1) := by decide +kernel
theorem d_BB_worst_38 : decode prog_1_method_21_code 38 = .ok (.if_icmp .le 8, 3) := by decide +kernel
theorem d_BB_worst_41 : decode prog_1_method_21_code 41 = .ok (.iload 4, 2) := by decide +kernel
theorem d_BB_worst_43 : decode prog_1_method_21_code 43 = .ok (.istore_n 2, 1) := by decide +kernel
theorem d_BB_worst_44 : decode prog_1_method_21_code 44 = .ok (.iload_n 3, 1) := by decide +kernel
theorem d_BB_worst_45 : decode prog_1_method_21_code 45 = .ok (.istore_n 1, 1) := by decide +kernel
theorem d_BB_worst_46 : decode prog_1_method_21_code 46 = .ok (.iinc 3 1, 3) := by decide +kernel
theorem d_BB_worst_49 : decode prog_1_method_21_code 49 = .ok (.goto (-42), 3) := by decide +kernel
theorem d_BB_worst_52 : decode prog_1_method_21_code 52 = .ok (.iload_n 1, 1) := by decide +kernel
theorem d_BB_worst_53 : decode prog_1_method_21_code 53 = .ok (.ireturn, 1) := by decide +kernel
theorem d_BB_bestLate_0 : decode prog_1_method_22_code 0 = .ok (.iconst 0, 1) := by decide +kernel
theorem d_BB_bestLate_1 : decode prog_1_method_22_code 1 = .ok (.istore_n 1, 1) := by decide +kernel
theorem d_BB_bestLate_2 : decode prog_1_method_22_code 2 = .ok (.aload_n 0, 1) := by decide +kernel
theorem d_BB_bestLate_3 : decode prog_1_method_22_code 3 = .ok (.getfield 35, 3) := by decide +kernel
theorem d_BB_bestLate_6 : decode prog_1_method_22_code 6 = .ok (.iconst 0, 1) := by decide +kernel
theorem d_BB_bestLate_7 : decode prog_1_method_22_code 7 = .ok (.invokevirtual 167, 3) := by decide +kernel
theorem d_BB_bestLate_10 : decode prog_1_method_22_code 10 = .ok (.istore_n 2, 1) := by decide +kernel
theorem d_BB_bestLate_11 : decode prog_1_method_22_code 11 = .ok (.iconst 1, 1) := by decide +kernel
theorem d_BB_bestLate_12 : decode prog_1_method_22_code 12 = .ok (.istore_n 3, 1) := by decide +kernel
theorem d_BB_bestLate_13 : decode prog_1_method_22_code 13 = .ok (.iload_n 3, 1) := by decide +kernel
theorem d_BB_bestLate_14 : decode prog_1_method_22_code 14 = .ok (.bipush 11, 2) := by decide +kernel
theorem d_BB_bestLate_16 : decode prog_1_method_22_code 16 = .ok (.if_icmp .gt 30, 3) := by decide +kernel
theorem d_BB_bestLate_19 : decode prog_1_method_22_code 19 = .ok (.aload_n 0, 1) := by decide +kernel
theorem d_BB_bestLate_20 : decode prog_1_method_22_code 20 = .ok (.getfield 35, 3) := by decide +kernel
theorem d_BB_bestLate_23 : decode prog_1_method_22_code 23 = .ok (.iload_n 3, 1) := by decide +kernel
theorem d_BB_bestLate_24 : decode prog_1_method_22_code 24 = .ok (.invokevirtual 167, 3) := by decide +kernel
theorem d_BB_bestLate_27 : decode prog_1_method_22_code 27 = .ok (.istore 4, 2) := by decide +kernel
theorem d_BB_bestLate_29 : decode prog_1_method_22_code 29 = .ok (.iload 4, 2) := by decide +kernel
theorem d_BB_bestLate_31 : decode prog_1_method_22_code 31 = .ok (.iload_n 2, 1) := by decide +kernel
theorem d_BB_bestLate_32 : decode prog_1_method_22_code 32 = .ok (.if_icmp .ge 8, 3) := by decide +kernel
theorem d_BB_bestLate_35 : decode prog_1_method_22_code 35 = .ok (.iload 4, 2) := by decide +kernel
theorem d_BB_bestLate_37 : decode prog_1_method_22_code 37 = .ok (.istore_n 2, 1) := by decide +kernel
theorem d_BB_bestLate_38 : decode prog_1_method_22_code 38 = .ok (.iload_n 3, 1) := by decide +kernel
theorem d_BB_bestLate_39 : decode prog_1_method_22_code 39 = .ok (.istore_n 1, 1) := by decide +kernel
theorem d_BB_bestLate_40 : decode prog_1_method_22_code 40 = .ok (.iinc 3 1, 3) := by decide +kernel
theorem d_BB_bestLate_43 : decode prog_1_method_22_code 43 = .ok (.goto (-30), 3) := by decide +kernel
theorem d_BB_bestLate_46 : decode prog_1_method_22_code 46 = .ok (.iload_n 1, 1) := by decide +kernel
theorem d_BB_bestLate_47 : decode prog_1_method_22_code 47 = .ok (.ireturn, 1) := by decide +kernel
theorem d_BB_phases_0 : decode prog_1_method_23_code 0 = .ok (.aload_n 0, 1) := by decide +kernel
theorem d_BB_phases_1 : decode prog_1_method_23_code 1 = .ok (.getfield 19, 3) := by decide +kernel
theorem d_BB_phases_4 : decode prog_1_method_23_code 4 = .ok (.iload_n 1, 1) := by decide +kernel
theorem d_BB_phases_5 : decode prog_1_method_23_code 5 = .ok (.invokevirtual 104, 3) := by decide +kernel
theorem d_BB_phases_8 : decode prog_1_method_23_code 8 = .ok (.ifCond .ne 5, 3) := by decide +kernel
theorem d_BB_phases_11 : decode prog_1_method_23_code 11 = .ok (.iconst (-1), 1) := by decide +kernel
theorem d_BB_phases_12 : decode prog_1_method_23_code 12 = .ok (.ireturn, 1) := by decide +kernel
theorem d_BB_phases_13 : decode prog_1_method_23_code 13 = .ok (.aload_n 0, 1) := by decide +kernel
theorem d_BB_phases_14 : decode prog_1_method_23_code 14 = .ok (.getfield 44, 3) := by decide +kernel
theorem d_BB_phases_17 : decode prog_1_method_23_code 17 = .ok (.iload_n 1, 1) := by decide +kernel
theorem d_BB_phases_18 : decode prog_1_method_23_code 18 = .ok (.invokevirtual 173, 3) := by decide +kernel
theorem d_BB_phases_21 : decode prog_1_method_23_code 21 = .ok (.ifCond .eq 13, 3) := by decide +kernel
theorem d_BB_phases_24 : decode prog_1_method_23_code 24 = .ok (.aload_n 0, 1) := by decide +kernel
theorem d_BB_phases_25 : decode prog_1_method_23_code 25 = .ok (.getfield 44, 3) := by decide +kernel
theorem d_BB_phases_28 : decode prog_1_method_23_code 28 = .ok (.getfield 176, 3) := by decide +kernel
theorem d_BB_phases_31 : decode prog_1_method_23_code 31 = .ok (.goto 5, 3) := by decide +kernel
theorem d_BB_phases_34 : decode prog_1_method_23_code 34 = .ok (.bipush (-3), 2) := by decide +kernel
theorem d_BB_phases_36 : decode prog_1_method_23_code 36 = .ok (.ireturn, 1) := by decide +kernel
theorem d_BB_phaseAt_0 : decode prog_1_method_24_code 0 = .ok (.aload_n 0, 1) := by decide +kernel
theorem d_BB_phaseAt_1 : decode prog_1_method_24_code 1 = .ok (.getfield 19, 3) := by decide +kernel
theorem d_BB_phaseAt_4 : decode prog_1_method_24_code 4 = .ok (.iload_n 1, 1) := by decide +kernel
theorem d_BB_phaseAt_5 : decode prog_1_method_24_code 5 = .ok (.invokevirtual 104, 3) := by decide +kernel
theorem d_BB_phaseAt_8 : decode prog_1_method_24_code 8 = .ok (.ifCond .ne 5, 3) := by decide +kernel
theorem d_BB_phaseAt_11 : decode prog_1_method_24_code 11 = .ok (.iconst (-1), 1) := by decide +kernel
theorem d_BB_phaseAt_12 : decode prog_1_method_24_code 12 = .ok (.ireturn, 1) := by decide +kernel
theorem d_BB_phaseAt_13 : decode prog_1_method_24_code 13 = .ok (.aload_n 0, 1) := by decide +kernel
theorem d_BB_phaseAt_14 : decode prog_1_method_24_code 14 = .ok (.getfield 44, 3) := by decide +kernel
theorem d_BB_phaseAt_17 : decode prog_1_method_24_code 17 = .ok (.iload_n 1, 1) := by decide +kernel
theorem d_BB_phaseAt_18 : decode prog_1_method_24_code 18 = .ok (.invokevirtual 173, 3) := by decide +kernel
theorem d_BB_phaseAt_21 : decode prog_1_method_24_code 21 = .ok (.ifCond .ne 6, 3) := by decide +kernel
theorem d_BB_phaseAt_24 : decode prog_1_method_24_code 24 = .ok (.bipush (-3), 2) := by decide +kernel
theorem d_BB_phaseAt_26 : decode prog_1_method_24_code 26 = .ok (.ireturn, 1) := by decide +kernel
theorem d_BB_phaseAt_27 : decode prog_1_method_24_code 27 = .ok (.aload_n 0, 1) := by decide +kernel
theorem d_BB_phaseAt_28 : decode prog_1_method_24_code 28 = .ok (.getfield 44, 3) := by decide +kernel
theorem d_BB_phaseAt_31 : decode prog_1_method_24_code 31 = .ok (.iload_n 2, 1) := by decide +kernel
theorem d_BB_phaseAt_32 : decode prog_1_method_24_code 32 = .ok (.invokevirtual 179, 3) := by decide +kernel
theorem d_BB_phaseAt_35 : decode prog_1_method_24_code 35 = .ok (.ireturn, 1) := by decide +kernel
theorem d_BB_seats_0 : decode prog_1_method_25_code 0 = .ok (.aload_n 0, 1) := by decide +kernel
theorem d_BB_seats_1 : decode prog_1_method_25_code 1 = .ok (.getfield 53, 3) := by decide +kernel
theorem d_BB_seats_4 : decode prog_1_method_25_code 4 = .ok (.invokevirtual 182, 3) := by decide +kernel
theorem d_BB_seats_7 : decode prog_1_method_25_code 7 = .ok (.ifCond .eq 13, 3) := by decide +kernel
theorem d_BB_seats_10 : decode prog_1_method_25_code 10 = .ok (.aload_n 0, 1) := by decide +kernel
theorem d_BB_seats_11 : decode prog_1_method_25_code 11 = .ok (.getfield 53, 3) := by decide +kernel
theorem d_BB_seats_14 : decode prog_1_method_25_code 14 = .ok (.invokevirtual 185, 3) := by decide +kernel
theorem d_BB_seats_17 : decode prog_1_method_25_code 17 = .ok (.goto 5, 3) := by decide +kernel
theorem d_BB_seats_20 : decode prog_1_method_25_code 20 = .ok (.bipush (-3), 2) := by decide +kernel
theorem d_BB_seats_22 : decode prog_1_method_25_code 22 = .ok (.ireturn, 1) := by decide +kernel
theorem d_BB_seatAt_0 : decode prog_1_method_26_code 0 = .ok (.aload_n 0, 1) := by decide +kernel
theorem d_BB_seatAt_1 : decode prog_1_method_26_code 1 = .ok (.getfield 26, 3) := by decide +kernel
theorem d_BB_seatAt_4 : decode prog_1_method_26_code 4 = .ok (.iload_n 1, 1) := by decide +kernel
theorem d_BB_seatAt_5 : decode prog_1_method_26_code 5 = .ok (.invokevirtual 118, 3) := by decide +kernel
theorem d_BB_seatAt_8 : decode prog_1_method_26_code 8 = .ok (.ifCond .ne 5, 3) := by decide +kernel
theorem d_BB_seatAt_11 : decode prog_1_method_26_code 11 = .ok (.iconst (-1), 1) := by decide +kernel
theorem d_BB_seatAt_12 : decode prog_1_method_26_code 12 = .ok (.ireturn, 1) := by decide +kernel
theorem d_BB_seatAt_13 : decode prog_1_method_26_code 13 = .ok (.aload_n 0, 1) := by decide +kernel
theorem d_BB_seatAt_14 : decode prog_1_method_26_code 14 = .ok (.getfield 53, 3) := by decide +kernel
theorem d_BB_seatAt_17 : decode prog_1_method_26_code 17 = .ok (.invokevirtual 182, 3) := by decide +kernel
theorem d_BB_seatAt_20 : decode prog_1_method_26_code 20 = .ok (.ifCond .eq 14, 3) := by decide +kernel
theorem d_BB_seatAt_23 : decode prog_1_method_26_code 23 = .ok (.aload_n 0, 1) := by decide +kernel
theorem d_BB_seatAt_24 : decode prog_1_method_26_code 24 = .ok (.getfield 53, 3) := by decide +kernel
theorem d_BB_seatAt_27 : decode prog_1_method_26_code 27 = .ok (.iload_n 1, 1) := by decide +kernel
theorem d_BB_seatAt_28 : decode prog_1_method_26_code 28 = .ok (.invokevirtual 187, 3) := by decide +kernel
theorem d_BB_seatAt_31 : decode prog_1_method_26_code 31 = .ok (.goto 5, 3) := by decide +kernel
theorem d_BB_seatAt_34 : decode prog_1_method_26_code 34 = .ok (.bipush (-3), 2) := by decide +kernel
theorem d_BB_seatAt_36 : decode prog_1_method_26_code 36 = .ok (.ireturn, 1) := by decide +kernel
theorem d_BB_bribes_0 : decode prog_1_method_27_code 0 = .ok (.iconst 0, 1) := by decide +kernel
theorem d_BB_bribes_1 : decode prog_1_method_27_code 1 = .ok (.istore_n 1, 1) := by decide +kernel
theorem d_BB_bribes_2 : decode prog_1_method_27_code 2 = .ok (.iconst 0, 1) := by decide +kernel
theorem d_BB_bribes_3 : decode prog_1_method_27_code 3 = .ok (.istore_n 2, 1) := by decide +kernel
theorem d_BB_bribes_4 : decode prog_1_method_27_code 4 = .ok (.iload_n 2, 1) := by decide +kernel
theorem d_BB_bribes_5 : decode prog_1_method_27_code 5 = .ok (.aload_n 0, 1) := by decide +kernel
theorem d_BB_bribes_6 : decode prog_1_method_27_code 6 = .ok (.getfield 19, 3) := by decide +kernel
theorem d_BB_bribes_9 : decode prog_1_method_27_code 9 = .ok (.getfield 99, 3) := by decide +kernel
theorem d_BB_bribes_12 : decode prog_1_method_27_code 12 = .ok (.if_icmp .ge 31, 3) := by decide +kernel
theorem d_BB_bribes_15 : decode prog_1_method_27_code 15 = .ok (.aload_n 0, 1) := by decide +kernel
theorem d_BB_bribes_16 : decode prog_1_method_27_code 16 = .ok (.getfield 60, 3) := by decide +kernel
theorem d_BB_bribes_19 : decode prog_1_method_27_code 19 = .ok (.iload_n 2, 1) := by decide +kernel
theorem d_BB_bribes_20 : decode prog_1_method_27_code 20 = .ok (.invokevirtual 190, 3) := by decide +kernel
theorem d_BB_bribes_23 : decode prog_1_method_27_code 23 = .ok (.istore_n 3, 1) := by decide +kernel
theorem d_BB_bribes_24 : decode prog_1_method_27_code 24 = .ok (.iload_n 3, 1) := by decide +kernel
theorem d_BB_bribes_25 : decode prog_1_method_27_code 25 = .ok (.bipush (-9), 2) := by decide +kernel
theorem d_BB_bribes_27 : decode prog_1_method_27_code 27 = .ok (.if_icmp .ne 6, 3) := by decide +kernel
theorem d_BB_bribes_30 : decode prog_1_method_27_code 30 = .ok (.bipush (-9), 2) := by decide +kernel
theorem d_BB_bribes_32 : decode prog_1_method_27_code 32 = .ok (.ireturn, 1) := by decide +kernel
theorem d_BB_bribes_33 : decode prog_1_method_27_code 33 = .ok (.iload_n 1, 1) := by decide +kernel
theorem d_BB_bribes_34 : decode prog_1_method_27_code 34 = .ok (.iload_n 3, 1) := by decide +kernel
theorem d_BB_bribes_35 : decode prog_1_method_27_code 35 = .ok (.ior, 1) := by decide +kernel
theorem d_BB_bribes_36 : decode prog_1_method_27_code 36 = .ok (.istore_n 1, 1) := by decide +kernel
theorem d_BB_bribes_37 : decode prog_1_method_27_code 37 = .ok (.iinc 2 1, 3) := by decide +kernel
theorem d_BB_bribes_40 : decode prog_1_method_27_code 40 = .ok (.goto (-36), 3) := by decide +kernel
theorem d_BB_bribes_43 : decode prog_1_method_27_code 43 = .ok (.iload_n 1, 1) := by decide +kernel
theorem d_BB_bribes_44 : decode prog_1_method_27_code 44 = .ok (.ireturn, 1) := by decide +kernel
theorem d_BB_needed_0 : decode prog_1_method_28_code 0 = .ok (.aload_n 0, 1) := by decide +kernel
theorem d_BB_needed_1 : decode prog_1_method_28_code 1 = .ok (.getfield 26, 3) := by decide +kernel
theorem d_BB_needed_4 : decode prog_1_method_28_code 4 = .ok (.iload_n 1, 1) := by decide +kernel
theorem d_BB_needed_5 : decode prog_1_method_28_code 5 = .ok (.invokevirtual 118, 3) := by decide +kernel
theorem d_BB_needed_8 : decode prog_1_method_28_code 8 = .ok (.ifCond .ne 5, 3) := by decide +kernel
theorem d_BB_needed_11 : decode prog_1_method_28_code 11 = .ok (.iconst (-1), 1) := by decide +kernel
theorem d_BB_needed_12 : decode prog_1_method_28_code 12 = .ok (.ireturn, 1) := by decide +kernel
theorem d_BB_needed_13 : decode prog_1_method_28_code 13 = .ok (.aload_n 0, 1) := by decide +kernel
theorem d_BB_needed_14 : decode prog_1_method_28_code 14 = .ok (.getfield 26, 3) := by decide +kernel
theorem d_BB_needed_17 : decode prog_1_method_28_code 17 = .ok (.getfield 125, 3) := by decide +kernel
theorem d_BB_needed_20 : decode prog_1_method_28_code 20 = .ok (.iload_n 1, 1) := by decide +kernel
theorem d_BB_needed_21 : decode prog_1_method_28_code 21 = .ok (.iaload, 1) := by decide +kernel
theorem d_BB_needed_22 : decode prog_1_method_28_code 22 = .ok (.istore_n 2, 1) := by decide +kernel
theorem d_BB_needed_23 : decode prog_1_method_28_code 23 = .ok (.aload_n 0, 1) := by decide +kernel
theorem d_BB_needed_24 : decode prog_1_method_28_code 24 = .ok (.getfield 35, 3) := by decide +kernel
theorem d_BB_needed_27 : decode prog_1_method_28_code 27 = .ok (.iload_n 2, 1) := by decide +kernel
theorem d_BB_needed_28 : decode prog_1_method_28_code 28 = .ok (.aload_n 0, 1) := by decide +kernel
theorem d_BB_needed_29 : decode prog_1_method_28_code 29 = .ok (.getfield 26, 3) := by decide +kernel
theorem d_BB_needed_32 : decode prog_1_method_28_code 32 = .ok (.getfield 137, 3) := by decide +kernel
theorem d_BB_needed_35 : decode prog_1_method_28_code 35 = .ok (.invokevirtual 158, 3) := by decide +kernel
theorem d_BB_needed_38 : decode prog_1_method_28_code 38 = .ok (.istore_n 3, 1) := by decide +kernel
theorem d_BB_needed_39 : decode prog_1_method_28_code 39 = .ok (.aload_n 0, 1) := by decide +kernel
theorem d_BB_needed_40 : decode prog_1_method_28_code 40 = .ok (.getfield 35, 3) := by decide +kernel
theorem d_BB_needed_43 : decode prog_1_method_28_code 43 = .ok (.aload_n 0, 1) := by decide +kernel
theorem d_BB_needed_44 : decode prog_1_method_28_code 44 = .ok (.getfield 26, 3) := by decide +kernel
theorem d_BB_needed_47 : decode prog_1_method_28_code 47 = .ok (.iload_n 2, 1) := by decide +kernel
theorem d_BB_needed_48 : decode prog_1_method_28_code 48 = .ok (.invokevirtual 147, 3) := by decide +kernel
theorem d_BB_needed_51 : decode prog_1_method_28_code 51 = .ok (.iconst 1, 1) := by decide +kernel
theorem d_BB_needed_52 : decode prog_1_method_28_code 52 = .ok (.iload_n 1, 1) := by decide +kernel
theorem d_BB_needed_53 : decode prog_1_method_28_code 53 = .ok (.ishl, 1) := by decide +kernel
theorem d_BB_needed_54 : decode prog_1_method_28_code 54 = .ok (.iconst (-1), 1) := by decide +kernel
theorem d_BB_needed_55 : decode prog_1_method_28_code 55 = .ok (.ixor, 1) := by decide +kernel
theorem d_BB_needed_56 : decode prog_1_method_28_code 56 = .ok (.iand, 1) := by decide +kernel
theorem d_BB_needed_57 : decode prog_1_method_28_code 57 = .ok (.aload_n 0, 1) := by decide +kernel
theorem d_BB_needed_58 : decode prog_1_method_28_code 58 = .ok (.getfield 26, 3) := by decide +kernel
theorem d_BB_needed_61 : decode prog_1_method_28_code 61 = .ok (.getfield 137, 3) := by decide +kernel
theorem d_BB_needed_64 : decode prog_1_method_28_code 64 = .ok (.invokevirtual 151, 3) := by decide +kernel
theorem d_BB_needed_67 : decode prog_1_method_28_code 67 = .ok (.aload_n 0, 1) := by decide +kernel
theorem d_BB_needed_68 : decode prog_1_method_28_code 68 = .ok (.getfield 35, 3) := by decide +kernel
theorem d_BB_needed_71 : decode prog_1_method_28_code 71 = .ok (.iload_n 2, 1) := by decide +kernel
theorem d_BB_needed_72 : decode prog_1_method_28_code 72 = .ok (.invokevirtual 192, 3) := by decide +kernel
theorem d_BB_needed_75 : decode prog_1_method_28_code 75 = .ok (.iload_n 3, 1) := by decide +kernel
theorem d_BB_needed_76 : decode prog_1_method_28_code 76 = .ok (.isub, 1) := by decide +kernel
theorem d_BB_needed_77 : decode prog_1_method_28_code 77 = .ok (.ireturn, 1) := by decide +kernel
theorem d_BB_never_0 : decode prog_1_method_29_code 0 = .ok (.iconst 0, 1) := by decide +kernel
theorem d_BB_never_1 : decode prog_1_method_29_code 1 = .ok (.istore_n 1, 1) := by decide +kernel
theorem d_BB_never_2 : decode prog_1_method_29_code 2 = .ok (.iload_n 1, 1) := by decide +kernel
theorem d_BB_never_3 : decode prog_1_method_29_code 3 = .ok (.aload_n 0, 1) := by decide +kernel
theorem d_BB_never_4 : decode prog_1_method_29_code 4 = .ok (.getfield 19, 3) := by decide +kernel
theorem d_BB_never_7 : decode prog_1_method_29_code 7 = .ok (.getfield 195, 3) := by decide +kernel
theorem d_BB_never_10 : decode prog_1_method_29_code 10 = .ok (.if_icmp .ge 84, 3) := by decide +kernel
theorem d_BB_never_13 : decode prog_1_method_29_code 13 = .ok (.iconst 0, 1) := by decide +kernel
theorem d_BB_never_14 : decode prog_1_method_29_code 14 = .ok (.istore_n 2, 1) := by decide +kernel
theorem d_BB_never_15 : decode prog_1_method_29_code 15 = .ok (.iload_n 2, 1) := by decide +kernel
theorem d_BB_never_16 : decode prog_1_method_29_code 16 = .ok (.aload_n 0, 1) := by decide +kernel
theorem d_BB_never_17 : decode prog_1_method_29_code 17 = .ok (.getfield 19, 3) := by decide +kernel
theorem d_BB_never_20 : decode prog_1_method_29_code 20 = .ok (.getfield 99, 3) := by decide +kernel
theorem d_BB_never_23 : decode prog_1_method_29_code 23 = .ok (.if_icmp .ge 65, 3) := by decide +kernel
theorem d_BB_never_26 : decode prog_1_method_29_code 26 = .ok (.aload_n 0, 1) := by decide +kernel
theorem d_BB_never_27 : decode prog_1_method_29_code 27 = .ok (.getfield 26, 3) := by decide +kernel
theorem d_BB_never_30 : decode prog_1_method_29_code 30 = .ok (.aload_n 0, 1) := by decide +kernel
theorem d_BB_never_31 : decode prog_1_method_29_code 31 = .ok (.getfield 26, 3) := by decide +kernel
theorem d_BB_never_34 : decode prog_1_method_29_code 34 = .ok (.iload_n 2, 1) := by decide +kernel
theorem d_BB_never_35 : decode prog_1_method_29_code 35 = .ok (.invokevirtual 147, 3) := by decide +kernel
theorem d_BB_never_38 : decode prog_1_method_29_code 38 = .ok (.invokevirtual 198, 3) := by decide +kernel
theorem d_BB_never_41 : decode prog_1_method_29_code 41 = .ok (.aload_n 0, 1) := by decide +kernel
theorem d_BB_never_42 : decode prog_1_method_29_code 42 = .ok (.getfield 26, 3) := by decide +kernel
theorem d_BB_never_45 : decode prog_1_method_29_code 45 = .ok (.getfield 134, 3) := by decide +kernel
theorem d_BB_never_48 : decode prog_1_method_29_code 48 = .ok (.iadd, 1) := by decide +kernel
theorem d_BB_never_49 : decode prog_1_method_29_code 49 = .ok (.istore_n 3, 1) := by decide +kernel
theorem d_BB_never_50 : decode prog_1_method_29_code 50 = .ok (.aload_n 0, 1) := by decide +kernel
theorem d_BB_never_51 : decode prog_1_method_29_code 51 = .ok (.getfield 19, 3) := by decide +kernel
theorem d_BB_never_54 : decode prog_1_method_29_code 54 = .ok (.iload_n 2, 1) := by decide +kernel
theorem d_BB_never_55 : decode prog_1_method_29_code 55 = .ok (.iload_n 1, 1) := by decide +kernel
theorem d_BB_never_56 : decode prog_1_method_29_code 56 = .ok (.invokevirtual 115, 3) := by decide +kernel
theorem d_BB_never_59 : decode prog_1_method_29_code 59 = .ok (.ifCond .eq 23, 3) := by decide +kernel
theorem d_BB_never_62 : decode prog_1_method_29_code 62 = .ok (.aload_n 0, 1) := by decide +kernel
theorem d_BB_never_63 : decode prog_1_method_29_code 63 = .ok (.getfield 19, 3) := by decide +kernel
theorem d_BB_never_66 : decode prog_1_method_29_code 66 = .ok (.getfield 107, 3) := by decide +kernel
theorem d_BB_never_69 : decode prog_1_method_29_code 69 = .ok (.iload_n 2, 1) := by decide +kernel
theorem d_BB_never_70 : decode prog_1_method_29_code 70 = .ok (.iaload, 1) := by decide +kernel
theorem d_BB_never_71 : decode prog_1_method_29_code 71 = .ok (.iload_n 3, 1) := by decide +kernel
theorem d_BB_never_72 : decode prog_1_method_29_code 72 = .ok (.if_icmp .le 10, 3) := by decide +kernel
theorem d_BB_never_75 : decode prog_1_method_29_code 75 = .ok (.bipush 10, 2) := by decide +kernel
theorem d_BB_never_77 : decode prog_1_method_29_code 77 = .ok (.iload_n 1, 1) := by decide +kernel
theorem d_BB_never_78 : decode prog_1_method_29_code 78 = .ok (.imul, 1) := by decide +kernel
theorem d_BB_never_79 : decode prog_1_method_29_code 79 = .ok (.iload_n 2, 1) := by decide +kernel
theorem d_BB_never_80 : decode prog_1_method_29_code 80 = .ok (.iadd, 1) := by decide +kernel
theorem d_BB_never_81 : decode prog_1_method_29_code 81 = .ok (.ireturn, 1) := by decide +kernel
theorem d_BB_never_82 : decode prog_1_method_29_code 82 = .ok (.iinc 2 1, 3) := by decide +kernel
theorem d_BB_never_85 : decode prog_1_method_29_code 85 = .ok (.goto (-70), 3) := by decide +kernel
theorem d_BB_never_88 : decode prog_1_method_29_code 88 = .ok (.iinc 1 1, 3) := by decide +kernel
theorem d_BB_never_91 : decode prog_1_method_29_code 91 = .ok (.goto (-89), 3) := by decide +kernel
theorem d_BB_never_94 : decode prog_1_method_29_code 94 = .ok (.bipush (-9), 2) := by decide +kernel
theorem d_BB_never_96 : decode prog_1_method_29_code 96 = .ok (.ireturn, 1) := by decide +kernel
theorem d_BB_steady_0 : decode prog_1_method_30_code 0 = .ok (.aload_n 0, 1) := by decide +kernel
theorem d_BB_steady_1 : decode prog_1_method_30_code 1 = .ok (.getfield 19, 3) := by decide +kernel
theorem d_BB_steady_4 : decode prog_1_method_30_code 4 = .ok (.iload_n 1, 1) := by decide +kernel
theorem d_BB_steady_5 : decode prog_1_method_30_code 5 = .ok (.iload_n 2, 1) := by decide +kernel
theorem d_BB_steady_6 : decode prog_1_method_30_code 6 = .ok (.invokevirtual 111, 3) := by decide +kernel
theorem d_BB_steady_9 : decode prog_1_method_30_code 9 = .ok (.ifCond .ne 7, 3) := by decide +kernel
theorem d_BB_steady_12 : decode prog_1_method_30_code 12 = .ok (.ldc2_w 201, 3) := by decide +kernel
theorem d_BB_steady_15 : decode prog_1_method_30_code 15 = .ok (.lreturn, 1) := by decide +kernel
theorem d_BB_steady_16 : decode prog_1_method_30_code 16 = .ok (.iload_n 3, 1) := by decide +kernel
theorem d_BB_steady_17 : decode prog_1_method_30_code 17 = .ok (.ifCond .lt 9, 3) := by decide +kernel
theorem d_BB_steady_20 : decode prog_1_method_30_code 20 = .ok (.iload_n 3, 1) := by decide +kernel
theorem d_BB_steady_21 : decode prog_1_method_30_code 21 = .ok (.bipush 10, 2) := by decide +kernel
theorem d_BB_steady_23 : decode prog_1_method_30_code 23 = .ok (.if_icmp .le 7, 3) := by decide +kernel
theorem d_BB_steady_26 : decode prog_1_method_30_code 26 = .ok (.ldc2_w 203, 3) := by decide +kernel
theorem d_BB_steady_29 : decode prog_1_method_30_code 29 = .ok (.lreturn, 1) := by decide +kernel
theorem d_BB_steady_30 : decode prog_1_method_30_code 30 = .ok (.aload_n 0, 1) := by decide +kernel
theorem d_BB_steady_31 : decode prog_1_method_30_code 31 = .ok (.getfield 67, 3) := by decide +kernel
theorem d_BB_steady_34 : decode prog_1_method_30_code 34 = .ok (.iload_n 1, 1) := by decide +kernel
theorem d_BB_steady_35 : decode prog_1_method_30_code 35 = .ok (.iload_n 2, 1) := by decide +kernel
theorem d_BB_steady_36 : decode prog_1_method_30_code 36 = .ok (.iload_n 3, 1) := by decide +kernel
theorem d_BB_steady_37 : decode prog_1_method_30_code 37 = .ok (.invokevirtual 205, 3) := by decide +kernel
theorem d_BB_steady_40 : decode prog_1_method_30_code 40 = .ok (.iload 4, 2) := by decide +kernel
theorem d_BB_steady_42 : decode prog_1_method_30_code 42 = .ok (.ifCond .eq 13, 3) := by decide +kernel
theorem d_BB_steady_45 : decode prog_1_method_30_code 45 = .ok (.aload_n 0, 1) := by decide +kernel
theorem d_BB_steady_46 : decode prog_1_method_30_code 46 = .ok (.getfield 67, 3) := by decide +kernel
theorem d_BB_steady_49 : decode prog_1_method_30_code 49 = .ok (.getfield 209, 3) := by decide +kernel
theorem d_BB_steady_52 : decode prog_1_method_30_code 52 = .ok (.goto 10, 3) := by decide +kernel
theorem d_BB_steady_55 : decode prog_1_method_30_code 55 = .ok (.aload_n 0, 1) := by decide +kernel
theorem d_BB_steady_56 : decode prog_1_method_30_code 56 = .ok (.getfield 67, 3) := by decide +kernel
theorem d_BB_steady_59 : decode prog_1_method_30_code 59 = .ok (.getfield 213, 3) := by decide +kernel
theorem d_BB_steady_62 : decode prog_1_method_30_code 62 = .ok (.lreturn, 1) := by decide +kernel
theorem d_BB_blame_0 : decode prog_1_method_31_code 0 = .ok (.aload_n 0, 1) := by decide +kernel
theorem d_BB_blame_1 : decode prog_1_method_31_code 1 = .ok (.getfield 26, 3) := by decide +kernel
theorem d_BB_blame_4 : decode prog_1_method_31_code 4 = .ok (.iload_n 1, 1) := by decide +kernel
theorem d_BB_blame_5 : decode prog_1_method_31_code 5 = .ok (.invokevirtual 118, 3) := by decide +kernel
theorem d_BB_blame_8 : decode prog_1_method_31_code 8 = .ok (.ifCond .eq 14, 3) := by decide +kernel
theorem d_BB_blame_11 : decode prog_1_method_31_code 11 = .ok (.aload_n 0, 1) := by decide +kernel
theorem d_BB_blame_12 : decode prog_1_method_31_code 12 = .ok (.getfield 19, 3) := by decide +kernel
theorem d_BB_blame_15 : decode prog_1_method_31_code 15 = .ok (.iload_n 2, 1) := by decide +kernel
theorem d_BB_blame_16 : decode prog_1_method_31_code 16 = .ok (.invokevirtual 140, 3) := by decide +kernel
theorem d_BB_blame_19 : decode prog_1_method_31_code 19 = .ok (.ifCond .ne 7, 3) := by decide +kernel
theorem d_BB_blame_22 : decode prog_1_method_31_code 22 = .ok (.ldc2_w 201, 3) := by decide +kernel
theorem d_BB_blame_25 : decode prog_1_method_31_code 25 = .ok (.lreturn, 1) := by decide +kernel
theorem d_BB_blame_26 : decode prog_1_method_31_code 26 = .ok (.iload_n 3, 1) := by decide +kernel
theorem d_BB_blame_27 : decode prog_1_method_31_code 27 = .ok (.ifCond .lt 9, 3) := by decide +kernel
theorem d_BB_blame_30 : decode prog_1_method_31_code 30 = .ok (.iload_n 3, 1) := by decide +kernel
theorem d_BB_blame_31 : decode prog_1_method_31_code 31 = .ok (.bipush 10, 2) := by decide +kernel
theorem d_BB_blame_33 : decode prog_1_method_31_code 33 = .ok (.if_icmp .le 7, 3) := by decide +kernel
theorem d_BB_blame_36 : decode prog_1_method_31_code 36 = .ok (.ldc2_w 203, 3) := by decide +kernel
theorem d_BB_blame_39 : decode prog_1_method_31_code 39 = .ok (.lreturn, 1) := by decide +kernel
theorem d_BB_blame_40 : decode prog_1_method_31_code 40 = .ok (.aload_n 0, 1) := by decide +kernel
theorem d_BB_blame_41 : decode prog_1_method_31_code 41 = .ok (.getfield 67, 3) := by decide +kernel
theorem d_BB_blame_44 : decode prog_1_method_31_code 44 = .ok (.iload_n 1, 1) := by decide +kernel
theorem d_BB_blame_45 : decode prog_1_method_31_code 45 = .ok (.iload_n 2, 1) := by decide +kernel
theorem d_BB_blame_46 : decode prog_1_method_31_code 46 = .ok (.iload_n 3, 1) := by decide +kernel
theorem d_BB_blame_47 : decode prog_1_method_31_code 47 = .ok (.invokevirtual 216, 3) := by decide +kernel
theorem d_BB_blame_50 : decode prog_1_method_31_code 50 = .ok (.ifCond .ne 7, 3) := by decide +kernel
theorem d_BB_blame_53 : decode prog_1_method_31_code 53 = .ok (.ldc2_w 220, 3) := by decide +kernel
theorem d_BB_blame_56 : decode prog_1_method_31_code 56 = .ok (.lreturn, 1) := by decide +kernel
theorem d_BB_blame_57 : decode prog_1_method_31_code 57 = .ok (.iload 4, 2) := by decide +kernel
theorem d_BB_blame_59 : decode prog_1_method_31_code 59 = .ok (.ifCond .eq 13, 3) := by decide +kernel
theorem d_BB_blame_62 : decode prog_1_method_31_code 62 = .ok (.aload_n 0, 1) := by decide +kernel
theorem d_BB_blame_63 : decode prog_1_method_31_code 63 = .ok (.getfield 67, 3) := by decide +kernel
theorem d_BB_blame_66 : decode prog_1_method_31_code 66 = .ok (.getfield 209, 3) := by decide +kernel
theorem d_BB_blame_69 : decode prog_1_method_31_code 69 = .ok (.goto 10, 3) := by decide +kernel
theorem d_BB_blame_72 : decode prog_1_method_31_code 72 = .ok (.aload_n 0, 1) := by decide +kernel
theorem d_BB_blame_73 : decode prog_1_method_31_code 73 = .ok (.getfield 67, 3) := by decide +kernel
theorem d_BB_blame_76 : decode prog_1_method_31_code 76 = .ok (.getfield 213, 3) := by decide +kernel
theorem d_BB_blame_79 : decode prog_1_method_31_code 79 = .ok (.lreturn, 1) := by decide +kernel
theorem d_BB_keep_0 : decode prog_1_method_32_code 0 = .ok (.iload_n 1, 1) := by decide +kernel
theorem d_BB_keep_1 : decode prog_1_method_32_code 1 = .ok (.ifCond .lt 8, 3) := by decide +kernel
theorem d_BB_keep_4 : decode prog_1_method_32_code 4 = .ok (.iload_n 1, 1) := by decide +kernel
theorem d_BB_keep_5 : decode prog_1_method_32_code 5 = .ok (.iconst 2, 1) := by decide +kernel
theorem d_BB_keep_6 : decode prog_1_method_32_code 6 = .ok (.if_icmp .lt 5, 3) := by decide +kernel
theorem d_BB_keep_9 : decode prog_1_method_32_code 9 = .ok (.iconst (-1), 1) := by decide +kernel
theorem d_BB_keep_10 : decode prog_1_method_32_code 10 = .ok (.ireturn, 1) := by decide +kernel
theorem d_BB_keep_11 : decode prog_1_method_32_code 11 = .ok (.aload_n 0, 1) := by decide +kernel
theorem d_BB_keep_12 : decode prog_1_method_32_code 12 = .ok (.getfield 71, 3) := by decide +kernel
theorem d_BB_keep_15 : decode prog_1_method_32_code 15 = .ok (.iload_n 1, 1) := by decide +kernel
theorem d_BB_keep_16 : decode prog_1_method_32_code 16 = .ok (.aaload, 1) := by decide +kernel
theorem d_BB_keep_17 : decode prog_1_method_32_code 17 = .ok (.aload_n 0, 1) := by decide +kernel
theorem d_BB_keep_18 : decode prog_1_method_32_code 18 = .ok (.getfield 26, 3) := by decide +kernel
theorem d_BB_keep_21 : decode prog_1_method_32_code 21 = .ok (.invokevirtual 222, 3) := by decide +kernel
theorem d_BB_keep_24 : decode prog_1_method_32_code 24 = .ok (.aload_n 0, 1) := by decide +kernel
theorem d_BB_keep_25 : decode prog_1_method_32_code 25 = .ok (.getfield 75, 3) := by decide +kernel
theorem d_BB_keep_28 : decode prog_1_method_32_code 28 = .ok (.iload_n 1, 1) := by decide +kernel
theorem d_BB_keep_29 : decode prog_1_method_32_code 29 = .ok (.iconst 1, 1) := by decide +kernel
theorem d_BB_keep_30 : decode prog_1_method_32_code 30 = .ok (.bastore, 1) := by decide +kernel
theorem d_BB_keep_31 : decode prog_1_method_32_code 31 = .ok (.aload_n 0, 1) := by decide +kernel
theorem d_BB_keep_32 : decode prog_1_method_32_code 32 = .ok (.getfield 26, 3) := by decide +kernel
theorem d_BB_keep_35 : decode prog_1_method_32_code 35 = .ok (.getfield 103, 3) := by decide +kernel
theorem d_BB_keep_38 : decode prog_1_method_32_code 38 = .ok (.ireturn, 1) := by decide +kernel
theorem d_BB_again_0 : decode prog_1_method_33_code 0 = .ok (.iload_n 1, 1) := by decide +kernel
theorem d_BB_again_1 : decode prog_1_method_33_code 1 = .ok (.ifCond .lt 8, 3) := by decide +kernel
theorem d_BB_again_4 : decode prog_1_method_33_code 4 = .ok (.iload_n 1, 1) := by decide +kernel
theorem d_BB_again_5 : decode prog_1_method_33_code 5 = .ok (.iconst 2, 1) := by decide +kernel
theorem d_BB_again_6 : decode prog_1_method_33_code 6 = .ok (.if_icmp .lt 5, 3) := by decide +kernel
theorem d_BB_again_9 : decode prog_1_method_33_code 9 = .ok (.iconst (-1), 1) := by decide +kernel
theorem d_BB_again_10 : decode prog_1_method_33_code 10 = .ok (.ireturn, 1) := by decide +kernel
theorem d_BB_again_11 : decode prog_1_method_33_code 11 = .ok (.aload_n 0, 1) := by decide +kernel
theorem d_BB_again_12 : decode prog_1_method_33_code 12 = .ok (.getfield 75, 3) := by decide +kernel
theorem d_BB_again_15 : decode prog_1_method_33_code 15 = .ok (.iload_n 1, 1) := by decide +kernel
theorem d_BB_again_16 : decode prog_1_method_33_code 16 = .ok (.baload, 1) := by decide +kernel
theorem d_BB_again_17 : decode prog_1_method_33_code 17 = .ok (.ifCond .ne 6, 3) := by decide +kernel
theorem d_BB_again_20 : decode prog_1_method_33_code 20 = .ok (.bipush (-3), 2) := by decide +kernel
theorem d_BB_again_22 : decode prog_1_method_33_code 22 = .ok (.ireturn, 1) := by decide +kernel
theorem d_BB_again_23 : decode prog_1_method_33_code 23 = .ok (.aload_n 0, 1) := by decide +kernel
theorem d_BB_again_24 : decode prog_1_method_33_code 24 = .ok (.getfield 26, 3) := by decide +kernel
theorem d_BB_again_27 : decode prog_1_method_33_code 27 = .ok (.aload_n 0, 1) := by decide +kernel
theorem d_BB_again_28 : decode prog_1_method_33_code 28 = .ok (.getfield 71, 3) := by decide +kernel
theorem d_BB_again_31 : decode prog_1_method_33_code 31 = .ok (.iload_n 1, 1) := by decide +kernel
theorem d_BB_again_32 : decode prog_1_method_33_code 32 = .ok (.aaload, 1) := by decide +kernel
theorem d_BB_again_33 : decode prog_1_method_33_code 33 = .ok (.invokevirtual 222, 3) := by decide +kernel
theorem d_BB_again_36 : decode prog_1_method_33_code 36 = .ok (.aload_n 0, 1) := by decide +kernel
theorem d_BB_again_37 : decode prog_1_method_33_code 37 = .ok (.getfield 26, 3) := by decide +kernel
theorem d_BB_again_40 : decode prog_1_method_33_code 40 = .ok (.getfield 103, 3) := by decide +kernel
theorem d_BB_again_43 : decode prog_1_method_33_code 43 = .ok (.ireturn, 1) := by decide +kernel
theorem d_BB_count_0 : decode prog_1_method_34_code 0 = .ok (.iload_n 1, 1) := by decide +kernel
theorem d_BB_count_1 : decode prog_1_method_34_code 1 = .ok (.tableswitch 99 0 6 #[43, 51, 59, 67, 75, 83, 91], 43) := by decide +kernel
theorem d_BB_count_44 : decode prog_1_method_34_code 44 = .ok (.aload_n 0, 1) := by decide +kernel
theorem d_BB_count_45 : decode prog_1_method_34_code 45 = .ok (.getfield 10, 3) := by decide +kernel
theorem d_BB_count_48 : decode prog_1_method_34_code 48 = .ok (.getfield 226, 3) := by decide +kernel
theorem d_BB_count_51 : decode prog_1_method_34_code 51 = .ok (.ireturn, 1) := by decide +kernel
theorem d_BB_count_52 : decode prog_1_method_34_code 52 = .ok (.aload_n 0, 1) := by decide +kernel
theorem d_BB_count_53 : decode prog_1_method_34_code 53 = .ok (.getfield 19, 3) := by decide +kernel
theorem d_BB_count_56 : decode prog_1_method_34_code 56 = .ok (.getfield 99, 3) := by decide +kernel
theorem d_BB_count_59 : decode prog_1_method_34_code 59 = .ok (.ireturn, 1) := by decide +kernel
theorem d_BB_count_60 : decode prog_1_method_34_code 60 = .ok (.aload_n 0, 1) := by decide +kernel
theorem d_BB_count_61 : decode prog_1_method_34_code 61 = .ok (.getfield 26, 3) := by decide +kernel
theorem d_BB_count_64 : decode prog_1_method_34_code 64 = .ok (.getfield 103, 3) := by decide +kernel
theorem d_BB_count_67 : decode prog_1_method_34_code 67 = .ok (.ireturn, 1) := by decide +kernel
theorem d_BB_count_68 : decode prog_1_method_34_code 68 = .ok (.aload_n 0, 1) := by decide +kernel
theorem d_BB_count_69 : decode prog_1_method_34_code 69 = .ok (.getfield 19, 3) := by decide +kernel
theorem d_BB_count_72 : decode prog_1_method_34_code 72 = .ok (.getfield 195, 3) := by decide +kernel
theorem d_BB_count_75 : decode prog_1_method_34_code 75 = .ok (.ireturn, 1) := by decide +kernel
theorem d_BB_count_76 : decode prog_1_method_34_code 76 = .ok (.aload_n 0, 1) := by decide +kernel
theorem d_BB_count_77 : decode prog_1_method_34_code 77 = .ok (.getfield 26, 3) := by decide +kernel
theorem d_BB_count_80 : decode prog_1_method_34_code 80 = .ok (.invokevirtual 229, 3) := by decide +kernel
theorem d_BB_count_83 : decode prog_1_method_34_code 83 = .ok (.ireturn, 1) := by decide +kernel
theorem d_BB_count_84 : decode prog_1_method_34_code 84 = .ok (.aload_n 0, 1) := by decide +kernel
theorem d_BB_count_85 : decode prog_1_method_34_code 85 = .ok (.getfield 26, 3) := by decide +kernel
theorem d_BB_count_88 : decode prog_1_method_34_code 88 = .ok (.getfield 137, 3) := by decide +kernel
theorem d_BB_count_91 : decode prog_1_method_34_code 91 = .ok (.ireturn, 1) := by decide +kernel
theorem d_BB_count_92 : decode prog_1_method_34_code 92 = .ok (.aload_n 0, 1) := by decide +kernel
theorem d_BB_count_93 : decode prog_1_method_34_code 93 = .ok (.getfield 26, 3) := by decide +kernel
theorem d_BB_count_96 : decode prog_1_method_34_code 96 = .ok (.getfield 134, 3) := by decide +kernel
theorem d_BB_count_99 : decode prog_1_method_34_code 99 = .ok (.ireturn, 1) := by decide +kernel
theorem d_BB_count_100 : decode prog_1_method_34_code 100 = .ok (.bipush (-2), 2) := by decide +kernel
theorem d_BB_count_102 : decode prog_1_method_34_code 102 = .ok (.ireturn, 1) := by decide +kernel
theorem d_IG_bitCount_0 : decode prog_12_method_49_code 0 = .ok (.iload_n 0, 1) := by decide +kernel
theorem d_IG_bitCount_1 : decode prog_12_method_49_code 1 = .ok (.iload_n 0, 1) := by decide +kernel
theorem d_IG_bitCount_2 : decode prog_12_method_49_code 2 = .ok (.iconst 1, 1) := by decide +kernel
theorem d_IG_bitCount_3 : decode prog_12_method_49_code 3 = .ok (.iushr, 1) := by decide +kernel
theorem d_IG_bitCount_4 : decode prog_12_method_49_code 4 = .ok (.ldc_w 265, 3) := by decide +kernel
theorem d_IG_bitCount_7 : decode prog_12_method_49_code 7 = .ok (.iand, 1) := by decide +kernel
theorem d_IG_bitCount_8 : decode prog_12_method_49_code 8 = .ok (.isub, 1) := by decide +kernel
theorem d_IG_bitCount_9 : decode prog_12_method_49_code 9 = .ok (.istore_n 0, 1) := by decide +kernel
theorem d_IG_bitCount_10 : decode prog_12_method_49_code 10 = .ok (.iload_n 0, 1) := by decide +kernel
theorem d_IG_bitCount_11 : decode prog_12_method_49_code 11 = .ok (.ldc_w 266, 3) := by decide +kernel
theorem d_IG_bitCount_14 : decode prog_12_method_49_code 14 = .ok (.iand, 1) := by decide +kernel
theorem d_IG_bitCount_15 : decode prog_12_method_49_code 15 = .ok (.iload_n 0, 1) := by decide +kernel
theorem d_IG_bitCount_16 : decode prog_12_method_49_code 16 = .ok (.iconst 2, 1) := by decide +kernel
theorem d_IG_bitCount_17 : decode prog_12_method_49_code 17 = .ok (.iushr, 1) := by decide +kernel
theorem d_IG_bitCount_18 : decode prog_12_method_49_code 18 = .ok (.ldc_w 266, 3) := by decide +kernel
theorem d_IG_bitCount_21 : decode prog_12_method_49_code 21 = .ok (.iand, 1) := by decide +kernel
theorem d_IG_bitCount_22 : decode prog_12_method_49_code 22 = .ok (.iadd, 1) := by decide +kernel
theorem d_IG_bitCount_23 : decode prog_12_method_49_code 23 = .ok (.istore_n 0, 1) := by decide +kernel
theorem d_IG_bitCount_24 : decode prog_12_method_49_code 24 = .ok (.iload_n 0, 1) := by decide +kernel
theorem d_IG_bitCount_25 : decode prog_12_method_49_code 25 = .ok (.iload_n 0, 1) := by decide +kernel
theorem d_IG_bitCount_26 : decode prog_12_method_49_code 26 = .ok (.iconst 4, 1) := by decide +kernel
theorem d_IG_bitCount_27 : decode prog_12_method_49_code 27 = .ok (.iushr, 1) := by decide +kernel
theorem d_IG_bitCount_28 : decode prog_12_method_49_code 28 = .ok (.iadd, 1) := by decide +kernel
theorem d_IG_bitCount_29 : decode prog_12_method_49_code 29 = .ok (.ldc_w 267, 3) := by decide +kernel
theorem d_IG_bitCount_32 : decode prog_12_method_49_code 32 = .ok (.iand, 1) := by decide +kernel
theorem d_IG_bitCount_33 : decode prog_12_method_49_code 33 = .ok (.istore_n 0, 1) := by decide +kernel
theorem d_IG_bitCount_34 : decode prog_12_method_49_code 34 = .ok (.iload_n 0, 1) := by decide +kernel
theorem d_IG_bitCount_35 : decode prog_12_method_49_code 35 = .ok (.iload_n 0, 1) := by decide +kernel
theorem d_IG_bitCount_36 : decode prog_12_method_49_code 36 = .ok (.bipush 8, 2) := by decide +kernel
theorem d_IG_bitCount_38 : decode prog_12_method_49_code 38 = .ok (.iushr, 1) := by decide +kernel
theorem d_IG_bitCount_39 : decode prog_12_method_49_code 39 = .ok (.iadd, 1) := by decide +kernel
theorem d_IG_bitCount_40 : decode prog_12_method_49_code 40 = .ok (.istore_n 0, 1) := by decide +kernel
theorem d_IG_bitCount_41 : decode prog_12_method_49_code 41 = .ok (.iload_n 0, 1) := by decide +kernel
theorem d_IG_bitCount_42 : decode prog_12_method_49_code 42 = .ok (.iload_n 0, 1) := by decide +kernel
theorem d_IG_bitCount_43 : decode prog_12_method_49_code 43 = .ok (.bipush 16, 2) := by decide +kernel
theorem d_IG_bitCount_45 : decode prog_12_method_49_code 45 = .ok (.iushr, 1) := by decide +kernel
theorem d_IG_bitCount_46 : decode prog_12_method_49_code 46 = .ok (.iadd, 1) := by decide +kernel
theorem d_IG_bitCount_47 : decode prog_12_method_49_code 47 = .ok (.istore_n 0, 1) := by decide +kernel
theorem d_IG_bitCount_48 : decode prog_12_method_49_code 48 = .ok (.iload_n 0, 1) := by decide +kernel
theorem d_IG_bitCount_49 : decode prog_12_method_49_code 49 = .ok (.bipush 63, 2) := by decide +kernel
theorem d_IG_bitCount_51 : decode prog_12_method_49_code 51 = .ok (.iand, 1) := by decide +kernel
theorem d_IG_bitCount_52 : decode prog_12_method_49_code 52 = .ok (.ireturn, 1) := by decide +kernel
theorem d_MT_floorMod_0 : decode prog_13_method_50_code 0 = .ok (.iload_n 0, 1) := by decide +kernel
theorem d_MT_floorMod_1 : decode prog_13_method_50_code 1 = .ok (.iload_n 1, 1) := by decide +kernel
theorem d_MT_floorMod_2 : decode prog_13_method_50_code 2 = .ok (.irem, 1) := by decide +kernel
theorem d_MT_floorMod_3 : decode prog_13_method_50_code 3 = .ok (.istore_n 2, 1) := by decide +kernel
theorem d_MT_floorMod_4 : decode prog_13_method_50_code 4 = .ok (.iload_n 0, 1) := by decide +kernel
theorem d_MT_floorMod_5 : decode prog_13_method_50_code 5 = .ok (.iload_n 1, 1) := by decide +kernel
theorem d_MT_floorMod_6 : decode prog_13_method_50_code 6 = .ok (.ixor, 1) := by decide +kernel
theorem d_MT_floorMod_7 : decode prog_13_method_50_code 7 = .ok (.ifCond .ge 11, 3) := by decide +kernel
theorem d_MT_floorMod_10 : decode prog_13_method_50_code 10 = .ok (.iload_n 2, 1) := by decide +kernel
theorem d_MT_floorMod_11 : decode prog_13_method_50_code 11 = .ok (.ifCond .eq 7, 3) := by decide +kernel
theorem d_MT_floorMod_14 : decode prog_13_method_50_code 14 = .ok (.iload_n 2, 1) := by decide +kernel
theorem d_MT_floorMod_15 : decode prog_13_method_50_code 15 = .ok (.iload_n 1, 1) := by decide +kernel
theorem d_MT_floorMod_16 : decode prog_13_method_50_code 16 = .ok (.iadd, 1) := by decide +kernel
theorem d_MT_floorMod_17 : decode prog_13_method_50_code 17 = .ok (.ireturn, 1) := by decide +kernel
theorem d_MT_floorMod_18 : decode prog_13_method_50_code 18 = .ok (.iload_n 2, 1) := by decide +kernel
theorem d_MT_floorMod_19 : decode prog_13_method_50_code 19 = .ok (.ireturn, 1) := by decide +kernel
theorem d_MT_max_0 : decode prog_13_method_65_code 0 = .ok (.iload_n 0, 1) := by decide +kernel
theorem d_MT_max_1 : decode prog_13_method_65_code 1 = .ok (.iload_n 1, 1) := by decide +kernel
theorem d_MT_max_2 : decode prog_13_method_65_code 2 = .ok (.if_icmp .lt 7, 3) := by decide +kernel
theorem d_MT_max_5 : decode prog_13_method_65_code 5 = .ok (.iload_n 0, 1) := by decide +kernel
theorem d_MT_max_6 : decode prog_13_method_65_code 6 = .ok (.goto 4, 3) := by decide +kernel
theorem d_MT_max_9 : decode prog_13_method_65_code 9 = .ok (.iload_n 1, 1) := by decide +kernel
theorem d_MT_max_10 : decode prog_13_method_65_code 10 = .ok (.ireturn, 1) := by decide +kernel
theorem d_MT_min_0 : decode prog_13_method_69_code 0 = .ok (.iload_n 0, 1) := by decide +kernel
theorem d_MT_min_1 : decode prog_13_method_69_code 1 = .ok (.iload_n 1, 1) := by decide +kernel
theorem d_MT_min_2 : decode prog_13_method_69_code 2 = .ok (.if_icmp .gt 7, 3) := by decide +kernel
theorem d_MT_min_5 : decode prog_13_method_69_code 5 = .ok (.iload_n 0, 1) := by decide +kernel
theorem d_MT_min_6 : decode prog_13_method_69_code 6 = .ok (.goto 4, 3) := by decide +kernel
theorem d_MT_min_9 : decode prog_13_method_69_code 9 = .ok (.iload_n 1, 1) := by decide +kernel
theorem d_MT_min_10 : decode prog_13_method_69_code 10 = .ok (.ireturn, 1) := by decide +kernel
