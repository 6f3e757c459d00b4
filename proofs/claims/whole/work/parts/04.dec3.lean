theorem dX12_sum_14 : decode cX12_sum 14 = .ok (.isub, 1) := by decide +kernel
theorem dX12_sum_15 : decode cX12_sum 15 = .ok (.i2l, 1) := by decide +kernel
theorem dX12_sum_16 : decode cX12_sum 16 = .ok (.invokestatic 206, 3) := by decide +kernel
theorem dX12_sum_19 : decode cX12_sum 19 = .ok (.ifCond .eq 23, 3) := by decide +kernel
theorem dX12_sum_22 : decode cX12_sum 22 = .ok (.iload_n 2, 1) := by decide +kernel
theorem dX12_sum_23 : decode cX12_sum 23 = .ok (.i2l, 1) := by decide +kernel
theorem dX12_sum_24 : decode cX12_sum 24 = .ok (.lconst 0, 1) := by decide +kernel
theorem dX12_sum_25 : decode cX12_sum 25 = .ok (.aload_n 0, 1) := by decide +kernel
theorem dX12_sum_26 : decode cX12_sum 26 = .ok (.getfield 16, 3) := by decide +kernel
theorem dX12_sum_29 : decode cX12_sum 29 = .ok (.iconst 1, 1) := by decide +kernel
theorem dX12_sum_30 : decode cX12_sum 30 = .ok (.isub, 1) := by decide +kernel
theorem dX12_sum_31 : decode cX12_sum 31 = .ok (.i2l, 1) := by decide +kernel
theorem dX12_sum_32 : decode cX12_sum 32 = .ok (.invokestatic 206, 3) := by decide +kernel
theorem dX12_sum_35 : decode cX12_sum 35 = .ok (.ifCond .eq 7, 3) := by decide +kernel
theorem dX12_sum_38 : decode cX12_sum 38 = .ok (.iconst 1, 1) := by decide +kernel
theorem dX12_sum_39 : decode cX12_sum 39 = .ok (.goto 4, 3) := by decide +kernel
theorem dX12_sum_42 : decode cX12_sum 42 = .ok (.iconst 0, 1) := by decide +kernel
theorem dX12_sum_43 : decode cX12_sum 43 = .ok (.iconst 1, 1) := by decide +kernel
theorem dX12_sum_44 : decode cX12_sum 44 = .ok (.invokevirtual 304, 3) := by decide +kernel
theorem dX12_sum_47 : decode cX12_sum 47 = .ok (.ifCond .ne 5, 3) := by decide +kernel
theorem dX12_sum_50 : decode cX12_sum 50 = .ok (.iconst 0, 1) := by decide +kernel
theorem dX12_sum_51 : decode cX12_sum 51 = .ok (.ireturn, 1) := by decide +kernel
theorem dX12_sum_52 : decode cX12_sum 52 = .ok (.aload_n 0, 1) := by decide +kernel
theorem dX12_sum_53 : decode cX12_sum 53 = .ok (.aload_n 0, 1) := by decide +kernel
theorem dX12_sum_54 : decode cX12_sum 54 = .ok (.iconst 1, 1) := by decide +kernel
theorem dX12_sum_55 : decode cX12_sum 55 = .ok (.aload_n 0, 1) := by decide +kernel
theorem dX12_sum_56 : decode cX12_sum 56 = .ok (.getfield 41, 3) := by decide +kernel
theorem dX12_sum_59 : decode cX12_sum 59 = .ok (.iload_n 1, 1) := by decide +kernel
theorem dX12_sum_60 : decode cX12_sum 60 = .ok (.iaload, 1) := by decide +kernel
theorem dX12_sum_61 : decode cX12_sum 61 = .ok (.iconst 1, 1) := by decide +kernel
theorem dX12_sum_62 : decode cX12_sum 62 = .ok (.invokevirtual 175, 3) := by decide +kernel
theorem dX12_sum_65 : decode cX12_sum 65 = .ok (.invokevirtual 191, 3) := by decide +kernel
theorem dX12_sum_68 : decode cX12_sum 68 = .ok (.aload_n 0, 1) := by decide +kernel
theorem dX12_sum_69 : decode cX12_sum 69 = .ok (.getfield 59, 3) := by decide +kernel
theorem dX12_sum_72 : decode cX12_sum 72 = .ok (.iload_n 2, 1) := by decide +kernel
theorem dX12_sum_73 : decode cX12_sum 73 = .ok (.iaload, 1) := by decide +kernel
theorem dX12_sum_74 : decode cX12_sum 74 = .ok (.ireturn, 1) := by decide +kernel
theorem dX12_begins_0 : decode cX12_begins 0 = .ok (.aload_n 0, 1) := by decide +kernel
theorem dX12_begins_1 : decode cX12_begins 1 = .ok (.iconst 0, 1) := by decide +kernel
theorem dX12_begins_2 : decode cX12_begins 2 = .ok (.putfield 352, 3) := by decide +kernel
theorem dX12_begins_5 : decode cX12_begins 5 = .ok (.aload_n 0, 1) := by decide +kernel
theorem dX12_begins_6 : decode cX12_begins 6 = .ok (.iload_n 1, 1) := by decide +kernel
theorem dX12_begins_7 : decode cX12_begins 7 = .ok (.putfield 355, 3) := by decide +kernel
theorem dX12_begins_10 : decode cX12_begins 10 = .ok (.aload_n 0, 1) := by decide +kernel
theorem dX12_begins_11 : decode cX12_begins 11 = .ok (.iconst (-1), 1) := by decide +kernel
theorem dX12_begins_12 : decode cX12_begins 12 = .ok (.putfield 358, 3) := by decide +kernel
theorem dX12_begins_15 : decode cX12_begins 15 = .ok (.return_, 1) := by decide +kernel
theorem dX12_counts_0 : decode cX12_counts 0 = .ok (.aload_n 0, 1) := by decide +kernel
theorem dX12_counts_1 : decode cX12_counts 1 = .ok (.getfield 352, 3) := by decide +kernel
theorem dX12_counts_4 : decode cX12_counts 4 = .ok (.aload_n 0, 1) := by decide +kernel
theorem dX12_counts_5 : decode cX12_counts 5 = .ok (.getfield 355, 3) := by decide +kernel
theorem dX12_counts_8 : decode cX12_counts 8 = .ok (.if_icmp .ne 8, 3) := by decide +kernel
theorem dX12_counts_11 : decode cX12_counts 11 = .ok (.aload_n 0, 1) := by decide +kernel
theorem dX12_counts_12 : decode cX12_counts 12 = .ok (.iload_n 1, 1) := by decide +kernel
theorem dX12_counts_13 : decode cX12_counts 13 = .ok (.putfield 358, 3) := by decide +kernel
theorem dX12_counts_16 : decode cX12_counts 16 = .ok (.aload_n 0, 1) := by decide +kernel
theorem dX12_counts_17 : decode cX12_counts 17 = .ok (.dup, 1) := by decide +kernel
theorem dX12_counts_18 : decode cX12_counts 18 = .ok (.getfield 352, 3) := by decide +kernel
theorem dX12_counts_21 : decode cX12_counts 21 = .ok (.iconst 1, 1) := by decide +kernel
theorem dX12_counts_22 : decode cX12_counts 22 = .ok (.iadd, 1) := by decide +kernel
theorem dX12_counts_23 : decode cX12_counts 23 = .ok (.putfield 352, 3) := by decide +kernel
theorem dX12_counts_26 : decode cX12_counts 26 = .ok (.return_, 1) := by decide +kernel
theorem dX12_told_0 : decode cX12_told 0 = .ok (.aload_n 0, 1) := by decide +kernel
theorem dX12_told_1 : decode cX12_told 1 = .ok (.getfield 355, 3) := by decide +kernel
theorem dX12_told_4 : decode cX12_told 4 = .ok (.iconst (-1), 1) := by decide +kernel
theorem dX12_told_5 : decode cX12_told 5 = .ok (.if_icmp .ne 8, 3) := by decide +kernel
theorem dX12_told_8 : decode cX12_told 8 = .ok (.aload_n 0, 1) := by decide +kernel
theorem dX12_told_9 : decode cX12_told 9 = .ok (.getfield 352, 3) := by decide +kernel
theorem dX12_told_12 : decode cX12_told 12 = .ok (.ireturn, 1) := by decide +kernel
theorem dX12_told_13 : decode cX12_told 13 = .ok (.aload_n 0, 1) := by decide +kernel
theorem dX12_told_14 : decode cX12_told 14 = .ok (.aload_n 0, 1) := by decide +kernel
theorem dX12_told_15 : decode cX12_told 15 = .ok (.getfield 358, 3) := by decide +kernel
theorem dX12_told_18 : decode cX12_told 18 = .ok (.iconst (-1), 1) := by decide +kernel
theorem dX12_told_19 : decode cX12_told 19 = .ok (.if_icmp .eq 7, 3) := by decide +kernel
theorem dX12_told_22 : decode cX12_told 22 = .ok (.iconst 1, 1) := by decide +kernel
theorem dX12_told_23 : decode cX12_told 23 = .ok (.goto 4, 3) := by decide +kernel
theorem dX12_told_26 : decode cX12_told 26 = .ok (.iconst 0, 1) := by decide +kernel
theorem dX12_told_27 : decode cX12_told 27 = .ok (.iconst 1, 1) := by decide +kernel
theorem dX12_told_28 : decode cX12_told 28 = .ok (.invokevirtual 304, 3) := by decide +kernel
theorem dX12_told_31 : decode cX12_told 31 = .ok (.ifCond .eq 10, 3) := by decide +kernel
theorem dX12_told_34 : decode cX12_told 34 = .ok (.aload_n 0, 1) := by decide +kernel
theorem dX12_told_35 : decode cX12_told 35 = .ok (.getfield 358, 3) := by decide +kernel
theorem dX12_told_38 : decode cX12_told 38 = .ok (.goto 4, 3) := by decide +kernel
theorem dX12_told_41 : decode cX12_told 41 = .ok (.iconst 0, 1) := by decide +kernel
theorem dX12_told_42 : decode cX12_told 42 = .ok (.ireturn, 1) := by decide +kernel
theorem dX12_roots_0 : decode cX12_roots 0 = .ok (.aload_n 0, 1) := by decide +kernel
theorem dX12_roots_1 : decode cX12_roots 1 = .ok (.iconst 0, 1) := by decide +kernel
theorem dX12_roots_2 : decode cX12_roots 2 = .ok (.putfield 1, 3) := by decide +kernel
theorem dX12_roots_5 : decode cX12_roots 5 = .ok (.aload_n 0, 1) := by decide +kernel
theorem dX12_roots_6 : decode cX12_roots 6 = .ok (.aload_n 0, 1) := by decide +kernel
theorem dX12_roots_7 : decode cX12_roots 7 = .ok (.iload_n 1, 1) := by decide +kernel
theorem dX12_roots_8 : decode cX12_roots 8 = .ok (.invokevirtual 311, 3) := by decide +kernel
theorem dX12_roots_11 : decode cX12_roots 11 = .ok (.ifCond .eq 24, 3) := by decide +kernel
theorem dX12_roots_14 : decode cX12_roots 14 = .ok (.iload_n 2, 1) := by decide +kernel
theorem dX12_roots_15 : decode cX12_roots 15 = .ok (.i2l, 1) := by decide +kernel
theorem dX12_roots_16 : decode cX12_roots 16 = .ok (.lconst 1, 1) := by decide +kernel
theorem dX12_roots_17 : decode cX12_roots 17 = .ok (.ldc2_w 361, 3) := by decide +kernel
theorem dX12_roots_20 : decode cX12_roots 20 = .ok (.invokestatic 206, 3) := by decide +kernel
theorem dX12_roots_23 : decode cX12_roots 23 = .ok (.ifCond .eq 12, 3) := by decide +kernel
theorem dX12_roots_26 : decode cX12_roots 26 = .ok (.iload_n 3, 1) := by decide +kernel
theorem dX12_roots_27 : decode cX12_roots 27 = .ok (.iconst (-1), 1) := by decide +kernel
theorem dX12_roots_28 : decode cX12_roots 28 = .ok (.if_icmp .lt 7, 3) := by decide +kernel
theorem dX12_roots_31 : decode cX12_roots 31 = .ok (.iconst 1, 1) := by decide +kernel
theorem dX12_roots_32 : decode cX12_roots 32 = .ok (.goto 4, 3) := by decide +kernel
theorem dX12_roots_35 : decode cX12_roots 35 = .ok (.iconst 0, 1) := by decide +kernel
theorem dX12_roots_36 : decode cX12_roots 36 = .ok (.iconst 1, 1) := by decide +kernel
theorem dX12_roots_37 : decode cX12_roots 37 = .ok (.invokevirtual 304, 3) := by decide +kernel
theorem dX12_roots_40 : decode cX12_roots 40 = .ok (.ifCond .ne 5, 3) := by decide +kernel
theorem dX12_roots_43 : decode cX12_roots 43 = .ok (.iconst 0, 1) := by decide +kernel
theorem dX12_roots_44 : decode cX12_roots 44 = .ok (.ireturn, 1) := by decide +kernel
theorem dX12_roots_45 : decode cX12_roots 45 = .ok (.aload_n 0, 1) := by decide +kernel
theorem dX12_roots_46 : decode cX12_roots 46 = .ok (.iload_n 3, 1) := by decide +kernel
theorem dX12_roots_47 : decode cX12_roots 47 = .ok (.invokevirtual 363, 3) := by decide +kernel
theorem dX12_roots_50 : decode cX12_roots 50 = .ok (.iconst 0, 1) := by decide +kernel
theorem dX12_roots_51 : decode cX12_roots 51 = .ok (.istore 4, 2) := by decide +kernel
theorem dX12_roots_53 : decode cX12_roots 53 = .ok (.iload 4, 2) := by decide +kernel
theorem dX12_roots_55 : decode cX12_roots 55 = .ok (.aload_n 0, 1) := by decide +kernel
theorem dX12_roots_56 : decode cX12_roots 56 = .ok (.getfield 28, 3) := by decide +kernel
theorem dX12_roots_59 : decode cX12_roots 59 = .ok (.if_icmp .ge 27, 3) := by decide +kernel
theorem dX12_roots_62 : decode cX12_roots 62 = .ok (.aload_n 0, 1) := by decide +kernel
theorem dX12_roots_63 : decode cX12_roots 63 = .ok (.iload 4, 2) := by decide +kernel
theorem dX12_roots_65 : decode cX12_roots 65 = .ok (.iload_n 2, 1) := by decide +kernel
theorem dX12_roots_66 : decode cX12_roots 66 = .ok (.i2l, 1) := by decide +kernel
theorem dX12_roots_67 : decode cX12_roots 67 = .ok (.invokevirtual 147, 3) := by decide +kernel
theorem dX12_roots_70 : decode cX12_roots 70 = .ok (.iload_n 1, 1) := by decide +kernel
theorem dX12_roots_71 : decode cX12_roots 71 = .ok (.if_icmp .ne 9, 3) := by decide +kernel
theorem dX12_roots_74 : decode cX12_roots 74 = .ok (.aload_n 0, 1) := by decide +kernel
theorem dX12_roots_75 : decode cX12_roots 75 = .ok (.iload 4, 2) := by decide +kernel
theorem dX12_roots_77 : decode cX12_roots 77 = .ok (.invokevirtual 366, 3) := by decide +kernel
theorem dX12_roots_80 : decode cX12_roots 80 = .ok (.iinc 4 1, 3) := by decide +kernel
theorem dX12_roots_83 : decode cX12_roots 83 = .ok (.goto (-30), 3) := by decide +kernel
theorem dX12_roots_86 : decode cX12_roots 86 = .ok (.aload_n 0, 1) := by decide +kernel
theorem dX12_roots_87 : decode cX12_roots 87 = .ok (.invokevirtual 369, 3) := by decide +kernel
theorem dX12_roots_90 : decode cX12_roots 90 = .ok (.ireturn, 1) := by decide +kernel
theorem dX12_zeros_0 : decode cX12_zeros 0 = .ok (.aload_n 0, 1) := by decide +kernel
theorem dX12_zeros_1 : decode cX12_zeros 1 = .ok (.iconst 0, 1) := by decide +kernel
theorem dX12_zeros_2 : decode cX12_zeros 2 = .ok (.putfield 1, 3) := by decide +kernel
theorem dX12_zeros_5 : decode cX12_zeros 5 = .ok (.aload_n 0, 1) := by decide +kernel
theorem dX12_zeros_6 : decode cX12_zeros 6 = .ok (.iload_n 1, 1) := by decide +kernel
theorem dX12_zeros_7 : decode cX12_zeros 7 = .ok (.i2l, 1) := by decide +kernel
theorem dX12_zeros_8 : decode cX12_zeros 8 = .ok (.lconst 0, 1) := by decide +kernel
theorem dX12_zeros_9 : decode cX12_zeros 9 = .ok (.ldc2_w 302, 3) := by decide +kernel
theorem dX12_zeros_12 : decode cX12_zeros 12 = .ok (.invokestatic 206, 3) := by decide +kernel
theorem dX12_zeros_15 : decode cX12_zeros 15 = .ok (.ifCond .eq 12, 3) := by decide +kernel
theorem dX12_zeros_18 : decode cX12_zeros 18 = .ok (.iload_n 2, 1) := by decide +kernel
theorem dX12_zeros_19 : decode cX12_zeros 19 = .ok (.iconst (-1), 1) := by decide +kernel
theorem dX12_zeros_20 : decode cX12_zeros 20 = .ok (.if_icmp .lt 7, 3) := by decide +kernel
theorem dX12_zeros_23 : decode cX12_zeros 23 = .ok (.iconst 1, 1) := by decide +kernel
theorem dX12_zeros_24 : decode cX12_zeros 24 = .ok (.goto 4, 3) := by decide +kernel
theorem dX12_zeros_27 : decode cX12_zeros 27 = .ok (.iconst 0, 1) := by decide +kernel
theorem dX12_zeros_28 : decode cX12_zeros 28 = .ok (.iconst 1, 1) := by decide +kernel
theorem dX12_zeros_29 : decode cX12_zeros 29 = .ok (.invokevirtual 304, 3) := by decide +kernel
theorem dX12_zeros_32 : decode cX12_zeros 32 = .ok (.ifCond .ne 5, 3) := by decide +kernel
theorem dX12_zeros_35 : decode cX12_zeros 35 = .ok (.iconst 0, 1) := by decide +kernel
theorem dX12_zeros_36 : decode cX12_zeros 36 = .ok (.ireturn, 1) := by decide +kernel
theorem dX12_zeros_37 : decode cX12_zeros 37 = .ok (.aload_n 0, 1) := by decide +kernel
theorem dX12_zeros_38 : decode cX12_zeros 38 = .ok (.iload_n 2, 1) := by decide +kernel
theorem dX12_zeros_39 : decode cX12_zeros 39 = .ok (.invokevirtual 363, 3) := by decide +kernel
theorem dX12_zeros_42 : decode cX12_zeros 42 = .ok (.iconst 0, 1) := by decide +kernel
theorem dX12_zeros_43 : decode cX12_zeros 43 = .ok (.istore_n 3, 1) := by decide +kernel
theorem dX12_zeros_44 : decode cX12_zeros 44 = .ok (.iload_n 3, 1) := by decide +kernel
theorem dX12_zeros_45 : decode cX12_zeros 45 = .ok (.aload_n 0, 1) := by decide +kernel
theorem dX12_zeros_46 : decode cX12_zeros 46 = .ok (.getfield 28, 3) := by decide +kernel
theorem dX12_zeros_49 : decode cX12_zeros 49 = .ok (.if_icmp .ge 57, 3) := by decide +kernel
theorem dX12_zeros_52 : decode cX12_zeros 52 = .ok (.iconst 0, 1) := by decide +kernel
theorem dX12_zeros_53 : decode cX12_zeros 53 = .ok (.istore 4, 2) := by decide +kernel
theorem dX12_zeros_55 : decode cX12_zeros 55 = .ok (.iload_n 1, 1) := by decide +kernel
theorem dX12_zeros_56 : decode cX12_zeros 56 = .ok (.istore 5, 2) := by decide +kernel
theorem dX12_zeros_58 : decode cX12_zeros 58 = .ok (.iload 5, 2) := by decide +kernel
theorem dX12_zeros_60 : decode cX12_zeros 60 = .ok (.ifCond .lt 30, 3) := by decide +kernel
theorem dX12_zeros_63 : decode cX12_zeros 63 = .ok (.aload_n 0, 1) := by decide +kernel
theorem dX12_zeros_64 : decode cX12_zeros 64 = .ok (.aload_n 0, 1) := by decide +kernel
theorem dX12_zeros_65 : decode cX12_zeros 65 = .ok (.iload 4, 2) := by decide +kernel
theorem dX12_zeros_67 : decode cX12_zeros 67 = .ok (.iload_n 3, 1) := by decide +kernel
theorem dX12_zeros_68 : decode cX12_zeros 68 = .ok (.invokevirtual 132, 3) := by decide +kernel
theorem dX12_zeros_71 : decode cX12_zeros 71 = .ok (.aload_n 0, 1) := by decide +kernel
theorem dX12_zeros_72 : decode cX12_zeros 72 = .ok (.getfield 44, 3) := by decide +kernel
theorem dX12_zeros_75 : decode cX12_zeros 75 = .ok (.iload 5, 2) := by decide +kernel
theorem dX12_zeros_77 : decode cX12_zeros 77 = .ok (.iaload, 1) := by decide +kernel
theorem dX12_zeros_78 : decode cX12_zeros 78 = .ok (.iconst 1, 1) := by decide +kernel
theorem dX12_zeros_79 : decode cX12_zeros 79 = .ok (.invokevirtual 175, 3) := by decide +kernel
theorem dX12_zeros_82 : decode cX12_zeros 82 = .ok (.istore 4, 2) := by decide +kernel
theorem dX12_zeros_84 : decode cX12_zeros 84 = .ok (.iinc 5 (-1), 3) := by decide +kernel
theorem dX12_zeros_87 : decode cX12_zeros 87 = .ok (.goto (-29), 3) := by decide +kernel
theorem dX12_zeros_90 : decode cX12_zeros 90 = .ok (.iload 4, 2) := by decide +kernel
theorem dX12_zeros_92 : decode cX12_zeros 92 = .ok (.ifCond .ne 8, 3) := by decide +kernel
theorem dX12_zeros_95 : decode cX12_zeros 95 = .ok (.aload_n 0, 1) := by decide +kernel
theorem dX12_zeros_96 : decode cX12_zeros 96 = .ok (.iload_n 3, 1) := by decide +kernel
theorem dX12_zeros_97 : decode cX12_zeros 97 = .ok (.invokevirtual 366, 3) := by decide +kernel
theorem dX12_zeros_100 : decode cX12_zeros 100 = .ok (.iinc 3 1, 3) := by decide +kernel
theorem dX12_zeros_103 : decode cX12_zeros 103 = .ok (.goto (-59), 3) := by decide +kernel
theorem dX12_zeros_106 : decode cX12_zeros 106 = .ok (.aload_n 0, 1) := by decide +kernel
theorem dX12_zeros_107 : decode cX12_zeros 107 = .ok (.invokevirtual 369, 3) := by decide +kernel
theorem dX12_zeros_110 : decode cX12_zeros 110 = .ok (.ireturn, 1) := by decide +kernel
theorem dX12_within_0 : decode cX12_within 0 = .ok (.aload_n 0, 1) := by decide +kernel
theorem dX12_within_1 : decode cX12_within 1 = .ok (.iconst 0, 1) := by decide +kernel
theorem dX12_within_2 : decode cX12_within 2 = .ok (.putfield 1, 3) := by decide +kernel
theorem dX12_within_5 : decode cX12_within 5 = .ok (.aload_n 0, 1) := by decide +kernel
theorem dX12_within_6 : decode cX12_within 6 = .ok (.iload_n 1, 1) := by decide +kernel
theorem dX12_within_7 : decode cX12_within 7 = .ok (.iconst 1, 1) := by decide +kernel
theorem dX12_within_8 : decode cX12_within 8 = .ok (.if_icmp .lt 21, 3) := by decide +kernel
theorem dX12_within_11 : decode cX12_within 11 = .ok (.aload_n 0, 1) := by decide +kernel
theorem dX12_within_12 : decode cX12_within 12 = .ok (.getfield 19, 3) := by decide +kernel
theorem dX12_within_15 : decode cX12_within 15 = .ok (.iload_n 1, 1) := by decide +kernel
theorem dX12_within_16 : decode cX12_within 16 = .ok (.irem, 1) := by decide +kernel
theorem dX12_within_17 : decode cX12_within 17 = .ok (.ifCond .ne 12, 3) := by decide +kernel
theorem dX12_within_20 : decode cX12_within 20 = .ok (.iload_n 2, 1) := by decide +kernel
theorem dX12_within_21 : decode cX12_within 21 = .ok (.iconst (-1), 1) := by decide +kernel
theorem dX12_within_22 : decode cX12_within 22 = .ok (.if_icmp .lt 7, 3) := by decide +kernel
theorem dX12_within_25 : decode cX12_within 25 = .ok (.iconst 1, 1) := by decide +kernel
theorem dX12_within_26 : decode cX12_within 26 = .ok (.goto 4, 3) := by decide +kernel
theorem dX12_within_29 : decode cX12_within 29 = .ok (.iconst 0, 1) := by decide +kernel
theorem dX12_within_30 : decode cX12_within 30 = .ok (.iconst 1, 1) := by decide +kernel
theorem dX12_within_31 : decode cX12_within 31 = .ok (.invokevirtual 304, 3) := by decide +kernel
theorem dX12_within_34 : decode cX12_within 34 = .ok (.ifCond .ne 5, 3) := by decide +kernel
theorem dX12_within_37 : decode cX12_within 37 = .ok (.iconst 0, 1) := by decide +kernel
theorem dX12_within_38 : decode cX12_within 38 = .ok (.ireturn, 1) := by decide +kernel
theorem dX12_within_39 : decode cX12_within 39 = .ok (.aload_n 0, 1) := by decide +kernel
theorem dX12_within_40 : decode cX12_within 40 = .ok (.iload_n 2, 1) := by decide +kernel
theorem dX12_within_41 : decode cX12_within 41 = .ok (.invokevirtual 363, 3) := by decide +kernel
theorem dX12_within_44 : decode cX12_within 44 = .ok (.iconst 0, 1) := by decide +kernel
theorem dX12_within_45 : decode cX12_within 45 = .ok (.istore_n 3, 1) := by decide +kernel
theorem dX12_within_46 : decode cX12_within 46 = .ok (.iload_n 3, 1) := by decide +kernel
theorem dX12_within_47 : decode cX12_within 47 = .ok (.aload_n 0, 1) := by decide +kernel
theorem dX12_within_48 : decode cX12_within 48 = .ok (.getfield 28, 3) := by decide +kernel
theorem dX12_within_51 : decode cX12_within 51 = .ok (.if_icmp .ge 24, 3) := by decide +kernel
theorem dX12_within_54 : decode cX12_within 54 = .ok (.aload_n 0, 1) := by decide +kernel
theorem dX12_within_55 : decode cX12_within 55 = .ok (.iload_n 3, 1) := by decide +kernel
theorem dX12_within_56 : decode cX12_within 56 = .ok (.iload_n 1, 1) := by decide +kernel
theorem dX12_within_57 : decode cX12_within 57 = .ok (.invokevirtual 201, 3) := by decide +kernel
theorem dX12_within_60 : decode cX12_within 60 = .ok (.iload_n 3, 1) := by decide +kernel
theorem dX12_within_61 : decode cX12_within 61 = .ok (.if_icmp .ne 8, 3) := by decide +kernel
theorem dX12_within_64 : decode cX12_within 64 = .ok (.aload_n 0, 1) := by decide +kernel
theorem dX12_within_65 : decode cX12_within 65 = .ok (.iload_n 3, 1) := by decide +kernel
theorem dX12_within_66 : decode cX12_within 66 = .ok (.invokevirtual 366, 3) := by decide +kernel
theorem dX12_within_69 : decode cX12_within 69 = .ok (.iinc 3 1, 3) := by decide +kernel
theorem dX12_within_72 : decode cX12_within 72 = .ok (.goto (-26), 3) := by decide +kernel
theorem dX12_within_75 : decode cX12_within 75 = .ok (.aload_n 0, 1) := by decide +kernel
theorem dX12_within_76 : decode cX12_within 76 = .ok (.invokevirtual 369, 3) := by decide +kernel
theorem dX12_within_79 : decode cX12_within 79 = .ok (.ireturn, 1) := by decide +kernel
theorem dX12_units_0 : decode cX12_units 0 = .ok (.aload_n 0, 1) := by decide +kernel
theorem dX12_units_1 : decode cX12_units 1 = .ok (.iconst 0, 1) := by decide +kernel
theorem dX12_units_2 : decode cX12_units 2 = .ok (.putfield 1, 3) := by decide +kernel
theorem dX12_units_5 : decode cX12_units 5 = .ok (.aload_n 0, 1) := by decide +kernel
theorem dX12_units_6 : decode cX12_units 6 = .ok (.iload_n 1, 1) := by decide +kernel
theorem dX12_units_7 : decode cX12_units 7 = .ok (.i2l, 1) := by decide +kernel
theorem dX12_units_8 : decode cX12_units 8 = .ok (.lconst 1, 1) := by decide +kernel
theorem dX12_units_9 : decode cX12_units 9 = .ok (.ldc2_w 372, 3) := by decide +kernel
theorem dX12_units_12 : decode cX12_units 12 = .ok (.invokestatic 206, 3) := by decide +kernel
theorem dX12_units_15 : decode cX12_units 15 = .ok (.iconst 1, 1) := by decide +kernel
theorem dX12_units_16 : decode cX12_units 16 = .ok (.invokevirtual 304, 3) := by decide +kernel
theorem dX12_units_19 : decode cX12_units 19 = .ok (.ifCond .ne 5, 3) := by decide +kernel
theorem dX12_units_22 : decode cX12_units 22 = .ok (.iconst 0, 1) := by decide +kernel
theorem dX12_units_23 : decode cX12_units 23 = .ok (.ireturn, 1) := by decide +kernel
theorem dX12_units_24 : decode cX12_units 24 = .ok (.iconst 0, 1) := by decide +kernel
theorem dX12_units_25 : decode cX12_units 25 = .ok (.istore_n 2, 1) := by decide +kernel
theorem dX12_units_26 : decode cX12_units 26 = .ok (.iconst 1, 1) := by decide +kernel
theorem dX12_units_27 : decode cX12_units 27 = .ok (.istore_n 3, 1) := by decide +kernel
theorem dX12_units_28 : decode cX12_units 28 = .ok (.iload_n 3, 1) := by decide +kernel
theorem dX12_units_29 : decode cX12_units 29 = .ok (.aload_n 0, 1) := by decide +kernel
theorem dX12_units_30 : decode cX12_units 30 = .ok (.getfield 28, 3) := by decide +kernel
theorem dX12_units_33 : decode cX12_units 33 = .ok (.if_icmp .ge 36, 3) := by decide +kernel
theorem dX12_units_36 : decode cX12_units 36 = .ok (.iload_n 2, 1) := by decide +kernel
theorem dX12_units_37 : decode cX12_units 37 = .ok (.aload_n 0, 1) := by decide +kernel
theorem dX12_units_38 : decode cX12_units 38 = .ok (.iload_n 3, 1) := by decide +kernel
theorem dX12_units_39 : decode cX12_units 39 = .ok (.invokevirtual 290, 3) := by decide +kernel
theorem dX12_units_42 : decode cX12_units 42 = .ok (.ifCond .eq 18, 3) := by decide +kernel
theorem dX12_units_45 : decode cX12_units 45 = .ok (.aload_n 0, 1) := by decide +kernel
theorem dX12_units_46 : decode cX12_units 46 = .ok (.iload_n 3, 1) := by decide +kernel
theorem dX12_units_47 : decode cX12_units 47 = .ok (.iload_n 1, 1) := by decide +kernel
theorem dX12_units_48 : decode cX12_units 48 = .ok (.i2l, 1) := by decide +kernel
theorem dX12_units_49 : decode cX12_units 49 = .ok (.invokevirtual 147, 3) := by decide +kernel
theorem dX12_units_52 : decode cX12_units 52 = .ok (.iconst 1, 1) := by decide +kernel
theorem dX12_units_53 : decode cX12_units 53 = .ok (.if_icmp .ne 7, 3) := by decide +kernel
theorem dX12_units_56 : decode cX12_units 56 = .ok (.iconst 1, 1) := by decide +kernel
theorem dX12_units_57 : decode cX12_units 57 = .ok (.goto 4, 3) := by decide +kernel
theorem dX12_units_60 : decode cX12_units 60 = .ok (.iconst 0, 1) := by decide +kernel
theorem dX12_units_61 : decode cX12_units 61 = .ok (.iadd, 1) := by decide +kernel
theorem dX12_units_62 : decode cX12_units 62 = .ok (.istore_n 2, 1) := by decide +kernel
theorem dX12_units_63 : decode cX12_units 63 = .ok (.iinc 3 1, 3) := by decide +kernel
theorem dX12_units_66 : decode cX12_units 66 = .ok (.goto (-38), 3) := by decide +kernel
theorem dX12_units_69 : decode cX12_units 69 = .ok (.iload_n 2, 1) := by decide +kernel
theorem dX12_units_70 : decode cX12_units 70 = .ok (.ireturn, 1) := by decide +kernel
theorem dX12_many_0 : decode cX12_many 0 = .ok (.aload_n 0, 1) := by decide +kernel
theorem dX12_many_1 : decode cX12_many 1 = .ok (.iconst 0, 1) := by decide +kernel
theorem dX12_many_2 : decode cX12_many 2 = .ok (.putfield 1, 3) := by decide +kernel
theorem dX12_many_5 : decode cX12_many 5 = .ok (.aload_n 0, 1) := by decide +kernel
theorem dX12_many_6 : decode cX12_many 6 = .ok (.iload_n 1, 1) := by decide +kernel
theorem dX12_many_7 : decode cX12_many 7 = .ok (.i2l, 1) := by decide +kernel
theorem dX12_many_8 : decode cX12_many 8 = .ok (.lconst 0, 1) := by decide +kernel
theorem dX12_many_9 : decode cX12_many 9 = .ok (.ldc2_w 331, 3) := by decide +kernel
theorem dX12_many_12 : decode cX12_many 12 = .ok (.invokestatic 206, 3) := by decide +kernel
theorem dX12_many_15 : decode cX12_many 15 = .ok (.ifCond .eq 11, 3) := by decide +kernel
theorem dX12_many_18 : decode cX12_many 18 = .ok (.iload_n 2, 1) := by decide +kernel
theorem dX12_many_19 : decode cX12_many 19 = .ok (.ifCond .lt 7, 3) := by decide +kernel
theorem dX12_many_22 : decode cX12_many 22 = .ok (.iconst 1, 1) := by decide +kernel
theorem dX12_many_23 : decode cX12_many 23 = .ok (.goto 4, 3) := by decide +kernel
theorem dX12_many_26 : decode cX12_many 26 = .ok (.iconst 0, 1) := by decide +kernel
theorem dX12_many_27 : decode cX12_many 27 = .ok (.iconst 1, 1) := by decide +kernel
theorem dX12_many_28 : decode cX12_many 28 = .ok (.invokevirtual 304, 3) := by decide +kernel
theorem dX12_many_31 : decode cX12_many 31 = .ok (.ifCond .ne 5, 3) := by decide +kernel
theorem dX12_many_34 : decode cX12_many 34 = .ok (.iconst 0, 1) := by decide +kernel
theorem dX12_many_35 : decode cX12_many 35 = .ok (.ireturn, 1) := by decide +kernel
theorem dX12_many_36 : decode cX12_many 36 = .ok (.iconst 0, 1) := by decide +kernel
theorem dX12_many_37 : decode cX12_many 37 = .ok (.istore_n 3, 1) := by decide +kernel
theorem dX12_many_38 : decode cX12_many 38 = .ok (.iconst 0, 1) := by decide +kernel
theorem dX12_many_39 : decode cX12_many 39 = .ok (.istore 4, 2) := by decide +kernel
theorem dX12_many_41 : decode cX12_many 41 = .ok (.iload 4, 2) := by decide +kernel
theorem dX12_many_43 : decode cX12_many 43 = .ok (.aload_n 0, 1) := by decide +kernel
theorem dX12_many_44 : decode cX12_many 44 = .ok (.getfield 28, 3) := by decide +kernel
theorem dX12_many_47 : decode cX12_many 47 = .ok (.if_icmp .ge 109, 3) := by decide +kernel
theorem dX12_many_50 : decode cX12_many 50 = .ok (.iload_n 1, 1) := by decide +kernel
theorem dX12_many_51 : decode cX12_many 51 = .ok (.ifCond .ne 21, 3) := by decide +kernel
theorem dX12_many_54 : decode cX12_many 54 = .ok (.aload_n 0, 1) := by decide +kernel
theorem dX12_many_55 : decode cX12_many 55 = .ok (.iload 4, 2) := by decide +kernel
theorem dX12_many_57 : decode cX12_many 57 = .ok (.invokevirtual 335, 3) := by decide +kernel
theorem dX12_many_60 : decode cX12_many 60 = .ok (.iload_n 2, 1) := by decide +kernel
theorem dX12_many_61 : decode cX12_many 61 = .ok (.if_icmp .ne 7, 3) := by decide +kernel
theorem dX12_many_64 : decode cX12_many 64 = .ok (.iconst 1, 1) := by decide +kernel
theorem dX12_many_65 : decode cX12_many 65 = .ok (.goto 70, 3) := by decide +kernel
theorem dX12_many_68 : decode cX12_many 68 = .ok (.iconst 0, 1) := by decide +kernel
theorem dX12_many_69 : decode cX12_many 69 = .ok (.goto 66, 3) := by decide +kernel
theorem dX12_many_72 : decode cX12_many 72 = .ok (.iload_n 1, 1) := by decide +kernel
theorem dX12_many_73 : decode cX12_many 73 = .ok (.iconst 1, 1) := by decide +kernel
theorem dX12_many_74 : decode cX12_many 74 = .ok (.if_icmp .ne 21, 3) := by decide +kernel
theorem dX12_many_77 : decode cX12_many 77 = .ok (.aload_n 0, 1) := by decide +kernel
theorem dX12_many_78 : decode cX12_many 78 = .ok (.iload 4, 2) := by decide +kernel
theorem dX12_many_80 : decode cX12_many 80 = .ok (.invokevirtual 338, 3) := by decide +kernel
theorem dX12_many_83 : decode cX12_many 83 = .ok (.iload_n 2, 1) := by decide +kernel
theorem dX12_many_84 : decode cX12_many 84 = .ok (.if_icmp .ne 7, 3) := by decide +kernel
theorem dX12_many_87 : decode cX12_many 87 = .ok (.iconst 1, 1) := by decide +kernel
theorem dX12_many_88 : decode cX12_many 88 = .ok (.goto 47, 3) := by decide +kernel
theorem dX12_many_91 : decode cX12_many 91 = .ok (.iconst 0, 1) := by decide +kernel
theorem dX12_many_92 : decode cX12_many 92 = .ok (.goto 43, 3) := by decide +kernel
theorem dX12_many_95 : decode cX12_many 95 = .ok (.iload_n 1, 1) := by decide +kernel
theorem dX12_many_96 : decode cX12_many 96 = .ok (.iconst 2, 1) := by decide +kernel
theorem dX12_many_97 : decode cX12_many 97 = .ok (.if_icmp .ne 21, 3) := by decide +kernel
theorem dX12_many_100 : decode cX12_many 100 = .ok (.aload_n 0, 1) := by decide +kernel
theorem dX12_many_101 : decode cX12_many 101 = .ok (.iload 4, 2) := by decide +kernel
theorem dX12_many_103 : decode cX12_many 103 = .ok (.invokevirtual 341, 3) := by decide +kernel
theorem dX12_many_106 : decode cX12_many 106 = .ok (.iload_n 2, 1) := by decide +kernel
theorem dX12_many_107 : decode cX12_many 107 = .ok (.if_icmp .ne 7, 3) := by decide +kernel
theorem dX12_many_110 : decode cX12_many 110 = .ok (.iconst 1, 1) := by decide +kernel
theorem dX12_many_111 : decode cX12_many 111 = .ok (.goto 24, 3) := by decide +kernel
theorem dX12_many_114 : decode cX12_many 114 = .ok (.iconst 0, 1) := by decide +kernel
theorem dX12_many_115 : decode cX12_many 115 = .ok (.goto 20, 3) := by decide +kernel
theorem dX12_many_118 : decode cX12_many 118 = .ok (.aload_n 0, 1) := by decide +kernel
theorem dX12_many_119 : decode cX12_many 119 = .ok (.iload 4, 2) := by decide +kernel
theorem dX12_many_121 : decode cX12_many 121 = .ok (.iload_n 2, 1) := by decide +kernel
theorem dX12_many_122 : decode cX12_many 122 = .ok (.invokevirtual 201, 3) := by decide +kernel
theorem dX12_many_125 : decode cX12_many 125 = .ok (.iload 4, 2) := by decide +kernel
theorem dX12_many_127 : decode cX12_many 127 = .ok (.if_icmp .ne 7, 3) := by decide +kernel
theorem dX12_many_130 : decode cX12_many 130 = .ok (.iconst 1, 1) := by decide +kernel
theorem dX12_many_131 : decode cX12_many 131 = .ok (.goto 4, 3) := by decide +kernel
theorem dX12_many_134 : decode cX12_many 134 = .ok (.iconst 0, 1) := by decide +kernel
theorem dX12_many_135 : decode cX12_many 135 = .ok (.istore 5, 2) := by decide +kernel
theorem dX12_many_137 : decode cX12_many 137 = .ok (.iload_n 3, 1) := by decide +kernel
theorem dX12_many_138 : decode cX12_many 138 = .ok (.iload 5, 2) := by decide +kernel
theorem dX12_many_140 : decode cX12_many 140 = .ok (.ifCond .eq 7, 3) := by decide +kernel
theorem dX12_many_143 : decode cX12_many 143 = .ok (.iconst 1, 1) := by decide +kernel
theorem dX12_many_144 : decode cX12_many 144 = .ok (.goto 4, 3) := by decide +kernel
theorem dX12_many_147 : decode cX12_many 147 = .ok (.iconst 0, 1) := by decide +kernel
theorem dX12_many_148 : decode cX12_many 148 = .ok (.iadd, 1) := by decide +kernel
theorem dX12_many_149 : decode cX12_many 149 = .ok (.istore_n 3, 1) := by decide +kernel
theorem dX12_many_150 : decode cX12_many 150 = .ok (.iinc 4 1, 3) := by decide +kernel
theorem dX12_many_153 : decode cX12_many 153 = .ok (.goto (-112), 3) := by decide +kernel
theorem dX12_many_156 : decode cX12_many 156 = .ok (.iload_n 3, 1) := by decide +kernel
theorem dX12_many_157 : decode cX12_many 157 = .ok (.ireturn, 1) := by decide +kernel
theorem dX12_isLong_0 : decode cX12_isLong 0 = .ok (.iload_n 1, 1) := by decide +kernel
theorem dX12_isLong_1 : decode cX12_isLong 1 = .ok (.i2l, 1) := by decide +kernel
theorem dX12_isLong_2 : decode cX12_isLong 2 = .ok (.lconst 1, 1) := by decide +kernel
theorem dX12_isLong_3 : decode cX12_isLong 3 = .ok (.ldc2_w 374, 3) := by decide +kernel
theorem dX12_isLong_6 : decode cX12_isLong 6 = .ok (.invokestatic 206, 3) := by decide +kernel
theorem dX12_isLong_9 : decode cX12_isLong 9 = .ok (.ifCond .eq 18, 3) := by decide +kernel
theorem dX12_isLong_12 : decode cX12_isLong 12 = .ok (.aload_n 0, 1) := by decide +kernel
theorem dX12_isLong_13 : decode cX12_isLong 13 = .ok (.getfield 25, 3) := by decide +kernel
theorem dX12_isLong_16 : decode cX12_isLong 16 = .ok (.iconst 1, 1) := by decide +kernel
theorem dX12_isLong_17 : decode cX12_isLong 17 = .ok (.isub, 1) := by decide +kernel
theorem dX12_isLong_18 : decode cX12_isLong 18 = .ok (.iload_n 1, 1) := by decide +kernel
theorem dX12_isLong_19 : decode cX12_isLong 19 = .ok (.irem, 1) := by decide +kernel
theorem dX12_isLong_20 : decode cX12_isLong 20 = .ok (.ifCond .ne 7, 3) := by decide +kernel
theorem dX12_isLong_23 : decode cX12_isLong 23 = .ok (.iconst 1, 1) := by decide +kernel
theorem dX12_isLong_24 : decode cX12_isLong 24 = .ok (.goto 4, 3) := by decide +kernel
theorem dX12_isLong_27 : decode cX12_isLong 27 = .ok (.iconst 0, 1) := by decide +kernel
theorem dX12_isLong_28 : decode cX12_isLong 28 = .ok (.ireturn, 1) := by decide +kernel
theorem dX12_leastOf_0 : decode cX12_leastOf 0 = .ok (.iload_n 2, 1) := by decide +kernel
theorem dX12_leastOf_1 : decode cX12_leastOf 1 = .ok (.istore_n 3, 1) := by decide +kernel
theorem dX12_leastOf_2 : decode cX12_leastOf 2 = .ok (.iload_n 2, 1) := by decide +kernel
theorem dX12_leastOf_3 : decode cX12_leastOf 3 = .ok (.aload_n 0, 1) := by decide +kernel
theorem dX12_leastOf_4 : decode cX12_leastOf 4 = .ok (.getfield 13, 3) := by decide +kernel
theorem dX12_leastOf_7 : decode cX12_leastOf 7 = .ok (.imul, 1) := by decide +kernel
theorem dX12_leastOf_8 : decode cX12_leastOf 8 = .ok (.iload_n 1, 1) := by decide +kernel
theorem dX12_leastOf_9 : decode cX12_leastOf 9 = .ok (.irem, 1) := by decide +kernel
theorem dX12_leastOf_10 : decode cX12_leastOf 10 = .ok (.istore 4, 2) := by decide +kernel
theorem dX12_leastOf_12 : decode cX12_leastOf 12 = .ok (.iload 4, 2) := by decide +kernel
theorem dX12_leastOf_14 : decode cX12_leastOf 14 = .ok (.iload_n 2, 1) := by decide +kernel
theorem dX12_leastOf_15 : decode cX12_leastOf 15 = .ok (.if_icmp .eq 24, 3) := by decide +kernel
theorem dX12_leastOf_18 : decode cX12_leastOf 18 = .ok (.iload_n 3, 1) := by decide +kernel
theorem dX12_leastOf_19 : decode cX12_leastOf 19 = .ok (.iload 4, 2) := by decide +kernel
theorem dX12_leastOf_21 : decode cX12_leastOf 21 = .ok (.invokestatic 249, 3) := by decide +kernel
theorem dX12_leastOf_24 : decode cX12_leastOf 24 = .ok (.istore_n 3, 1) := by decide +kernel
theorem dX12_leastOf_25 : decode cX12_leastOf 25 = .ok (.iload 4, 2) := by decide +kernel
theorem dX12_leastOf_27 : decode cX12_leastOf 27 = .ok (.aload_n 0, 1) := by decide +kernel
theorem dX12_leastOf_28 : decode cX12_leastOf 28 = .ok (.getfield 13, 3) := by decide +kernel
theorem dX12_leastOf_31 : decode cX12_leastOf 31 = .ok (.imul, 1) := by decide +kernel
theorem dX12_leastOf_32 : decode cX12_leastOf 32 = .ok (.iload_n 1, 1) := by decide +kernel
theorem dX12_leastOf_33 : decode cX12_leastOf 33 = .ok (.irem, 1) := by decide +kernel
theorem dX12_leastOf_34 : decode cX12_leastOf 34 = .ok (.istore 4, 2) := by decide +kernel
theorem dX12_leastOf_36 : decode cX12_leastOf 36 = .ok (.goto (-24), 3) := by decide +kernel
theorem dX12_leastOf_39 : decode cX12_leastOf 39 = .ok (.iload_n 3, 1) := by decide +kernel
theorem dX12_leastOf_40 : decode cX12_leastOf 40 = .ok (.ireturn, 1) := by decide +kernel
theorem dX12_classAt_0 : decode cX12_classAt 0 = .ok (.iload_n 2, 1) := by decide +kernel
theorem dX12_classAt_1 : decode cX12_classAt 1 = .ok (.istore_n 3, 1) := by decide +kernel
theorem dX12_classAt_2 : decode cX12_classAt 2 = .ok (.iconst 0, 1) := by decide +kernel
theorem dX12_classAt_3 : decode cX12_classAt 3 = .ok (.istore 4, 2) := by decide +kernel
theorem dX12_classAt_5 : decode cX12_classAt 5 = .ok (.iload 4, 2) := by decide +kernel
theorem dX12_classAt_7 : decode cX12_classAt 7 = .ok (.iload_n 1, 1) := by decide +kernel
theorem dX12_classAt_8 : decode cX12_classAt 8 = .ok (.if_icmp .ge 31, 3) := by decide +kernel
theorem dX12_classAt_11 : decode cX12_classAt 11 = .ok (.aload_n 0, 1) := by decide +kernel
theorem dX12_classAt_12 : decode cX12_classAt 12 = .ok (.iload_n 1, 1) := by decide +kernel
theorem dX12_classAt_13 : decode cX12_classAt 13 = .ok (.iload 4, 2) := by decide +kernel
theorem dX12_classAt_15 : decode cX12_classAt 15 = .ok (.invokevirtual 376, 3) := by decide +kernel
theorem dX12_classAt_18 : decode cX12_classAt 18 = .ok (.iload 4, 2) := by decide +kernel
theorem dX12_classAt_20 : decode cX12_classAt 20 = .ok (.if_icmp .ne 13, 3) := by decide +kernel
theorem dX12_classAt_23 : decode cX12_classAt 23 = .ok (.iload_n 3, 1) := by decide +kernel
theorem dX12_classAt_24 : decode cX12_classAt 24 = .ok (.ifCond .ne 6, 3) := by decide +kernel
theorem dX12_classAt_27 : decode cX12_classAt 27 = .ok (.iload 4, 2) := by decide +kernel
theorem dX12_classAt_29 : decode cX12_classAt 29 = .ok (.ireturn, 1) := by decide +kernel
theorem dX12_classAt_30 : decode cX12_classAt 30 = .ok (.iinc 3 (-1), 3) := by decide +kernel
theorem dX12_classAt_33 : decode cX12_classAt 33 = .ok (.iinc 4 1, 3) := by decide +kernel
theorem dX12_classAt_36 : decode cX12_classAt 36 = .ok (.goto (-31), 3) := by decide +kernel
theorem dX12_classAt_39 : decode cX12_classAt 39 = .ok (.iconst (-1), 1) := by decide +kernel
theorem dX12_classAt_40 : decode cX12_classAt 40 = .ok (.ireturn, 1) := by decide +kernel
theorem dX12_classMany_0 : decode cX12_classMany 0 = .ok (.iconst 0, 1) := by decide +kernel
theorem dX12_classMany_1 : decode cX12_classMany 1 = .ok (.istore_n 2, 1) := by decide +kernel
theorem dX12_classMany_2 : decode cX12_classMany 2 = .ok (.iconst 0, 1) := by decide +kernel
theorem dX12_classMany_3 : decode cX12_classMany 3 = .ok (.istore_n 3, 1) := by decide +kernel
theorem dX12_classMany_4 : decode cX12_classMany 4 = .ok (.iload_n 3, 1) := by decide +kernel
theorem dX12_classMany_5 : decode cX12_classMany 5 = .ok (.iload_n 1, 1) := by decide +kernel
theorem dX12_classMany_6 : decode cX12_classMany 6 = .ok (.if_icmp .ge 27, 3) := by decide +kernel
theorem dX12_classMany_9 : decode cX12_classMany 9 = .ok (.iload_n 2, 1) := by decide +kernel
theorem dX12_classMany_10 : decode cX12_classMany 10 = .ok (.aload_n 0, 1) := by decide +kernel
theorem dX12_classMany_11 : decode cX12_classMany 11 = .ok (.iload_n 1, 1) := by decide +kernel
theorem dX12_classMany_12 : decode cX12_classMany 12 = .ok (.iload_n 3, 1) := by decide +kernel
theorem dX12_classMany_13 : decode cX12_classMany 13 = .ok (.invokevirtual 376, 3) := by decide +kernel
theorem dX12_classMany_16 : decode cX12_classMany 16 = .ok (.iload_n 3, 1) := by decide +kernel
theorem dX12_classMany_17 : decode cX12_classMany 17 = .ok (.if_icmp .ne 7, 3) := by decide +kernel
theorem dX12_classMany_20 : decode cX12_classMany 20 = .ok (.iconst 1, 1) := by decide +kernel
theorem dX12_classMany_21 : decode cX12_classMany 21 = .ok (.goto 4, 3) := by decide +kernel
theorem dX12_classMany_24 : decode cX12_classMany 24 = .ok (.iconst 0, 1) := by decide +kernel
theorem dX12_classMany_25 : decode cX12_classMany 25 = .ok (.iadd, 1) := by decide +kernel
theorem dX12_classMany_26 : decode cX12_classMany 26 = .ok (.istore_n 2, 1) := by decide +kernel
theorem dX12_classMany_27 : decode cX12_classMany 27 = .ok (.iinc 3 1, 3) := by decide +kernel
theorem dX12_classMany_30 : decode cX12_classMany 30 = .ok (.goto (-26), 3) := by decide +kernel
theorem dX12_classMany_33 : decode cX12_classMany 33 = .ok (.iload_n 2, 1) := by decide +kernel
theorem dX12_classMany_34 : decode cX12_classMany 34 = .ok (.ireturn, 1) := by decide +kernel
theorem dX12_classOf_0 : decode cX12_classOf 0 = .ok (.iconst 0, 1) := by decide +kernel
theorem dX12_classOf_1 : decode cX12_classOf 1 = .ok (.istore_n 3, 1) := by decide +kernel
theorem dX12_classOf_2 : decode cX12_classOf 2 = .ok (.iconst 0, 1) := by decide +kernel
theorem dX12_classOf_3 : decode cX12_classOf 3 = .ok (.istore 4, 2) := by decide +kernel
theorem dX12_classOf_5 : decode cX12_classOf 5 = .ok (.iload 4, 2) := by decide +kernel
theorem dX12_classOf_7 : decode cX12_classOf 7 = .ok (.aload_n 0, 1) := by decide +kernel
theorem dX12_classOf_8 : decode cX12_classOf 8 = .ok (.iload_n 1, 1) := by decide +kernel
theorem dX12_classOf_9 : decode cX12_classOf 9 = .ok (.iload_n 2, 1) := by decide +kernel
theorem dX12_classOf_10 : decode cX12_classOf 10 = .ok (.invokevirtual 376, 3) := by decide +kernel
theorem dX12_classOf_13 : decode cX12_classOf 13 = .ok (.if_icmp .ge 29, 3) := by decide +kernel
theorem dX12_classOf_16 : decode cX12_classOf 16 = .ok (.iload_n 3, 1) := by decide +kernel
theorem dX12_classOf_17 : decode cX12_classOf 17 = .ok (.aload_n 0, 1) := by decide +kernel
theorem dX12_classOf_18 : decode cX12_classOf 18 = .ok (.iload_n 1, 1) := by decide +kernel
theorem dX12_classOf_19 : decode cX12_classOf 19 = .ok (.iload 4, 2) := by decide +kernel
theorem dX12_classOf_21 : decode cX12_classOf 21 = .ok (.invokevirtual 376, 3) := by decide +kernel
theorem dX12_classOf_24 : decode cX12_classOf 24 = .ok (.iload 4, 2) := by decide +kernel
theorem dX12_classOf_26 : decode cX12_classOf 26 = .ok (.if_icmp .ne 7, 3) := by decide +kernel
theorem dX12_classOf_29 : decode cX12_classOf 29 = .ok (.iconst 1, 1) := by decide +kernel
theorem dX12_classOf_30 : decode cX12_classOf 30 = .ok (.goto 4, 3) := by decide +kernel
theorem dX12_classOf_33 : decode cX12_classOf 33 = .ok (.iconst 0, 1) := by decide +kernel
theorem dX12_classOf_34 : decode cX12_classOf 34 = .ok (.iadd, 1) := by decide +kernel
theorem dX12_classOf_35 : decode cX12_classOf 35 = .ok (.istore_n 3, 1) := by decide +kernel
theorem dX12_classOf_36 : decode cX12_classOf 36 = .ok (.iinc 4 1, 3) := by decide +kernel
theorem dX12_classOf_39 : decode cX12_classOf 39 = .ok (.goto (-34), 3) := by decide +kernel
theorem dX12_classOf_42 : decode cX12_classOf 42 = .ok (.iload_n 3, 1) := by decide +kernel
theorem dX12_classOf_43 : decode cX12_classOf 43 = .ok (.ireturn, 1) := by decide +kernel
theorem dX12_classes_0 : decode cX12_classes 0 = .ok (.aload_n 0, 1) := by decide +kernel
theorem dX12_classes_1 : decode cX12_classes 1 = .ok (.iconst 0, 1) := by decide +kernel
theorem dX12_classes_2 : decode cX12_classes 2 = .ok (.putfield 1, 3) := by decide +kernel
theorem dX12_classes_5 : decode cX12_classes 5 = .ok (.aload_n 0, 1) := by decide +kernel
theorem dX12_classes_6 : decode cX12_classes 6 = .ok (.aload_n 0, 1) := by decide +kernel
theorem dX12_classes_7 : decode cX12_classes 7 = .ok (.iload_n 1, 1) := by decide +kernel
theorem dX12_classes_8 : decode cX12_classes 8 = .ok (.invokevirtual 379, 3) := by decide +kernel
theorem dX12_classes_11 : decode cX12_classes 11 = .ok (.ifCond .eq 26, 3) := by decide +kernel
theorem dX12_classes_14 : decode cX12_classes 14 = .ok (.iload_n 2, 1) := by decide +kernel
theorem dX12_classes_15 : decode cX12_classes 15 = .ok (.i2l, 1) := by decide +kernel
theorem dX12_classes_16 : decode cX12_classes 16 = .ok (.ldc2_w 350, 3) := by decide +kernel
theorem dX12_classes_19 : decode cX12_classes 19 = .ok (.aload_n 0, 1) := by decide +kernel
theorem dX12_classes_20 : decode cX12_classes 20 = .ok (.iload_n 1, 1) := by decide +kernel
theorem dX12_classes_21 : decode cX12_classes 21 = .ok (.invokevirtual 382, 3) := by decide +kernel
theorem dX12_classes_24 : decode cX12_classes 24 = .ok (.iconst 1, 1) := by decide +kernel
theorem dX12_classes_25 : decode cX12_classes 25 = .ok (.isub, 1) := by decide +kernel
theorem dX12_classes_26 : decode cX12_classes 26 = .ok (.i2l, 1) := by decide +kernel
theorem dX12_classes_27 : decode cX12_classes 27 = .ok (.invokestatic 206, 3) := by decide +kernel
theorem dX12_classes_30 : decode cX12_classes 30 = .ok (.ifCond .eq 7, 3) := by decide +kernel
theorem dX12_classes_33 : decode cX12_classes 33 = .ok (.iconst 1, 1) := by decide +kernel
theorem dX12_classes_34 : decode cX12_classes 34 = .ok (.goto 4, 3) := by decide +kernel
theorem dX12_classes_37 : decode cX12_classes 37 = .ok (.iconst 0, 1) := by decide +kernel
theorem dX12_classes_38 : decode cX12_classes 38 = .ok (.iconst 1, 1) := by decide +kernel
theorem dX12_classes_39 : decode cX12_classes 39 = .ok (.invokevirtual 304, 3) := by decide +kernel
theorem dX12_classes_42 : decode cX12_classes 42 = .ok (.ifCond .ne 5, 3) := by decide +kernel
theorem dX12_classes_45 : decode cX12_classes 45 = .ok (.iconst 0, 1) := by decide +kernel
theorem dX12_classes_46 : decode cX12_classes 46 = .ok (.ireturn, 1) := by decide +kernel
theorem dX12_classes_47 : decode cX12_classes 47 = .ok (.iload_n 2, 1) := by decide +kernel
theorem dX12_classes_48 : decode cX12_classes 48 = .ok (.iconst (-1), 1) := by decide +kernel
theorem dX12_classes_49 : decode cX12_classes 49 = .ok (.if_icmp .ne 9, 3) := by decide +kernel
theorem dX12_classes_52 : decode cX12_classes 52 = .ok (.aload_n 0, 1) := by decide +kernel
theorem dX12_classes_53 : decode cX12_classes 53 = .ok (.iload_n 1, 1) := by decide +kernel
theorem dX12_classes_54 : decode cX12_classes 54 = .ok (.invokevirtual 382, 3) := by decide +kernel
theorem dX12_classes_57 : decode cX12_classes 57 = .ok (.ireturn, 1) := by decide +kernel
theorem dX12_classes_58 : decode cX12_classes 58 = .ok (.aload_n 0, 1) := by decide +kernel
theorem dX12_classes_59 : decode cX12_classes 59 = .ok (.iload_n 3, 1) := by decide +kernel
theorem dX12_classes_60 : decode cX12_classes 60 = .ok (.iconst (-1), 1) := by decide +kernel
theorem dX12_classes_61 : decode cX12_classes 61 = .ok (.if_icmp .lt 7, 3) := by decide +kernel
theorem dX12_classes_64 : decode cX12_classes 64 = .ok (.iconst 1, 1) := by decide +kernel
theorem dX12_classes_65 : decode cX12_classes 65 = .ok (.goto 4, 3) := by decide +kernel
theorem dX12_classes_68 : decode cX12_classes 68 = .ok (.iconst 0, 1) := by decide +kernel
theorem dX12_classes_69 : decode cX12_classes 69 = .ok (.iconst 1, 1) := by decide +kernel
theorem dX12_classes_70 : decode cX12_classes 70 = .ok (.invokevirtual 304, 3) := by decide +kernel
theorem dX12_classes_73 : decode cX12_classes 73 = .ok (.ifCond .ne 5, 3) := by decide +kernel
theorem dX12_classes_76 : decode cX12_classes 76 = .ok (.iconst 0, 1) := by decide +kernel
theorem dX12_classes_77 : decode cX12_classes 77 = .ok (.ireturn, 1) := by decide +kernel
theorem dX12_classes_78 : decode cX12_classes 78 = .ok (.aload_n 0, 1) := by decide +kernel
theorem dX12_classes_79 : decode cX12_classes 79 = .ok (.iload_n 1, 1) := by decide +kernel
theorem dX12_classes_80 : decode cX12_classes 80 = .ok (.iload_n 2, 1) := by decide +kernel
theorem dX12_classes_81 : decode cX12_classes 81 = .ok (.invokevirtual 385, 3) := by decide +kernel
theorem dX12_classes_84 : decode cX12_classes 84 = .ok (.istore 4, 2) := by decide +kernel
theorem dX12_classes_86 : decode cX12_classes 86 = .ok (.aload_n 0, 1) := by decide +kernel
theorem dX12_classes_87 : decode cX12_classes 87 = .ok (.iload_n 3, 1) := by decide +kernel
theorem dX12_classes_88 : decode cX12_classes 88 = .ok (.invokevirtual 363, 3) := by decide +kernel
theorem dX12_classes_91 : decode cX12_classes 91 = .ok (.iconst 0, 1) := by decide +kernel
theorem dX12_classes_92 : decode cX12_classes 92 = .ok (.istore 5, 2) := by decide +kernel
theorem dX12_classes_94 : decode cX12_classes 94 = .ok (.iload 5, 2) := by decide +kernel
theorem dX12_classes_96 : decode cX12_classes 96 = .ok (.iload_n 1, 1) := by decide +kernel
theorem dX12_classes_97 : decode cX12_classes 97 = .ok (.if_icmp .ge 27, 3) := by decide +kernel
theorem dX12_classes_100 : decode cX12_classes 100 = .ok (.aload_n 0, 1) := by decide +kernel
theorem dX12_classes_101 : decode cX12_classes 101 = .ok (.iload_n 1, 1) := by decide +kernel
theorem dX12_classes_102 : decode cX12_classes 102 = .ok (.iload 5, 2) := by decide +kernel
theorem dX12_classes_104 : decode cX12_classes 104 = .ok (.invokevirtual 376, 3) := by decide +kernel
theorem dX12_classes_107 : decode cX12_classes 107 = .ok (.iload 4, 2) := by decide +kernel
theorem dX12_classes_109 : decode cX12_classes 109 = .ok (.if_icmp .ne 9, 3) := by decide +kernel
theorem dX12_classes_112 : decode cX12_classes 112 = .ok (.aload_n 0, 1) := by decide +kernel
theorem dX12_classes_113 : decode cX12_classes 113 = .ok (.iload 5, 2) := by decide +kernel
theorem dX12_classes_115 : decode cX12_classes 115 = .ok (.invokevirtual 366, 3) := by decide +kernel
theorem dX12_classes_118 : decode cX12_classes 118 = .ok (.iinc 5 1, 3) := by decide +kernel
theorem dX12_classes_121 : decode cX12_classes 121 = .ok (.goto (-27), 3) := by decide +kernel
theorem dX12_classes_124 : decode cX12_classes 124 = .ok (.aload_n 0, 1) := by decide +kernel
theorem dX12_classes_125 : decode cX12_classes 125 = .ok (.invokevirtual 369, 3) := by decide +kernel
theorem dX12_classes_128 : decode cX12_classes 128 = .ok (.ireturn, 1) := by decide +kernel
theorem dX12_laysCode_0 : decode cX12_laysCode 0 = .ok (.aload_n 0, 1) := by decide +kernel
theorem dX12_laysCode_1 : decode cX12_laysCode 1 = .ok (.aload_n 0, 1) := by decide +kernel
theorem dX12_laysCode_2 : decode cX12_laysCode 2 = .ok (.getfield 179, 3) := by decide +kernel
theorem dX12_laysCode_5 : decode cX12_laysCode 5 = .ok (.aload_n 0, 1) := by decide +kernel
theorem dX12_laysCode_6 : decode cX12_laysCode 6 = .ok (.getfield 25, 3) := by decide +kernel
theorem dX12_laysCode_9 : decode cX12_laysCode 9 = .ok (.iconst 1, 1) := by decide +kernel
theorem dX12_laysCode_10 : decode cX12_laysCode 10 = .ok (.isub, 1) := by decide +kernel
theorem dX12_laysCode_11 : decode cX12_laysCode 11 = .ok (.aload_n 0, 1) := by decide +kernel
theorem dX12_laysCode_12 : decode cX12_laysCode 12 = .ok (.getfield 69, 3) := by decide +kernel
theorem dX12_laysCode_15 : decode cX12_laysCode 15 = .ok (.idiv, 1) := by decide +kernel
theorem dX12_laysCode_16 : decode cX12_laysCode 16 = .ok (.i2l, 1) := by decide +kernel
theorem dX12_laysCode_17 : decode cX12_laysCode 17 = .ok (.invokevirtual 147, 3) := by decide +kernel
theorem dX12_laysCode_20 : decode cX12_laysCode 20 = .ok (.istore_n 1, 1) := by decide +kernel
theorem dX12_laysCode_21 : decode cX12_laysCode 21 = .ok (.iconst 1, 1) := by decide +kernel
theorem dX12_laysCode_22 : decode cX12_laysCode 22 = .ok (.istore_n 2, 1) := by decide +kernel
theorem dX12_laysCode_23 : decode cX12_laysCode 23 = .ok (.iconst 0, 1) := by decide +kernel
theorem dX12_laysCode_24 : decode cX12_laysCode 24 = .ok (.istore_n 3, 1) := by decide +kernel
theorem dX12_laysCode_25 : decode cX12_laysCode 25 = .ok (.iconst 0, 1) := by decide +kernel
theorem dX12_laysCode_26 : decode cX12_laysCode 26 = .ok (.istore 4, 2) := by decide +kernel
theorem dX12_laysCode_28 : decode cX12_laysCode 28 = .ok (.iconst 0, 1) := by decide +kernel
theorem dX12_laysCode_29 : decode cX12_laysCode 29 = .ok (.istore 5, 2) := by decide +kernel
theorem dX12_laysCode_31 : decode cX12_laysCode 31 = .ok (.iload 5, 2) := by decide +kernel
theorem dX12_laysCode_33 : decode cX12_laysCode 33 = .ok (.bipush 65, 2) := by decide +kernel
theorem dX12_laysCode_35 : decode cX12_laysCode 35 = .ok (.if_icmp .ge 25, 3) := by decide +kernel
theorem dX12_laysCode_38 : decode cX12_laysCode 38 = .ok (.aload_n 0, 1) := by decide +kernel
theorem dX12_laysCode_39 : decode cX12_laysCode 39 = .ok (.getfield 72, 3) := by decide +kernel
theorem dX12_laysCode_42 : decode cX12_laysCode 42 = .ok (.iload 5, 2) := by decide +kernel
theorem dX12_laysCode_44 : decode cX12_laysCode 44 = .ok (.iconst 0, 1) := by decide +kernel
theorem dX12_laysCode_45 : decode cX12_laysCode 45 = .ok (.iastore, 1) := by decide +kernel
theorem dX12_laysCode_46 : decode cX12_laysCode 46 = .ok (.aload_n 0, 1) := by decide +kernel
theorem dX12_laysCode_47 : decode cX12_laysCode 47 = .ok (.getfield 75, 3) := by decide +kernel
theorem dX12_laysCode_50 : decode cX12_laysCode 50 = .ok (.iload 5, 2) := by decide +kernel
theorem dX12_laysCode_52 : decode cX12_laysCode 52 = .ok (.iconst 0, 1) := by decide +kernel
theorem dX12_laysCode_53 : decode cX12_laysCode 53 = .ok (.iastore, 1) := by decide +kernel
theorem dX12_laysCode_54 : decode cX12_laysCode 54 = .ok (.iinc 5 1, 3) := by decide +kernel
theorem dX12_laysCode_57 : decode cX12_laysCode 57 = .ok (.goto (-26), 3) := by decide +kernel
theorem dX12_laysCode_60 : decode cX12_laysCode 60 = .ok (.aload_n 0, 1) := by decide +kernel
theorem dX12_laysCode_61 : decode cX12_laysCode 61 = .ok (.getfield 72, 3) := by decide +kernel
theorem dX12_laysCode_64 : decode cX12_laysCode 64 = .ok (.iconst 0, 1) := by decide +kernel
theorem dX12_laysCode_65 : decode cX12_laysCode 65 = .ok (.iconst 1, 1) := by decide +kernel
theorem dX12_laysCode_66 : decode cX12_laysCode 66 = .ok (.iastore, 1) := by decide +kernel
theorem dX12_laysCode_67 : decode cX12_laysCode 67 = .ok (.aload_n 0, 1) := by decide +kernel
theorem dX12_laysCode_68 : decode cX12_laysCode 68 = .ok (.getfield 75, 3) := by decide +kernel
theorem dX12_laysCode_71 : decode cX12_laysCode 71 = .ok (.iconst 0, 1) := by decide +kernel
theorem dX12_laysCode_72 : decode cX12_laysCode 72 = .ok (.iconst 1, 1) := by decide +kernel
theorem dX12_laysCode_73 : decode cX12_laysCode 73 = .ok (.iastore, 1) := by decide +kernel
theorem dX12_laysCode_74 : decode cX12_laysCode 74 = .ok (.iconst 0, 1) := by decide +kernel
theorem dX12_laysCode_75 : decode cX12_laysCode 75 = .ok (.istore 5, 2) := by decide +kernel
theorem dX12_laysCode_77 : decode cX12_laysCode 77 = .ok (.iload 5, 2) := by decide +kernel
theorem dX12_laysCode_79 : decode cX12_laysCode 79 = .ok (.aload_n 0, 1) := by decide +kernel
theorem dX12_laysCode_80 : decode cX12_laysCode 80 = .ok (.getfield 69, 3) := by decide +kernel
theorem dX12_laysCode_83 : decode cX12_laysCode 83 = .ok (.if_icmp .ge 78, 3) := by decide +kernel
theorem dX12_laysCode_86 : decode cX12_laysCode 86 = .ok (.aload_n 0, 1) := by decide +kernel
theorem dX12_laysCode_87 : decode cX12_laysCode 87 = .ok (.aload_n 0, 1) := by decide +kernel
theorem dX12_laysCode_88 : decode cX12_laysCode 88 = .ok (.getfield 69, 3) := by decide +kernel
theorem dX12_laysCode_91 : decode cX12_laysCode 91 = .ok (.iload 5, 2) := by decide +kernel
theorem dX12_laysCode_93 : decode cX12_laysCode 93 = .ok (.invokevirtual 388, 3) := by decide +kernel
theorem dX12_laysCode_96 : decode cX12_laysCode 96 = .ok (.istore 6, 2) := by decide +kernel
theorem dX12_laysCode_98 : decode cX12_laysCode 98 = .ok (.iload 6, 2) := by decide +kernel
theorem dX12_laysCode_100 : decode cX12_laysCode 100 = .ok (.bipush 31, 2) := by decide +kernel
theorem dX12_laysCode_102 : decode cX12_laysCode 102 = .ok (.if_icmp .ge 32, 3) := by decide +kernel
theorem dX12_laysCode_105 : decode cX12_laysCode 105 = .ok (.aload_n 0, 1) := by decide +kernel
theorem dX12_laysCode_106 : decode cX12_laysCode 106 = .ok (.getfield 157, 3) := by decide +kernel
theorem dX12_laysCode_109 : decode cX12_laysCode 109 = .ok (.iload 6, 2) := by decide +kernel
theorem dX12_laysCode_111 : decode cX12_laysCode 111 = .ok (.ishr, 1) := by decide +kernel
theorem dX12_laysCode_112 : decode cX12_laysCode 112 = .ok (.iconst 1, 1) := by decide +kernel
theorem dX12_laysCode_113 : decode cX12_laysCode 113 = .ok (.iand, 1) := by decide +kernel
theorem dX12_laysCode_114 : decode cX12_laysCode 114 = .ok (.iconst 1, 1) := by decide +kernel
theorem dX12_laysCode_115 : decode cX12_laysCode 115 = .ok (.if_icmp .ne 19, 3) := by decide +kernel
theorem dX12_laysCode_118 : decode cX12_laysCode 118 = .ok (.aload_n 0, 1) := by decide +kernel
theorem dX12_laysCode_119 : decode cX12_laysCode 119 = .ok (.aload_n 0, 1) := by decide +kernel
theorem dX12_laysCode_120 : decode cX12_laysCode 120 = .ok (.getfield 72, 3) := by decide +kernel
theorem dX12_laysCode_123 : decode cX12_laysCode 123 = .ok (.iload_n 3, 1) := by decide +kernel
theorem dX12_laysCode_124 : decode cX12_laysCode 124 = .ok (.iload_n 2, 1) := by decide +kernel
theorem dX12_laysCode_125 : decode cX12_laysCode 125 = .ok (.invokevirtual 171, 3) := by decide +kernel
theorem dX12_laysCode_128 : decode cX12_laysCode 128 = .ok (.iinc 3 1, 3) := by decide +kernel
theorem dX12_laysCode_131 : decode cX12_laysCode 131 = .ok (.goto 17, 3) := by decide +kernel
theorem dX12_laysCode_134 : decode cX12_laysCode 134 = .ok (.aload_n 0, 1) := by decide +kernel
theorem dX12_laysCode_135 : decode cX12_laysCode 135 = .ok (.aload_n 0, 1) := by decide +kernel
theorem dX12_laysCode_136 : decode cX12_laysCode 136 = .ok (.getfield 75, 3) := by decide +kernel
theorem dX12_laysCode_139 : decode cX12_laysCode 139 = .ok (.iload 4, 2) := by decide +kernel
theorem dX12_laysCode_141 : decode cX12_laysCode 141 = .ok (.iload_n 2, 1) := by decide +kernel
theorem dX12_laysCode_142 : decode cX12_laysCode 142 = .ok (.invokevirtual 171, 3) := by decide +kernel
theorem dX12_laysCode_145 : decode cX12_laysCode 145 = .ok (.iinc 4 1, 3) := by decide +kernel
theorem dX12_laysCode_148 : decode cX12_laysCode 148 = .ok (.aload_n 0, 1) := by decide +kernel
theorem dX12_laysCode_149 : decode cX12_laysCode 149 = .ok (.iload_n 2, 1) := by decide +kernel
theorem dX12_laysCode_150 : decode cX12_laysCode 150 = .ok (.iload_n 1, 1) := by decide +kernel
theorem dX12_laysCode_151 : decode cX12_laysCode 151 = .ok (.invokevirtual 132, 3) := by decide +kernel
theorem dX12_laysCode_154 : decode cX12_laysCode 154 = .ok (.istore_n 2, 1) := by decide +kernel
theorem dX12_laysCode_155 : decode cX12_laysCode 155 = .ok (.iinc 5 1, 3) := by decide +kernel
theorem dX12_laysCode_158 : decode cX12_laysCode 158 = .ok (.goto (-81), 3) := by decide +kernel
theorem dX12_laysCode_161 : decode cX12_laysCode 161 = .ok (.aload_n 0, 1) := by decide +kernel
theorem dX12_laysCode_162 : decode cX12_laysCode 162 = .ok (.iload_n 3, 1) := by decide +kernel
theorem dX12_laysCode_163 : decode cX12_laysCode 163 = .ok (.putfield 322, 3) := by decide +kernel
theorem dX12_laysCode_166 : decode cX12_laysCode 166 = .ok (.return_, 1) := by decide +kernel
theorem dX12_code_0 : decode cX12_code 0 = .ok (.aload_n 0, 1) := by decide +kernel
theorem dX12_code_1 : decode cX12_code 1 = .ok (.iconst 0, 1) := by decide +kernel
theorem dX12_code_2 : decode cX12_code 2 = .ok (.putfield 1, 3) := by decide +kernel
theorem dX12_code_5 : decode cX12_code 5 = .ok (.aload_n 0, 1) := by decide +kernel
theorem dX12_code_6 : decode cX12_code 6 = .ok (.iload_n 1, 1) := by decide +kernel
theorem dX12_code_7 : decode cX12_code 7 = .ok (.invokevirtual 379, 3) := by decide +kernel
theorem dX12_code_10 : decode cX12_code 10 = .ok (.ifCond .eq 7, 3) := by decide +kernel
theorem dX12_code_13 : decode cX12_code 13 = .ok (.iload_n 2, 1) := by decide +kernel
theorem dX12_code_14 : decode cX12_code 14 = .ok (.ifCond .ge 5, 3) := by decide +kernel
theorem dX12_code_17 : decode cX12_code 17 = .ok (.iconst (-1), 1) := by decide +kernel
theorem dX12_code_18 : decode cX12_code 18 = .ok (.ireturn, 1) := by decide +kernel
theorem dX12_code_19 : decode cX12_code 19 = .ok (.aload_n 0, 1) := by decide +kernel
theorem dX12_code_20 : decode cX12_code 20 = .ok (.iload_n 1, 1) := by decide +kernel
theorem dX12_code_21 : decode cX12_code 21 = .ok (.invokevirtual 382, 3) := by decide +kernel
theorem dX12_code_24 : decode cX12_code 24 = .ok (.istore_n 3, 1) := by decide +kernel
theorem dX12_code_25 : decode cX12_code 25 = .ok (.iload_n 3, 1) := by decide +kernel
theorem dX12_code_26 : decode cX12_code 26 = .ok (.bipush 31, 2) := by decide +kernel
theorem dX12_code_28 : decode cX12_code 28 = .ok (.if_icmp .ge 11, 3) := by decide +kernel
theorem dX12_code_31 : decode cX12_code 31 = .ok (.iload_n 2, 1) := by decide +kernel
theorem dX12_code_32 : decode cX12_code 32 = .ok (.iload_n 3, 1) := by decide +kernel
theorem dX12_code_33 : decode cX12_code 33 = .ok (.ishr, 1) := by decide +kernel
theorem dX12_code_34 : decode cX12_code 34 = .ok (.ifCond .eq 5, 3) := by decide +kernel
theorem dX12_code_37 : decode cX12_code 37 = .ok (.iconst (-1), 1) := by decide +kernel
theorem dX12_code_38 : decode cX12_code 38 = .ok (.ireturn, 1) := by decide +kernel
theorem dX12_code_39 : decode cX12_code 39 = .ok (.aload_n 0, 1) := by decide +kernel
theorem dX12_code_40 : decode cX12_code 40 = .ok (.iload_n 1, 1) := by decide +kernel
theorem dX12_code_41 : decode cX12_code 41 = .ok (.putfield 69, 3) := by decide +kernel
theorem dX12_code_44 : decode cX12_code 44 = .ok (.aload_n 0, 1) := by decide +kernel
theorem dX12_code_45 : decode cX12_code 45 = .ok (.iload_n 2, 1) := by decide +kernel
theorem dX12_code_46 : decode cX12_code 46 = .ok (.putfield 157, 3) := by decide +kernel
theorem dX12_code_49 : decode cX12_code 49 = .ok (.aload_n 0, 1) := by decide +kernel
theorem dX12_code_50 : decode cX12_code 50 = .ok (.iconst 0, 1) := by decide +kernel
theorem dX12_code_51 : decode cX12_code 51 = .ok (.putfield 160, 3) := by decide +kernel
theorem dX12_code_54 : decode cX12_code 54 = .ok (.aload_n 0, 1) := by decide +kernel
theorem dX12_code_55 : decode cX12_code 55 = .ok (.invokevirtual 164, 3) := by decide +kernel
theorem dX12_code_58 : decode cX12_code 58 = .ok (.aload_n 0, 1) := by decide +kernel
theorem dX12_code_59 : decode cX12_code 59 = .ok (.getfield 69, 3) := by decide +kernel
theorem dX12_code_62 : decode cX12_code 62 = .ok (.aload_n 0, 1) := by decide +kernel
theorem dX12_code_63 : decode cX12_code 63 = .ok (.getfield 322, 3) := by decide +kernel
theorem dX12_code_66 : decode cX12_code 66 = .ok (.isub, 1) := by decide +kernel
theorem dX12_code_67 : decode cX12_code 67 = .ok (.ireturn, 1) := by decide +kernel
theorem dX12_coefficient_0 : decode cX12_coefficient 0 = .ok (.aload_n 0, 1) := by decide +kernel
theorem dX12_coefficient_1 : decode cX12_coefficient 1 = .ok (.iconst 0, 1) := by decide +kernel
theorem dX12_coefficient_2 : decode cX12_coefficient 2 = .ok (.putfield 1, 3) := by decide +kernel
theorem dX12_coefficient_5 : decode cX12_coefficient 5 = .ok (.iload_n 1, 1) := by decide +kernel
theorem dX12_coefficient_6 : decode cX12_coefficient 6 = .ok (.ifCond .ne 10, 3) := by decide +kernel
theorem dX12_coefficient_9 : decode cX12_coefficient 9 = .ok (.aload_n 0, 1) := by decide +kernel
theorem dX12_coefficient_10 : decode cX12_coefficient 10 = .ok (.getfield 322, 3) := by decide +kernel
theorem dX12_coefficient_13 : decode cX12_coefficient 13 = .ok (.goto 12, 3) := by decide +kernel
theorem dX12_coefficient_16 : decode cX12_coefficient 16 = .ok (.aload_n 0, 1) := by decide +kernel
theorem dX12_coefficient_17 : decode cX12_coefficient 17 = .ok (.getfield 69, 3) := by decide +kernel
theorem dX12_coefficient_20 : decode cX12_coefficient 20 = .ok (.aload_n 0, 1) := by decide +kernel
theorem dX12_coefficient_21 : decode cX12_coefficient 21 = .ok (.getfield 322, 3) := by decide +kernel
theorem dX12_coefficient_24 : decode cX12_coefficient 24 = .ok (.isub, 1) := by decide +kernel
theorem dX12_coefficient_25 : decode cX12_coefficient 25 = .ok (.istore_n 3, 1) := by decide +kernel
theorem dX12_coefficient_26 : decode cX12_coefficient 26 = .ok (.aload_n 0, 1) := by decide +kernel
theorem dX12_coefficient_27 : decode cX12_coefficient 27 = .ok (.iload_n 1, 1) := by decide +kernel
theorem dX12_coefficient_28 : decode cX12_coefficient 28 = .ok (.i2l, 1) := by decide +kernel
theorem dX12_coefficient_29 : decode cX12_coefficient 29 = .ok (.lconst 0, 1) := by decide +kernel
theorem dX12_coefficient_30 : decode cX12_coefficient 30 = .ok (.lconst 1, 1) := by decide +kernel
theorem dX12_coefficient_31 : decode cX12_coefficient 31 = .ok (.invokestatic 206, 3) := by decide +kernel
theorem dX12_coefficient_34 : decode cX12_coefficient 34 = .ok (.ifCond .eq 20, 3) := by decide +kernel
theorem dX12_coefficient_37 : decode cX12_coefficient 37 = .ok (.iload_n 2, 1) := by decide +kernel
theorem dX12_coefficient_38 : decode cX12_coefficient 38 = .ok (.i2l, 1) := by decide +kernel
theorem dX12_coefficient_39 : decode cX12_coefficient 39 = .ok (.ldc2_w 350, 3) := by decide +kernel
theorem dX12_coefficient_42 : decode cX12_coefficient 42 = .ok (.iload_n 3, 1) := by decide +kernel
theorem dX12_coefficient_43 : decode cX12_coefficient 43 = .ok (.i2l, 1) := by decide +kernel
theorem dX12_coefficient_44 : decode cX12_coefficient 44 = .ok (.invokestatic 206, 3) := by decide +kernel
theorem dX12_coefficient_47 : decode cX12_coefficient 47 = .ok (.ifCond .eq 7, 3) := by decide +kernel
theorem dX12_coefficient_50 : decode cX12_coefficient 50 = .ok (.iconst 1, 1) := by decide +kernel
theorem dX12_coefficient_51 : decode cX12_coefficient 51 = .ok (.goto 4, 3) := by decide +kernel
theorem dX12_coefficient_54 : decode cX12_coefficient 54 = .ok (.iconst 0, 1) := by decide +kernel
theorem dX12_coefficient_55 : decode cX12_coefficient 55 = .ok (.iconst 1, 1) := by decide +kernel
theorem dX12_coefficient_56 : decode cX12_coefficient 56 = .ok (.invokevirtual 304, 3) := by decide +kernel
theorem dX12_coefficient_59 : decode cX12_coefficient 59 = .ok (.ifCond .ne 5, 3) := by decide +kernel
theorem dX12_coefficient_62 : decode cX12_coefficient 62 = .ok (.iconst 0, 1) := by decide +kernel
theorem dX12_coefficient_63 : decode cX12_coefficient 63 = .ok (.ireturn, 1) := by decide +kernel
theorem dX12_coefficient_64 : decode cX12_coefficient 64 = .ok (.iload_n 2, 1) := by decide +kernel
theorem dX12_coefficient_65 : decode cX12_coefficient 65 = .ok (.iconst (-1), 1) := by decide +kernel
theorem dX12_coefficient_66 : decode cX12_coefficient 66 = .ok (.if_icmp .ne 7, 3) := by decide +kernel
theorem dX12_coefficient_69 : decode cX12_coefficient 69 = .ok (.iload_n 3, 1) := by decide +kernel
theorem dX12_coefficient_70 : decode cX12_coefficient 70 = .ok (.goto 22, 3) := by decide +kernel
theorem dX12_coefficient_73 : decode cX12_coefficient 73 = .ok (.iload_n 1, 1) := by decide +kernel
theorem dX12_coefficient_74 : decode cX12_coefficient 74 = .ok (.ifCond .ne 12, 3) := by decide +kernel
theorem dX12_coefficient_77 : decode cX12_coefficient 77 = .ok (.aload_n 0, 1) := by decide +kernel
theorem dX12_coefficient_78 : decode cX12_coefficient 78 = .ok (.getfield 72, 3) := by decide +kernel
theorem dX12_coefficient_81 : decode cX12_coefficient 81 = .ok (.iload_n 2, 1) := by decide +kernel
theorem dX12_coefficient_82 : decode cX12_coefficient 82 = .ok (.iaload, 1) := by decide +kernel
theorem dX12_coefficient_83 : decode cX12_coefficient 83 = .ok (.goto 9, 3) := by decide +kernel
theorem dX12_coefficient_86 : decode cX12_coefficient 86 = .ok (.aload_n 0, 1) := by decide +kernel
theorem dX12_coefficient_87 : decode cX12_coefficient 87 = .ok (.getfield 75, 3) := by decide +kernel
theorem dX12_coefficient_90 : decode cX12_coefficient 90 = .ok (.iload_n 2, 1) := by decide +kernel
theorem dX12_coefficient_91 : decode cX12_coefficient 91 = .ok (.iaload, 1) := by decide +kernel
theorem dX12_coefficient_92 : decode cX12_coefficient 92 = .ok (.ireturn, 1) := by decide +kernel
theorem dX12_isSmall_0 : decode cX12_isSmall 0 = .ok (.lconst 1, 1) := by decide +kernel
theorem dX12_isSmall_1 : decode cX12_isSmall 1 = .ok (.lstore_n 1, 1) := by decide +kernel
theorem dX12_isSmall_2 : decode cX12_isSmall 2 = .ok (.iconst 0, 1) := by decide +kernel
theorem dX12_isSmall_3 : decode cX12_isSmall 3 = .ok (.istore_n 3, 1) := by decide +kernel
theorem dX12_isSmall_4 : decode cX12_isSmall 4 = .ok (.iload_n 3, 1) := by decide +kernel
theorem dX12_isSmall_5 : decode cX12_isSmall 5 = .ok (.aload_n 0, 1) := by decide +kernel
theorem dX12_isSmall_6 : decode cX12_isSmall 6 = .ok (.getfield 69, 3) := by decide +kernel
theorem dX12_isSmall_9 : decode cX12_isSmall 9 = .ok (.aload_n 0, 1) := by decide +kernel
theorem dX12_isSmall_10 : decode cX12_isSmall 10 = .ok (.getfield 322, 3) := by decide +kernel
theorem dX12_isSmall_13 : decode cX12_isSmall 13 = .ok (.isub, 1) := by decide +kernel
theorem dX12_isSmall_14 : decode cX12_isSmall 14 = .ok (.if_icmp .ge 25, 3) := by decide +kernel
theorem dX12_isSmall_17 : decode cX12_isSmall 17 = .ok (.lload_n 1, 1) := by decide +kernel
theorem dX12_isSmall_18 : decode cX12_isSmall 18 = .ok (.ldc2_w 391, 3) := by decide +kernel
theorem dX12_isSmall_21 : decode cX12_isSmall 21 = .ok (.lcmp, 1) := by decide +kernel
theorem dX12_isSmall_22 : decode cX12_isSmall 22 = .ok (.ifCond .gt 17, 3) := by decide +kernel
theorem dX12_isSmall_25 : decode cX12_isSmall 25 = .ok (.lload_n 1, 1) := by decide +kernel
theorem dX12_isSmall_26 : decode cX12_isSmall 26 = .ok (.aload_n 0, 1) := by decide +kernel
theorem dX12_isSmall_27 : decode cX12_isSmall 27 = .ok (.getfield 22, 3) := by decide +kernel
theorem dX12_isSmall_30 : decode cX12_isSmall 30 = .ok (.i2l, 1) := by decide +kernel
theorem dX12_isSmall_31 : decode cX12_isSmall 31 = .ok (.lmul, 1) := by decide +kernel
theorem dX12_isSmall_32 : decode cX12_isSmall 32 = .ok (.lstore_n 1, 1) := by decide +kernel
theorem dX12_isSmall_33 : decode cX12_isSmall 33 = .ok (.iinc 3 1, 3) := by decide +kernel
theorem dX12_isSmall_36 : decode cX12_isSmall 36 = .ok (.goto (-32), 3) := by decide +kernel
theorem dX12_isSmall_39 : decode cX12_isSmall 39 = .ok (.lload_n 1, 1) := by decide +kernel
theorem dX12_isSmall_40 : decode cX12_isSmall 40 = .ok (.ldc2_w 391, 3) := by decide +kernel
theorem dX12_isSmall_43 : decode cX12_isSmall 43 = .ok (.lcmp, 1) := by decide +kernel
theorem dX12_isSmall_44 : decode cX12_isSmall 44 = .ok (.ifCond .gt 7, 3) := by decide +kernel
theorem dX12_isSmall_47 : decode cX12_isSmall 47 = .ok (.iconst 1, 1) := by decide +kernel
theorem dX12_isSmall_48 : decode cX12_isSmall 48 = .ok (.goto 4, 3) := by decide +kernel
theorem dX12_isSmall_51 : decode cX12_isSmall 51 = .ok (.iconst 0, 1) := by decide +kernel
theorem dX12_isSmall_52 : decode cX12_isSmall 52 = .ok (.ireturn, 1) := by decide +kernel
theorem dX12_goes_0 : decode cX12_goes 0 = .ok (.bipush 64, 2) := by decide +kernel
theorem dX12_goes_2 : decode cX12_goes 2 = .ok (.iload_n 1, 1) := by decide +kernel
theorem dX12_goes_3 : decode cX12_goes 3 = .ok (.imul, 1) := by decide +kernel
theorem dX12_goes_4 : decode cX12_goes 4 = .ok (.istore_n 2, 1) := by decide +kernel
theorem dX12_goes_5 : decode cX12_goes 5 = .ok (.iload_n 1, 1) := by decide +kernel
theorem dX12_goes_6 : decode cX12_goes 6 = .ok (.aload_n 0, 1) := by decide +kernel
theorem dX12_goes_7 : decode cX12_goes 7 = .ok (.getfield 69, 3) := by decide +kernel
theorem dX12_goes_10 : decode cX12_goes 10 = .ok (.aload_n 0, 1) := by decide +kernel
theorem dX12_goes_11 : decode cX12_goes 11 = .ok (.getfield 322, 3) := by decide +kernel
theorem dX12_goes_14 : decode cX12_goes 14 = .ok (.isub, 1) := by decide +kernel
theorem dX12_goes_15 : decode cX12_goes 15 = .ok (.if_icmp .ne 24, 3) := by decide +kernel
theorem dX12_goes_18 : decode cX12_goes 18 = .ok (.aload_n 0, 1) := by decide +kernel
theorem dX12_goes_19 : decode cX12_goes 19 = .ok (.getfield 393, 3) := by decide +kernel
theorem dX12_goes_22 : decode cX12_goes 22 = .ok (.ifCond .eq 11, 3) := by decide +kernel
theorem dX12_goes_25 : decode cX12_goes 25 = .ok (.aload_n 0, 1) := by decide +kernel
theorem dX12_goes_26 : decode cX12_goes 26 = .ok (.iload_n 2, 1) := by decide +kernel
theorem dX12_goes_27 : decode cX12_goes 27 = .ok (.invokevirtual 396, 3) := by decide +kernel
theorem dX12_goes_30 : decode cX12_goes 30 = .ok (.goto 8, 3) := by decide +kernel
theorem dX12_goes_33 : decode cX12_goes 33 = .ok (.aload_n 0, 1) := by decide +kernel
theorem dX12_goes_34 : decode cX12_goes 34 = .ok (.iload_n 2, 1) := by decide +kernel
theorem dX12_goes_35 : decode cX12_goes 35 = .ok (.invokevirtual 399, 3) := by decide +kernel
theorem dX12_goes_38 : decode cX12_goes 38 = .ok (.return_, 1) := by decide +kernel
theorem dX12_goes_39 : decode cX12_goes 39 = .ok (.iload_n 2, 1) := by decide +kernel
theorem dX12_goes_40 : decode cX12_goes 40 = .ok (.bipush 64, 2) := by decide +kernel
theorem dX12_goes_42 : decode cX12_goes 42 = .ok (.iadd, 1) := by decide +kernel
theorem dX12_goes_43 : decode cX12_goes 43 = .ok (.istore_n 3, 1) := by decide +kernel
theorem dX12_goes_44 : decode cX12_goes 44 = .ok (.iconst 0, 1) := by decide +kernel
theorem dX12_goes_45 : decode cX12_goes 45 = .ok (.istore 4, 2) := by decide +kernel
theorem dX12_goes_47 : decode cX12_goes 47 = .ok (.iload 4, 2) := by decide +kernel
theorem dX12_goes_49 : decode cX12_goes 49 = .ok (.aload_n 0, 1) := by decide +kernel
theorem dX12_goes_50 : decode cX12_goes 50 = .ok (.getfield 22, 3) := by decide +kernel
theorem dX12_goes_53 : decode cX12_goes 53 = .ok (.if_icmp .ge 95, 3) := by decide +kernel
theorem dX12_goes_56 : decode cX12_goes 56 = .ok (.iconst 0, 1) := by decide +kernel
theorem dX12_goes_57 : decode cX12_goes 57 = .ok (.istore 5, 2) := by decide +kernel
theorem dX12_goes_59 : decode cX12_goes 59 = .ok (.iload 5, 2) := by decide +kernel
theorem dX12_goes_61 : decode cX12_goes 61 = .ok (.aload_n 0, 1) := by decide +kernel
theorem dX12_goes_62 : decode cX12_goes 62 = .ok (.getfield 69, 3) := by decide +kernel
theorem dX12_goes_65 : decode cX12_goes 65 = .ok (.if_icmp .ge 70, 3) := by decide +kernel
theorem dX12_goes_68 : decode cX12_goes 68 = .ok (.iload 5, 2) := by decide +kernel
theorem dX12_goes_70 : decode cX12_goes 70 = .ok (.iload_n 1, 1) := by decide +kernel
theorem dX12_goes_71 : decode cX12_goes 71 = .ok (.if_icmp .lt 26, 3) := by decide +kernel
theorem dX12_goes_74 : decode cX12_goes 74 = .ok (.iload 5, 2) := by decide +kernel
theorem dX12_goes_76 : decode cX12_goes 76 = .ok (.iload_n 1, 1) := by decide +kernel
theorem dX12_goes_77 : decode cX12_goes 77 = .ok (.isub, 1) := by decide +kernel
theorem dX12_goes_78 : decode cX12_goes 78 = .ok (.aload_n 0, 1) := by decide +kernel
theorem dX12_goes_79 : decode cX12_goes 79 = .ok (.getfield 322, 3) := by decide +kernel
theorem dX12_goes_82 : decode cX12_goes 82 = .ok (.if_icmp .gt 15, 3) := by decide +kernel
theorem dX12_goes_85 : decode cX12_goes 85 = .ok (.aload_n 0, 1) := by decide +kernel
theorem dX12_goes_86 : decode cX12_goes 86 = .ok (.getfield 72, 3) := by decide +kernel
theorem dX12_goes_89 : decode cX12_goes 89 = .ok (.iload 5, 2) := by decide +kernel
theorem dX12_goes_91 : decode cX12_goes 91 = .ok (.iload_n 1, 1) := by decide +kernel
theorem dX12_goes_92 : decode cX12_goes 92 = .ok (.isub, 1) := by decide +kernel
theorem dX12_goes_93 : decode cX12_goes 93 = .ok (.iaload, 1) := by decide +kernel
theorem dX12_goes_94 : decode cX12_goes 94 = .ok (.goto 4, 3) := by decide +kernel
theorem dX12_goes_97 : decode cX12_goes 97 = .ok (.iconst 0, 1) := by decide +kernel
theorem dX12_goes_98 : decode cX12_goes 98 = .ok (.istore 6, 2) := by decide +kernel
theorem dX12_goes_100 : decode cX12_goes 100 = .ok (.aload_n 0, 1) := by decide +kernel
theorem dX12_goes_101 : decode cX12_goes 101 = .ok (.getfield 78, 3) := by decide +kernel
theorem dX12_goes_104 : decode cX12_goes 104 = .ok (.iload_n 3, 1) := by decide +kernel
theorem dX12_goes_105 : decode cX12_goes 105 = .ok (.iload 5, 2) := by decide +kernel
theorem dX12_goes_107 : decode cX12_goes 107 = .ok (.iadd, 1) := by decide +kernel
theorem dX12_goes_108 : decode cX12_goes 108 = .ok (.aload_n 0, 1) := by decide +kernel
theorem dX12_goes_109 : decode cX12_goes 109 = .ok (.getfield 78, 3) := by decide +kernel
theorem dX12_goes_112 : decode cX12_goes 112 = .ok (.iload_n 2, 1) := by decide +kernel
theorem dX12_goes_113 : decode cX12_goes 113 = .ok (.iload 5, 2) := by decide +kernel
theorem dX12_goes_115 : decode cX12_goes 115 = .ok (.iadd, 1) := by decide +kernel
theorem dX12_goes_116 : decode cX12_goes 116 = .ok (.iaload, 1) := by decide +kernel
theorem dX12_goes_117 : decode cX12_goes 117 = .ok (.iload 4, 2) := by decide +kernel
theorem dX12_goes_119 : decode cX12_goes 119 = .ok (.iload 6, 2) := by decide +kernel
theorem dX12_goes_121 : decode cX12_goes 121 = .ok (.imul, 1) := by decide +kernel
theorem dX12_goes_122 : decode cX12_goes 122 = .ok (.iadd, 1) := by decide +kernel
theorem dX12_goes_123 : decode cX12_goes 123 = .ok (.aload_n 0, 1) := by decide +kernel
theorem dX12_goes_124 : decode cX12_goes 124 = .ok (.getfield 22, 3) := by decide +kernel
theorem dX12_goes_127 : decode cX12_goes 127 = .ok (.irem, 1) := by decide +kernel
theorem dX12_goes_128 : decode cX12_goes 128 = .ok (.iastore, 1) := by decide +kernel
theorem dX12_goes_129 : decode cX12_goes 129 = .ok (.iinc 5 1, 3) := by decide +kernel
theorem dX12_goes_132 : decode cX12_goes 132 = .ok (.goto (-73), 3) := by decide +kernel
theorem dX12_goes_135 : decode cX12_goes 135 = .ok (.aload_n 0, 1) := by decide +kernel
theorem dX12_goes_136 : decode cX12_goes 136 = .ok (.iload_n 1, 1) := by decide +kernel
theorem dX12_goes_137 : decode cX12_goes 137 = .ok (.iconst 1, 1) := by decide +kernel
theorem dX12_goes_138 : decode cX12_goes 138 = .ok (.iadd, 1) := by decide +kernel
theorem dX12_goes_139 : decode cX12_goes 139 = .ok (.invokevirtual 402, 3) := by decide +kernel
theorem dX12_goes_142 : decode cX12_goes 142 = .ok (.iinc 4 1, 3) := by decide +kernel
theorem dX12_goes_145 : decode cX12_goes 145 = .ok (.goto (-98), 3) := by decide +kernel
theorem dX12_goes_148 : decode cX12_goes 148 = .ok (.return_, 1) := by decide +kernel
theorem dX12_weighs_0 : decode cX12_weighs 0 = .ok (.iconst 0, 1) := by decide +kernel
theorem dX12_weighs_1 : decode cX12_weighs 1 = .ok (.istore_n 2, 1) := by decide +kernel
theorem dX12_weighs_2 : decode cX12_weighs 2 = .ok (.iconst 0, 1) := by decide +kernel
theorem dX12_weighs_3 : decode cX12_weighs 3 = .ok (.istore_n 3, 1) := by decide +kernel
theorem dX12_weighs_4 : decode cX12_weighs 4 = .ok (.iconst 0, 1) := by decide +kernel
theorem dX12_weighs_5 : decode cX12_weighs 5 = .ok (.istore 4, 2) := by decide +kernel
theorem dX12_weighs_7 : decode cX12_weighs 7 = .ok (.iload 4, 2) := by decide +kernel
theorem dX12_weighs_9 : decode cX12_weighs 9 = .ok (.aload_n 0, 1) := by decide +kernel
theorem dX12_weighs_10 : decode cX12_weighs 10 = .ok (.getfield 69, 3) := by decide +kernel
theorem dX12_weighs_13 : decode cX12_weighs 13 = .ok (.if_icmp .ge 48, 3) := by decide +kernel
theorem dX12_weighs_16 : decode cX12_weighs 16 = .ok (.aload_n 0, 1) := by decide +kernel
theorem dX12_weighs_17 : decode cX12_weighs 17 = .ok (.getfield 78, 3) := by decide +kernel
theorem dX12_weighs_20 : decode cX12_weighs 20 = .ok (.iload_n 1, 1) := by decide +kernel
theorem dX12_weighs_21 : decode cX12_weighs 21 = .ok (.iload 4, 2) := by decide +kernel
theorem dX12_weighs_23 : decode cX12_weighs 23 = .ok (.iadd, 1) := by decide +kernel
theorem dX12_weighs_24 : decode cX12_weighs 24 = .ok (.iaload, 1) := by decide +kernel
theorem dX12_weighs_25 : decode cX12_weighs 25 = .ok (.istore 5, 2) := by decide +kernel
theorem dX12_weighs_27 : decode cX12_weighs 27 = .ok (.iload_n 2, 1) := by decide +kernel
theorem dX12_weighs_28 : decode cX12_weighs 28 = .ok (.iload 5, 2) := by decide +kernel
theorem dX12_weighs_30 : decode cX12_weighs 30 = .ok (.ifCond .eq 7, 3) := by decide +kernel
theorem dX12_weighs_33 : decode cX12_weighs 33 = .ok (.iconst 1, 1) := by decide +kernel
theorem dX12_weighs_34 : decode cX12_weighs 34 = .ok (.goto 4, 3) := by decide +kernel
theorem dX12_weighs_37 : decode cX12_weighs 37 = .ok (.iconst 0, 1) := by decide +kernel
theorem dX12_weighs_38 : decode cX12_weighs 38 = .ok (.iadd, 1) := by decide +kernel
theorem dX12_weighs_39 : decode cX12_weighs 39 = .ok (.istore_n 2, 1) := by decide +kernel
theorem dX12_weighs_40 : decode cX12_weighs 40 = .ok (.iload_n 3, 1) := by decide +kernel
theorem dX12_weighs_41 : decode cX12_weighs 41 = .ok (.iload 5, 2) := by decide +kernel
theorem dX12_weighs_43 : decode cX12_weighs 43 = .ok (.aload_n 0, 1) := by decide +kernel
theorem dX12_weighs_44 : decode cX12_weighs 44 = .ok (.getfield 22, 3) := by decide +kernel
theorem dX12_weighs_47 : decode cX12_weighs 47 = .ok (.iload 5, 2) := by decide +kernel
theorem dX12_weighs_49 : decode cX12_weighs 49 = .ok (.isub, 1) := by decide +kernel
theorem dX12_weighs_50 : decode cX12_weighs 50 = .ok (.invokestatic 249, 3) := by decide +kernel
theorem dX12_weighs_53 : decode cX12_weighs 53 = .ok (.iadd, 1) := by decide +kernel
theorem dX12_weighs_54 : decode cX12_weighs 54 = .ok (.istore_n 3, 1) := by decide +kernel
theorem dX12_weighs_55 : decode cX12_weighs 55 = .ok (.iinc 4 1, 3) := by decide +kernel
theorem dX12_weighs_58 : decode cX12_weighs 58 = .ok (.goto (-51), 3) := by decide +kernel
theorem dX12_weighs_61 : decode cX12_weighs 61 = .ok (.aload_n 0, 1) := by decide +kernel
theorem dX12_weighs_62 : decode cX12_weighs 62 = .ok (.getfield 81, 3) := by decide +kernel
theorem dX12_weighs_65 : decode cX12_weighs 65 = .ok (.iload_n 2, 1) := by decide +kernel
theorem dX12_weighs_66 : decode cX12_weighs 66 = .ok (.dup2, 1) := by decide +kernel
theorem dX12_weighs_67 : decode cX12_weighs 67 = .ok (.iaload, 1) := by decide +kernel
theorem dX12_weighs_68 : decode cX12_weighs 68 = .ok (.iconst 1, 1) := by decide +kernel
theorem dX12_weighs_69 : decode cX12_weighs 69 = .ok (.iadd, 1) := by decide +kernel
theorem dX12_weighs_70 : decode cX12_weighs 70 = .ok (.iastore, 1) := by decide +kernel
theorem dX12_weighs_71 : decode cX12_weighs 71 = .ok (.aload_n 0, 1) := by decide +kernel
theorem dX12_weighs_72 : decode cX12_weighs 72 = .ok (.getfield 84, 3) := by decide +kernel
theorem dX12_weighs_75 : decode cX12_weighs 75 = .ok (.iload_n 3, 1) := by decide +kernel
theorem dX12_weighs_76 : decode cX12_weighs 76 = .ok (.dup2, 1) := by decide +kernel
theorem dX12_weighs_77 : decode cX12_weighs 77 = .ok (.iaload, 1) := by decide +kernel
theorem dX12_weighs_78 : decode cX12_weighs 78 = .ok (.iconst 1, 1) := by decide +kernel
theorem dX12_weighs_79 : decode cX12_weighs 79 = .ok (.iadd, 1) := by decide +kernel
theorem dX12_weighs_80 : decode cX12_weighs 80 = .ok (.iastore, 1) := by decide +kernel
theorem dX12_weighs_81 : decode cX12_weighs 81 = .ok (.return_, 1) := by decide +kernel
theorem dX12_looksAt_0 : decode cX12_looksAt 0 = .ok (.iconst 0, 1) := by decide +kernel
theorem dX12_looksAt_1 : decode cX12_looksAt 1 = .ok (.istore_n 2, 1) := by decide +kernel
theorem dX12_looksAt_2 : decode cX12_looksAt 2 = .ok (.iconst 0, 1) := by decide +kernel
theorem dX12_looksAt_3 : decode cX12_looksAt 3 = .ok (.istore_n 3, 1) := by decide +kernel
theorem dX12_looksAt_4 : decode cX12_looksAt 4 = .ok (.iload_n 3, 1) := by decide +kernel
theorem dX12_looksAt_5 : decode cX12_looksAt 5 = .ok (.aload_n 0, 1) := by decide +kernel
theorem dX12_looksAt_6 : decode cX12_looksAt 6 = .ok (.getfield 69, 3) := by decide +kernel
theorem dX12_looksAt_9 : decode cX12_looksAt 9 = .ok (.if_icmp .ge 34, 3) := by decide +kernel
theorem dX12_looksAt_12 : decode cX12_looksAt 12 = .ok (.iload_n 2, 1) := by decide +kernel
theorem dX12_looksAt_13 : decode cX12_looksAt 13 = .ok (.aload_n 0, 1) := by decide +kernel
theorem dX12_looksAt_14 : decode cX12_looksAt 14 = .ok (.getfield 78, 3) := by decide +kernel
theorem dX12_looksAt_17 : decode cX12_looksAt 17 = .ok (.iload_n 1, 1) := by decide +kernel
theorem dX12_looksAt_18 : decode cX12_looksAt 18 = .ok (.iload_n 3, 1) := by decide +kernel
theorem dX12_looksAt_19 : decode cX12_looksAt 19 = .ok (.iadd, 1) := by decide +kernel
theorem dX12_looksAt_20 : decode cX12_looksAt 20 = .ok (.iaload, 1) := by decide +kernel
theorem dX12_looksAt_21 : decode cX12_looksAt 21 = .ok (.aload_n 0, 1) := by decide +kernel
theorem dX12_looksAt_22 : decode cX12_looksAt 22 = .ok (.getfield 90, 3) := by decide +kernel
theorem dX12_looksAt_25 : decode cX12_looksAt 25 = .ok (.iload_n 3, 1) := by decide +kernel
theorem dX12_looksAt_26 : decode cX12_looksAt 26 = .ok (.iaload, 1) := by decide +kernel
theorem dX12_looksAt_27 : decode cX12_looksAt 27 = .ok (.if_icmp .eq 7, 3) := by decide +kernel
theorem dX12_looksAt_30 : decode cX12_looksAt 30 = .ok (.iconst 1, 1) := by decide +kernel
theorem dX12_looksAt_31 : decode cX12_looksAt 31 = .ok (.goto 4, 3) := by decide +kernel
theorem dX12_looksAt_34 : decode cX12_looksAt 34 = .ok (.iconst 0, 1) := by decide +kernel
theorem dX12_looksAt_35 : decode cX12_looksAt 35 = .ok (.iadd, 1) := by decide +kernel
theorem dX12_looksAt_36 : decode cX12_looksAt 36 = .ok (.istore_n 2, 1) := by decide +kernel
theorem dX12_looksAt_37 : decode cX12_looksAt 37 = .ok (.iinc 3 1, 3) := by decide +kernel
theorem dX12_looksAt_40 : decode cX12_looksAt 40 = .ok (.goto (-36), 3) := by decide +kernel
theorem dX12_looksAt_43 : decode cX12_looksAt 43 = .ok (.iload_n 2, 1) := by decide +kernel
theorem dX12_looksAt_44 : decode cX12_looksAt 44 = .ok (.aload_n 0, 1) := by decide +kernel
theorem dX12_looksAt_45 : decode cX12_looksAt 45 = .ok (.getfield 405, 3) := by decide +kernel
theorem dX12_looksAt_48 : decode cX12_looksAt 48 = .ok (.if_icmp .lt 19, 3) := by decide +kernel
theorem dX12_looksAt_51 : decode cX12_looksAt 51 = .ok (.iload_n 2, 1) := by decide +kernel
theorem dX12_looksAt_52 : decode cX12_looksAt 52 = .ok (.aload_n 0, 1) := by decide +kernel
theorem dX12_looksAt_53 : decode cX12_looksAt 53 = .ok (.getfield 405, 3) := by decide +kernel
theorem dX12_looksAt_56 : decode cX12_looksAt 56 = .ok (.if_icmp .ne 46, 3) := by decide +kernel
theorem dX12_looksAt_59 : decode cX12_looksAt 59 = .ok (.aload_n 0, 1) := by decide +kernel
theorem dX12_looksAt_60 : decode cX12_looksAt 60 = .ok (.iload_n 1, 1) := by decide +kernel
theorem dX12_looksAt_61 : decode cX12_looksAt 61 = .ok (.invokevirtual 408, 3) := by decide +kernel
theorem dX12_looksAt_64 : decode cX12_looksAt 64 = .ok (.ifCond .eq 38, 3) := by decide +kernel
theorem dX12_looksAt_67 : decode cX12_looksAt 67 = .ok (.aload_n 0, 1) := by decide +kernel
theorem dX12_looksAt_68 : decode cX12_looksAt 68 = .ok (.iload_n 2, 1) := by decide +kernel
theorem dX12_looksAt_69 : decode cX12_looksAt 69 = .ok (.putfield 405, 3) := by decide +kernel
theorem dX12_looksAt_72 : decode cX12_looksAt 72 = .ok (.iconst 0, 1) := by decide +kernel
theorem dX12_looksAt_73 : decode cX12_looksAt 73 = .ok (.istore_n 3, 1) := by decide +kernel
theorem dX12_looksAt_74 : decode cX12_looksAt 74 = .ok (.iload_n 3, 1) := by decide +kernel
theorem dX12_looksAt_75 : decode cX12_looksAt 75 = .ok (.aload_n 0, 1) := by decide +kernel
theorem dX12_looksAt_76 : decode cX12_looksAt 76 = .ok (.getfield 69, 3) := by decide +kernel
theorem dX12_looksAt_79 : decode cX12_looksAt 79 = .ok (.if_icmp .ge 23, 3) := by decide +kernel
theorem dX12_looksAt_82 : decode cX12_looksAt 82 = .ok (.aload_n 0, 1) := by decide +kernel
theorem dX12_looksAt_83 : decode cX12_looksAt 83 = .ok (.getfield 87, 3) := by decide +kernel
theorem dX12_looksAt_86 : decode cX12_looksAt 86 = .ok (.iload_n 3, 1) := by decide +kernel
theorem dX12_looksAt_87 : decode cX12_looksAt 87 = .ok (.aload_n 0, 1) := by decide +kernel
theorem dX12_looksAt_88 : decode cX12_looksAt 88 = .ok (.getfield 78, 3) := by decide +kernel
theorem dX12_looksAt_91 : decode cX12_looksAt 91 = .ok (.iload_n 1, 1) := by decide +kernel
theorem dX12_looksAt_92 : decode cX12_looksAt 92 = .ok (.iload_n 3, 1) := by decide +kernel
theorem dX12_looksAt_93 : decode cX12_looksAt 93 = .ok (.iadd, 1) := by decide +kernel
theorem dX12_looksAt_94 : decode cX12_looksAt 94 = .ok (.iaload, 1) := by decide +kernel
theorem dX12_looksAt_95 : decode cX12_looksAt 95 = .ok (.iastore, 1) := by decide +kernel
theorem dX12_looksAt_96 : decode cX12_looksAt 96 = .ok (.iinc 3 1, 3) := by decide +kernel
theorem dX12_looksAt_99 : decode cX12_looksAt 99 = .ok (.goto (-25), 3) := by decide +kernel
theorem dX12_looksAt_102 : decode cX12_looksAt 102 = .ok (.return_, 1) := by decide +kernel
theorem dX12_isAhead_0 : decode cX12_isAhead 0 = .ok (.iconst 0, 1) := by decide +kernel
theorem dX12_isAhead_1 : decode cX12_isAhead 1 = .ok (.istore_n 2, 1) := by decide +kernel
theorem dX12_isAhead_2 : decode cX12_isAhead 2 = .ok (.iload_n 2, 1) := by decide +kernel
theorem dX12_isAhead_3 : decode cX12_isAhead 3 = .ok (.aload_n 0, 1) := by decide +kernel
theorem dX12_isAhead_4 : decode cX12_isAhead 4 = .ok (.getfield 69, 3) := by decide +kernel
theorem dX12_isAhead_7 : decode cX12_isAhead 7 = .ok (.if_icmp .ge 49, 3) := by decide +kernel
theorem dX12_isAhead_10 : decode cX12_isAhead 10 = .ok (.aload_n 0, 1) := by decide +kernel
theorem dX12_isAhead_11 : decode cX12_isAhead 11 = .ok (.getfield 78, 3) := by decide +kernel
theorem dX12_isAhead_14 : decode cX12_isAhead 14 = .ok (.iload_n 1, 1) := by decide +kernel
theorem dX12_isAhead_15 : decode cX12_isAhead 15 = .ok (.iload_n 2, 1) := by decide +kernel
theorem dX12_isAhead_16 : decode cX12_isAhead 16 = .ok (.iadd, 1) := by decide +kernel
theorem dX12_isAhead_17 : decode cX12_isAhead 17 = .ok (.iaload, 1) := by decide +kernel
theorem dX12_isAhead_18 : decode cX12_isAhead 18 = .ok (.aload_n 0, 1) := by decide +kernel
theorem dX12_isAhead_19 : decode cX12_isAhead 19 = .ok (.getfield 87, 3) := by decide +kernel
theorem dX12_isAhead_22 : decode cX12_isAhead 22 = .ok (.iload_n 2, 1) := by decide +kernel
theorem dX12_isAhead_23 : decode cX12_isAhead 23 = .ok (.iaload, 1) := by decide +kernel
theorem dX12_isAhead_24 : decode cX12_isAhead 24 = .ok (.if_icmp .eq 26, 3) := by decide +kernel
theorem dX12_isAhead_27 : decode cX12_isAhead 27 = .ok (.aload_n 0, 1) := by decide +kernel
theorem dX12_isAhead_28 : decode cX12_isAhead 28 = .ok (.getfield 78, 3) := by decide +kernel
theorem dX12_isAhead_31 : decode cX12_isAhead 31 = .ok (.iload_n 1, 1) := by decide +kernel
theorem dX12_isAhead_32 : decode cX12_isAhead 32 = .ok (.iload_n 2, 1) := by decide +kernel
theorem dX12_isAhead_33 : decode cX12_isAhead 33 = .ok (.iadd, 1) := by decide +kernel
theorem dX12_isAhead_34 : decode cX12_isAhead 34 = .ok (.iaload, 1) := by decide +kernel
theorem dX12_isAhead_35 : decode cX12_isAhead 35 = .ok (.aload_n 0, 1) := by decide +kernel
theorem dX12_isAhead_36 : decode cX12_isAhead 36 = .ok (.getfield 87, 3) := by decide +kernel
theorem dX12_isAhead_39 : decode cX12_isAhead 39 = .ok (.iload_n 2, 1) := by decide +kernel
theorem dX12_isAhead_40 : decode cX12_isAhead 40 = .ok (.iaload, 1) := by decide +kernel
theorem dX12_isAhead_41 : decode cX12_isAhead 41 = .ok (.if_icmp .ge 7, 3) := by decide +kernel
theorem dX12_isAhead_44 : decode cX12_isAhead 44 = .ok (.iconst 1, 1) := by decide +kernel
theorem dX12_isAhead_45 : decode cX12_isAhead 45 = .ok (.goto 4, 3) := by decide +kernel
theorem dX12_isAhead_48 : decode cX12_isAhead 48 = .ok (.iconst 0, 1) := by decide +kernel
theorem dX12_isAhead_49 : decode cX12_isAhead 49 = .ok (.ireturn, 1) := by decide +kernel
theorem dX12_isAhead_50 : decode cX12_isAhead 50 = .ok (.iinc 2 1, 3) := by decide +kernel
theorem dX12_isAhead_53 : decode cX12_isAhead 53 = .ok (.goto (-51), 3) := by decide +kernel
theorem dX12_isAhead_56 : decode cX12_isAhead 56 = .ok (.iconst 0, 1) := by decide +kernel
theorem dX12_isAhead_57 : decode cX12_isAhead 57 = .ok (.ireturn, 1) := by decide +kernel
theorem dX12_goesAll_0 : decode cX12_goesAll 0 = .ok (.aload_n 0, 1) := by decide +kernel
theorem dX12_goesAll_1 : decode cX12_goesAll 1 = .ok (.iload_n 1, 1) := by decide +kernel
theorem dX12_goesAll_2 : decode cX12_goesAll 2 = .ok (.putfield 393, 3) := by decide +kernel
theorem dX12_goesAll_5 : decode cX12_goesAll 5 = .ok (.iconst 0, 1) := by decide +kernel
theorem dX12_goesAll_6 : decode cX12_goesAll 6 = .ok (.istore_n 2, 1) := by decide +kernel
theorem dX12_goesAll_7 : decode cX12_goesAll 7 = .ok (.iload_n 2, 1) := by decide +kernel
theorem dX12_goesAll_8 : decode cX12_goesAll 8 = .ok (.bipush 64, 2) := by decide +kernel
theorem dX12_goesAll_10 : decode cX12_goesAll 10 = .ok (.if_icmp .ge 23, 3) := by decide +kernel
theorem dX12_goesAll_13 : decode cX12_goesAll 13 = .ok (.aload_n 0, 1) := by decide +kernel
theorem dX12_goesAll_14 : decode cX12_goesAll 14 = .ok (.getfield 78, 3) := by decide +kernel
theorem dX12_goesAll_17 : decode cX12_goesAll 17 = .ok (.iload_n 2, 1) := by decide +kernel
theorem dX12_goesAll_18 : decode cX12_goesAll 18 = .ok (.iconst 0, 1) := by decide +kernel
theorem dX12_goesAll_19 : decode cX12_goesAll 19 = .ok (.iastore, 1) := by decide +kernel
theorem dX12_goesAll_20 : decode cX12_goesAll 20 = .ok (.aload_n 0, 1) := by decide +kernel
theorem dX12_goesAll_21 : decode cX12_goesAll 21 = .ok (.getfield 81, 3) := by decide +kernel
theorem dX12_goesAll_24 : decode cX12_goesAll 24 = .ok (.iload_n 2, 1) := by decide +kernel
theorem dX12_goesAll_25 : decode cX12_goesAll 25 = .ok (.iconst 0, 1) := by decide +kernel
theorem dX12_goesAll_26 : decode cX12_goesAll 26 = .ok (.iastore, 1) := by decide +kernel
theorem dX12_goesAll_27 : decode cX12_goesAll 27 = .ok (.iinc 2 1, 3) := by decide +kernel
theorem dX12_goesAll_30 : decode cX12_goesAll 30 = .ok (.goto (-23), 3) := by decide +kernel
theorem dX12_goesAll_33 : decode cX12_goesAll 33 = .ok (.iconst 0, 1) := by decide +kernel
theorem dX12_goesAll_34 : decode cX12_goesAll 34 = .ok (.istore_n 2, 1) := by decide +kernel
theorem dX12_goesAll_35 : decode cX12_goesAll 35 = .ok (.iload_n 2, 1) := by decide +kernel
theorem dX12_goesAll_36 : decode cX12_goesAll 36 = .ok (.sipush 8192, 3) := by decide +kernel
theorem dX12_goesAll_39 : decode cX12_goesAll 39 = .ok (.if_icmp .ge 16, 3) := by decide +kernel
theorem dX12_goesAll_42 : decode cX12_goesAll 42 = .ok (.aload_n 0, 1) := by decide +kernel
theorem dX12_goesAll_43 : decode cX12_goesAll 43 = .ok (.getfield 84, 3) := by decide +kernel
theorem dX12_goesAll_46 : decode cX12_goesAll 46 = .ok (.iload_n 2, 1) := by decide +kernel
theorem dX12_goesAll_47 : decode cX12_goesAll 47 = .ok (.iconst 0, 1) := by decide +kernel
theorem dX12_goesAll_48 : decode cX12_goesAll 48 = .ok (.iastore, 1) := by decide +kernel
theorem dX12_goesAll_49 : decode cX12_goesAll 49 = .ok (.iinc 2 1, 3) := by decide +kernel
theorem dX12_goesAll_52 : decode cX12_goesAll 52 = .ok (.goto (-17), 3) := by decide +kernel
theorem dX12_goesAll_55 : decode cX12_goesAll 55 = .ok (.aload_n 0, 1) := by decide +kernel
theorem dX12_goesAll_56 : decode cX12_goesAll 56 = .ok (.bipush 64, 2) := by decide +kernel
theorem dX12_goesAll_58 : decode cX12_goesAll 58 = .ok (.putfield 405, 3) := by decide +kernel
theorem dX12_goesAll_61 : decode cX12_goesAll 61 = .ok (.aload_n 0, 1) := by decide +kernel
theorem dX12_goesAll_62 : decode cX12_goesAll 62 = .ok (.iconst 0, 1) := by decide +kernel
theorem dX12_goesAll_63 : decode cX12_goesAll 63 = .ok (.invokevirtual 402, 3) := by decide +kernel
theorem dX12_goesAll_66 : decode cX12_goesAll 66 = .ok (.return_, 1) := by decide +kernel
theorem dX12_weighing_0 : decode cX12_weighing 0 = .ok (.aload_n 0, 1) := by decide +kernel
theorem dX12_weighing_1 : decode cX12_weighing 1 = .ok (.iconst 0, 1) := by decide +kernel
theorem dX12_weighing_2 : decode cX12_weighing 2 = .ok (.putfield 1, 3) := by decide +kernel
theorem dX12_weighing_5 : decode cX12_weighing 5 = .ok (.aload_n 0, 1) := by decide +kernel
theorem dX12_weighing_6 : decode cX12_weighing 6 = .ok (.invokevirtual 411, 3) := by decide +kernel
theorem dX12_weighing_9 : decode cX12_weighing 9 = .ok (.ifCond .eq 7, 3) := by decide +kernel
theorem dX12_weighing_12 : decode cX12_weighing 12 = .ok (.iload_n 2, 1) := by decide +kernel
theorem dX12_weighing_13 : decode cX12_weighing 13 = .ok (.ifCond .ge 5, 3) := by decide +kernel
theorem dX12_weighing_16 : decode cX12_weighing 16 = .ok (.iconst (-1), 1) := by decide +kernel
theorem dX12_weighing_17 : decode cX12_weighing 17 = .ok (.ireturn, 1) := by decide +kernel
theorem dX12_weighing_18 : decode cX12_weighing 18 = .ok (.aload_n 0, 1) := by decide +kernel
theorem dX12_weighing_19 : decode cX12_weighing 19 = .ok (.iconst 0, 1) := by decide +kernel
theorem dX12_weighing_20 : decode cX12_weighing 20 = .ok (.invokevirtual 414, 3) := by decide +kernel
theorem dX12_weighing_23 : decode cX12_weighing 23 = .ok (.iload_n 1, 1) := by decide +kernel
theorem dX12_weighing_24 : decode cX12_weighing 24 = .ok (.ifCond .eq 21, 3) := by decide +kernel
theorem dX12_weighing_27 : decode cX12_weighing 27 = .ok (.iload_n 2, 1) := by decide +kernel
theorem dX12_weighing_28 : decode cX12_weighing 28 = .ok (.sipush 8192, 3) := by decide +kernel
theorem dX12_weighing_31 : decode cX12_weighing 31 = .ok (.if_icmp .ge 12, 3) := by decide +kernel
theorem dX12_weighing_34 : decode cX12_weighing 34 = .ok (.aload_n 0, 1) := by decide +kernel
theorem dX12_weighing_35 : decode cX12_weighing 35 = .ok (.getfield 84, 3) := by decide +kernel
theorem dX12_weighing_38 : decode cX12_weighing 38 = .ok (.iload_n 2, 1) := by decide +kernel
theorem dX12_weighing_39 : decode cX12_weighing 39 = .ok (.iaload, 1) := by decide +kernel
theorem dX12_weighing_40 : decode cX12_weighing 40 = .ok (.goto 4, 3) := by decide +kernel
theorem dX12_weighing_43 : decode cX12_weighing 43 = .ok (.iconst 0, 1) := by decide +kernel
theorem dX12_weighing_44 : decode cX12_weighing 44 = .ok (.ireturn, 1) := by decide +kernel
theorem dX12_weighing_45 : decode cX12_weighing 45 = .ok (.iload_n 2, 1) := by decide +kernel
theorem dX12_weighing_46 : decode cX12_weighing 46 = .ok (.bipush 64, 2) := by decide +kernel
theorem dX12_weighing_48 : decode cX12_weighing 48 = .ok (.if_icmp .ge 12, 3) := by decide +kernel
theorem dX12_weighing_51 : decode cX12_weighing 51 = .ok (.aload_n 0, 1) := by decide +kernel
theorem dX12_weighing_52 : decode cX12_weighing 52 = .ok (.getfield 81, 3) := by decide +kernel
theorem dX12_weighing_55 : decode cX12_weighing 55 = .ok (.iload_n 2, 1) := by decide +kernel
theorem dX12_weighing_56 : decode cX12_weighing 56 = .ok (.iaload, 1) := by decide +kernel
theorem dX12_weighing_57 : decode cX12_weighing 57 = .ok (.goto 4, 3) := by decide +kernel
theorem dX12_weighing_60 : decode cX12_weighing 60 = .ok (.iconst 0, 1) := by decide +kernel
theorem dX12_weighing_61 : decode cX12_weighing 61 = .ok (.ireturn, 1) := by decide +kernel
theorem dX12_lightest_0 : decode cX12_lightest 0 = .ok (.aload_n 0, 1) := by decide +kernel
theorem dX12_lightest_1 : decode cX12_lightest 1 = .ok (.iconst 0, 1) := by decide +kernel
theorem dX12_lightest_2 : decode cX12_lightest 2 = .ok (.putfield 1, 3) := by decide +kernel
theorem dX12_lightest_5 : decode cX12_lightest 5 = .ok (.aload_n 0, 1) := by decide +kernel
theorem dX12_lightest_6 : decode cX12_lightest 6 = .ok (.invokevirtual 411, 3) := by decide +kernel
theorem dX12_lightest_9 : decode cX12_lightest 9 = .ok (.ifCond .ne 5, 3) := by decide +kernel
theorem dX12_lightest_12 : decode cX12_lightest 12 = .ok (.iconst (-1), 1) := by decide +kernel
theorem dX12_lightest_13 : decode cX12_lightest 13 = .ok (.ireturn, 1) := by decide +kernel
theorem dX12_lightest_14 : decode cX12_lightest 14 = .ok (.aload_n 0, 1) := by decide +kernel
theorem dX12_lightest_15 : decode cX12_lightest 15 = .ok (.iconst 0, 1) := by decide +kernel
theorem dX12_lightest_16 : decode cX12_lightest 16 = .ok (.invokevirtual 414, 3) := by decide +kernel
theorem dX12_lightest_19 : decode cX12_lightest 19 = .ok (.iconst 1, 1) := by decide +kernel
theorem dX12_lightest_20 : decode cX12_lightest 20 = .ok (.istore_n 2, 1) := by decide +kernel
theorem dX12_lightest_21 : decode cX12_lightest 21 = .ok (.iload_n 2, 1) := by decide +kernel
theorem dX12_lightest_22 : decode cX12_lightest 22 = .ok (.iload_n 1, 1) := by decide +kernel
theorem dX12_lightest_23 : decode cX12_lightest 23 = .ok (.ifCond .eq 9, 3) := by decide +kernel
theorem dX12_lightest_26 : decode cX12_lightest 26 = .ok (.sipush 8192, 3) := by decide +kernel
theorem dX12_lightest_29 : decode cX12_lightest 29 = .ok (.goto 5, 3) := by decide +kernel
theorem dX12_lightest_32 : decode cX12_lightest 32 = .ok (.bipush 64, 2) := by decide +kernel
theorem dX12_lightest_34 : decode cX12_lightest 34 = .ok (.if_icmp .ge 33, 3) := by decide +kernel
theorem dX12_lightest_37 : decode cX12_lightest 37 = .ok (.iload_n 1, 1) := by decide +kernel
theorem dX12_lightest_38 : decode cX12_lightest 38 = .ok (.ifCond .eq 12, 3) := by decide +kernel
theorem dX12_lightest_41 : decode cX12_lightest 41 = .ok (.aload_n 0, 1) := by decide +kernel
theorem dX12_lightest_42 : decode cX12_lightest 42 = .ok (.getfield 84, 3) := by decide +kernel
theorem dX12_lightest_45 : decode cX12_lightest 45 = .ok (.iload_n 2, 1) := by decide +kernel
theorem dX12_lightest_46 : decode cX12_lightest 46 = .ok (.iaload, 1) := by decide +kernel
theorem dX12_lightest_47 : decode cX12_lightest 47 = .ok (.goto 9, 3) := by decide +kernel
theorem dX12_lightest_50 : decode cX12_lightest 50 = .ok (.aload_n 0, 1) := by decide +kernel
theorem dX12_lightest_51 : decode cX12_lightest 51 = .ok (.getfield 81, 3) := by decide +kernel
theorem dX12_lightest_54 : decode cX12_lightest 54 = .ok (.iload_n 2, 1) := by decide +kernel
theorem dX12_lightest_55 : decode cX12_lightest 55 = .ok (.iaload, 1) := by decide +kernel
theorem dX12_lightest_56 : decode cX12_lightest 56 = .ok (.ifCond .le 5, 3) := by decide +kernel
theorem dX12_lightest_59 : decode cX12_lightest 59 = .ok (.iload_n 2, 1) := by decide +kernel
theorem dX12_lightest_60 : decode cX12_lightest 60 = .ok (.ireturn, 1) := by decide +kernel
theorem dX12_lightest_61 : decode cX12_lightest 61 = .ok (.iinc 2 1, 3) := by decide +kernel
theorem dX12_lightest_64 : decode cX12_lightest 64 = .ok (.goto (-43), 3) := by decide +kernel
theorem dX12_lightest_67 : decode cX12_lightest 67 = .ok (.iconst (-1), 1) := by decide +kernel
theorem dX12_lightest_68 : decode cX12_lightest 68 = .ok (.ireturn, 1) := by decide +kernel
theorem dX12_leaves_0 : decode cX12_leaves 0 = .ok (.iconst 0, 1) := by decide +kernel
theorem dX12_leaves_1 : decode cX12_leaves 1 = .ok (.istore_n 2, 1) := by decide +kernel
theorem dX12_leaves_2 : decode cX12_leaves 2 = .ok (.iload_n 2, 1) := by decide +kernel
theorem dX12_leaves_3 : decode cX12_leaves 3 = .ok (.aload_n 0, 1) := by decide +kernel
theorem dX12_leaves_4 : decode cX12_leaves 4 = .ok (.getfield 69, 3) := by decide +kernel
theorem dX12_leaves_7 : decode cX12_leaves 7 = .ok (.if_icmp .ge 18, 3) := by decide +kernel
theorem dX12_leaves_10 : decode cX12_leaves 10 = .ok (.aload_n 0, 1) := by decide +kernel
theorem dX12_leaves_11 : decode cX12_leaves 11 = .ok (.getfield 93, 3) := by decide +kernel
theorem dX12_leaves_14 : decode cX12_leaves 14 = .ok (.iload_n 2, 1) := by decide +kernel
theorem dX12_leaves_15 : decode cX12_leaves 15 = .ok (.aload_n 1, 1) := by decide +kernel
theorem dX12_leaves_16 : decode cX12_leaves 16 = .ok (.iload_n 2, 1) := by decide +kernel
theorem dX12_leaves_17 : decode cX12_leaves 17 = .ok (.iaload, 1) := by decide +kernel
theorem dX12_leaves_18 : decode cX12_leaves 18 = .ok (.iastore, 1) := by decide +kernel
theorem dX12_leaves_19 : decode cX12_leaves 19 = .ok (.iinc 2 1, 3) := by decide +kernel
theorem dX12_leaves_22 : decode cX12_leaves 22 = .ok (.goto (-20), 3) := by decide +kernel
theorem dX12_leaves_25 : decode cX12_leaves 25 = .ok (.aload_n 0, 1) := by decide +kernel
theorem dX12_leaves_26 : decode cX12_leaves 26 = .ok (.getfield 69, 3) := by decide +kernel
theorem dX12_leaves_29 : decode cX12_leaves 29 = .ok (.iconst 1, 1) := by decide +kernel
theorem dX12_leaves_30 : decode cX12_leaves 30 = .ok (.isub, 1) := by decide +kernel
theorem dX12_leaves_31 : decode cX12_leaves 31 = .ok (.istore_n 2, 1) := by decide +kernel
theorem dX12_leaves_32 : decode cX12_leaves 32 = .ok (.iload_n 2, 1) := by decide +kernel
theorem dX12_leaves_33 : decode cX12_leaves 33 = .ok (.aload_n 0, 1) := by decide +kernel
theorem dX12_leaves_34 : decode cX12_leaves 34 = .ok (.getfield 322, 3) := by decide +kernel
theorem dX12_leaves_37 : decode cX12_leaves 37 = .ok (.if_icmp .lt 83, 3) := by decide +kernel
theorem dX12_leaves_40 : decode cX12_leaves 40 = .ok (.aload_n 0, 1) := by decide +kernel
theorem dX12_leaves_41 : decode cX12_leaves 41 = .ok (.getfield 93, 3) := by decide +kernel
theorem dX12_leaves_44 : decode cX12_leaves 44 = .ok (.iload_n 2, 1) := by decide +kernel
theorem dX12_leaves_45 : decode cX12_leaves 45 = .ok (.iaload, 1) := by decide +kernel
theorem dX12_leaves_46 : decode cX12_leaves 46 = .ok (.istore_n 3, 1) := by decide +kernel
theorem dX12_leaves_47 : decode cX12_leaves 47 = .ok (.iconst 0, 1) := by decide +kernel
theorem dX12_leaves_48 : decode cX12_leaves 48 = .ok (.istore 4, 2) := by decide +kernel
theorem dX12_leaves_50 : decode cX12_leaves 50 = .ok (.iload 4, 2) := by decide +kernel
theorem dX12_leaves_52 : decode cX12_leaves 52 = .ok (.aload_n 0, 1) := by decide +kernel
theorem dX12_leaves_53 : decode cX12_leaves 53 = .ok (.getfield 322, 3) := by decide +kernel
theorem dX12_leaves_56 : decode cX12_leaves 56 = .ok (.if_icmp .gt 58, 3) := by decide +kernel
theorem dX12_leaves_59 : decode cX12_leaves 59 = .ok (.iload_n 3, 1) := by decide +kernel
theorem dX12_leaves_60 : decode cX12_leaves 60 = .ok (.ifCond .eq 54, 3) := by decide +kernel
theorem dX12_leaves_63 : decode cX12_leaves 63 = .ok (.aload_n 0, 1) := by decide +kernel
theorem dX12_leaves_64 : decode cX12_leaves 64 = .ok (.getfield 93, 3) := by decide +kernel
theorem dX12_leaves_67 : decode cX12_leaves 67 = .ok (.iload_n 2, 1) := by decide +kernel
theorem dX12_leaves_68 : decode cX12_leaves 68 = .ok (.aload_n 0, 1) := by decide +kernel
theorem dX12_leaves_69 : decode cX12_leaves 69 = .ok (.getfield 322, 3) := by decide +kernel
theorem dX12_leaves_72 : decode cX12_leaves 72 = .ok (.isub, 1) := by decide +kernel
theorem dX12_leaves_73 : decode cX12_leaves 73 = .ok (.iload 4, 2) := by decide +kernel
theorem dX12_leaves_75 : decode cX12_leaves 75 = .ok (.iadd, 1) := by decide +kernel
theorem dX12_leaves_76 : decode cX12_leaves 76 = .ok (.aload_n 0, 1) := by decide +kernel
theorem dX12_leaves_77 : decode cX12_leaves 77 = .ok (.getfield 93, 3) := by decide +kernel
theorem dX12_leaves_80 : decode cX12_leaves 80 = .ok (.iload_n 2, 1) := by decide +kernel
theorem dX12_leaves_81 : decode cX12_leaves 81 = .ok (.aload_n 0, 1) := by decide +kernel
theorem dX12_leaves_82 : decode cX12_leaves 82 = .ok (.getfield 322, 3) := by decide +kernel
theorem dX12_leaves_85 : decode cX12_leaves 85 = .ok (.isub, 1) := by decide +kernel
theorem dX12_leaves_86 : decode cX12_leaves 86 = .ok (.iload 4, 2) := by decide +kernel
theorem dX12_leaves_88 : decode cX12_leaves 88 = .ok (.iadd, 1) := by decide +kernel
theorem dX12_leaves_89 : decode cX12_leaves 89 = .ok (.iaload, 1) := by decide +kernel
theorem dX12_leaves_90 : decode cX12_leaves 90 = .ok (.iload_n 3, 1) := by decide +kernel
theorem dX12_leaves_91 : decode cX12_leaves 91 = .ok (.aload_n 0, 1) := by decide +kernel
theorem dX12_leaves_92 : decode cX12_leaves 92 = .ok (.getfield 72, 3) := by decide +kernel
theorem dX12_leaves_95 : decode cX12_leaves 95 = .ok (.iload 4, 2) := by decide +kernel
theorem dX12_leaves_97 : decode cX12_leaves 97 = .ok (.iaload, 1) := by decide +kernel
theorem dX12_leaves_98 : decode cX12_leaves 98 = .ok (.imul, 1) := by decide +kernel
theorem dX12_leaves_99 : decode cX12_leaves 99 = .ok (.isub, 1) := by decide +kernel
theorem dX12_leaves_100 : decode cX12_leaves 100 = .ok (.aload_n 0, 1) := by decide +kernel
theorem dX12_leaves_101 : decode cX12_leaves 101 = .ok (.getfield 22, 3) := by decide +kernel
theorem dX12_leaves_104 : decode cX12_leaves 104 = .ok (.invokestatic 109, 3) := by decide +kernel
theorem dX12_leaves_107 : decode cX12_leaves 107 = .ok (.iastore, 1) := by decide +kernel
theorem dX12_leaves_108 : decode cX12_leaves 108 = .ok (.iinc 4 1, 3) := by decide +kernel
theorem dX12_leaves_111 : decode cX12_leaves 111 = .ok (.goto (-61), 3) := by decide +kernel
theorem dX12_leaves_114 : decode cX12_leaves 114 = .ok (.iinc 2 (-1), 3) := by decide +kernel
theorem dX12_leaves_117 : decode cX12_leaves 117 = .ok (.goto (-85), 3) := by decide +kernel
theorem dX12_leaves_120 : decode cX12_leaves 120 = .ok (.return_, 1) := by decide +kernel
theorem dX12_isLeft_0 : decode cX12_isLeft 0 = .ok (.iconst 0, 1) := by decide +kernel
theorem dX12_isLeft_1 : decode cX12_isLeft 1 = .ok (.istore_n 1, 1) := by decide +kernel
theorem dX12_isLeft_2 : decode cX12_isLeft 2 = .ok (.iload_n 1, 1) := by decide +kernel
theorem dX12_isLeft_3 : decode cX12_isLeft 3 = .ok (.aload_n 0, 1) := by decide +kernel
theorem dX12_isLeft_4 : decode cX12_isLeft 4 = .ok (.getfield 322, 3) := by decide +kernel
theorem dX12_isLeft_7 : decode cX12_isLeft 7 = .ok (.if_icmp .ge 20, 3) := by decide +kernel
theorem dX12_isLeft_10 : decode cX12_isLeft 10 = .ok (.aload_n 0, 1) := by decide +kernel
theorem dX12_isLeft_11 : decode cX12_isLeft 11 = .ok (.getfield 93, 3) := by decide +kernel
theorem dX12_isLeft_14 : decode cX12_isLeft 14 = .ok (.iload_n 1, 1) := by decide +kernel
theorem dX12_isLeft_15 : decode cX12_isLeft 15 = .ok (.iaload, 1) := by decide +kernel
theorem dX12_isLeft_16 : decode cX12_isLeft 16 = .ok (.ifCond .eq 5, 3) := by decide +kernel
theorem dX12_isLeft_19 : decode cX12_isLeft 19 = .ok (.iconst 1, 1) := by decide +kernel
theorem dX12_isLeft_20 : decode cX12_isLeft 20 = .ok (.ireturn, 1) := by decide +kernel
theorem dX12_isLeft_21 : decode cX12_isLeft 21 = .ok (.iinc 1 1, 3) := by decide +kernel
theorem dX12_isLeft_24 : decode cX12_isLeft 24 = .ok (.goto (-22), 3) := by decide +kernel
theorem dX12_isLeft_27 : decode cX12_isLeft 27 = .ok (.iconst 0, 1) := by decide +kernel
theorem dX12_isLeft_28 : decode cX12_isLeft 28 = .ok (.ireturn, 1) := by decide +kernel
theorem dX12_word_0 : decode cX12_word 0 = .ok (.aload_n 0, 1) := by decide +kernel
theorem dX12_word_1 : decode cX12_word 1 = .ok (.iconst 0, 1) := by decide +kernel
theorem dX12_word_2 : decode cX12_word 2 = .ok (.putfield 1, 3) := by decide +kernel
theorem dX12_word_5 : decode cX12_word 5 = .ok (.aload_n 0, 1) := by decide +kernel
theorem dX12_word_6 : decode cX12_word 6 = .ok (.aload_n 0, 1) := by decide +kernel
theorem dX12_word_7 : decode cX12_word 7 = .ok (.getfield 214, 3) := by decide +kernel
theorem dX12_word_10 : decode cX12_word 10 = .ok (.aload_n 0, 1) := by decide +kernel
theorem dX12_word_11 : decode cX12_word 11 = .ok (.getfield 69, 3) := by decide +kernel
theorem dX12_word_14 : decode cX12_word 14 = .ok (.if_icmp .lt 7, 3) := by decide +kernel
theorem dX12_word_17 : decode cX12_word 17 = .ok (.iconst 1, 1) := by decide +kernel
theorem dX12_word_18 : decode cX12_word 18 = .ok (.goto 4, 3) := by decide +kernel
theorem dX12_word_21 : decode cX12_word 21 = .ok (.iconst 0, 1) := by decide +kernel
theorem dX12_word_22 : decode cX12_word 22 = .ok (.iconst 1, 1) := by decide +kernel
theorem dX12_word_23 : decode cX12_word 23 = .ok (.invokevirtual 304, 3) := by decide +kernel
theorem dX12_word_26 : decode cX12_word 26 = .ok (.ifCond .ne 5, 3) := by decide +kernel
theorem dX12_word_29 : decode cX12_word 29 = .ok (.iconst 0, 1) := by decide +kernel
theorem dX12_word_30 : decode cX12_word 30 = .ok (.ireturn, 1) := by decide +kernel
theorem dX12_word_31 : decode cX12_word 31 = .ok (.aload_n 0, 1) := by decide +kernel
theorem dX12_word_32 : decode cX12_word 32 = .ok (.iconst 0, 1) := by decide +kernel
theorem dX12_word_33 : decode cX12_word 33 = .ok (.putfield 214, 3) := by decide +kernel
theorem dX12_word_36 : decode cX12_word 36 = .ok (.iconst 0, 1) := by decide +kernel
theorem dX12_word_37 : decode cX12_word 37 = .ok (.istore_n 1, 1) := by decide +kernel
theorem dX12_word_38 : decode cX12_word 38 = .ok (.iload_n 1, 1) := by decide +kernel
theorem dX12_word_39 : decode cX12_word 39 = .ok (.aload_n 0, 1) := by decide +kernel
theorem dX12_word_40 : decode cX12_word 40 = .ok (.getfield 69, 3) := by decide +kernel
theorem dX12_word_43 : decode cX12_word 43 = .ok (.if_icmp .ge 28, 3) := by decide +kernel
theorem dX12_word_46 : decode cX12_word 46 = .ok (.aload_n 0, 1) := by decide +kernel
theorem dX12_word_47 : decode cX12_word 47 = .ok (.getfield 62, 3) := by decide +kernel
theorem dX12_word_50 : decode cX12_word 50 = .ok (.iload_n 1, 1) := by decide +kernel
theorem dX12_word_51 : decode cX12_word 51 = .ok (.baload, 1) := by decide +kernel
theorem dX12_word_52 : decode cX12_word 52 = .ok (.sipush 255, 3) := by decide +kernel
theorem dX12_word_55 : decode cX12_word 55 = .ok (.iand, 1) := by decide +kernel
theorem dX12_word_56 : decode cX12_word 56 = .ok (.aload_n 0, 1) := by decide +kernel
theorem dX12_word_57 : decode cX12_word 57 = .ok (.getfield 22, 3) := by decide +kernel
theorem dX12_word_60 : decode cX12_word 60 = .ok (.if_icmp .lt 5, 3) := by decide +kernel
theorem dX12_word_63 : decode cX12_word 63 = .ok (.iconst (-1), 1) := by decide +kernel
theorem dX12_word_64 : decode cX12_word 64 = .ok (.ireturn, 1) := by decide +kernel
theorem dX12_word_65 : decode cX12_word 65 = .ok (.iinc 1 1, 3) := by decide +kernel
theorem dX12_word_68 : decode cX12_word 68 = .ok (.goto (-30), 3) := by decide +kernel
theorem dX12_word_71 : decode cX12_word 71 = .ok (.iconst 0, 1) := by decide +kernel
theorem dX12_word_72 : decode cX12_word 72 = .ok (.istore_n 1, 1) := by decide +kernel
theorem dX12_word_73 : decode cX12_word 73 = .ok (.iload_n 1, 1) := by decide +kernel
theorem dX12_word_74 : decode cX12_word 74 = .ok (.aload_n 0, 1) := by decide +kernel
theorem dX12_word_75 : decode cX12_word 75 = .ok (.getfield 69, 3) := by decide +kernel
theorem dX12_word_78 : decode cX12_word 78 = .ok (.if_icmp .ge 25, 3) := by decide +kernel
theorem dX12_word_81 : decode cX12_word 81 = .ok (.aload_n 0, 1) := by decide +kernel
theorem dX12_word_82 : decode cX12_word 82 = .ok (.getfield 90, 3) := by decide +kernel
theorem dX12_word_85 : decode cX12_word 85 = .ok (.iload_n 1, 1) := by decide +kernel
theorem dX12_word_86 : decode cX12_word 86 = .ok (.aload_n 0, 1) := by decide +kernel
theorem dX12_word_87 : decode cX12_word 87 = .ok (.getfield 62, 3) := by decide +kernel
theorem dX12_word_90 : decode cX12_word 90 = .ok (.iload_n 1, 1) := by decide +kernel
theorem dX12_word_91 : decode cX12_word 91 = .ok (.baload, 1) := by decide +kernel
theorem dX12_word_92 : decode cX12_word 92 = .ok (.sipush 255, 3) := by decide +kernel
theorem dX12_word_95 : decode cX12_word 95 = .ok (.iand, 1) := by decide +kernel
theorem dX12_word_96 : decode cX12_word 96 = .ok (.iastore, 1) := by decide +kernel
theorem dX12_word_97 : decode cX12_word 97 = .ok (.iinc 1 1, 3) := by decide +kernel
theorem dX12_word_100 : decode cX12_word 100 = .ok (.goto (-27), 3) := by decide +kernel
theorem dX12_word_103 : decode cX12_word 103 = .ok (.aload_n 0, 1) := by decide +kernel
theorem dX12_word_104 : decode cX12_word 104 = .ok (.iconst 1, 1) := by decide +kernel
theorem dX12_word_105 : decode cX12_word 105 = .ok (.putfield 160, 3) := by decide +kernel
theorem dX12_word_108 : decode cX12_word 108 = .ok (.aload_n 0, 1) := by decide +kernel
theorem dX12_word_109 : decode cX12_word 109 = .ok (.aload_n 0, 1) := by decide +kernel
theorem dX12_word_110 : decode cX12_word 110 = .ok (.getfield 90, 3) := by decide +kernel
theorem dX12_word_113 : decode cX12_word 113 = .ok (.invokevirtual 418, 3) := by decide +kernel
theorem dX12_word_116 : decode cX12_word 116 = .ok (.aload_n 0, 1) := by decide +kernel
theorem dX12_word_117 : decode cX12_word 117 = .ok (.invokevirtual 422, 3) := by decide +kernel
theorem dX12_word_120 : decode cX12_word 120 = .ok (.ifCond .eq 7, 3) := by decide +kernel
theorem dX12_word_123 : decode cX12_word 123 = .ok (.iconst 0, 1) := by decide +kernel
theorem dX12_word_124 : decode cX12_word 124 = .ok (.goto 4, 3) := by decide +kernel
theorem dX12_word_127 : decode cX12_word 127 = .ok (.iconst 1, 1) := by decide +kernel
theorem dX12_word_128 : decode cX12_word 128 = .ok (.ireturn, 1) := by decide +kernel
theorem dX12_number_0 : decode cX12_number 0 = .ok (.aload_n 0, 1) := by decide +kernel
theorem dX12_number_1 : decode cX12_number 1 = .ok (.iconst 0, 1) := by decide +kernel
theorem dX12_number_2 : decode cX12_number 2 = .ok (.putfield 1, 3) := by decide +kernel
theorem dX12_number_5 : decode cX12_number 5 = .ok (.aload_n 0, 1) := by decide +kernel
theorem dX12_number_6 : decode cX12_number 6 = .ok (.aload_n 0, 1) := by decide +kernel
theorem dX12_number_7 : decode cX12_number 7 = .ok (.getfield 160, 3) := by decide +kernel
theorem dX12_number_10 : decode cX12_number 10 = .ok (.ifCond .eq 23, 3) := by decide +kernel
theorem dX12_number_13 : decode cX12_number 13 = .ok (.iload_n 1, 1) := by decide +kernel
theorem dX12_number_14 : decode cX12_number 14 = .ok (.i2l, 1) := by decide +kernel
theorem dX12_number_15 : decode cX12_number 15 = .ok (.lconst 0, 1) := by decide +kernel
theorem dX12_number_16 : decode cX12_number 16 = .ok (.aload_n 0, 1) := by decide +kernel
theorem dX12_number_17 : decode cX12_number 17 = .ok (.getfield 69, 3) := by decide +kernel
theorem dX12_number_20 : decode cX12_number 20 = .ok (.iconst 1, 1) := by decide +kernel
theorem dX12_number_21 : decode cX12_number 21 = .ok (.isub, 1) := by decide +kernel
theorem dX12_number_22 : decode cX12_number 22 = .ok (.i2l, 1) := by decide +kernel
theorem dX12_number_23 : decode cX12_number 23 = .ok (.invokestatic 206, 3) := by decide +kernel
theorem dX12_number_26 : decode cX12_number 26 = .ok (.ifCond .eq 7, 3) := by decide +kernel
theorem dX12_number_29 : decode cX12_number 29 = .ok (.iconst 1, 1) := by decide +kernel
theorem dX12_number_30 : decode cX12_number 30 = .ok (.goto 4, 3) := by decide +kernel
theorem dX12_number_33 : decode cX12_number 33 = .ok (.iconst 0, 1) := by decide +kernel
theorem dX12_number_34 : decode cX12_number 34 = .ok (.iconst 1, 1) := by decide +kernel
theorem dX12_number_35 : decode cX12_number 35 = .ok (.invokevirtual 304, 3) := by decide +kernel
theorem dX12_number_38 : decode cX12_number 38 = .ok (.ifCond .eq 12, 3) := by decide +kernel
theorem dX12_number_41 : decode cX12_number 41 = .ok (.aload_n 0, 1) := by decide +kernel
theorem dX12_number_42 : decode cX12_number 42 = .ok (.getfield 90, 3) := by decide +kernel
theorem dX12_number_45 : decode cX12_number 45 = .ok (.iload_n 1, 1) := by decide +kernel
theorem dX12_number_46 : decode cX12_number 46 = .ok (.iaload, 1) := by decide +kernel
theorem dX12_number_47 : decode cX12_number 47 = .ok (.goto 4, 3) := by decide +kernel
theorem dX12_number_50 : decode cX12_number 50 = .ok (.iconst 0, 1) := by decide +kernel
theorem dX12_number_51 : decode cX12_number 51 = .ok (.ireturn, 1) := by decide +kernel
theorem dX12_rest_0 : decode cX12_rest 0 = .ok (.aload_n 0, 1) := by decide +kernel
theorem dX12_rest_1 : decode cX12_rest 1 = .ok (.iconst 0, 1) := by decide +kernel
theorem dX12_rest_2 : decode cX12_rest 2 = .ok (.putfield 1, 3) := by decide +kernel
theorem dX12_rest_5 : decode cX12_rest 5 = .ok (.aload_n 0, 1) := by decide +kernel
theorem dX12_rest_6 : decode cX12_rest 6 = .ok (.aload_n 0, 1) := by decide +kernel
theorem dX12_rest_7 : decode cX12_rest 7 = .ok (.getfield 160, 3) := by decide +kernel
theorem dX12_rest_10 : decode cX12_rest 10 = .ok (.ifCond .eq 23, 3) := by decide +kernel
theorem dX12_rest_13 : decode cX12_rest 13 = .ok (.iload_n 1, 1) := by decide +kernel
theorem dX12_rest_14 : decode cX12_rest 14 = .ok (.i2l, 1) := by decide +kernel
theorem dX12_rest_15 : decode cX12_rest 15 = .ok (.lconst 0, 1) := by decide +kernel
theorem dX12_rest_16 : decode cX12_rest 16 = .ok (.aload_n 0, 1) := by decide +kernel
theorem dX12_rest_17 : decode cX12_rest 17 = .ok (.getfield 322, 3) := by decide +kernel
theorem dX12_rest_20 : decode cX12_rest 20 = .ok (.iconst 1, 1) := by decide +kernel
theorem dX12_rest_21 : decode cX12_rest 21 = .ok (.isub, 1) := by decide +kernel
theorem dX12_rest_22 : decode cX12_rest 22 = .ok (.i2l, 1) := by decide +kernel
theorem dX12_rest_23 : decode cX12_rest 23 = .ok (.invokestatic 206, 3) := by decide +kernel
theorem dX12_rest_26 : decode cX12_rest 26 = .ok (.ifCond .eq 7, 3) := by decide +kernel
theorem dX12_rest_29 : decode cX12_rest 29 = .ok (.iconst 1, 1) := by decide +kernel
theorem dX12_rest_30 : decode cX12_rest 30 = .ok (.goto 4, 3) := by decide +kernel
theorem dX12_rest_33 : decode cX12_rest 33 = .ok (.iconst 0, 1) := by decide +kernel
theorem dX12_rest_34 : decode cX12_rest 34 = .ok (.iconst 1, 1) := by decide +kernel
theorem dX12_rest_35 : decode cX12_rest 35 = .ok (.invokevirtual 304, 3) := by decide +kernel
theorem dX12_rest_38 : decode cX12_rest 38 = .ok (.ifCond .ne 5, 3) := by decide +kernel
theorem dX12_rest_41 : decode cX12_rest 41 = .ok (.iconst 0, 1) := by decide +kernel
theorem dX12_rest_42 : decode cX12_rest 42 = .ok (.ireturn, 1) := by decide +kernel
theorem dX12_rest_43 : decode cX12_rest 43 = .ok (.aload_n 0, 1) := by decide +kernel
theorem dX12_rest_44 : decode cX12_rest 44 = .ok (.aload_n 0, 1) := by decide +kernel
theorem dX12_rest_45 : decode cX12_rest 45 = .ok (.getfield 90, 3) := by decide +kernel
theorem dX12_rest_48 : decode cX12_rest 48 = .ok (.invokevirtual 418, 3) := by decide +kernel
theorem dX12_rest_51 : decode cX12_rest 51 = .ok (.aload_n 0, 1) := by decide +kernel
theorem dX12_rest_52 : decode cX12_rest 52 = .ok (.getfield 93, 3) := by decide +kernel
theorem dX12_rest_55 : decode cX12_rest 55 = .ok (.iload_n 1, 1) := by decide +kernel
theorem dX12_rest_56 : decode cX12_rest 56 = .ok (.iaload, 1) := by decide +kernel
theorem dX12_rest_57 : decode cX12_rest 57 = .ok (.ireturn, 1) := by decide +kernel
theorem dX12_mends_0 : decode cX12_mends 0 = .ok (.aload_n 0, 1) := by decide +kernel
theorem dX12_mends_1 : decode cX12_mends 1 = .ok (.iconst 0, 1) := by decide +kernel
theorem dX12_mends_2 : decode cX12_mends 2 = .ok (.putfield 425, 3) := by decide +kernel
theorem dX12_mends_5 : decode cX12_mends 5 = .ok (.aload_n 0, 1) := by decide +kernel
theorem dX12_mends_6 : decode cX12_mends 6 = .ok (.iconst (-1), 1) := by decide +kernel
theorem dX12_mends_7 : decode cX12_mends 7 = .ok (.putfield 428, 3) := by decide +kernel
theorem dX12_mends_10 : decode cX12_mends 10 = .ok (.aload_n 0, 1) := by decide +kernel
theorem dX12_mends_11 : decode cX12_mends 11 = .ok (.iconst (-1), 1) := by decide +kernel
theorem dX12_mends_12 : decode cX12_mends 12 = .ok (.putfield 431, 3) := by decide +kernel
theorem dX12_mends_15 : decode cX12_mends 15 = .ok (.aload_n 0, 1) := by decide +kernel
theorem dX12_mends_16 : decode cX12_mends 16 = .ok (.aload_n 0, 1) := by decide +kernel
theorem dX12_mends_17 : decode cX12_mends 17 = .ok (.getfield 90, 3) := by decide +kernel
theorem dX12_mends_20 : decode cX12_mends 20 = .ok (.invokevirtual 418, 3) := by decide +kernel
theorem dX12_mends_23 : decode cX12_mends 23 = .ok (.aload_n 0, 1) := by decide +kernel
theorem dX12_mends_24 : decode cX12_mends 24 = .ok (.invokevirtual 422, 3) := by decide +kernel
theorem dX12_mends_27 : decode cX12_mends 27 = .ok (.ifCond .ne 4, 3) := by decide +kernel
theorem dX12_mends_30 : decode cX12_mends 30 = .ok (.return_, 1) := by decide +kernel
theorem dX12_mends_31 : decode cX12_mends 31 = .ok (.iconst 0, 1) := by decide +kernel
theorem dX12_mends_32 : decode cX12_mends 32 = .ok (.istore_n 1, 1) := by decide +kernel
theorem dX12_mends_33 : decode cX12_mends 33 = .ok (.iload_n 1, 1) := by decide +kernel
theorem dX12_mends_34 : decode cX12_mends 34 = .ok (.aload_n 0, 1) := by decide +kernel
theorem dX12_mends_35 : decode cX12_mends 35 = .ok (.getfield 69, 3) := by decide +kernel
theorem dX12_mends_38 : decode cX12_mends 38 = .ok (.if_icmp .ge 21, 3) := by decide +kernel
theorem dX12_mends_41 : decode cX12_mends 41 = .ok (.aload_n 0, 1) := by decide +kernel
theorem dX12_mends_42 : decode cX12_mends 42 = .ok (.getfield 96, 3) := by decide +kernel
theorem dX12_mends_45 : decode cX12_mends 45 = .ok (.iload_n 1, 1) := by decide +kernel
theorem dX12_mends_46 : decode cX12_mends 46 = .ok (.aload_n 0, 1) := by decide +kernel
theorem dX12_mends_47 : decode cX12_mends 47 = .ok (.getfield 90, 3) := by decide +kernel
theorem dX12_mends_50 : decode cX12_mends 50 = .ok (.iload_n 1, 1) := by decide +kernel
theorem dX12_mends_51 : decode cX12_mends 51 = .ok (.iaload, 1) := by decide +kernel
theorem dX12_mends_52 : decode cX12_mends 52 = .ok (.iastore, 1) := by decide +kernel
theorem dX12_mends_53 : decode cX12_mends 53 = .ok (.iinc 1 1, 3) := by decide +kernel
theorem dX12_mends_56 : decode cX12_mends 56 = .ok (.goto (-23), 3) := by decide +kernel
theorem dX12_mends_59 : decode cX12_mends 59 = .ok (.iconst 0, 1) := by decide +kernel
theorem dX12_mends_60 : decode cX12_mends 60 = .ok (.istore_n 1, 1) := by decide +kernel
theorem dX12_mends_61 : decode cX12_mends 61 = .ok (.iload_n 1, 1) := by decide +kernel
theorem dX12_mends_62 : decode cX12_mends 62 = .ok (.aload_n 0, 1) := by decide +kernel
theorem dX12_mends_63 : decode cX12_mends 63 = .ok (.getfield 69, 3) := by decide +kernel
theorem dX12_mends_66 : decode cX12_mends 66 = .ok (.if_icmp .ge 121, 3) := by decide +kernel
theorem dX12_mends_69 : decode cX12_mends 69 = .ok (.iconst 1, 1) := by decide +kernel
theorem dX12_mends_70 : decode cX12_mends 70 = .ok (.istore_n 2, 1) := by decide +kernel
theorem dX12_mends_71 : decode cX12_mends 71 = .ok (.iload_n 2, 1) := by decide +kernel
theorem dX12_mends_72 : decode cX12_mends 72 = .ok (.aload_n 0, 1) := by decide +kernel
theorem dX12_mends_73 : decode cX12_mends 73 = .ok (.getfield 22, 3) := by decide +kernel
theorem dX12_mends_76 : decode cX12_mends 76 = .ok (.if_icmp .ge 93, 3) := by decide +kernel
theorem dX12_mends_79 : decode cX12_mends 79 = .ok (.aload_n 0, 1) := by decide +kernel
theorem dX12_mends_80 : decode cX12_mends 80 = .ok (.getfield 96, 3) := by decide +kernel
theorem dX12_mends_83 : decode cX12_mends 83 = .ok (.iload_n 1, 1) := by decide +kernel
theorem dX12_mends_84 : decode cX12_mends 84 = .ok (.aload_n 0, 1) := by decide +kernel
theorem dX12_mends_85 : decode cX12_mends 85 = .ok (.getfield 90, 3) := by decide +kernel
theorem dX12_mends_88 : decode cX12_mends 88 = .ok (.iload_n 1, 1) := by decide +kernel
theorem dX12_mends_89 : decode cX12_mends 89 = .ok (.iaload, 1) := by decide +kernel
theorem dX12_mends_90 : decode cX12_mends 90 = .ok (.iload_n 2, 1) := by decide +kernel
theorem dX12_mends_91 : decode cX12_mends 91 = .ok (.iadd, 1) := by decide +kernel
theorem dX12_mends_92 : decode cX12_mends 92 = .ok (.aload_n 0, 1) := by decide +kernel
theorem dX12_mends_93 : decode cX12_mends 93 = .ok (.getfield 22, 3) := by decide +kernel
theorem dX12_mends_96 : decode cX12_mends 96 = .ok (.irem, 1) := by decide +kernel
theorem dX12_mends_97 : decode cX12_mends 97 = .ok (.iastore, 1) := by decide +kernel
theorem dX12_mends_98 : decode cX12_mends 98 = .ok (.aload_n 0, 1) := by decide +kernel
theorem dX12_mends_99 : decode cX12_mends 99 = .ok (.aload_n 0, 1) := by decide +kernel
theorem dX12_mends_100 : decode cX12_mends 100 = .ok (.getfield 96, 3) := by decide +kernel
theorem dX12_mends_103 : decode cX12_mends 103 = .ok (.invokevirtual 418, 3) := by decide +kernel
theorem dX12_mends_106 : decode cX12_mends 106 = .ok (.aload_n 0, 1) := by decide +kernel
theorem dX12_mends_107 : decode cX12_mends 107 = .ok (.invokevirtual 422, 3) := by decide +kernel
theorem dX12_mends_110 : decode cX12_mends 110 = .ok (.ifCond .ne 53, 3) := by decide +kernel
theorem dX12_mends_113 : decode cX12_mends 113 = .ok (.aload_n 0, 1) := by decide +kernel
theorem dX12_mends_114 : decode cX12_mends 114 = .ok (.dup, 1) := by decide +kernel
theorem dX12_mends_115 : decode cX12_mends 115 = .ok (.getfield 425, 3) := by decide +kernel
theorem dX12_mends_118 : decode cX12_mends 118 = .ok (.iconst 1, 1) := by decide +kernel
theorem dX12_mends_119 : decode cX12_mends 119 = .ok (.iadd, 1) := by decide +kernel
theorem dX12_mends_120 : decode cX12_mends 120 = .ok (.putfield 425, 3) := by decide +kernel
theorem dX12_mends_123 : decode cX12_mends 123 = .ok (.aload_n 0, 1) := by decide +kernel
theorem dX12_mends_124 : decode cX12_mends 124 = .ok (.aload_n 0, 1) := by decide +kernel
theorem dX12_mends_125 : decode cX12_mends 125 = .ok (.getfield 428, 3) := by decide +kernel
theorem dX12_mends_128 : decode cX12_mends 128 = .ok (.iconst (-1), 1) := by decide +kernel
theorem dX12_mends_129 : decode cX12_mends 129 = .ok (.if_icmp .ne 7, 3) := by decide +kernel
theorem dX12_mends_132 : decode cX12_mends 132 = .ok (.iload_n 2, 1) := by decide +kernel
theorem dX12_mends_133 : decode cX12_mends 133 = .ok (.goto 7, 3) := by decide +kernel
theorem dX12_mends_136 : decode cX12_mends 136 = .ok (.aload_n 0, 1) := by decide +kernel
theorem dX12_mends_137 : decode cX12_mends 137 = .ok (.getfield 431, 3) := by decide +kernel
theorem dX12_mends_140 : decode cX12_mends 140 = .ok (.putfield 431, 3) := by decide +kernel
theorem dX12_mends_143 : decode cX12_mends 143 = .ok (.aload_n 0, 1) := by decide +kernel
theorem dX12_mends_144 : decode cX12_mends 144 = .ok (.aload_n 0, 1) := by decide +kernel
theorem dX12_mends_145 : decode cX12_mends 145 = .ok (.getfield 428, 3) := by decide +kernel
theorem dX12_mends_148 : decode cX12_mends 148 = .ok (.iconst (-1), 1) := by decide +kernel
theorem dX12_mends_149 : decode cX12_mends 149 = .ok (.if_icmp .ne 7, 3) := by decide +kernel
theorem dX12_mends_152 : decode cX12_mends 152 = .ok (.iload_n 1, 1) := by decide +kernel
theorem dX12_mends_153 : decode cX12_mends 153 = .ok (.goto 7, 3) := by decide +kernel
theorem dX12_mends_156 : decode cX12_mends 156 = .ok (.aload_n 0, 1) := by decide +kernel
theorem dX12_mends_157 : decode cX12_mends 157 = .ok (.getfield 428, 3) := by decide +kernel
theorem dX12_mends_160 : decode cX12_mends 160 = .ok (.putfield 428, 3) := by decide +kernel
theorem dX12_mends_163 : decode cX12_mends 163 = .ok (.iinc 2 1, 3) := by decide +kernel
theorem dX12_mends_166 : decode cX12_mends 166 = .ok (.goto (-95), 3) := by decide +kernel
theorem dX12_mends_169 : decode cX12_mends 169 = .ok (.aload_n 0, 1) := by decide +kernel
theorem dX12_mends_170 : decode cX12_mends 170 = .ok (.getfield 96, 3) := by decide +kernel
theorem dX12_mends_173 : decode cX12_mends 173 = .ok (.iload_n 1, 1) := by decide +kernel
theorem dX12_mends_174 : decode cX12_mends 174 = .ok (.aload_n 0, 1) := by decide +kernel
theorem dX12_mends_175 : decode cX12_mends 175 = .ok (.getfield 90, 3) := by decide +kernel
theorem dX12_mends_178 : decode cX12_mends 178 = .ok (.iload_n 1, 1) := by decide +kernel
theorem dX12_mends_179 : decode cX12_mends 179 = .ok (.iaload, 1) := by decide +kernel
theorem dX12_mends_180 : decode cX12_mends 180 = .ok (.iastore, 1) := by decide +kernel
theorem dX12_mends_181 : decode cX12_mends 181 = .ok (.iinc 1 1, 3) := by decide +kernel
theorem dX12_mends_184 : decode cX12_mends 184 = .ok (.goto (-123), 3) := by decide +kernel
theorem dX12_mends_187 : decode cX12_mends 187 = .ok (.return_, 1) := by decide +kernel
theorem dX12_mend_0 : decode cX12_mend 0 = .ok (.aload_n 0, 1) := by decide +kernel
theorem dX12_mend_1 : decode cX12_mend 1 = .ok (.iconst 0, 1) := by decide +kernel
theorem dX12_mend_2 : decode cX12_mend 2 = .ok (.putfield 1, 3) := by decide +kernel
theorem dX12_mend_5 : decode cX12_mend 5 = .ok (.aload_n 0, 1) := by decide +kernel
theorem dX12_mend_6 : decode cX12_mend 6 = .ok (.aload_n 0, 1) := by decide +kernel
theorem dX12_mend_7 : decode cX12_mend 7 = .ok (.getfield 160, 3) := by decide +kernel
theorem dX12_mend_10 : decode cX12_mend 10 = .ok (.ifCond .eq 19, 3) := by decide +kernel
theorem dX12_mend_13 : decode cX12_mend 13 = .ok (.iload_n 1, 1) := by decide +kernel
theorem dX12_mend_14 : decode cX12_mend 14 = .ok (.i2l, 1) := by decide +kernel
theorem dX12_mend_15 : decode cX12_mend 15 = .ok (.lconst 0, 1) := by decide +kernel
theorem dX12_mend_16 : decode cX12_mend 16 = .ok (.ldc2_w 130, 3) := by decide +kernel
theorem dX12_mend_19 : decode cX12_mend 19 = .ok (.invokestatic 206, 3) := by decide +kernel
theorem dX12_mend_22 : decode cX12_mend 22 = .ok (.ifCond .eq 7, 3) := by decide +kernel
theorem dX12_mend_25 : decode cX12_mend 25 = .ok (.iconst 1, 1) := by decide +kernel
theorem dX12_mend_26 : decode cX12_mend 26 = .ok (.goto 4, 3) := by decide +kernel
theorem dX12_mend_29 : decode cX12_mend 29 = .ok (.iconst 0, 1) := by decide +kernel
theorem dX12_mend_30 : decode cX12_mend 30 = .ok (.iconst 1, 1) := by decide +kernel
theorem dX12_mend_31 : decode cX12_mend 31 = .ok (.invokevirtual 304, 3) := by decide +kernel
theorem dX12_mend_34 : decode cX12_mend 34 = .ok (.ifCond .ne 5, 3) := by decide +kernel
theorem dX12_mend_37 : decode cX12_mend 37 = .ok (.iconst 0, 1) := by decide +kernel
theorem dX12_mend_38 : decode cX12_mend 38 = .ok (.ireturn, 1) := by decide +kernel
theorem dX12_mend_39 : decode cX12_mend 39 = .ok (.aload_n 0, 1) := by decide +kernel
theorem dX12_mend_40 : decode cX12_mend 40 = .ok (.invokevirtual 434, 3) := by decide +kernel
theorem dX12_mend_43 : decode cX12_mend 43 = .ok (.iload_n 1, 1) := by decide +kernel
theorem dX12_mend_44 : decode cX12_mend 44 = .ok (.ifCond .ne 10, 3) := by decide +kernel
theorem dX12_mend_47 : decode cX12_mend 47 = .ok (.aload_n 0, 1) := by decide +kernel
theorem dX12_mend_48 : decode cX12_mend 48 = .ok (.getfield 425, 3) := by decide +kernel
theorem dX12_mend_51 : decode cX12_mend 51 = .ok (.goto 19, 3) := by decide +kernel
theorem dX12_mend_54 : decode cX12_mend 54 = .ok (.iload_n 1, 1) := by decide +kernel
theorem dX12_mend_55 : decode cX12_mend 55 = .ok (.iconst 1, 1) := by decide +kernel
theorem dX12_mend_56 : decode cX12_mend 56 = .ok (.if_icmp .ne 10, 3) := by decide +kernel
theorem dX12_mend_59 : decode cX12_mend 59 = .ok (.aload_n 0, 1) := by decide +kernel
theorem dX12_mend_60 : decode cX12_mend 60 = .ok (.getfield 428, 3) := by decide +kernel
theorem dX12_mend_63 : decode cX12_mend 63 = .ok (.goto 7, 3) := by decide +kernel
theorem dX12_mend_66 : decode cX12_mend 66 = .ok (.aload_n 0, 1) := by decide +kernel
theorem dX12_mend_67 : decode cX12_mend 67 = .ok (.getfield 431, 3) := by decide +kernel
theorem dX12_mend_70 : decode cX12_mend 70 = .ok (.ireturn, 1) := by decide +kernel
theorem dX12_nearest_0 : decode cX12_nearest 0 = .ok (.aload_n 0, 1) := by decide +kernel
theorem dX12_nearest_1 : decode cX12_nearest 1 = .ok (.iconst 0, 1) := by decide +kernel
theorem dX12_nearest_2 : decode cX12_nearest 2 = .ok (.putfield 1, 3) := by decide +kernel
theorem dX12_nearest_5 : decode cX12_nearest 5 = .ok (.aload_n 0, 1) := by decide +kernel
theorem dX12_nearest_6 : decode cX12_nearest 6 = .ok (.aload_n 0, 1) := by decide +kernel
theorem dX12_nearest_7 : decode cX12_nearest 7 = .ok (.getfield 160, 3) := by decide +kernel
theorem dX12_nearest_10 : decode cX12_nearest 10 = .ok (.ifCond .eq 25, 3) := by decide +kernel
theorem dX12_nearest_13 : decode cX12_nearest 13 = .ok (.iload_n 1, 1) := by decide +kernel
theorem dX12_nearest_14 : decode cX12_nearest 14 = .ok (.i2l, 1) := by decide +kernel
theorem dX12_nearest_15 : decode cX12_nearest 15 = .ok (.ldc2_w 350, 3) := by decide +kernel
theorem dX12_nearest_18 : decode cX12_nearest 18 = .ok (.aload_n 0, 1) := by decide +kernel
theorem dX12_nearest_19 : decode cX12_nearest 19 = .ok (.getfield 69, 3) := by decide +kernel
theorem dX12_nearest_22 : decode cX12_nearest 22 = .ok (.iconst 1, 1) := by decide +kernel
theorem dX12_nearest_23 : decode cX12_nearest 23 = .ok (.isub, 1) := by decide +kernel
theorem dX12_nearest_24 : decode cX12_nearest 24 = .ok (.i2l, 1) := by decide +kernel
theorem dX12_nearest_25 : decode cX12_nearest 25 = .ok (.invokestatic 206, 3) := by decide +kernel
theorem dX12_nearest_28 : decode cX12_nearest 28 = .ok (.ifCond .eq 7, 3) := by decide +kernel
theorem dX12_nearest_31 : decode cX12_nearest 31 = .ok (.iconst 1, 1) := by decide +kernel
theorem dX12_nearest_32 : decode cX12_nearest 32 = .ok (.goto 4, 3) := by decide +kernel
theorem dX12_nearest_35 : decode cX12_nearest 35 = .ok (.iconst 0, 1) := by decide +kernel
theorem dX12_nearest_36 : decode cX12_nearest 36 = .ok (.iconst 1, 1) := by decide +kernel
theorem dX12_nearest_37 : decode cX12_nearest 37 = .ok (.invokevirtual 304, 3) := by decide +kernel
theorem dX12_nearest_40 : decode cX12_nearest 40 = .ok (.ifCond .ne 5, 3) := by decide +kernel
theorem dX12_nearest_43 : decode cX12_nearest 43 = .ok (.iconst 0, 1) := by decide +kernel
theorem dX12_nearest_44 : decode cX12_nearest 44 = .ok (.ireturn, 1) := by decide +kernel
theorem dX12_nearest_45 : decode cX12_nearest 45 = .ok (.aload_n 0, 1) := by decide +kernel
theorem dX12_nearest_46 : decode cX12_nearest 46 = .ok (.invokevirtual 411, 3) := by decide +kernel
theorem dX12_nearest_49 : decode cX12_nearest 49 = .ok (.ifCond .ne 5, 3) := by decide +kernel
theorem dX12_nearest_52 : decode cX12_nearest 52 = .ok (.iconst (-1), 1) := by decide +kernel
theorem dX12_nearest_53 : decode cX12_nearest 53 = .ok (.ireturn, 1) := by decide +kernel
theorem dX12_nearest_54 : decode cX12_nearest 54 = .ok (.aload_n 0, 1) := by decide +kernel
theorem dX12_nearest_55 : decode cX12_nearest 55 = .ok (.iconst 1, 1) := by decide +kernel
theorem dX12_nearest_56 : decode cX12_nearest 56 = .ok (.invokevirtual 414, 3) := by decide +kernel
theorem dX12_nearest_59 : decode cX12_nearest 59 = .ok (.iload_n 1, 1) := by decide +kernel
theorem dX12_nearest_60 : decode cX12_nearest 60 = .ok (.iconst (-1), 1) := by decide +kernel
theorem dX12_nearest_61 : decode cX12_nearest 61 = .ok (.if_icmp .ne 10, 3) := by decide +kernel
theorem dX12_nearest_64 : decode cX12_nearest 64 = .ok (.aload_n 0, 1) := by decide +kernel
theorem dX12_nearest_65 : decode cX12_nearest 65 = .ok (.getfield 405, 3) := by decide +kernel
theorem dX12_nearest_68 : decode cX12_nearest 68 = .ok (.goto 9, 3) := by decide +kernel
theorem dX12_nearest_71 : decode cX12_nearest 71 = .ok (.aload_n 0, 1) := by decide +kernel
theorem dX12_nearest_72 : decode cX12_nearest 72 = .ok (.getfield 87, 3) := by decide +kernel
theorem dX12_nearest_75 : decode cX12_nearest 75 = .ok (.iload_n 1, 1) := by decide +kernel
theorem dX12_nearest_76 : decode cX12_nearest 76 = .ok (.iaload, 1) := by decide +kernel
theorem dX12_nearest_77 : decode cX12_nearest 77 = .ok (.ireturn, 1) := by decide +kernel
theorem dX12_says_0 : decode cX12_says 0 = .ok (.aload_n 0, 1) := by decide +kernel
theorem dX12_says_1 : decode cX12_says 1 = .ok (.getfield 99, 3) := by decide +kernel
theorem dX12_says_4 : decode cX12_says 4 = .ok (.aload_n 0, 1) := by decide +kernel
theorem dX12_says_5 : decode cX12_says 5 = .ok (.getfield 437, 3) := by decide +kernel
theorem dX12_says_8 : decode cX12_says 8 = .ok (.iload_n 1, 1) := by decide +kernel
theorem dX12_says_9 : decode cX12_says 9 = .ok (.i2b, 1) := by decide +kernel
theorem dX12_says_10 : decode cX12_says 10 = .ok (.bastore, 1) := by decide +kernel
theorem dX12_says_11 : decode cX12_says 11 = .ok (.aload_n 0, 1) := by decide +kernel
theorem dX12_says_12 : decode cX12_says 12 = .ok (.dup, 1) := by decide +kernel
theorem dX12_says_13 : decode cX12_says 13 = .ok (.getfield 437, 3) := by decide +kernel
theorem dX12_says_16 : decode cX12_says 16 = .ok (.iconst 1, 1) := by decide +kernel
theorem dX12_says_17 : decode cX12_says 17 = .ok (.iadd, 1) := by decide +kernel
theorem dX12_says_18 : decode cX12_says 18 = .ok (.putfield 437, 3) := by decide +kernel
theorem dX12_says_21 : decode cX12_says 21 = .ok (.return_, 1) := by decide +kernel
theorem dX12_saysNumber_0 : decode cX12_saysNumber 0 = .ok (.iload_n 1, 1) := by decide +kernel
theorem dX12_saysNumber_1 : decode cX12_saysNumber 1 = .ok (.bipush 9, 2) := by decide +kernel
theorem dX12_saysNumber_3 : decode cX12_saysNumber 3 = .ok (.if_icmp .le 11, 3) := by decide +kernel
theorem dX12_saysNumber_6 : decode cX12_saysNumber 6 = .ok (.aload_n 0, 1) := by decide +kernel
theorem dX12_saysNumber_7 : decode cX12_saysNumber 7 = .ok (.iload_n 1, 1) := by decide +kernel
theorem dX12_saysNumber_8 : decode cX12_saysNumber 8 = .ok (.bipush 10, 2) := by decide +kernel
theorem dX12_saysNumber_10 : decode cX12_saysNumber 10 = .ok (.idiv, 1) := by decide +kernel
theorem dX12_saysNumber_11 : decode cX12_saysNumber 11 = .ok (.invokevirtual 440, 3) := by decide +kernel
theorem dX12_saysNumber_14 : decode cX12_saysNumber 14 = .ok (.aload_n 0, 1) := by decide +kernel
theorem dX12_saysNumber_15 : decode cX12_saysNumber 15 = .ok (.bipush 48, 2) := by decide +kernel
theorem dX12_saysNumber_17 : decode cX12_saysNumber 17 = .ok (.iload_n 1, 1) := by decide +kernel
theorem dX12_saysNumber_18 : decode cX12_saysNumber 18 = .ok (.bipush 10, 2) := by decide +kernel
theorem dX12_saysNumber_20 : decode cX12_saysNumber 20 = .ok (.irem, 1) := by decide +kernel
theorem dX12_saysNumber_21 : decode cX12_saysNumber 21 = .ok (.iadd, 1) := by decide +kernel
theorem dX12_saysNumber_22 : decode cX12_saysNumber 22 = .ok (.invokevirtual 443, 3) := by decide +kernel
theorem dX12_saysNumber_25 : decode cX12_saysNumber 25 = .ok (.return_, 1) := by decide +kernel
theorem dX12_say_0 : decode cX12_say 0 = .ok (.aload_n 0, 1) := by decide +kernel
theorem dX12_say_1 : decode cX12_say 1 = .ok (.iconst 0, 1) := by decide +kernel
theorem dX12_say_2 : decode cX12_say 2 = .ok (.putfield 1, 3) := by decide +kernel
theorem dX12_say_5 : decode cX12_say 5 = .ok (.aload_n 0, 1) := by decide +kernel
theorem dX12_say_6 : decode cX12_say 6 = .ok (.aload_n 0, 1) := by decide +kernel
theorem dX12_say_7 : decode cX12_say 7 = .ok (.iload_n 1, 1) := by decide +kernel
theorem dX12_say_8 : decode cX12_say 8 = .ok (.invokevirtual 311, 3) := by decide +kernel
theorem dX12_say_11 : decode cX12_say 11 = .ok (.iconst 1, 1) := by decide +kernel
theorem dX12_say_12 : decode cX12_say 12 = .ok (.invokevirtual 304, 3) := by decide +kernel
theorem dX12_say_15 : decode cX12_say 15 = .ok (.ifCond .ne 5, 3) := by decide +kernel
theorem dX12_say_18 : decode cX12_say 18 = .ok (.iconst 0, 1) := by decide +kernel
theorem dX12_say_19 : decode cX12_say 19 = .ok (.ireturn, 1) := by decide +kernel
theorem dX12_say_20 : decode cX12_say 20 = .ok (.aload_n 0, 1) := by decide +kernel
theorem dX12_say_21 : decode cX12_say 21 = .ok (.iconst 0, 1) := by decide +kernel
theorem dX12_say_22 : decode cX12_say 22 = .ok (.putfield 437, 3) := by decide +kernel
theorem dX12_say_25 : decode cX12_say 25 = .ok (.aload_n 0, 1) := by decide +kernel
theorem dX12_say_26 : decode cX12_say 26 = .ok (.aload_n 0, 1) := by decide +kernel
theorem dX12_say_27 : decode cX12_say 27 = .ok (.getfield 102, 3) := by decide +kernel
theorem dX12_say_30 : decode cX12_say 30 = .ok (.iload_n 1, 1) := by decide +kernel
theorem dX12_say_31 : decode cX12_say 31 = .ok (.invokevirtual 122, 3) := by decide +kernel
theorem dX12_say_34 : decode cX12_say 34 = .ok (.aload_n 0, 1) := by decide +kernel
theorem dX12_say_35 : decode cX12_say 35 = .ok (.getfield 19, 3) := by decide +kernel
theorem dX12_say_38 : decode cX12_say 38 = .ok (.iconst 1, 1) := by decide +kernel
theorem dX12_say_39 : decode cX12_say 39 = .ok (.isub, 1) := by decide +kernel
theorem dX12_say_40 : decode cX12_say 40 = .ok (.istore_n 2, 1) := by decide +kernel
theorem dX12_say_41 : decode cX12_say 41 = .ok (.iload_n 2, 1) := by decide +kernel
theorem dX12_say_42 : decode cX12_say 42 = .ok (.ifCond .lt 23, 3) := by decide +kernel
theorem dX12_say_45 : decode cX12_say 45 = .ok (.aload_n 0, 1) := by decide +kernel
theorem dX12_say_46 : decode cX12_say 46 = .ok (.getfield 102, 3) := by decide +kernel
theorem dX12_say_49 : decode cX12_say 49 = .ok (.iload_n 2, 1) := by decide +kernel
theorem dX12_say_50 : decode cX12_say 50 = .ok (.iaload, 1) := by decide +kernel
theorem dX12_say_51 : decode cX12_say 51 = .ok (.ifCond .eq 8, 3) := by decide +kernel
theorem dX12_say_54 : decode cX12_say 54 = .ok (.aload_n 0, 1) := by decide +kernel
theorem dX12_say_55 : decode cX12_say 55 = .ok (.iload_n 2, 1) := by decide +kernel
theorem dX12_say_56 : decode cX12_say 56 = .ok (.invokevirtual 446, 3) := by decide +kernel
theorem dX12_say_59 : decode cX12_say 59 = .ok (.iinc 2 (-1), 3) := by decide +kernel
theorem dX12_say_62 : decode cX12_say 62 = .ok (.goto (-21), 3) := by decide +kernel
theorem dX12_say_65 : decode cX12_say 65 = .ok (.aload_n 0, 1) := by decide +kernel
theorem dX12_say_66 : decode cX12_say 66 = .ok (.getfield 437, 3) := by decide +kernel
theorem dX12_say_69 : decode cX12_say 69 = .ok (.ifCond .ne 9, 3) := by decide +kernel
theorem dX12_say_72 : decode cX12_say 72 = .ok (.aload_n 0, 1) := by decide +kernel
theorem dX12_say_73 : decode cX12_say 73 = .ok (.bipush 48, 2) := by decide +kernel
theorem dX12_say_75 : decode cX12_say 75 = .ok (.invokevirtual 443, 3) := by decide +kernel
theorem dX12_say_78 : decode cX12_say 78 = .ok (.aload_n 0, 1) := by decide +kernel
theorem dX12_say_79 : decode cX12_say 79 = .ok (.getfield 437, 3) := by decide +kernel
theorem dX12_say_82 : decode cX12_say 82 = .ok (.ireturn, 1) := by decide +kernel
theorem dX12_saysOne_0 : decode cX12_saysOne 0 = .ok (.aload_n 0, 1) := by decide +kernel
theorem dX12_saysOne_1 : decode cX12_saysOne 1 = .ok (.getfield 102, 3) := by decide +kernel
theorem dX12_saysOne_4 : decode cX12_saysOne 4 = .ok (.iload_n 1, 1) := by decide +kernel
theorem dX12_saysOne_5 : decode cX12_saysOne 5 = .ok (.iaload, 1) := by decide +kernel
theorem dX12_saysOne_6 : decode cX12_saysOne 6 = .ok (.istore_n 2, 1) := by decide +kernel
theorem dX12_saysOne_7 : decode cX12_saysOne 7 = .ok (.aload_n 0, 1) := by decide +kernel
theorem dX12_saysOne_8 : decode cX12_saysOne 8 = .ok (.getfield 437, 3) := by decide +kernel
theorem dX12_saysOne_11 : decode cX12_saysOne 11 = .ok (.ifCond .le 9, 3) := by decide +kernel
theorem dX12_saysOne_14 : decode cX12_saysOne 14 = .ok (.aload_n 0, 1) := by decide +kernel
theorem dX12_saysOne_15 : decode cX12_saysOne 15 = .ok (.bipush 43, 2) := by decide +kernel
theorem dX12_saysOne_17 : decode cX12_saysOne 17 = .ok (.invokevirtual 443, 3) := by decide +kernel
theorem dX12_saysOne_20 : decode cX12_saysOne 20 = .ok (.iload_n 2, 1) := by decide +kernel
theorem dX12_saysOne_21 : decode cX12_saysOne 21 = .ok (.iconst 1, 1) := by decide +kernel
theorem dX12_saysOne_22 : decode cX12_saysOne 22 = .ok (.if_icmp .ne 7, 3) := by decide +kernel
theorem dX12_saysOne_25 : decode cX12_saysOne 25 = .ok (.iload_n 1, 1) := by decide +kernel
theorem dX12_saysOne_26 : decode cX12_saysOne 26 = .ok (.ifCond .ne 18, 3) := by decide +kernel
theorem dX12_saysOne_29 : decode cX12_saysOne 29 = .ok (.aload_n 0, 1) := by decide +kernel
theorem dX12_saysOne_30 : decode cX12_saysOne 30 = .ok (.iload_n 2, 1) := by decide +kernel
theorem dX12_saysOne_31 : decode cX12_saysOne 31 = .ok (.invokevirtual 440, 3) := by decide +kernel
theorem dX12_saysOne_34 : decode cX12_saysOne 34 = .ok (.iload_n 1, 1) := by decide +kernel
theorem dX12_saysOne_35 : decode cX12_saysOne 35 = .ok (.ifCond .le 9, 3) := by decide +kernel
theorem dX12_saysOne_38 : decode cX12_saysOne 38 = .ok (.aload_n 0, 1) := by decide +kernel
theorem dX12_saysOne_39 : decode cX12_saysOne 39 = .ok (.bipush 42, 2) := by decide +kernel
theorem dX12_saysOne_41 : decode cX12_saysOne 41 = .ok (.invokevirtual 443, 3) := by decide +kernel
theorem dX12_saysOne_44 : decode cX12_saysOne 44 = .ok (.iload_n 1, 1) := by decide +kernel
theorem dX12_saysOne_45 : decode cX12_saysOne 45 = .ok (.ifCond .le 9, 3) := by decide +kernel
theorem dX12_saysOne_48 : decode cX12_saysOne 48 = .ok (.aload_n 0, 1) := by decide +kernel
theorem dX12_saysOne_49 : decode cX12_saysOne 49 = .ok (.bipush 116, 2) := by decide +kernel
theorem dX12_saysOne_51 : decode cX12_saysOne 51 = .ok (.invokevirtual 443, 3) := by decide +kernel
theorem dX12_saysOne_54 : decode cX12_saysOne 54 = .ok (.iload_n 1, 1) := by decide +kernel
theorem dX12_saysOne_55 : decode cX12_saysOne 55 = .ok (.iconst 1, 1) := by decide +kernel
theorem dX12_saysOne_56 : decode cX12_saysOne 56 = .ok (.if_icmp .le 14, 3) := by decide +kernel
theorem dX12_saysOne_59 : decode cX12_saysOne 59 = .ok (.aload_n 0, 1) := by decide +kernel
theorem dX12_saysOne_60 : decode cX12_saysOne 60 = .ok (.bipush 94, 2) := by decide +kernel
theorem dX12_saysOne_62 : decode cX12_saysOne 62 = .ok (.invokevirtual 443, 3) := by decide +kernel
theorem dX12_saysOne_65 : decode cX12_saysOne 65 = .ok (.aload_n 0, 1) := by decide +kernel
theorem dX12_saysOne_66 : decode cX12_saysOne 66 = .ok (.iload_n 1, 1) := by decide +kernel
theorem dX12_saysOne_67 : decode cX12_saysOne 67 = .ok (.invokevirtual 440, 3) := by decide +kernel
theorem dX12_saysOne_70 : decode cX12_saysOne 70 = .ok (.return_, 1) := by decide +kernel
theorem dX12_said_0 : decode cX12_said 0 = .ok (.aload_n 0, 1) := by decide +kernel
theorem dX12_said_1 : decode cX12_said 1 = .ok (.iconst 0, 1) := by decide +kernel
theorem dX12_said_2 : decode cX12_said 2 = .ok (.putfield 1, 3) := by decide +kernel
theorem dX12_said_5 : decode cX12_said 5 = .ok (.iload_n 1, 1) := by decide +kernel
theorem dX12_said_6 : decode cX12_said 6 = .ok (.i2l, 1) := by decide +kernel
theorem dX12_said_7 : decode cX12_said 7 = .ok (.lconst 0, 1) := by decide +kernel
theorem dX12_said_8 : decode cX12_said 8 = .ok (.aload_n 0, 1) := by decide +kernel
theorem dX12_said_9 : decode cX12_said 9 = .ok (.getfield 437, 3) := by decide +kernel
theorem dX12_said_12 : decode cX12_said 12 = .ok (.iconst 1, 1) := by decide +kernel
theorem dX12_said_13 : decode cX12_said 13 = .ok (.isub, 1) := by decide +kernel
theorem dX12_said_14 : decode cX12_said 14 = .ok (.i2l, 1) := by decide +kernel
theorem dX12_said_15 : decode cX12_said 15 = .ok (.invokestatic 206, 3) := by decide +kernel
theorem dX12_said_18 : decode cX12_said 18 = .ok (.ifCond .eq 12, 3) := by decide +kernel
theorem dX12_said_21 : decode cX12_said 21 = .ok (.aload_n 0, 1) := by decide +kernel
theorem dX12_said_22 : decode cX12_said 22 = .ok (.getfield 99, 3) := by decide +kernel
theorem dX12_said_25 : decode cX12_said 25 = .ok (.iload_n 1, 1) := by decide +kernel
theorem dX12_said_26 : decode cX12_said 26 = .ok (.baload, 1) := by decide +kernel
theorem dX12_said_27 : decode cX12_said 27 = .ok (.goto 4, 3) := by decide +kernel
theorem dX12_said_30 : decode cX12_said 30 = .ok (.iconst (-1), 1) := by decide +kernel
theorem dX12_said_31 : decode cX12_said 31 = .ok (.ireturn, 1) := by decide +kernel
theorem dJ9_floorMod_7cf53_0 : decode cJ9_floorMod_7cf53 0 = .ok (.iload_n 0, 1) := by decide +kernel
theorem dJ9_floorMod_7cf53_1 : decode cJ9_floorMod_7cf53 1 = .ok (.iload_n 1, 1) := by decide +kernel
theorem dJ9_floorMod_7cf53_2 : decode cJ9_floorMod_7cf53 2 = .ok (.irem, 1) := by decide +kernel
theorem dJ9_floorMod_7cf53_3 : decode cJ9_floorMod_7cf53 3 = .ok (.istore_n 2, 1) := by decide +kernel
theorem dJ9_floorMod_7cf53_4 : decode cJ9_floorMod_7cf53 4 = .ok (.iload_n 0, 1) := by decide +kernel
theorem dJ9_floorMod_7cf53_5 : decode cJ9_floorMod_7cf53 5 = .ok (.iload_n 1, 1) := by decide +kernel
theorem dJ9_floorMod_7cf53_6 : decode cJ9_floorMod_7cf53 6 = .ok (.ixor, 1) := by decide +kernel
theorem dJ9_floorMod_7cf53_7 : decode cJ9_floorMod_7cf53 7 = .ok (.ifCond .ge 11, 3) := by decide +kernel
theorem dJ9_floorMod_7cf53_10 : decode cJ9_floorMod_7cf53 10 = .ok (.iload_n 2, 1) := by decide +kernel
theorem dJ9_floorMod_7cf53_11 : decode cJ9_floorMod_7cf53 11 = .ok (.ifCond .eq 7, 3) := by decide +kernel
theorem dJ9_floorMod_7cf53_14 : decode cJ9_floorMod_7cf53 14 = .ok (.iload_n 2, 1) := by decide +kernel
theorem dJ9_floorMod_7cf53_15 : decode cJ9_floorMod_7cf53 15 = .ok (.iload_n 1, 1) := by decide +kernel
theorem dJ9_floorMod_7cf53_16 : decode cJ9_floorMod_7cf53 16 = .ok (.iadd, 1) := by decide +kernel
theorem dJ9_floorMod_7cf53_17 : decode cJ9_floorMod_7cf53 17 = .ok (.ireturn, 1) := by decide +kernel
theorem dJ9_floorMod_7cf53_18 : decode cJ9_floorMod_7cf53 18 = .ok (.iload_n 2, 1) := by decide +kernel
theorem dJ9_floorMod_7cf53_19 : decode cJ9_floorMod_7cf53 19 = .ok (.ireturn, 1) := by decide +kernel
theorem dJ9_max_7cf53_0 : decode cJ9_max_7cf53 0 = .ok (.iload_n 0, 1) := by decide +kernel
theorem dJ9_max_7cf53_1 : decode cJ9_max_7cf53 1 = .ok (.iload_n 1, 1) := by decide +kernel
theorem dJ9_max_7cf53_2 : decode cJ9_max_7cf53 2 = .ok (.if_icmp .lt 7, 3) := by decide +kernel
theorem dJ9_max_7cf53_5 : decode cJ9_max_7cf53 5 = .ok (.iload_n 0, 1) := by decide +kernel
theorem dJ9_max_7cf53_6 : decode cJ9_max_7cf53 6 = .ok (.goto 4, 3) := by decide +kernel
theorem dJ9_max_7cf53_9 : decode cJ9_max_7cf53 9 = .ok (.iload_n 1, 1) := by decide +kernel
theorem dJ9_max_7cf53_10 : decode cJ9_max_7cf53 10 = .ok (.ireturn, 1) := by decide +kernel
theorem dJ9_min_7cf53_0 : decode cJ9_min_7cf53 0 = .ok (.iload_n 0, 1) := by decide +kernel
theorem dJ9_min_7cf53_1 : decode cJ9_min_7cf53 1 = .ok (.iload_n 1, 1) := by decide +kernel
theorem dJ9_min_7cf53_2 : decode cJ9_min_7cf53 2 = .ok (.if_icmp .gt 7, 3) := by decide +kernel
theorem dJ9_min_7cf53_5 : decode cJ9_min_7cf53 5 = .ok (.iload_n 0, 1) := by decide +kernel
theorem dJ9_min_7cf53_6 : decode cJ9_min_7cf53 6 = .ok (.goto 4, 3) := by decide +kernel
theorem dJ9_min_7cf53_9 : decode cJ9_min_7cf53 9 = .ok (.iload_n 1, 1) := by decide +kernel
theorem dJ9_min_7cf53_10 : decode cJ9_min_7cf53 10 = .ok (.ireturn, 1) := by decide +kernel
theorem dJ7_fill_53178_0 : decode cJ7_fill_53178 0 = .ok (.iconst 0, 1) := by decide +kernel
theorem dJ7_fill_53178_1 : decode cJ7_fill_53178 1 = .ok (.istore_n 2, 1) := by decide +kernel
theorem dJ7_fill_53178_2 : decode cJ7_fill_53178 2 = .ok (.aload_n 0, 1) := by decide +kernel
theorem dJ7_fill_53178_3 : decode cJ7_fill_53178 3 = .ok (.arraylength, 1) := by decide +kernel
theorem dJ7_fill_53178_4 : decode cJ7_fill_53178 4 = .ok (.istore_n 3, 1) := by decide +kernel
theorem dJ7_fill_53178_5 : decode cJ7_fill_53178 5 = .ok (.iload_n 2, 1) := by decide +kernel
theorem dJ7_fill_53178_6 : decode cJ7_fill_53178 6 = .ok (.iload_n 3, 1) := by decide +kernel
theorem dJ7_fill_53178_7 : decode cJ7_fill_53178 7 = .ok (.if_icmp .ge 13, 3) := by decide +kernel
theorem dJ7_fill_53178_10 : decode cJ7_fill_53178 10 = .ok (.aload_n 0, 1) := by decide +kernel
theorem dJ7_fill_53178_11 : decode cJ7_fill_53178 11 = .ok (.iload_n 2, 1) := by decide +kernel
theorem dJ7_fill_53178_12 : decode cJ7_fill_53178 12 = .ok (.iload_n 1, 1) := by decide +kernel
theorem dJ7_fill_53178_13 : decode cJ7_fill_53178 13 = .ok (.iastore, 1) := by decide +kernel
theorem dJ7_fill_53178_14 : decode cJ7_fill_53178 14 = .ok (.iinc 2 1, 3) := by decide +kernel
theorem dJ7_fill_53178_17 : decode cJ7_fill_53178 17 = .ok (.goto (-12), 3) := by decide +kernel
theorem dJ7_fill_53178_20 : decode cJ7_fill_53178 20 = .ok (.return_, 1) := by decide +kernel
theorem dL_tell_0 : decode cL_tell 0 = .ok (.aload_n 3, 1) := by decide +kernel
theorem dL_tell_1 : decode cL_tell 1 = .ok (.iconst 0, 1) := by decide +kernel
theorem dL_tell_2 : decode cL_tell 2 = .ok (.aload_n 0, 1) := by decide +kernel
theorem dL_tell_3 : decode cL_tell 3 = .ok (.iload_n 1, 1) := by decide +kernel
theorem dL_tell_4 : decode cL_tell 4 = .ok (.iload_n 2, 1) := by decide +kernel
theorem dL_tell_5 : decode cL_tell 5 = .ok (.invokevirtual 7, 3) := by decide +kernel
theorem dL_tell_8 : decode cL_tell 8 = .ok (.i2l, 1) := by decide +kernel
theorem dL_tell_9 : decode cL_tell 9 = .ok (.lastore, 1) := by decide +kernel
theorem dL_tell_10 : decode cL_tell 10 = .ok (.goto 7, 3) := by decide +kernel
theorem dL_tell_13 : decode cL_tell 13 = .ok (.astore 4, 2) := by decide +kernel
theorem dL_tell_15 : decode cL_tell 15 = .ok (.iconst 1, 1) := by decide +kernel
theorem dL_tell_16 : decode cL_tell 16 = .ok (.ireturn, 1) := by decide +kernel
theorem dL_tell_17 : decode cL_tell 17 = .ok (.iconst 0, 1) := by decide +kernel
theorem dL_tell_18 : decode cL_tell 18 = .ok (.ireturn, 1) := by decide +kernel
theorem dL_put_0 : decode cL_put 0 = .ok (.aload_n 3, 1) := by decide +kernel
theorem dL_put_1 : decode cL_put 1 = .ok (.iconst 0, 1) := by decide +kernel
theorem dL_put_2 : decode cL_put 2 = .ok (.aload_n 0, 1) := by decide +kernel
theorem dL_put_3 : decode cL_put 3 = .ok (.iload_n 1, 1) := by decide +kernel
theorem dL_put_4 : decode cL_put 4 = .ok (.iload_n 2, 1) := by decide +kernel
theorem dL_put_5 : decode cL_put 5 = .ok (.invokevirtual 15, 3) := by decide +kernel
theorem dL_put_8 : decode cL_put 8 = .ok (.i2l, 1) := by decide +kernel
theorem dL_put_9 : decode cL_put 9 = .ok (.lastore, 1) := by decide +kernel
theorem dL_put_10 : decode cL_put 10 = .ok (.goto 7, 3) := by decide +kernel
theorem dL_put_13 : decode cL_put 13 = .ok (.astore 4, 2) := by decide +kernel
theorem dL_put_15 : decode cL_put 15 = .ok (.iconst 1, 1) := by decide +kernel
theorem dL_put_16 : decode cL_put 16 = .ok (.ireturn, 1) := by decide +kernel
theorem dL_put_17 : decode cL_put 17 = .ok (.iconst 0, 1) := by decide +kernel
theorem dL_put_18 : decode cL_put 18 = .ok (.ireturn, 1) := by decide +kernel
theorem dL_count_0 : decode cL_count 0 = .ok (.aload_n 2, 1) := by decide +kernel
theorem dL_count_1 : decode cL_count 1 = .ok (.iconst 0, 1) := by decide +kernel
theorem dL_count_2 : decode cL_count 2 = .ok (.aload_n 0, 1) := by decide +kernel
theorem dL_count_3 : decode cL_count 3 = .ok (.iload_n 1, 1) := by decide +kernel
theorem dL_count_4 : decode cL_count 4 = .ok (.invokevirtual 20, 3) := by decide +kernel
theorem dL_count_7 : decode cL_count 7 = .ok (.i2l, 1) := by decide +kernel
theorem dL_count_8 : decode cL_count 8 = .ok (.lastore, 1) := by decide +kernel
theorem dL_count_9 : decode cL_count 9 = .ok (.goto 6, 3) := by decide +kernel
theorem dL_count_12 : decode cL_count 12 = .ok (.astore_n 3, 1) := by decide +kernel
theorem dL_count_13 : decode cL_count 13 = .ok (.iconst 1, 1) := by decide +kernel
theorem dL_count_14 : decode cL_count 14 = .ok (.ireturn, 1) := by decide +kernel
theorem dL_count_15 : decode cL_count 15 = .ok (.iconst 0, 1) := by decide +kernel
theorem dL_count_16 : decode cL_count 16 = .ok (.ireturn, 1) := by decide +kernel
theorem dL_modulus_0 : decode cL_modulus 0 = .ok (.aload_n 2, 1) := by decide +kernel
theorem dL_modulus_1 : decode cL_modulus 1 = .ok (.iconst 0, 1) := by decide +kernel
theorem dL_modulus_2 : decode cL_modulus 2 = .ok (.aload_n 0, 1) := by decide +kernel
theorem dL_modulus_3 : decode cL_modulus 3 = .ok (.iload_n 1, 1) := by decide +kernel
theorem dL_modulus_4 : decode cL_modulus 4 = .ok (.invokevirtual 24, 3) := by decide +kernel
theorem dL_modulus_7 : decode cL_modulus 7 = .ok (.i2l, 1) := by decide +kernel
theorem dL_modulus_8 : decode cL_modulus 8 = .ok (.lastore, 1) := by decide +kernel
theorem dL_modulus_9 : decode cL_modulus 9 = .ok (.goto 6, 3) := by decide +kernel
theorem dL_modulus_12 : decode cL_modulus 12 = .ok (.astore_n 3, 1) := by decide +kernel
theorem dL_modulus_13 : decode cL_modulus 13 = .ok (.iconst 1, 1) := by decide +kernel
theorem dL_modulus_14 : decode cL_modulus 14 = .ok (.ireturn, 1) := by decide +kernel
theorem dL_modulus_15 : decode cL_modulus 15 = .ok (.iconst 0, 1) := by decide +kernel
theorem dL_modulus_16 : decode cL_modulus 16 = .ok (.ireturn, 1) := by decide +kernel
theorem dL_element_0 : decode cL_element 0 = .ok (.aload 4, 2) := by decide +kernel
theorem dL_element_2 : decode cL_element 2 = .ok (.iconst 0, 1) := by decide +kernel
theorem dL_element_3 : decode cL_element 3 = .ok (.aload_n 0, 1) := by decide +kernel
theorem dL_element_4 : decode cL_element 4 = .ok (.iload_n 1, 1) := by decide +kernel
theorem dL_element_5 : decode cL_element 5 = .ok (.iload_n 2, 1) := by decide +kernel
theorem dL_element_6 : decode cL_element 6 = .ok (.iload_n 3, 1) := by decide +kernel
theorem dL_element_7 : decode cL_element 7 = .ok (.invokevirtual 27, 3) := by decide +kernel
theorem dL_element_10 : decode cL_element 10 = .ok (.i2l, 1) := by decide +kernel
theorem dL_element_11 : decode cL_element 11 = .ok (.lastore, 1) := by decide +kernel
theorem dL_element_12 : decode cL_element 12 = .ok (.goto 7, 3) := by decide +kernel
theorem dL_element_15 : decode cL_element 15 = .ok (.astore 5, 2) := by decide +kernel
theorem dL_element_17 : decode cL_element 17 = .ok (.iconst 1, 1) := by decide +kernel
theorem dL_element_18 : decode cL_element 18 = .ok (.ireturn, 1) := by decide +kernel
theorem dL_element_19 : decode cL_element 19 = .ok (.iconst 0, 1) := by decide +kernel
theorem dL_element_20 : decode cL_element 20 = .ok (.ireturn, 1) := by decide +kernel
theorem dL_of_0 : decode cL_of 0 = .ok (.aload_n 3, 1) := by decide +kernel
theorem dL_of_1 : decode cL_of 1 = .ok (.iconst 0, 1) := by decide +kernel
theorem dL_of_2 : decode cL_of 2 = .ok (.aload_n 0, 1) := by decide +kernel
theorem dL_of_3 : decode cL_of 3 = .ok (.iload_n 1, 1) := by decide +kernel
theorem dL_of_4 : decode cL_of 4 = .ok (.iload_n 2, 1) := by decide +kernel
theorem dL_of_5 : decode cL_of 5 = .ok (.invokevirtual 31, 3) := by decide +kernel
theorem dL_of_8 : decode cL_of 8 = .ok (.i2l, 1) := by decide +kernel
theorem dL_of_9 : decode cL_of 9 = .ok (.lastore, 1) := by decide +kernel
theorem dL_of_10 : decode cL_of 10 = .ok (.goto 7, 3) := by decide +kernel
theorem dL_of_13 : decode cL_of 13 = .ok (.astore 4, 2) := by decide +kernel
theorem dL_of_15 : decode cL_of 15 = .ok (.iconst 1, 1) := by decide +kernel
theorem dL_of_16 : decode cL_of 16 = .ok (.ireturn, 1) := by decide +kernel
theorem dL_of_17 : decode cL_of 17 = .ok (.iconst 0, 1) := by decide +kernel
theorem dL_of_18 : decode cL_of 18 = .ok (.ireturn, 1) := by decide +kernel
theorem dL_digit_0 : decode cL_digit 0 = .ok (.aload_n 3, 1) := by decide +kernel
theorem dL_digit_1 : decode cL_digit 1 = .ok (.iconst 0, 1) := by decide +kernel
theorem dL_digit_2 : decode cL_digit 2 = .ok (.aload_n 0, 1) := by decide +kernel
theorem dL_digit_3 : decode cL_digit 3 = .ok (.iload_n 1, 1) := by decide +kernel
theorem dL_digit_4 : decode cL_digit 4 = .ok (.iload_n 2, 1) := by decide +kernel
theorem dL_digit_5 : decode cL_digit 5 = .ok (.invokevirtual 34, 3) := by decide +kernel
theorem dL_digit_8 : decode cL_digit 8 = .ok (.i2l, 1) := by decide +kernel
theorem dL_digit_9 : decode cL_digit 9 = .ok (.lastore, 1) := by decide +kernel
theorem dL_digit_10 : decode cL_digit 10 = .ok (.goto 7, 3) := by decide +kernel
theorem dL_digit_13 : decode cL_digit 13 = .ok (.astore 4, 2) := by decide +kernel
theorem dL_digit_15 : decode cL_digit 15 = .ok (.iconst 1, 1) := by decide +kernel
theorem dL_digit_16 : decode cL_digit 16 = .ok (.ireturn, 1) := by decide +kernel
theorem dL_digit_17 : decode cL_digit 17 = .ok (.iconst 0, 1) := by decide +kernel
theorem dL_digit_18 : decode cL_digit 18 = .ok (.ireturn, 1) := by decide +kernel
theorem dL_whole_0 : decode cL_whole 0 = .ok (.aload 5, 2) := by decide +kernel
theorem dL_whole_2 : decode cL_whole 2 = .ok (.iconst 0, 1) := by decide +kernel
theorem dL_whole_3 : decode cL_whole 3 = .ok (.aload_n 0, 1) := by decide +kernel
theorem dL_whole_4 : decode cL_whole 4 = .ok (.iload_n 1, 1) := by decide +kernel
theorem dL_whole_5 : decode cL_whole 5 = .ok (.iload_n 2, 1) := by decide +kernel
theorem dL_whole_6 : decode cL_whole 6 = .ok (.iload_n 3, 1) := by decide +kernel
theorem dL_whole_7 : decode cL_whole 7 = .ok (.iload 4, 2) := by decide +kernel
theorem dL_whole_9 : decode cL_whole 9 = .ok (.invokevirtual 37, 3) := by decide +kernel
theorem dL_whole_12 : decode cL_whole 12 = .ok (.i2l, 1) := by decide +kernel
theorem dL_whole_13 : decode cL_whole 13 = .ok (.lastore, 1) := by decide +kernel
theorem dL_whole_14 : decode cL_whole 14 = .ok (.goto 7, 3) := by decide +kernel
theorem dL_whole_17 : decode cL_whole 17 = .ok (.astore 6, 2) := by decide +kernel
theorem dL_whole_19 : decode cL_whole 19 = .ok (.iconst 1, 1) := by decide +kernel
theorem dL_whole_20 : decode cL_whole 20 = .ok (.ireturn, 1) := by decide +kernel
theorem dL_whole_21 : decode cL_whole 21 = .ok (.iconst 0, 1) := by decide +kernel
theorem dL_whole_22 : decode cL_whole 22 = .ok (.ireturn, 1) := by decide +kernel
theorem dL_sum_0 : decode cL_sum 0 = .ok (.aload_n 3, 1) := by decide +kernel
theorem dL_sum_1 : decode cL_sum 1 = .ok (.iconst 0, 1) := by decide +kernel
theorem dL_sum_2 : decode cL_sum 2 = .ok (.aload_n 0, 1) := by decide +kernel
theorem dL_sum_3 : decode cL_sum 3 = .ok (.iload_n 1, 1) := by decide +kernel
theorem dL_sum_4 : decode cL_sum 4 = .ok (.iload_n 2, 1) := by decide +kernel
theorem dL_sum_5 : decode cL_sum 5 = .ok (.invokevirtual 41, 3) := by decide +kernel
theorem dL_sum_8 : decode cL_sum 8 = .ok (.i2l, 1) := by decide +kernel
theorem dL_sum_9 : decode cL_sum 9 = .ok (.lastore, 1) := by decide +kernel
theorem dL_sum_10 : decode cL_sum 10 = .ok (.goto 7, 3) := by decide +kernel
theorem dL_sum_13 : decode cL_sum 13 = .ok (.astore 4, 2) := by decide +kernel
theorem dL_sum_15 : decode cL_sum 15 = .ok (.iconst 1, 1) := by decide +kernel
theorem dL_sum_16 : decode cL_sum 16 = .ok (.ireturn, 1) := by decide +kernel
theorem dL_sum_17 : decode cL_sum 17 = .ok (.iconst 0, 1) := by decide +kernel
theorem dL_sum_18 : decode cL_sum 18 = .ok (.ireturn, 1) := by decide +kernel
theorem dL_roots_0 : decode cL_roots 0 = .ok (.aload 4, 2) := by decide +kernel
theorem dL_roots_2 : decode cL_roots 2 = .ok (.iconst 0, 1) := by decide +kernel
theorem dL_roots_3 : decode cL_roots 3 = .ok (.aload_n 0, 1) := by decide +kernel
theorem dL_roots_4 : decode cL_roots 4 = .ok (.iload_n 1, 1) := by decide +kernel
theorem dL_roots_5 : decode cL_roots 5 = .ok (.iload_n 2, 1) := by decide +kernel
theorem dL_roots_6 : decode cL_roots 6 = .ok (.iload_n 3, 1) := by decide +kernel
theorem dL_roots_7 : decode cL_roots 7 = .ok (.invokevirtual 44, 3) := by decide +kernel
theorem dL_roots_10 : decode cL_roots 10 = .ok (.i2l, 1) := by decide +kernel
theorem dL_roots_11 : decode cL_roots 11 = .ok (.lastore, 1) := by decide +kernel
theorem dL_roots_12 : decode cL_roots 12 = .ok (.goto 7, 3) := by decide +kernel
theorem dL_roots_15 : decode cL_roots 15 = .ok (.astore 5, 2) := by decide +kernel
theorem dL_roots_17 : decode cL_roots 17 = .ok (.iconst 1, 1) := by decide +kernel
theorem dL_roots_18 : decode cL_roots 18 = .ok (.ireturn, 1) := by decide +kernel
theorem dL_roots_19 : decode cL_roots 19 = .ok (.iconst 0, 1) := by decide +kernel
theorem dL_roots_20 : decode cL_roots 20 = .ok (.ireturn, 1) := by decide +kernel
theorem dL_zeros_0 : decode cL_zeros 0 = .ok (.aload_n 3, 1) := by decide +kernel
theorem dL_zeros_1 : decode cL_zeros 1 = .ok (.iconst 0, 1) := by decide +kernel
theorem dL_zeros_2 : decode cL_zeros 2 = .ok (.aload_n 0, 1) := by decide +kernel
theorem dL_zeros_3 : decode cL_zeros 3 = .ok (.iload_n 1, 1) := by decide +kernel
theorem dL_zeros_4 : decode cL_zeros 4 = .ok (.iload_n 2, 1) := by decide +kernel
theorem dL_zeros_5 : decode cL_zeros 5 = .ok (.invokevirtual 47, 3) := by decide +kernel
theorem dL_zeros_8 : decode cL_zeros 8 = .ok (.i2l, 1) := by decide +kernel
theorem dL_zeros_9 : decode cL_zeros 9 = .ok (.lastore, 1) := by decide +kernel
theorem dL_zeros_10 : decode cL_zeros 10 = .ok (.goto 7, 3) := by decide +kernel
theorem dL_zeros_13 : decode cL_zeros 13 = .ok (.astore 4, 2) := by decide +kernel
theorem dL_zeros_15 : decode cL_zeros 15 = .ok (.iconst 1, 1) := by decide +kernel
theorem dL_zeros_16 : decode cL_zeros 16 = .ok (.ireturn, 1) := by decide +kernel
theorem dL_zeros_17 : decode cL_zeros 17 = .ok (.iconst 0, 1) := by decide +kernel
theorem dL_zeros_18 : decode cL_zeros 18 = .ok (.ireturn, 1) := by decide +kernel
theorem dL_within_0 : decode cL_within 0 = .ok (.aload_n 3, 1) := by decide +kernel
theorem dL_within_1 : decode cL_within 1 = .ok (.iconst 0, 1) := by decide +kernel
theorem dL_within_2 : decode cL_within 2 = .ok (.aload_n 0, 1) := by decide +kernel
theorem dL_within_3 : decode cL_within 3 = .ok (.iload_n 1, 1) := by decide +kernel
theorem dL_within_4 : decode cL_within 4 = .ok (.iload_n 2, 1) := by decide +kernel
theorem dL_within_5 : decode cL_within 5 = .ok (.invokevirtual 50, 3) := by decide +kernel
theorem dL_within_8 : decode cL_within 8 = .ok (.i2l, 1) := by decide +kernel
theorem dL_within_9 : decode cL_within 9 = .ok (.lastore, 1) := by decide +kernel
theorem dL_within_10 : decode cL_within 10 = .ok (.goto 7, 3) := by decide +kernel
theorem dL_within_13 : decode cL_within 13 = .ok (.astore 4, 2) := by decide +kernel
theorem dL_within_15 : decode cL_within 15 = .ok (.iconst 1, 1) := by decide +kernel
theorem dL_within_16 : decode cL_within 16 = .ok (.ireturn, 1) := by decide +kernel
theorem dL_within_17 : decode cL_within 17 = .ok (.iconst 0, 1) := by decide +kernel
theorem dL_within_18 : decode cL_within 18 = .ok (.ireturn, 1) := by decide +kernel
theorem dL_units_0 : decode cL_units 0 = .ok (.aload_n 2, 1) := by decide +kernel
theorem dL_units_1 : decode cL_units 1 = .ok (.iconst 0, 1) := by decide +kernel
theorem dL_units_2 : decode cL_units 2 = .ok (.aload_n 0, 1) := by decide +kernel
theorem dL_units_3 : decode cL_units 3 = .ok (.iload_n 1, 1) := by decide +kernel
theorem dL_units_4 : decode cL_units 4 = .ok (.invokevirtual 53, 3) := by decide +kernel
theorem dL_units_7 : decode cL_units 7 = .ok (.i2l, 1) := by decide +kernel
theorem dL_units_8 : decode cL_units 8 = .ok (.lastore, 1) := by decide +kernel
theorem dL_units_9 : decode cL_units 9 = .ok (.goto 6, 3) := by decide +kernel
theorem dL_units_12 : decode cL_units 12 = .ok (.astore_n 3, 1) := by decide +kernel
theorem dL_units_13 : decode cL_units 13 = .ok (.iconst 1, 1) := by decide +kernel
theorem dL_units_14 : decode cL_units 14 = .ok (.ireturn, 1) := by decide +kernel
theorem dL_units_15 : decode cL_units 15 = .ok (.iconst 0, 1) := by decide +kernel
theorem dL_units_16 : decode cL_units 16 = .ok (.ireturn, 1) := by decide +kernel
theorem dL_many_0 : decode cL_many 0 = .ok (.aload_n 3, 1) := by decide +kernel
theorem dL_many_1 : decode cL_many 1 = .ok (.iconst 0, 1) := by decide +kernel
theorem dL_many_2 : decode cL_many 2 = .ok (.aload_n 0, 1) := by decide +kernel
theorem dL_many_3 : decode cL_many 3 = .ok (.iload_n 1, 1) := by decide +kernel
theorem dL_many_4 : decode cL_many 4 = .ok (.iload_n 2, 1) := by decide +kernel
theorem dL_many_5 : decode cL_many 5 = .ok (.invokevirtual 56, 3) := by decide +kernel
theorem dL_many_8 : decode cL_many 8 = .ok (.i2l, 1) := by decide +kernel
theorem dL_many_9 : decode cL_many 9 = .ok (.lastore, 1) := by decide +kernel
theorem dL_many_10 : decode cL_many 10 = .ok (.goto 7, 3) := by decide +kernel
theorem dL_many_13 : decode cL_many 13 = .ok (.astore 4, 2) := by decide +kernel
theorem dL_many_15 : decode cL_many 15 = .ok (.iconst 1, 1) := by decide +kernel
theorem dL_many_16 : decode cL_many 16 = .ok (.ireturn, 1) := by decide +kernel
theorem dL_many_17 : decode cL_many 17 = .ok (.iconst 0, 1) := by decide +kernel
theorem dL_many_18 : decode cL_many 18 = .ok (.ireturn, 1) := by decide +kernel
theorem dL_classes_0 : decode cL_classes 0 = .ok (.aload 4, 2) := by decide +kernel
theorem dL_classes_2 : decode cL_classes 2 = .ok (.iconst 0, 1) := by decide +kernel
theorem dL_classes_3 : decode cL_classes 3 = .ok (.aload_n 0, 1) := by decide +kernel
theorem dL_classes_4 : decode cL_classes 4 = .ok (.iload_n 1, 1) := by decide +kernel
theorem dL_classes_5 : decode cL_classes 5 = .ok (.iload_n 2, 1) := by decide +kernel
theorem dL_classes_6 : decode cL_classes 6 = .ok (.iload_n 3, 1) := by decide +kernel
theorem dL_classes_7 : decode cL_classes 7 = .ok (.invokevirtual 59, 3) := by decide +kernel
theorem dL_classes_10 : decode cL_classes 10 = .ok (.i2l, 1) := by decide +kernel
theorem dL_classes_11 : decode cL_classes 11 = .ok (.lastore, 1) := by decide +kernel
theorem dL_classes_12 : decode cL_classes 12 = .ok (.goto 7, 3) := by decide +kernel
theorem dL_classes_15 : decode cL_classes 15 = .ok (.astore 5, 2) := by decide +kernel
theorem dL_classes_17 : decode cL_classes 17 = .ok (.iconst 1, 1) := by decide +kernel
theorem dL_classes_18 : decode cL_classes 18 = .ok (.ireturn, 1) := by decide +kernel
theorem dL_classes_19 : decode cL_classes 19 = .ok (.iconst 0, 1) := by decide +kernel
theorem dL_classes_20 : decode cL_classes 20 = .ok (.ireturn, 1) := by decide +kernel
theorem dL_coefficient_0 : decode cL_coefficient 0 = .ok (.aload_n 3, 1) := by decide +kernel
theorem dL_coefficient_1 : decode cL_coefficient 1 = .ok (.iconst 0, 1) := by decide +kernel
theorem dL_coefficient_2 : decode cL_coefficient 2 = .ok (.aload_n 0, 1) := by decide +kernel
theorem dL_coefficient_3 : decode cL_coefficient 3 = .ok (.iload_n 1, 1) := by decide +kernel
theorem dL_coefficient_4 : decode cL_coefficient 4 = .ok (.iload_n 2, 1) := by decide +kernel
theorem dL_coefficient_5 : decode cL_coefficient 5 = .ok (.invokevirtual 62, 3) := by decide +kernel
theorem dL_coefficient_8 : decode cL_coefficient 8 = .ok (.i2l, 1) := by decide +kernel
theorem dL_coefficient_9 : decode cL_coefficient 9 = .ok (.lastore, 1) := by decide +kernel
theorem dL_coefficient_10 : decode cL_coefficient 10 = .ok (.goto 7, 3) := by decide +kernel
theorem dL_coefficient_13 : decode cL_coefficient 13 = .ok (.astore 4, 2) := by decide +kernel
theorem dL_coefficient_15 : decode cL_coefficient 15 = .ok (.iconst 1, 1) := by decide +kernel
theorem dL_coefficient_16 : decode cL_coefficient 16 = .ok (.ireturn, 1) := by decide +kernel
theorem dL_coefficient_17 : decode cL_coefficient 17 = .ok (.iconst 0, 1) := by decide +kernel
theorem dL_coefficient_18 : decode cL_coefficient 18 = .ok (.ireturn, 1) := by decide +kernel
theorem dL_word_0 : decode cL_word 0 = .ok (.aload_n 1, 1) := by decide +kernel
theorem dL_word_1 : decode cL_word 1 = .ok (.iconst 0, 1) := by decide +kernel
theorem dL_word_2 : decode cL_word 2 = .ok (.aload_n 0, 1) := by decide +kernel
theorem dL_word_3 : decode cL_word 3 = .ok (.invokevirtual 65, 3) := by decide +kernel
theorem dL_word_6 : decode cL_word 6 = .ok (.i2l, 1) := by decide +kernel
theorem dL_word_7 : decode cL_word 7 = .ok (.lastore, 1) := by decide +kernel
theorem dL_word_8 : decode cL_word 8 = .ok (.goto 6, 3) := by decide +kernel
theorem dL_word_11 : decode cL_word 11 = .ok (.astore_n 2, 1) := by decide +kernel
theorem dL_word_12 : decode cL_word 12 = .ok (.iconst 1, 1) := by decide +kernel
theorem dL_word_13 : decode cL_word 13 = .ok (.ireturn, 1) := by decide +kernel
theorem dL_word_14 : decode cL_word 14 = .ok (.iconst 0, 1) := by decide +kernel
theorem dL_word_15 : decode cL_word 15 = .ok (.ireturn, 1) := by decide +kernel
theorem dL_number_0 : decode cL_number 0 = .ok (.aload_n 2, 1) := by decide +kernel
theorem dL_number_1 : decode cL_number 1 = .ok (.iconst 0, 1) := by decide +kernel
theorem dL_number_2 : decode cL_number 2 = .ok (.aload_n 0, 1) := by decide +kernel
theorem dL_number_3 : decode cL_number 3 = .ok (.iload_n 1, 1) := by decide +kernel
theorem dL_number_4 : decode cL_number 4 = .ok (.invokevirtual 69, 3) := by decide +kernel
theorem dL_number_7 : decode cL_number 7 = .ok (.i2l, 1) := by decide +kernel
theorem dL_number_8 : decode cL_number 8 = .ok (.lastore, 1) := by decide +kernel
theorem dL_number_9 : decode cL_number 9 = .ok (.goto 6, 3) := by decide +kernel
theorem dL_number_12 : decode cL_number 12 = .ok (.astore_n 3, 1) := by decide +kernel
theorem dL_number_13 : decode cL_number 13 = .ok (.iconst 1, 1) := by decide +kernel
theorem dL_number_14 : decode cL_number 14 = .ok (.ireturn, 1) := by decide +kernel
theorem dL_number_15 : decode cL_number 15 = .ok (.iconst 0, 1) := by decide +kernel
theorem dL_number_16 : decode cL_number 16 = .ok (.ireturn, 1) := by decide +kernel
theorem dL_rest_0 : decode cL_rest 0 = .ok (.aload_n 2, 1) := by decide +kernel
theorem dL_rest_1 : decode cL_rest 1 = .ok (.iconst 0, 1) := by decide +kernel
theorem dL_rest_2 : decode cL_rest 2 = .ok (.aload_n 0, 1) := by decide +kernel
theorem dL_rest_3 : decode cL_rest 3 = .ok (.iload_n 1, 1) := by decide +kernel
theorem dL_rest_4 : decode cL_rest 4 = .ok (.invokevirtual 72, 3) := by decide +kernel
theorem dL_rest_7 : decode cL_rest 7 = .ok (.i2l, 1) := by decide +kernel
theorem dL_rest_8 : decode cL_rest 8 = .ok (.lastore, 1) := by decide +kernel
theorem dL_rest_9 : decode cL_rest 9 = .ok (.goto 6, 3) := by decide +kernel
theorem dL_rest_12 : decode cL_rest 12 = .ok (.astore_n 3, 1) := by decide +kernel
theorem dL_rest_13 : decode cL_rest 13 = .ok (.iconst 1, 1) := by decide +kernel
theorem dL_rest_14 : decode cL_rest 14 = .ok (.ireturn, 1) := by decide +kernel
theorem dL_rest_15 : decode cL_rest 15 = .ok (.iconst 0, 1) := by decide +kernel
theorem dL_rest_16 : decode cL_rest 16 = .ok (.ireturn, 1) := by decide +kernel
theorem dL_mend_0 : decode cL_mend 0 = .ok (.aload_n 2, 1) := by decide +kernel
theorem dL_mend_1 : decode cL_mend 1 = .ok (.iconst 0, 1) := by decide +kernel
theorem dL_mend_2 : decode cL_mend 2 = .ok (.aload_n 0, 1) := by decide +kernel
theorem dL_mend_3 : decode cL_mend 3 = .ok (.iload_n 1, 1) := by decide +kernel
theorem dL_mend_4 : decode cL_mend 4 = .ok (.invokevirtual 75, 3) := by decide +kernel
theorem dL_mend_7 : decode cL_mend 7 = .ok (.i2l, 1) := by decide +kernel
theorem dL_mend_8 : decode cL_mend 8 = .ok (.lastore, 1) := by decide +kernel
theorem dL_mend_9 : decode cL_mend 9 = .ok (.goto 6, 3) := by decide +kernel
theorem dL_mend_12 : decode cL_mend 12 = .ok (.astore_n 3, 1) := by decide +kernel
theorem dL_mend_13 : decode cL_mend 13 = .ok (.iconst 1, 1) := by decide +kernel
theorem dL_mend_14 : decode cL_mend 14 = .ok (.ireturn, 1) := by decide +kernel
theorem dL_mend_15 : decode cL_mend 15 = .ok (.iconst 0, 1) := by decide +kernel
theorem dL_mend_16 : decode cL_mend 16 = .ok (.ireturn, 1) := by decide +kernel
theorem dL_nearest_0 : decode cL_nearest 0 = .ok (.aload_n 2, 1) := by decide +kernel
theorem dL_nearest_1 : decode cL_nearest 1 = .ok (.iconst 0, 1) := by decide +kernel
theorem dL_nearest_2 : decode cL_nearest 2 = .ok (.aload_n 0, 1) := by decide +kernel
theorem dL_nearest_3 : decode cL_nearest 3 = .ok (.iload_n 1, 1) := by decide +kernel
theorem dL_nearest_4 : decode cL_nearest 4 = .ok (.invokevirtual 78, 3) := by decide +kernel
theorem dL_nearest_7 : decode cL_nearest 7 = .ok (.i2l, 1) := by decide +kernel
theorem dL_nearest_8 : decode cL_nearest 8 = .ok (.lastore, 1) := by decide +kernel
theorem dL_nearest_9 : decode cL_nearest 9 = .ok (.goto 6, 3) := by decide +kernel
theorem dL_nearest_12 : decode cL_nearest 12 = .ok (.astore_n 3, 1) := by decide +kernel
theorem dL_nearest_13 : decode cL_nearest 13 = .ok (.iconst 1, 1) := by decide +kernel
theorem dL_nearest_14 : decode cL_nearest 14 = .ok (.ireturn, 1) := by decide +kernel
theorem dL_nearest_15 : decode cL_nearest 15 = .ok (.iconst 0, 1) := by decide +kernel
theorem dL_nearest_16 : decode cL_nearest 16 = .ok (.ireturn, 1) := by decide +kernel
theorem dL_say_0 : decode cL_say 0 = .ok (.aload_n 2, 1) := by decide +kernel
theorem dL_say_1 : decode cL_say 1 = .ok (.iconst 0, 1) := by decide +kernel
theorem dL_say_2 : decode cL_say 2 = .ok (.aload_n 0, 1) := by decide +kernel
theorem dL_say_3 : decode cL_say 3 = .ok (.iload_n 1, 1) := by decide +kernel
theorem dL_say_4 : decode cL_say 4 = .ok (.invokevirtual 81, 3) := by decide +kernel
theorem dL_say_7 : decode cL_say 7 = .ok (.i2l, 1) := by decide +kernel
theorem dL_say_8 : decode cL_say 8 = .ok (.lastore, 1) := by decide +kernel
theorem dL_say_9 : decode cL_say 9 = .ok (.goto 6, 3) := by decide +kernel
theorem dL_say_12 : decode cL_say 12 = .ok (.astore_n 3, 1) := by decide +kernel
theorem dL_say_13 : decode cL_say 13 = .ok (.iconst 1, 1) := by decide +kernel
theorem dL_say_14 : decode cL_say 14 = .ok (.ireturn, 1) := by decide +kernel
theorem dL_say_15 : decode cL_say 15 = .ok (.iconst 0, 1) := by decide +kernel
theorem dL_say_16 : decode cL_say 16 = .ok (.ireturn, 1) := by decide +kernel
theorem dL_law_0 : decode cL_law 0 = .ok (.new 8, 3) := by decide +kernel
theorem dL_law_3 : decode cL_law 3 = .ok (.dup, 1) := by decide +kernel
theorem dL_law_4 : decode cL_law 4 = .ok (.invokespecial 84, 3) := by decide +kernel
theorem dL_law_7 : decode cL_law 7 = .ok (.astore_n 1, 1) := by decide +kernel
theorem dL_law_8 : decode cL_law 8 = .ok (.new 85, 3) := by decide +kernel
theorem dL_law_11 : decode cL_law 11 = .ok (.dup, 1) := by decide +kernel
theorem dL_law_12 : decode cL_law 12 = .ok (.invokespecial 87, 3) := by decide +kernel
theorem dL_law_15 : decode cL_law 15 = .ok (.astore_n 2, 1) := by decide +kernel
theorem dL_law_16 : decode cL_law 16 = .ok (.iconst 1, 1) := by decide +kernel
theorem dL_law_17 : decode cL_law 17 = .ok (.newarray .long, 2) := by decide +kernel
theorem dL_law_19 : decode cL_law 19 = .ok (.astore_n 3, 1) := by decide +kernel
theorem dL_law_20 : decode cL_law 20 = .ok (.iconst 0, 1) := by decide +kernel
theorem dL_law_21 : decode cL_law 21 = .ok (.istore 4, 2) := by decide +kernel
theorem dL_law_23 : decode cL_law 23 = .ok (.iload 4, 2) := by decide +kernel
theorem dL_law_25 : decode cL_law 25 = .ok (.aload_n 0, 1) := by decide +kernel
theorem dL_law_26 : decode cL_law 26 = .ok (.arraylength, 1) := by decide +kernel
theorem dL_law_27 : decode cL_law 27 = .ok (.bipush 6, 2) := by decide +kernel
theorem dL_law_29 : decode cL_law 29 = .ok (.isub, 1) := by decide +kernel
theorem dL_law_30 : decode cL_law 30 = .ok (.if_icmp .gt 1875, 3) := by decide +kernel
theorem dL_law_33 : decode cL_law 33 = .ok (.aload_n 0, 1) := by decide +kernel
theorem dL_law_34 : decode cL_law 34 = .ok (.iload 4, 2) := by decide +kernel
theorem dL_law_36 : decode cL_law 36 = .ok (.iaload, 1) := by decide +kernel
theorem dL_law_37 : decode cL_law 37 = .ok (.bipush 31, 2) := by decide +kernel
theorem dL_law_39 : decode cL_law 39 = .ok (.iand, 1) := by decide +kernel
theorem dL_law_40 : decode cL_law 40 = .ok (.tableswitch 1859 0 28 #[132, 181, 254, 322, 335, 403, 459, 515, 595, 663, 731, 823, 891, 971, 1039, 1107, 1163, 1231, 1311, 1348, 1416, 1469, 1510, 1554, 1610, 1666, 1722, 1778, 1834], 132) := by decide +kernel
theorem dL_law_172 : decode cL_law 172 = .ok (.aload_n 1, 1) := by decide +kernel
theorem dL_law_173 : decode cL_law 173 = .ok (.aload_n 0, 1) := by decide +kernel
theorem dL_law_174 : decode cL_law 174 = .ok (.iload 4, 2) := by decide +kernel
theorem dL_law_176 : decode cL_law 176 = .ok (.iconst 1, 1) := by decide +kernel
theorem dL_law_177 : decode cL_law 177 = .ok (.iadd, 1) := by decide +kernel
theorem dL_law_178 : decode cL_law 178 = .ok (.iaload, 1) := by decide +kernel
theorem dL_law_179 : decode cL_law 179 = .ok (.aload_n 0, 1) := by decide +kernel
theorem dL_law_180 : decode cL_law 180 = .ok (.iload 4, 2) := by decide +kernel
theorem dL_law_182 : decode cL_law 182 = .ok (.iconst 2, 1) := by decide +kernel
theorem dL_law_183 : decode cL_law 183 = .ok (.iadd, 1) := by decide +kernel
theorem dL_law_184 : decode cL_law 184 = .ok (.iaload, 1) := by decide +kernel
theorem dL_law_185 : decode cL_law 185 = .ok (.aload_n 0, 1) := by decide +kernel
theorem dL_law_186 : decode cL_law 186 = .ok (.iload 4, 2) := by decide +kernel
theorem dL_law_188 : decode cL_law 188 = .ok (.iconst 3, 1) := by decide +kernel
theorem dL_law_189 : decode cL_law 189 = .ok (.iadd, 1) := by decide +kernel
theorem dL_law_190 : decode cL_law 190 = .ok (.iaload, 1) := by decide +kernel
theorem dL_law_191 : decode cL_law 191 = .ok (.invokevirtual 88, 3) := by decide +kernel
theorem dL_law_194 : decode cL_law 194 = .ok (.aload_n 2, 1) := by decide +kernel
theorem dL_law_195 : decode cL_law 195 = .ok (.aload_n 0, 1) := by decide +kernel
theorem dL_law_196 : decode cL_law 196 = .ok (.iload 4, 2) := by decide +kernel
theorem dL_law_198 : decode cL_law 198 = .ok (.iconst 1, 1) := by decide +kernel
theorem dL_law_199 : decode cL_law 199 = .ok (.iadd, 1) := by decide +kernel
theorem dL_law_200 : decode cL_law 200 = .ok (.iaload, 1) := by decide +kernel
theorem dL_law_201 : decode cL_law 201 = .ok (.aload_n 0, 1) := by decide +kernel
theorem dL_law_202 : decode cL_law 202 = .ok (.iload 4, 2) := by decide +kernel
theorem dL_law_204 : decode cL_law 204 = .ok (.iconst 2, 1) := by decide +kernel
theorem dL_law_205 : decode cL_law 205 = .ok (.iadd, 1) := by decide +kernel
theorem dL_law_206 : decode cL_law 206 = .ok (.iaload, 1) := by decide +kernel
theorem dL_law_207 : decode cL_law 207 = .ok (.aload_n 0, 1) := by decide +kernel
theorem dL_law_208 : decode cL_law 208 = .ok (.iload 4, 2) := by decide +kernel
theorem dL_law_210 : decode cL_law 210 = .ok (.iconst 3, 1) := by decide +kernel
theorem dL_law_211 : decode cL_law 211 = .ok (.iadd, 1) := by decide +kernel
theorem dL_law_212 : decode cL_law 212 = .ok (.iaload, 1) := by decide +kernel
theorem dL_law_213 : decode cL_law 213 = .ok (.invokevirtual 91, 3) := by decide +kernel
theorem dL_law_216 : decode cL_law 216 = .ok (.if_icmp .eq 1683, 3) := by decide +kernel
theorem dL_law_219 : decode cL_law 219 = .ok (.iconst 0, 1) := by decide +kernel
theorem dL_law_220 : decode cL_law 220 = .ok (.ireturn, 1) := by decide +kernel
theorem dL_law_221 : decode cL_law 221 = .ok (.aload_n 1, 1) := by decide +kernel
theorem dL_law_222 : decode cL_law 222 = .ok (.aload_n 0, 1) := by decide +kernel
theorem dL_law_223 : decode cL_law 223 = .ok (.iload 4, 2) := by decide +kernel
theorem dL_law_225 : decode cL_law 225 = .ok (.iconst 1, 1) := by decide +kernel
theorem dL_law_226 : decode cL_law 226 = .ok (.iadd, 1) := by decide +kernel
theorem dL_law_227 : decode cL_law 227 = .ok (.iaload, 1) := by decide +kernel
theorem dL_law_228 : decode cL_law 228 = .ok (.aload_n 0, 1) := by decide +kernel
theorem dL_law_229 : decode cL_law 229 = .ok (.iload 4, 2) := by decide +kernel
theorem dL_law_231 : decode cL_law 231 = .ok (.iconst 2, 1) := by decide +kernel
theorem dL_law_232 : decode cL_law 232 = .ok (.iadd, 1) := by decide +kernel
theorem dL_law_233 : decode cL_law 233 = .ok (.iaload, 1) := by decide +kernel
theorem dL_law_234 : decode cL_law 234 = .ok (.aload_n 0, 1) := by decide +kernel
theorem dL_law_235 : decode cL_law 235 = .ok (.iload 4, 2) := by decide +kernel
theorem dL_law_237 : decode cL_law 237 = .ok (.iconst 3, 1) := by decide +kernel
theorem dL_law_238 : decode cL_law 238 = .ok (.iadd, 1) := by decide +kernel
theorem dL_law_239 : decode cL_law 239 = .ok (.iaload, 1) := by decide +kernel
theorem dL_law_240 : decode cL_law 240 = .ok (.aload_n 0, 1) := by decide +kernel
theorem dL_law_241 : decode cL_law 241 = .ok (.iload 4, 2) := by decide +kernel
theorem dL_law_243 : decode cL_law 243 = .ok (.iconst 4, 1) := by decide +kernel
theorem dL_law_244 : decode cL_law 244 = .ok (.iadd, 1) := by decide +kernel
theorem dL_law_245 : decode cL_law 245 = .ok (.iaload, 1) := by decide +kernel
theorem dL_law_246 : decode cL_law 246 = .ok (.aload_n 0, 1) := by decide +kernel
theorem dL_law_247 : decode cL_law 247 = .ok (.iload 4, 2) := by decide +kernel
theorem dL_law_249 : decode cL_law 249 = .ok (.iconst 5, 1) := by decide +kernel
theorem dL_law_250 : decode cL_law 250 = .ok (.iadd, 1) := by decide +kernel
theorem dL_law_251 : decode cL_law 251 = .ok (.iaload, 1) := by decide +kernel
theorem dL_law_252 : decode cL_law 252 = .ok (.invokevirtual 92, 3) := by decide +kernel
theorem dL_law_255 : decode cL_law 255 = .ok (.aload_n 2, 1) := by decide +kernel
theorem dL_law_256 : decode cL_law 256 = .ok (.aload_n 0, 1) := by decide +kernel
theorem dL_law_257 : decode cL_law 257 = .ok (.iload 4, 2) := by decide +kernel
theorem dL_law_259 : decode cL_law 259 = .ok (.iconst 1, 1) := by decide +kernel
theorem dL_law_260 : decode cL_law 260 = .ok (.iadd, 1) := by decide +kernel
theorem dL_law_261 : decode cL_law 261 = .ok (.iaload, 1) := by decide +kernel
theorem dL_law_262 : decode cL_law 262 = .ok (.aload_n 0, 1) := by decide +kernel
theorem dL_law_263 : decode cL_law 263 = .ok (.iload 4, 2) := by decide +kernel
theorem dL_law_265 : decode cL_law 265 = .ok (.iconst 2, 1) := by decide +kernel
theorem dL_law_266 : decode cL_law 266 = .ok (.iadd, 1) := by decide +kernel
theorem dL_law_267 : decode cL_law 267 = .ok (.iaload, 1) := by decide +kernel
theorem dL_law_268 : decode cL_law 268 = .ok (.aload_n 0, 1) := by decide +kernel
theorem dL_law_269 : decode cL_law 269 = .ok (.iload 4, 2) := by decide +kernel
theorem dL_law_271 : decode cL_law 271 = .ok (.iconst 3, 1) := by decide +kernel
theorem dL_law_272 : decode cL_law 272 = .ok (.iadd, 1) := by decide +kernel
theorem dL_law_273 : decode cL_law 273 = .ok (.iaload, 1) := by decide +kernel
theorem dL_law_274 : decode cL_law 274 = .ok (.aload_n 0, 1) := by decide +kernel
theorem dL_law_275 : decode cL_law 275 = .ok (.iload 4, 2) := by decide +kernel
theorem dL_law_277 : decode cL_law 277 = .ok (.iconst 4, 1) := by decide +kernel
theorem dL_law_278 : decode cL_law 278 = .ok (.iadd, 1) := by decide +kernel
theorem dL_law_279 : decode cL_law 279 = .ok (.iaload, 1) := by decide +kernel
theorem dL_law_280 : decode cL_law 280 = .ok (.aload_n 0, 1) := by decide +kernel
theorem dL_law_281 : decode cL_law 281 = .ok (.iload 4, 2) := by decide +kernel
theorem dL_law_283 : decode cL_law 283 = .ok (.iconst 5, 1) := by decide +kernel
theorem dL_law_284 : decode cL_law 284 = .ok (.iadd, 1) := by decide +kernel
theorem dL_law_285 : decode cL_law 285 = .ok (.iaload, 1) := by decide +kernel
theorem dL_law_286 : decode cL_law 286 = .ok (.invokevirtual 96, 3) := by decide +kernel
theorem dL_law_289 : decode cL_law 289 = .ok (.if_icmp .eq 1610, 3) := by decide +kernel
theorem dL_law_292 : decode cL_law 292 = .ok (.iconst 0, 1) := by decide +kernel
theorem dL_law_293 : decode cL_law 293 = .ok (.ireturn, 1) := by decide +kernel
theorem dL_law_294 : decode cL_law 294 = .ok (.aload_n 1, 1) := by decide +kernel
theorem dL_law_295 : decode cL_law 295 = .ok (.aload_n 0, 1) := by decide +kernel
theorem dL_law_296 : decode cL_law 296 = .ok (.iload 4, 2) := by decide +kernel
theorem dL_law_298 : decode cL_law 298 = .ok (.iconst 1, 1) := by decide +kernel
theorem dL_law_299 : decode cL_law 299 = .ok (.iadd, 1) := by decide +kernel
theorem dL_law_300 : decode cL_law 300 = .ok (.iaload, 1) := by decide +kernel
theorem dL_law_301 : decode cL_law 301 = .ok (.aload_n 0, 1) := by decide +kernel
theorem dL_law_302 : decode cL_law 302 = .ok (.iload 4, 2) := by decide +kernel
theorem dL_law_304 : decode cL_law 304 = .ok (.iconst 2, 1) := by decide +kernel
theorem dL_law_305 : decode cL_law 305 = .ok (.iadd, 1) := by decide +kernel
theorem dL_law_306 : decode cL_law 306 = .ok (.iaload, 1) := by decide +kernel
theorem dL_law_307 : decode cL_law 307 = .ok (.aload_n 3, 1) := by decide +kernel
theorem dL_law_308 : decode cL_law 308 = .ok (.invokestatic 97, 3) := by decide +kernel
theorem dL_law_311 : decode cL_law 311 = .ok (.istore 5, 2) := by decide +kernel
theorem dL_law_313 : decode cL_law 313 = .ok (.aload_n 2, 1) := by decide +kernel
theorem dL_law_314 : decode cL_law 314 = .ok (.aload_n 0, 1) := by decide +kernel
theorem dL_law_315 : decode cL_law 315 = .ok (.iload 4, 2) := by decide +kernel
theorem dL_law_317 : decode cL_law 317 = .ok (.iconst 1, 1) := by decide +kernel
theorem dL_law_318 : decode cL_law 318 = .ok (.iadd, 1) := by decide +kernel
theorem dL_law_319 : decode cL_law 319 = .ok (.iaload, 1) := by decide +kernel
theorem dL_law_320 : decode cL_law 320 = .ok (.aload_n 0, 1) := by decide +kernel
theorem dL_law_321 : decode cL_law 321 = .ok (.iload 4, 2) := by decide +kernel
theorem dL_law_323 : decode cL_law 323 = .ok (.iconst 2, 1) := by decide +kernel
theorem dL_law_324 : decode cL_law 324 = .ok (.iadd, 1) := by decide +kernel
theorem dL_law_325 : decode cL_law 325 = .ok (.iaload, 1) := by decide +kernel
theorem dL_law_326 : decode cL_law 326 = .ok (.invokevirtual 102, 3) := by decide +kernel
theorem dL_law_329 : decode cL_law 329 = .ok (.istore 6, 2) := by decide +kernel
theorem dL_law_331 : decode cL_law 331 = .ok (.aload_n 2, 1) := by decide +kernel
theorem dL_law_332 : decode cL_law 332 = .ok (.invokevirtual 103, 3) := by decide +kernel
theorem dL_law_335 : decode cL_law 335 = .ok (.iload 5, 2) := by decide +kernel
theorem dL_law_337 : decode cL_law 337 = .ok (.if_icmp .eq 5, 3) := by decide +kernel
theorem dL_law_340 : decode cL_law 340 = .ok (.iconst 0, 1) := by decide +kernel
theorem dL_law_341 : decode cL_law 341 = .ok (.ireturn, 1) := by decide +kernel
theorem dL_law_342 : decode cL_law 342 = .ok (.iload 5, 2) := by decide +kernel
theorem dL_law_344 : decode cL_law 344 = .ok (.ifCond .ne 15, 3) := by decide +kernel
theorem dL_law_347 : decode cL_law 347 = .ok (.aload_n 3, 1) := by decide +kernel
theorem dL_law_348 : decode cL_law 348 = .ok (.iconst 0, 1) := by decide +kernel
theorem dL_law_349 : decode cL_law 349 = .ok (.laload, 1) := by decide +kernel
theorem dL_law_350 : decode cL_law 350 = .ok (.iload 6, 2) := by decide +kernel
theorem dL_law_352 : decode cL_law 352 = .ok (.i2l, 1) := by decide +kernel
theorem dL_law_353 : decode cL_law 353 = .ok (.lcmp, 1) := by decide +kernel
theorem dL_law_354 : decode cL_law 354 = .ok (.ifCond .eq 5, 3) := by decide +kernel
theorem dL_law_357 : decode cL_law 357 = .ok (.iconst 0, 1) := by decide +kernel
theorem dL_law_358 : decode cL_law 358 = .ok (.ireturn, 1) := by decide +kernel
theorem dL_law_359 : decode cL_law 359 = .ok (.goto 1540, 3) := by decide +kernel
theorem dL_law_362 : decode cL_law 362 = .ok (.aload_n 1, 1) := by decide +kernel
theorem dL_law_363 : decode cL_law 363 = .ok (.invokevirtual 106, 3) := by decide +kernel
theorem dL_law_366 : decode cL_law 366 = .ok (.aload_n 2, 1) := by decide +kernel
theorem dL_law_367 : decode cL_law 367 = .ok (.invokevirtual 109, 3) := by decide +kernel
theorem dL_law_370 : decode cL_law 370 = .ok (.if_icmp .eq 1529, 3) := by decide +kernel
theorem dL_law_373 : decode cL_law 373 = .ok (.iconst 0, 1) := by decide +kernel
theorem dL_law_374 : decode cL_law 374 = .ok (.ireturn, 1) := by decide +kernel
theorem dL_law_375 : decode cL_law 375 = .ok (.aload_n 1, 1) := by decide +kernel
theorem dL_law_376 : decode cL_law 376 = .ok (.aload_n 0, 1) := by decide +kernel
theorem dL_law_377 : decode cL_law 377 = .ok (.iload 4, 2) := by decide +kernel
theorem dL_law_379 : decode cL_law 379 = .ok (.iconst 1, 1) := by decide +kernel
theorem dL_law_380 : decode cL_law 380 = .ok (.iadd, 1) := by decide +kernel
theorem dL_law_381 : decode cL_law 381 = .ok (.iaload, 1) := by decide +kernel
theorem dL_law_382 : decode cL_law 382 = .ok (.aload_n 0, 1) := by decide +kernel
theorem dL_law_383 : decode cL_law 383 = .ok (.iload 4, 2) := by decide +kernel
theorem dL_law_385 : decode cL_law 385 = .ok (.iconst 2, 1) := by decide +kernel
theorem dL_law_386 : decode cL_law 386 = .ok (.iadd, 1) := by decide +kernel
theorem dL_law_387 : decode cL_law 387 = .ok (.iaload, 1) := by decide +kernel
theorem dL_law_388 : decode cL_law 388 = .ok (.aload_n 3, 1) := by decide +kernel
theorem dL_law_389 : decode cL_law 389 = .ok (.invokestatic 110, 3) := by decide +kernel
theorem dL_law_392 : decode cL_law 392 = .ok (.istore 5, 2) := by decide +kernel
theorem dL_law_394 : decode cL_law 394 = .ok (.aload_n 2, 1) := by decide +kernel
theorem dL_law_395 : decode cL_law 395 = .ok (.aload_n 0, 1) := by decide +kernel
theorem dL_law_396 : decode cL_law 396 = .ok (.iload 4, 2) := by decide +kernel
theorem dL_law_398 : decode cL_law 398 = .ok (.iconst 1, 1) := by decide +kernel
theorem dL_law_399 : decode cL_law 399 = .ok (.iadd, 1) := by decide +kernel
theorem dL_law_400 : decode cL_law 400 = .ok (.iaload, 1) := by decide +kernel
theorem dL_law_401 : decode cL_law 401 = .ok (.aload_n 0, 1) := by decide +kernel
theorem dL_law_402 : decode cL_law 402 = .ok (.iload 4, 2) := by decide +kernel
theorem dL_law_404 : decode cL_law 404 = .ok (.iconst 2, 1) := by decide +kernel
theorem dL_law_405 : decode cL_law 405 = .ok (.iadd, 1) := by decide +kernel
theorem dL_law_406 : decode cL_law 406 = .ok (.iaload, 1) := by decide +kernel
theorem dL_law_407 : decode cL_law 407 = .ok (.invokevirtual 112, 3) := by decide +kernel
theorem dL_law_410 : decode cL_law 410 = .ok (.istore 6, 2) := by decide +kernel
theorem dL_law_412 : decode cL_law 412 = .ok (.aload_n 2, 1) := by decide +kernel
theorem dL_law_413 : decode cL_law 413 = .ok (.invokevirtual 103, 3) := by decide +kernel
theorem dL_law_416 : decode cL_law 416 = .ok (.iload 5, 2) := by decide +kernel
theorem dL_law_418 : decode cL_law 418 = .ok (.if_icmp .eq 5, 3) := by decide +kernel
theorem dL_law_421 : decode cL_law 421 = .ok (.iconst 0, 1) := by decide +kernel
theorem dL_law_422 : decode cL_law 422 = .ok (.ireturn, 1) := by decide +kernel
theorem dL_law_423 : decode cL_law 423 = .ok (.iload 5, 2) := by decide +kernel
theorem dL_law_425 : decode cL_law 425 = .ok (.ifCond .ne 15, 3) := by decide +kernel
theorem dL_law_428 : decode cL_law 428 = .ok (.aload_n 3, 1) := by decide +kernel
theorem dL_law_429 : decode cL_law 429 = .ok (.iconst 0, 1) := by decide +kernel
theorem dL_law_430 : decode cL_law 430 = .ok (.laload, 1) := by decide +kernel
theorem dL_law_431 : decode cL_law 431 = .ok (.iload 6, 2) := by decide +kernel
theorem dL_law_433 : decode cL_law 433 = .ok (.i2l, 1) := by decide +kernel
theorem dL_law_434 : decode cL_law 434 = .ok (.lcmp, 1) := by decide +kernel
theorem dL_law_435 : decode cL_law 435 = .ok (.ifCond .eq 5, 3) := by decide +kernel
theorem dL_law_438 : decode cL_law 438 = .ok (.iconst 0, 1) := by decide +kernel
theorem dL_law_439 : decode cL_law 439 = .ok (.ireturn, 1) := by decide +kernel
theorem dL_law_440 : decode cL_law 440 = .ok (.goto 1459, 3) := by decide +kernel
theorem dL_law_443 : decode cL_law 443 = .ok (.aload_n 1, 1) := by decide +kernel
theorem dL_law_444 : decode cL_law 444 = .ok (.aload_n 0, 1) := by decide +kernel
theorem dL_law_445 : decode cL_law 445 = .ok (.iload 4, 2) := by decide +kernel
theorem dL_law_447 : decode cL_law 447 = .ok (.iconst 1, 1) := by decide +kernel
theorem dL_law_448 : decode cL_law 448 = .ok (.iadd, 1) := by decide +kernel
theorem dL_law_449 : decode cL_law 449 = .ok (.iaload, 1) := by decide +kernel
theorem dL_law_450 : decode cL_law 450 = .ok (.aload_n 3, 1) := by decide +kernel
theorem dL_law_451 : decode cL_law 451 = .ok (.invokestatic 113, 3) := by decide +kernel
theorem dL_law_454 : decode cL_law 454 = .ok (.istore 5, 2) := by decide +kernel
theorem dL_law_456 : decode cL_law 456 = .ok (.aload_n 2, 1) := by decide +kernel
theorem dL_law_457 : decode cL_law 457 = .ok (.aload_n 0, 1) := by decide +kernel
theorem dL_law_458 : decode cL_law 458 = .ok (.iload 4, 2) := by decide +kernel
theorem dL_law_460 : decode cL_law 460 = .ok (.iconst 1, 1) := by decide +kernel
theorem dL_law_461 : decode cL_law 461 = .ok (.iadd, 1) := by decide +kernel
theorem dL_law_462 : decode cL_law 462 = .ok (.iaload, 1) := by decide +kernel
theorem dL_law_463 : decode cL_law 463 = .ok (.invokevirtual 116, 3) := by decide +kernel
theorem dL_law_466 : decode cL_law 466 = .ok (.istore 6, 2) := by decide +kernel
theorem dL_law_468 : decode cL_law 468 = .ok (.aload_n 2, 1) := by decide +kernel
theorem dL_law_469 : decode cL_law 469 = .ok (.invokevirtual 103, 3) := by decide +kernel
theorem dL_law_472 : decode cL_law 472 = .ok (.iload 5, 2) := by decide +kernel
theorem dL_law_474 : decode cL_law 474 = .ok (.if_icmp .eq 5, 3) := by decide +kernel
theorem dL_law_477 : decode cL_law 477 = .ok (.iconst 0, 1) := by decide +kernel
theorem dL_law_478 : decode cL_law 478 = .ok (.ireturn, 1) := by decide +kernel
theorem dL_law_479 : decode cL_law 479 = .ok (.iload 5, 2) := by decide +kernel
theorem dL_law_481 : decode cL_law 481 = .ok (.ifCond .ne 15, 3) := by decide +kernel
theorem dL_law_484 : decode cL_law 484 = .ok (.aload_n 3, 1) := by decide +kernel
theorem dL_law_485 : decode cL_law 485 = .ok (.iconst 0, 1) := by decide +kernel
theorem dL_law_486 : decode cL_law 486 = .ok (.laload, 1) := by decide +kernel
theorem dL_law_487 : decode cL_law 487 = .ok (.iload 6, 2) := by decide +kernel
theorem dL_law_489 : decode cL_law 489 = .ok (.i2l, 1) := by decide +kernel
theorem dL_law_490 : decode cL_law 490 = .ok (.lcmp, 1) := by decide +kernel
theorem dL_law_491 : decode cL_law 491 = .ok (.ifCond .eq 5, 3) := by decide +kernel
theorem dL_law_494 : decode cL_law 494 = .ok (.iconst 0, 1) := by decide +kernel
theorem dL_law_495 : decode cL_law 495 = .ok (.ireturn, 1) := by decide +kernel
theorem dL_law_496 : decode cL_law 496 = .ok (.goto 1403, 3) := by decide +kernel
theorem dL_law_499 : decode cL_law 499 = .ok (.aload_n 1, 1) := by decide +kernel
theorem dL_law_500 : decode cL_law 500 = .ok (.aload_n 0, 1) := by decide +kernel
theorem dL_law_501 : decode cL_law 501 = .ok (.iload 4, 2) := by decide +kernel
theorem dL_law_503 : decode cL_law 503 = .ok (.iconst 1, 1) := by decide +kernel
theorem dL_law_504 : decode cL_law 504 = .ok (.iadd, 1) := by decide +kernel
theorem dL_law_505 : decode cL_law 505 = .ok (.iaload, 1) := by decide +kernel
theorem dL_law_506 : decode cL_law 506 = .ok (.aload_n 3, 1) := by decide +kernel
theorem dL_law_507 : decode cL_law 507 = .ok (.invokestatic 117, 3) := by decide +kernel
theorem dL_law_510 : decode cL_law 510 = .ok (.istore 5, 2) := by decide +kernel
theorem dL_law_512 : decode cL_law 512 = .ok (.aload_n 2, 1) := by decide +kernel
theorem dL_law_513 : decode cL_law 513 = .ok (.aload_n 0, 1) := by decide +kernel
theorem dL_law_514 : decode cL_law 514 = .ok (.iload 4, 2) := by decide +kernel
theorem dL_law_516 : decode cL_law 516 = .ok (.iconst 1, 1) := by decide +kernel
theorem dL_law_517 : decode cL_law 517 = .ok (.iadd, 1) := by decide +kernel
theorem dL_law_518 : decode cL_law 518 = .ok (.iaload, 1) := by decide +kernel
theorem dL_law_519 : decode cL_law 519 = .ok (.invokevirtual 119, 3) := by decide +kernel
theorem dL_law_522 : decode cL_law 522 = .ok (.istore 6, 2) := by decide +kernel
theorem dL_law_524 : decode cL_law 524 = .ok (.aload_n 2, 1) := by decide +kernel
theorem dL_law_525 : decode cL_law 525 = .ok (.invokevirtual 103, 3) := by decide +kernel
theorem dL_law_528 : decode cL_law 528 = .ok (.iload 5, 2) := by decide +kernel
theorem dL_law_530 : decode cL_law 530 = .ok (.if_icmp .eq 5, 3) := by decide +kernel
theorem dL_law_533 : decode cL_law 533 = .ok (.iconst 0, 1) := by decide +kernel
theorem dL_law_534 : decode cL_law 534 = .ok (.ireturn, 1) := by decide +kernel
theorem dL_law_535 : decode cL_law 535 = .ok (.iload 5, 2) := by decide +kernel
theorem dL_law_537 : decode cL_law 537 = .ok (.ifCond .ne 15, 3) := by decide +kernel
theorem dL_law_540 : decode cL_law 540 = .ok (.aload_n 3, 1) := by decide +kernel
theorem dL_law_541 : decode cL_law 541 = .ok (.iconst 0, 1) := by decide +kernel
theorem dL_law_542 : decode cL_law 542 = .ok (.laload, 1) := by decide +kernel
theorem dL_law_543 : decode cL_law 543 = .ok (.iload 6, 2) := by decide +kernel
theorem dL_law_545 : decode cL_law 545 = .ok (.i2l, 1) := by decide +kernel
theorem dL_law_546 : decode cL_law 546 = .ok (.lcmp, 1) := by decide +kernel
theorem dL_law_547 : decode cL_law 547 = .ok (.ifCond .eq 5, 3) := by decide +kernel
theorem dL_law_550 : decode cL_law 550 = .ok (.iconst 0, 1) := by decide +kernel
theorem dL_law_551 : decode cL_law 551 = .ok (.ireturn, 1) := by decide +kernel
theorem dL_law_552 : decode cL_law 552 = .ok (.goto 1347, 3) := by decide +kernel
theorem dL_law_555 : decode cL_law 555 = .ok (.aload_n 1, 1) := by decide +kernel
theorem dL_law_556 : decode cL_law 556 = .ok (.aload_n 0, 1) := by decide +kernel
theorem dL_law_557 : decode cL_law 557 = .ok (.iload 4, 2) := by decide +kernel
theorem dL_law_559 : decode cL_law 559 = .ok (.iconst 1, 1) := by decide +kernel
theorem dL_law_560 : decode cL_law 560 = .ok (.iadd, 1) := by decide +kernel
theorem dL_law_561 : decode cL_law 561 = .ok (.iaload, 1) := by decide +kernel
theorem dL_law_562 : decode cL_law 562 = .ok (.aload_n 0, 1) := by decide +kernel
theorem dL_law_563 : decode cL_law 563 = .ok (.iload 4, 2) := by decide +kernel
theorem dL_law_565 : decode cL_law 565 = .ok (.iconst 2, 1) := by decide +kernel
theorem dL_law_566 : decode cL_law 566 = .ok (.iadd, 1) := by decide +kernel
theorem dL_law_567 : decode cL_law 567 = .ok (.iaload, 1) := by decide +kernel
theorem dL_law_568 : decode cL_law 568 = .ok (.aload_n 0, 1) := by decide +kernel
theorem dL_law_569 : decode cL_law 569 = .ok (.iload 4, 2) := by decide +kernel
theorem dL_law_571 : decode cL_law 571 = .ok (.iconst 3, 1) := by decide +kernel
theorem dL_law_572 : decode cL_law 572 = .ok (.iadd, 1) := by decide +kernel
theorem dL_law_573 : decode cL_law 573 = .ok (.iaload, 1) := by decide +kernel
theorem dL_law_574 : decode cL_law 574 = .ok (.aload_n 3, 1) := by decide +kernel
theorem dL_law_575 : decode cL_law 575 = .ok (.invokestatic 120, 3) := by decide +kernel
theorem dL_law_578 : decode cL_law 578 = .ok (.istore 5, 2) := by decide +kernel
theorem dL_law_580 : decode cL_law 580 = .ok (.aload_n 2, 1) := by decide +kernel
theorem dL_law_581 : decode cL_law 581 = .ok (.aload_n 0, 1) := by decide +kernel
theorem dL_law_582 : decode cL_law 582 = .ok (.iload 4, 2) := by decide +kernel
theorem dL_law_584 : decode cL_law 584 = .ok (.iconst 1, 1) := by decide +kernel
theorem dL_law_585 : decode cL_law 585 = .ok (.iadd, 1) := by decide +kernel
theorem dL_law_586 : decode cL_law 586 = .ok (.iaload, 1) := by decide +kernel
theorem dL_law_587 : decode cL_law 587 = .ok (.aload_n 0, 1) := by decide +kernel
theorem dL_law_588 : decode cL_law 588 = .ok (.iload 4, 2) := by decide +kernel
theorem dL_law_590 : decode cL_law 590 = .ok (.iconst 2, 1) := by decide +kernel
theorem dL_law_591 : decode cL_law 591 = .ok (.iadd, 1) := by decide +kernel
theorem dL_law_592 : decode cL_law 592 = .ok (.iaload, 1) := by decide +kernel
theorem dL_law_593 : decode cL_law 593 = .ok (.aload_n 0, 1) := by decide +kernel
theorem dL_law_594 : decode cL_law 594 = .ok (.iload 4, 2) := by decide +kernel
theorem dL_law_596 : decode cL_law 596 = .ok (.iconst 3, 1) := by decide +kernel
theorem dL_law_597 : decode cL_law 597 = .ok (.iadd, 1) := by decide +kernel
theorem dL_law_598 : decode cL_law 598 = .ok (.iaload, 1) := by decide +kernel
theorem dL_law_599 : decode cL_law 599 = .ok (.invokevirtual 123, 3) := by decide +kernel
theorem dL_law_602 : decode cL_law 602 = .ok (.istore 6, 2) := by decide +kernel
theorem dL_law_604 : decode cL_law 604 = .ok (.aload_n 2, 1) := by decide +kernel
theorem dL_law_605 : decode cL_law 605 = .ok (.invokevirtual 103, 3) := by decide +kernel
theorem dL_law_608 : decode cL_law 608 = .ok (.iload 5, 2) := by decide +kernel
theorem dL_law_610 : decode cL_law 610 = .ok (.if_icmp .eq 5, 3) := by decide +kernel
theorem dL_law_613 : decode cL_law 613 = .ok (.iconst 0, 1) := by decide +kernel
theorem dL_law_614 : decode cL_law 614 = .ok (.ireturn, 1) := by decide +kernel
theorem dL_law_615 : decode cL_law 615 = .ok (.iload 5, 2) := by decide +kernel
theorem dL_law_617 : decode cL_law 617 = .ok (.ifCond .ne 15, 3) := by decide +kernel
theorem dL_law_620 : decode cL_law 620 = .ok (.aload_n 3, 1) := by decide +kernel
theorem dL_law_621 : decode cL_law 621 = .ok (.iconst 0, 1) := by decide +kernel
theorem dL_law_622 : decode cL_law 622 = .ok (.laload, 1) := by decide +kernel
theorem dL_law_623 : decode cL_law 623 = .ok (.iload 6, 2) := by decide +kernel
theorem dL_law_625 : decode cL_law 625 = .ok (.i2l, 1) := by decide +kernel
theorem dL_law_626 : decode cL_law 626 = .ok (.lcmp, 1) := by decide +kernel
theorem dL_law_627 : decode cL_law 627 = .ok (.ifCond .eq 5, 3) := by decide +kernel
theorem dL_law_630 : decode cL_law 630 = .ok (.iconst 0, 1) := by decide +kernel
theorem dL_law_631 : decode cL_law 631 = .ok (.ireturn, 1) := by decide +kernel
theorem dL_law_632 : decode cL_law 632 = .ok (.goto 1267, 3) := by decide +kernel
theorem dL_law_635 : decode cL_law 635 = .ok (.aload_n 1, 1) := by decide +kernel
theorem dL_law_636 : decode cL_law 636 = .ok (.aload_n 0, 1) := by decide +kernel
theorem dL_law_637 : decode cL_law 637 = .ok (.iload 4, 2) := by decide +kernel
theorem dL_law_639 : decode cL_law 639 = .ok (.iconst 1, 1) := by decide +kernel
theorem dL_law_640 : decode cL_law 640 = .ok (.iadd, 1) := by decide +kernel
theorem dL_law_641 : decode cL_law 641 = .ok (.iaload, 1) := by decide +kernel
theorem dL_law_642 : decode cL_law 642 = .ok (.aload_n 0, 1) := by decide +kernel
theorem dL_law_643 : decode cL_law 643 = .ok (.iload 4, 2) := by decide +kernel
theorem dL_law_645 : decode cL_law 645 = .ok (.iconst 2, 1) := by decide +kernel
theorem dL_law_646 : decode cL_law 646 = .ok (.iadd, 1) := by decide +kernel
theorem dL_law_647 : decode cL_law 647 = .ok (.iaload, 1) := by decide +kernel
theorem dL_law_648 : decode cL_law 648 = .ok (.aload_n 3, 1) := by decide +kernel
theorem dL_law_649 : decode cL_law 649 = .ok (.invokestatic 124, 3) := by decide +kernel
theorem dL_law_652 : decode cL_law 652 = .ok (.istore 5, 2) := by decide +kernel
theorem dL_law_654 : decode cL_law 654 = .ok (.aload_n 2, 1) := by decide +kernel
theorem dL_law_655 : decode cL_law 655 = .ok (.aload_n 0, 1) := by decide +kernel
theorem dL_law_656 : decode cL_law 656 = .ok (.iload 4, 2) := by decide +kernel
theorem dL_law_658 : decode cL_law 658 = .ok (.iconst 1, 1) := by decide +kernel
theorem dL_law_659 : decode cL_law 659 = .ok (.iadd, 1) := by decide +kernel
theorem dL_law_660 : decode cL_law 660 = .ok (.iaload, 1) := by decide +kernel
theorem dL_law_661 : decode cL_law 661 = .ok (.aload_n 0, 1) := by decide +kernel
theorem dL_law_662 : decode cL_law 662 = .ok (.iload 4, 2) := by decide +kernel
theorem dL_law_664 : decode cL_law 664 = .ok (.iconst 2, 1) := by decide +kernel
theorem dL_law_665 : decode cL_law 665 = .ok (.iadd, 1) := by decide +kernel
theorem dL_law_666 : decode cL_law 666 = .ok (.iaload, 1) := by decide +kernel
theorem dL_law_667 : decode cL_law 667 = .ok (.invokevirtual 126, 3) := by decide +kernel
theorem dL_law_670 : decode cL_law 670 = .ok (.istore 6, 2) := by decide +kernel
theorem dL_law_672 : decode cL_law 672 = .ok (.aload_n 2, 1) := by decide +kernel
theorem dL_law_673 : decode cL_law 673 = .ok (.invokevirtual 103, 3) := by decide +kernel
theorem dL_law_676 : decode cL_law 676 = .ok (.iload 5, 2) := by decide +kernel
theorem dL_law_678 : decode cL_law 678 = .ok (.if_icmp .eq 5, 3) := by decide +kernel
theorem dL_law_681 : decode cL_law 681 = .ok (.iconst 0, 1) := by decide +kernel
theorem dL_law_682 : decode cL_law 682 = .ok (.ireturn, 1) := by decide +kernel
theorem dL_law_683 : decode cL_law 683 = .ok (.iload 5, 2) := by decide +kernel
theorem dL_law_685 : decode cL_law 685 = .ok (.ifCond .ne 15, 3) := by decide +kernel
theorem dL_law_688 : decode cL_law 688 = .ok (.aload_n 3, 1) := by decide +kernel
theorem dL_law_689 : decode cL_law 689 = .ok (.iconst 0, 1) := by decide +kernel
theorem dL_law_690 : decode cL_law 690 = .ok (.laload, 1) := by decide +kernel
theorem dL_law_691 : decode cL_law 691 = .ok (.iload 6, 2) := by decide +kernel
theorem dL_law_693 : decode cL_law 693 = .ok (.i2l, 1) := by decide +kernel
theorem dL_law_694 : decode cL_law 694 = .ok (.lcmp, 1) := by decide +kernel
theorem dL_law_695 : decode cL_law 695 = .ok (.ifCond .eq 5, 3) := by decide +kernel
theorem dL_law_698 : decode cL_law 698 = .ok (.iconst 0, 1) := by decide +kernel
theorem dL_law_699 : decode cL_law 699 = .ok (.ireturn, 1) := by decide +kernel
theorem dL_law_700 : decode cL_law 700 = .ok (.goto 1199, 3) := by decide +kernel
theorem dL_law_703 : decode cL_law 703 = .ok (.aload_n 1, 1) := by decide +kernel
theorem dL_law_704 : decode cL_law 704 = .ok (.aload_n 0, 1) := by decide +kernel
theorem dL_law_705 : decode cL_law 705 = .ok (.iload 4, 2) := by decide +kernel
theorem dL_law_707 : decode cL_law 707 = .ok (.iconst 1, 1) := by decide +kernel
theorem dL_law_708 : decode cL_law 708 = .ok (.iadd, 1) := by decide +kernel
theorem dL_law_709 : decode cL_law 709 = .ok (.iaload, 1) := by decide +kernel
theorem dL_law_710 : decode cL_law 710 = .ok (.aload_n 0, 1) := by decide +kernel
theorem dL_law_711 : decode cL_law 711 = .ok (.iload 4, 2) := by decide +kernel
theorem dL_law_713 : decode cL_law 713 = .ok (.iconst 2, 1) := by decide +kernel
theorem dL_law_714 : decode cL_law 714 = .ok (.iadd, 1) := by decide +kernel
theorem dL_law_715 : decode cL_law 715 = .ok (.iaload, 1) := by decide +kernel
theorem dL_law_716 : decode cL_law 716 = .ok (.aload_n 3, 1) := by decide +kernel
theorem dL_law_717 : decode cL_law 717 = .ok (.invokestatic 127, 3) := by decide +kernel
theorem dL_law_720 : decode cL_law 720 = .ok (.istore 5, 2) := by decide +kernel
theorem dL_law_722 : decode cL_law 722 = .ok (.aload_n 2, 1) := by decide +kernel
theorem dL_law_723 : decode cL_law 723 = .ok (.aload_n 0, 1) := by decide +kernel
theorem dL_law_724 : decode cL_law 724 = .ok (.iload 4, 2) := by decide +kernel
theorem dL_law_726 : decode cL_law 726 = .ok (.iconst 1, 1) := by decide +kernel
theorem dL_law_727 : decode cL_law 727 = .ok (.iadd, 1) := by decide +kernel
theorem dL_law_728 : decode cL_law 728 = .ok (.iaload, 1) := by decide +kernel
theorem dL_law_729 : decode cL_law 729 = .ok (.aload_n 0, 1) := by decide +kernel
theorem dL_law_730 : decode cL_law 730 = .ok (.iload 4, 2) := by decide +kernel
theorem dL_law_732 : decode cL_law 732 = .ok (.iconst 2, 1) := by decide +kernel
theorem dL_law_733 : decode cL_law 733 = .ok (.iadd, 1) := by decide +kernel
theorem dL_law_734 : decode cL_law 734 = .ok (.iaload, 1) := by decide +kernel
theorem dL_law_735 : decode cL_law 735 = .ok (.invokevirtual 129, 3) := by decide +kernel
theorem dL_law_738 : decode cL_law 738 = .ok (.istore 6, 2) := by decide +kernel
theorem dL_law_740 : decode cL_law 740 = .ok (.aload_n 2, 1) := by decide +kernel
theorem dL_law_741 : decode cL_law 741 = .ok (.invokevirtual 103, 3) := by decide +kernel
theorem dL_law_744 : decode cL_law 744 = .ok (.iload 5, 2) := by decide +kernel
theorem dL_law_746 : decode cL_law 746 = .ok (.if_icmp .eq 5, 3) := by decide +kernel
theorem dL_law_749 : decode cL_law 749 = .ok (.iconst 0, 1) := by decide +kernel
theorem dL_law_750 : decode cL_law 750 = .ok (.ireturn, 1) := by decide +kernel
theorem dL_law_751 : decode cL_law 751 = .ok (.iload 5, 2) := by decide +kernel
theorem dL_law_753 : decode cL_law 753 = .ok (.ifCond .ne 15, 3) := by decide +kernel
theorem dL_law_756 : decode cL_law 756 = .ok (.aload_n 3, 1) := by decide +kernel
theorem dL_law_757 : decode cL_law 757 = .ok (.iconst 0, 1) := by decide +kernel
theorem dL_law_758 : decode cL_law 758 = .ok (.laload, 1) := by decide +kernel
theorem dL_law_759 : decode cL_law 759 = .ok (.iload 6, 2) := by decide +kernel
theorem dL_law_761 : decode cL_law 761 = .ok (.i2l, 1) := by decide +kernel
theorem dL_law_762 : decode cL_law 762 = .ok (.lcmp, 1) := by decide +kernel
theorem dL_law_763 : decode cL_law 763 = .ok (.ifCond .eq 5, 3) := by decide +kernel
theorem dL_law_766 : decode cL_law 766 = .ok (.iconst 0, 1) := by decide +kernel
theorem dL_law_767 : decode cL_law 767 = .ok (.ireturn, 1) := by decide +kernel
theorem dL_law_768 : decode cL_law 768 = .ok (.goto 1131, 3) := by decide +kernel
theorem dL_law_771 : decode cL_law 771 = .ok (.aload_n 1, 1) := by decide +kernel
theorem dL_law_772 : decode cL_law 772 = .ok (.aload_n 0, 1) := by decide +kernel
theorem dL_law_773 : decode cL_law 773 = .ok (.iload 4, 2) := by decide +kernel
theorem dL_law_775 : decode cL_law 775 = .ok (.iconst 1, 1) := by decide +kernel
theorem dL_law_776 : decode cL_law 776 = .ok (.iadd, 1) := by decide +kernel
theorem dL_law_777 : decode cL_law 777 = .ok (.iaload, 1) := by decide +kernel
theorem dL_law_778 : decode cL_law 778 = .ok (.aload_n 0, 1) := by decide +kernel
theorem dL_law_779 : decode cL_law 779 = .ok (.iload 4, 2) := by decide +kernel
theorem dL_law_781 : decode cL_law 781 = .ok (.iconst 2, 1) := by decide +kernel
theorem dL_law_782 : decode cL_law 782 = .ok (.iadd, 1) := by decide +kernel
theorem dL_law_783 : decode cL_law 783 = .ok (.iaload, 1) := by decide +kernel
theorem dL_law_784 : decode cL_law 784 = .ok (.aload_n 0, 1) := by decide +kernel
theorem dL_law_785 : decode cL_law 785 = .ok (.iload 4, 2) := by decide +kernel
theorem dL_law_787 : decode cL_law 787 = .ok (.iconst 3, 1) := by decide +kernel
theorem dL_law_788 : decode cL_law 788 = .ok (.iadd, 1) := by decide +kernel
theorem dL_law_789 : decode cL_law 789 = .ok (.iaload, 1) := by decide +kernel
theorem dL_law_790 : decode cL_law 790 = .ok (.aload_n 0, 1) := by decide +kernel
theorem dL_law_791 : decode cL_law 791 = .ok (.iload 4, 2) := by decide +kernel
theorem dL_law_793 : decode cL_law 793 = .ok (.iconst 4, 1) := by decide +kernel
theorem dL_law_794 : decode cL_law 794 = .ok (.iadd, 1) := by decide +kernel
theorem dL_law_795 : decode cL_law 795 = .ok (.iaload, 1) := by decide +kernel
theorem dL_law_796 : decode cL_law 796 = .ok (.aload_n 3, 1) := by decide +kernel
theorem dL_law_797 : decode cL_law 797 = .ok (.invokestatic 130, 3) := by decide +kernel
theorem dL_law_800 : decode cL_law 800 = .ok (.istore 5, 2) := by decide +kernel
theorem dL_law_802 : decode cL_law 802 = .ok (.aload_n 2, 1) := by decide +kernel
theorem dL_law_803 : decode cL_law 803 = .ok (.aload_n 0, 1) := by decide +kernel
theorem dL_law_804 : decode cL_law 804 = .ok (.iload 4, 2) := by decide +kernel
theorem dL_law_806 : decode cL_law 806 = .ok (.iconst 1, 1) := by decide +kernel
theorem dL_law_807 : decode cL_law 807 = .ok (.iadd, 1) := by decide +kernel
theorem dL_law_808 : decode cL_law 808 = .ok (.iaload, 1) := by decide +kernel
theorem dL_law_809 : decode cL_law 809 = .ok (.aload_n 0, 1) := by decide +kernel
theorem dL_law_810 : decode cL_law 810 = .ok (.iload 4, 2) := by decide +kernel
theorem dL_law_812 : decode cL_law 812 = .ok (.iconst 2, 1) := by decide +kernel
theorem dL_law_813 : decode cL_law 813 = .ok (.iadd, 1) := by decide +kernel
theorem dL_law_814 : decode cL_law 814 = .ok (.iaload, 1) := by decide +kernel
theorem dL_law_815 : decode cL_law 815 = .ok (.aload_n 0, 1) := by decide +kernel
theorem dL_law_816 : decode cL_law 816 = .ok (.iload 4, 2) := by decide +kernel
theorem dL_law_818 : decode cL_law 818 = .ok (.iconst 3, 1) := by decide +kernel
theorem dL_law_819 : decode cL_law 819 = .ok (.iadd, 1) := by decide +kernel
theorem dL_law_820 : decode cL_law 820 = .ok (.iaload, 1) := by decide +kernel
theorem dL_law_821 : decode cL_law 821 = .ok (.aload_n 0, 1) := by decide +kernel
theorem dL_law_822 : decode cL_law 822 = .ok (.iload 4, 2) := by decide +kernel
theorem dL_law_824 : decode cL_law 824 = .ok (.iconst 4, 1) := by decide +kernel
theorem dL_law_825 : decode cL_law 825 = .ok (.iadd, 1) := by decide +kernel
theorem dL_law_826 : decode cL_law 826 = .ok (.iaload, 1) := by decide +kernel
theorem dL_law_827 : decode cL_law 827 = .ok (.invokevirtual 133, 3) := by decide +kernel
theorem dL_law_830 : decode cL_law 830 = .ok (.istore 6, 2) := by decide +kernel
theorem dL_law_832 : decode cL_law 832 = .ok (.aload_n 2, 1) := by decide +kernel
theorem dL_law_833 : decode cL_law 833 = .ok (.invokevirtual 103, 3) := by decide +kernel
theorem dL_law_836 : decode cL_law 836 = .ok (.iload 5, 2) := by decide +kernel
theorem dL_law_838 : decode cL_law 838 = .ok (.if_icmp .eq 5, 3) := by decide +kernel
theorem dL_law_841 : decode cL_law 841 = .ok (.iconst 0, 1) := by decide +kernel
theorem dL_law_842 : decode cL_law 842 = .ok (.ireturn, 1) := by decide +kernel
theorem dL_law_843 : decode cL_law 843 = .ok (.iload 5, 2) := by decide +kernel
theorem dL_law_845 : decode cL_law 845 = .ok (.ifCond .ne 15, 3) := by decide +kernel
theorem dL_law_848 : decode cL_law 848 = .ok (.aload_n 3, 1) := by decide +kernel
theorem dL_law_849 : decode cL_law 849 = .ok (.iconst 0, 1) := by decide +kernel
theorem dL_law_850 : decode cL_law 850 = .ok (.laload, 1) := by decide +kernel
theorem dL_law_851 : decode cL_law 851 = .ok (.iload 6, 2) := by decide +kernel
theorem dL_law_853 : decode cL_law 853 = .ok (.i2l, 1) := by decide +kernel
theorem dL_law_854 : decode cL_law 854 = .ok (.lcmp, 1) := by decide +kernel
theorem dL_law_855 : decode cL_law 855 = .ok (.ifCond .eq 5, 3) := by decide +kernel
theorem dL_law_858 : decode cL_law 858 = .ok (.iconst 0, 1) := by decide +kernel
theorem dL_law_859 : decode cL_law 859 = .ok (.ireturn, 1) := by decide +kernel
theorem dL_law_860 : decode cL_law 860 = .ok (.goto 1039, 3) := by decide +kernel
theorem dL_law_863 : decode cL_law 863 = .ok (.aload_n 1, 1) := by decide +kernel
theorem dL_law_864 : decode cL_law 864 = .ok (.aload_n 0, 1) := by decide +kernel
theorem dL_law_865 : decode cL_law 865 = .ok (.iload 4, 2) := by decide +kernel
theorem dL_law_867 : decode cL_law 867 = .ok (.iconst 1, 1) := by decide +kernel
theorem dL_law_868 : decode cL_law 868 = .ok (.iadd, 1) := by decide +kernel
theorem dL_law_869 : decode cL_law 869 = .ok (.iaload, 1) := by decide +kernel
theorem dL_law_870 : decode cL_law 870 = .ok (.aload_n 0, 1) := by decide +kernel
theorem dL_law_871 : decode cL_law 871 = .ok (.iload 4, 2) := by decide +kernel
theorem dL_law_873 : decode cL_law 873 = .ok (.iconst 2, 1) := by decide +kernel
theorem dL_law_874 : decode cL_law 874 = .ok (.iadd, 1) := by decide +kernel
theorem dL_law_875 : decode cL_law 875 = .ok (.iaload, 1) := by decide +kernel
theorem dL_law_876 : decode cL_law 876 = .ok (.aload_n 3, 1) := by decide +kernel
theorem dL_law_877 : decode cL_law 877 = .ok (.invokestatic 134, 3) := by decide +kernel
theorem dL_law_880 : decode cL_law 880 = .ok (.istore 5, 2) := by decide +kernel
theorem dL_law_882 : decode cL_law 882 = .ok (.aload_n 2, 1) := by decide +kernel
theorem dL_law_883 : decode cL_law 883 = .ok (.aload_n 0, 1) := by decide +kernel
theorem dL_law_884 : decode cL_law 884 = .ok (.iload 4, 2) := by decide +kernel
theorem dL_law_886 : decode cL_law 886 = .ok (.iconst 1, 1) := by decide +kernel
theorem dL_law_887 : decode cL_law 887 = .ok (.iadd, 1) := by decide +kernel
theorem dL_law_888 : decode cL_law 888 = .ok (.iaload, 1) := by decide +kernel
theorem dL_law_889 : decode cL_law 889 = .ok (.aload_n 0, 1) := by decide +kernel
theorem dL_law_890 : decode cL_law 890 = .ok (.iload 4, 2) := by decide +kernel
theorem dL_law_892 : decode cL_law 892 = .ok (.iconst 2, 1) := by decide +kernel
theorem dL_law_893 : decode cL_law 893 = .ok (.iadd, 1) := by decide +kernel
theorem dL_law_894 : decode cL_law 894 = .ok (.iaload, 1) := by decide +kernel
theorem dL_law_895 : decode cL_law 895 = .ok (.invokevirtual 136, 3) := by decide +kernel
theorem dL_law_898 : decode cL_law 898 = .ok (.istore 6, 2) := by decide +kernel
theorem dL_law_900 : decode cL_law 900 = .ok (.aload_n 2, 1) := by decide +kernel
theorem dL_law_901 : decode cL_law 901 = .ok (.invokevirtual 103, 3) := by decide +kernel
theorem dL_law_904 : decode cL_law 904 = .ok (.iload 5, 2) := by decide +kernel
theorem dL_law_906 : decode cL_law 906 = .ok (.if_icmp .eq 5, 3) := by decide +kernel
theorem dL_law_909 : decode cL_law 909 = .ok (.iconst 0, 1) := by decide +kernel
theorem dL_law_910 : decode cL_law 910 = .ok (.ireturn, 1) := by decide +kernel
theorem dL_law_911 : decode cL_law 911 = .ok (.iload 5, 2) := by decide +kernel
theorem dL_law_913 : decode cL_law 913 = .ok (.ifCond .ne 15, 3) := by decide +kernel
theorem dL_law_916 : decode cL_law 916 = .ok (.aload_n 3, 1) := by decide +kernel
theorem dL_law_917 : decode cL_law 917 = .ok (.iconst 0, 1) := by decide +kernel
theorem dL_law_918 : decode cL_law 918 = .ok (.laload, 1) := by decide +kernel
theorem dL_law_919 : decode cL_law 919 = .ok (.iload 6, 2) := by decide +kernel
theorem dL_law_921 : decode cL_law 921 = .ok (.i2l, 1) := by decide +kernel
theorem dL_law_922 : decode cL_law 922 = .ok (.lcmp, 1) := by decide +kernel
theorem dL_law_923 : decode cL_law 923 = .ok (.ifCond .eq 5, 3) := by decide +kernel
theorem dL_law_926 : decode cL_law 926 = .ok (.iconst 0, 1) := by decide +kernel
theorem dL_law_927 : decode cL_law 927 = .ok (.ireturn, 1) := by decide +kernel
theorem dL_law_928 : decode cL_law 928 = .ok (.goto 971, 3) := by decide +kernel
theorem dL_law_931 : decode cL_law 931 = .ok (.aload_n 1, 1) := by decide +kernel
theorem dL_law_932 : decode cL_law 932 = .ok (.aload_n 0, 1) := by decide +kernel
theorem dL_law_933 : decode cL_law 933 = .ok (.iload 4, 2) := by decide +kernel
theorem dL_law_935 : decode cL_law 935 = .ok (.iconst 1, 1) := by decide +kernel
theorem dL_law_936 : decode cL_law 936 = .ok (.iadd, 1) := by decide +kernel
theorem dL_law_937 : decode cL_law 937 = .ok (.iaload, 1) := by decide +kernel
theorem dL_law_938 : decode cL_law 938 = .ok (.aload_n 0, 1) := by decide +kernel
theorem dL_law_939 : decode cL_law 939 = .ok (.iload 4, 2) := by decide +kernel
theorem dL_law_941 : decode cL_law 941 = .ok (.iconst 2, 1) := by decide +kernel
theorem dL_law_942 : decode cL_law 942 = .ok (.iadd, 1) := by decide +kernel
theorem dL_law_943 : decode cL_law 943 = .ok (.iaload, 1) := by decide +kernel
theorem dL_law_944 : decode cL_law 944 = .ok (.aload_n 0, 1) := by decide +kernel
theorem dL_law_945 : decode cL_law 945 = .ok (.iload 4, 2) := by decide +kernel
theorem dL_law_947 : decode cL_law 947 = .ok (.iconst 3, 1) := by decide +kernel
theorem dL_law_948 : decode cL_law 948 = .ok (.iadd, 1) := by decide +kernel
theorem dL_law_949 : decode cL_law 949 = .ok (.iaload, 1) := by decide +kernel
theorem dL_law_950 : decode cL_law 950 = .ok (.aload_n 3, 1) := by decide +kernel
theorem dL_law_951 : decode cL_law 951 = .ok (.invokestatic 137, 3) := by decide +kernel
theorem dL_law_954 : decode cL_law 954 = .ok (.istore 5, 2) := by decide +kernel
theorem dL_law_956 : decode cL_law 956 = .ok (.aload_n 2, 1) := by decide +kernel
theorem dL_law_957 : decode cL_law 957 = .ok (.aload_n 0, 1) := by decide +kernel
theorem dL_law_958 : decode cL_law 958 = .ok (.iload 4, 2) := by decide +kernel
theorem dL_law_960 : decode cL_law 960 = .ok (.iconst 1, 1) := by decide +kernel
theorem dL_law_961 : decode cL_law 961 = .ok (.iadd, 1) := by decide +kernel
theorem dL_law_962 : decode cL_law 962 = .ok (.iaload, 1) := by decide +kernel
theorem dL_law_963 : decode cL_law 963 = .ok (.aload_n 0, 1) := by decide +kernel
theorem dL_law_964 : decode cL_law 964 = .ok (.iload 4, 2) := by decide +kernel
theorem dL_law_966 : decode cL_law 966 = .ok (.iconst 2, 1) := by decide +kernel
theorem dL_law_967 : decode cL_law 967 = .ok (.iadd, 1) := by decide +kernel
theorem dL_law_968 : decode cL_law 968 = .ok (.iaload, 1) := by decide +kernel
theorem dL_law_969 : decode cL_law 969 = .ok (.aload_n 0, 1) := by decide +kernel
theorem dL_law_970 : decode cL_law 970 = .ok (.iload 4, 2) := by decide +kernel
theorem dL_law_972 : decode cL_law 972 = .ok (.iconst 3, 1) := by decide +kernel
theorem dL_law_973 : decode cL_law 973 = .ok (.iadd, 1) := by decide +kernel
theorem dL_law_974 : decode cL_law 974 = .ok (.iaload, 1) := by decide +kernel
theorem dL_law_975 : decode cL_law 975 = .ok (.invokevirtual 139, 3) := by decide +kernel
theorem dL_law_978 : decode cL_law 978 = .ok (.istore 6, 2) := by decide +kernel
theorem dL_law_980 : decode cL_law 980 = .ok (.aload_n 2, 1) := by decide +kernel
theorem dL_law_981 : decode cL_law 981 = .ok (.invokevirtual 103, 3) := by decide +kernel
theorem dL_law_984 : decode cL_law 984 = .ok (.iload 5, 2) := by decide +kernel
theorem dL_law_986 : decode cL_law 986 = .ok (.if_icmp .eq 5, 3) := by decide +kernel
theorem dL_law_989 : decode cL_law 989 = .ok (.iconst 0, 1) := by decide +kernel
theorem dL_law_990 : decode cL_law 990 = .ok (.ireturn, 1) := by decide +kernel
theorem dL_law_991 : decode cL_law 991 = .ok (.iload 5, 2) := by decide +kernel
theorem dL_law_993 : decode cL_law 993 = .ok (.ifCond .ne 15, 3) := by decide +kernel
theorem dL_law_996 : decode cL_law 996 = .ok (.aload_n 3, 1) := by decide +kernel
theorem dL_law_997 : decode cL_law 997 = .ok (.iconst 0, 1) := by decide +kernel
theorem dL_law_998 : decode cL_law 998 = .ok (.laload, 1) := by decide +kernel
theorem dL_law_999 : decode cL_law 999 = .ok (.iload 6, 2) := by decide +kernel
theorem dL_law_1001 : decode cL_law 1001 = .ok (.i2l, 1) := by decide +kernel
theorem dL_law_1002 : decode cL_law 1002 = .ok (.lcmp, 1) := by decide +kernel
theorem dL_law_1003 : decode cL_law 1003 = .ok (.ifCond .eq 5, 3) := by decide +kernel
theorem dL_law_1006 : decode cL_law 1006 = .ok (.iconst 0, 1) := by decide +kernel
theorem dL_law_1007 : decode cL_law 1007 = .ok (.ireturn, 1) := by decide +kernel
theorem dL_law_1008 : decode cL_law 1008 = .ok (.goto 891, 3) := by decide +kernel
theorem dL_law_1011 : decode cL_law 1011 = .ok (.aload_n 1, 1) := by decide +kernel
theorem dL_law_1012 : decode cL_law 1012 = .ok (.aload_n 0, 1) := by decide +kernel
theorem dL_law_1013 : decode cL_law 1013 = .ok (.iload 4, 2) := by decide +kernel
theorem dL_law_1015 : decode cL_law 1015 = .ok (.iconst 1, 1) := by decide +kernel
theorem dL_law_1016 : decode cL_law 1016 = .ok (.iadd, 1) := by decide +kernel
theorem dL_law_1017 : decode cL_law 1017 = .ok (.iaload, 1) := by decide +kernel
theorem dL_law_1018 : decode cL_law 1018 = .ok (.aload_n 0, 1) := by decide +kernel
theorem dL_law_1019 : decode cL_law 1019 = .ok (.iload 4, 2) := by decide +kernel
theorem dL_law_1021 : decode cL_law 1021 = .ok (.iconst 2, 1) := by decide +kernel
theorem dL_law_1022 : decode cL_law 1022 = .ok (.iadd, 1) := by decide +kernel
theorem dL_law_1023 : decode cL_law 1023 = .ok (.iaload, 1) := by decide +kernel
theorem dL_law_1024 : decode cL_law 1024 = .ok (.aload_n 3, 1) := by decide +kernel
theorem dL_law_1025 : decode cL_law 1025 = .ok (.invokestatic 140, 3) := by decide +kernel
theorem dL_law_1028 : decode cL_law 1028 = .ok (.istore 5, 2) := by decide +kernel
theorem dL_law_1030 : decode cL_law 1030 = .ok (.aload_n 2, 1) := by decide +kernel
theorem dL_law_1031 : decode cL_law 1031 = .ok (.aload_n 0, 1) := by decide +kernel
theorem dL_law_1032 : decode cL_law 1032 = .ok (.iload 4, 2) := by decide +kernel
theorem dL_law_1034 : decode cL_law 1034 = .ok (.iconst 1, 1) := by decide +kernel
theorem dL_law_1035 : decode cL_law 1035 = .ok (.iadd, 1) := by decide +kernel
theorem dL_law_1036 : decode cL_law 1036 = .ok (.iaload, 1) := by decide +kernel
theorem dL_law_1037 : decode cL_law 1037 = .ok (.aload_n 0, 1) := by decide +kernel
theorem dL_law_1038 : decode cL_law 1038 = .ok (.iload 4, 2) := by decide +kernel
theorem dL_law_1040 : decode cL_law 1040 = .ok (.iconst 2, 1) := by decide +kernel
theorem dL_law_1041 : decode cL_law 1041 = .ok (.iadd, 1) := by decide +kernel
theorem dL_law_1042 : decode cL_law 1042 = .ok (.iaload, 1) := by decide +kernel
theorem dL_law_1043 : decode cL_law 1043 = .ok (.invokevirtual 142, 3) := by decide +kernel
theorem dL_law_1046 : decode cL_law 1046 = .ok (.istore 6, 2) := by decide +kernel
theorem dL_law_1048 : decode cL_law 1048 = .ok (.aload_n 2, 1) := by decide +kernel
theorem dL_law_1049 : decode cL_law 1049 = .ok (.invokevirtual 103, 3) := by decide +kernel
theorem dL_law_1052 : decode cL_law 1052 = .ok (.iload 5, 2) := by decide +kernel
theorem dL_law_1054 : decode cL_law 1054 = .ok (.if_icmp .eq 5, 3) := by decide +kernel
theorem dL_law_1057 : decode cL_law 1057 = .ok (.iconst 0, 1) := by decide +kernel
theorem dL_law_1058 : decode cL_law 1058 = .ok (.ireturn, 1) := by decide +kernel
theorem dL_law_1059 : decode cL_law 1059 = .ok (.iload 5, 2) := by decide +kernel
theorem dL_law_1061 : decode cL_law 1061 = .ok (.ifCond .ne 15, 3) := by decide +kernel
theorem dL_law_1064 : decode cL_law 1064 = .ok (.aload_n 3, 1) := by decide +kernel
theorem dL_law_1065 : decode cL_law 1065 = .ok (.iconst 0, 1) := by decide +kernel
theorem dL_law_1066 : decode cL_law 1066 = .ok (.laload, 1) := by decide +kernel
theorem dL_law_1067 : decode cL_law 1067 = .ok (.iload 6, 2) := by decide +kernel
theorem dL_law_1069 : decode cL_law 1069 = .ok (.i2l, 1) := by decide +kernel
theorem dL_law_1070 : decode cL_law 1070 = .ok (.lcmp, 1) := by decide +kernel
theorem dL_law_1071 : decode cL_law 1071 = .ok (.ifCond .eq 5, 3) := by decide +kernel
theorem dL_law_1074 : decode cL_law 1074 = .ok (.iconst 0, 1) := by decide +kernel
theorem dL_law_1075 : decode cL_law 1075 = .ok (.ireturn, 1) := by decide +kernel
theorem dL_law_1076 : decode cL_law 1076 = .ok (.goto 823, 3) := by decide +kernel
theorem dL_law_1079 : decode cL_law 1079 = .ok (.aload_n 1, 1) := by decide +kernel
theorem dL_law_1080 : decode cL_law 1080 = .ok (.aload_n 0, 1) := by decide +kernel
theorem dL_law_1081 : decode cL_law 1081 = .ok (.iload 4, 2) := by decide +kernel
theorem dL_law_1083 : decode cL_law 1083 = .ok (.iconst 1, 1) := by decide +kernel
theorem dL_law_1084 : decode cL_law 1084 = .ok (.iadd, 1) := by decide +kernel
theorem dL_law_1085 : decode cL_law 1085 = .ok (.iaload, 1) := by decide +kernel
theorem dL_law_1086 : decode cL_law 1086 = .ok (.aload_n 0, 1) := by decide +kernel
theorem dL_law_1087 : decode cL_law 1087 = .ok (.iload 4, 2) := by decide +kernel
theorem dL_law_1089 : decode cL_law 1089 = .ok (.iconst 2, 1) := by decide +kernel
theorem dL_law_1090 : decode cL_law 1090 = .ok (.iadd, 1) := by decide +kernel
theorem dL_law_1091 : decode cL_law 1091 = .ok (.iaload, 1) := by decide +kernel
theorem dL_law_1092 : decode cL_law 1092 = .ok (.aload_n 3, 1) := by decide +kernel
theorem dL_law_1093 : decode cL_law 1093 = .ok (.invokestatic 143, 3) := by decide +kernel
theorem dL_law_1096 : decode cL_law 1096 = .ok (.istore 5, 2) := by decide +kernel
theorem dL_law_1098 : decode cL_law 1098 = .ok (.aload_n 2, 1) := by decide +kernel
theorem dL_law_1099 : decode cL_law 1099 = .ok (.aload_n 0, 1) := by decide +kernel
theorem dL_law_1100 : decode cL_law 1100 = .ok (.iload 4, 2) := by decide +kernel
theorem dL_law_1102 : decode cL_law 1102 = .ok (.iconst 1, 1) := by decide +kernel
theorem dL_law_1103 : decode cL_law 1103 = .ok (.iadd, 1) := by decide +kernel
theorem dL_law_1104 : decode cL_law 1104 = .ok (.iaload, 1) := by decide +kernel
theorem dL_law_1105 : decode cL_law 1105 = .ok (.aload_n 0, 1) := by decide +kernel
theorem dL_law_1106 : decode cL_law 1106 = .ok (.iload 4, 2) := by decide +kernel
theorem dL_law_1108 : decode cL_law 1108 = .ok (.iconst 2, 1) := by decide +kernel
theorem dL_law_1109 : decode cL_law 1109 = .ok (.iadd, 1) := by decide +kernel
theorem dL_law_1110 : decode cL_law 1110 = .ok (.iaload, 1) := by decide +kernel
theorem dL_law_1111 : decode cL_law 1111 = .ok (.invokevirtual 145, 3) := by decide +kernel
theorem dL_law_1114 : decode cL_law 1114 = .ok (.istore 6, 2) := by decide +kernel
theorem dL_law_1116 : decode cL_law 1116 = .ok (.aload_n 2, 1) := by decide +kernel
theorem dL_law_1117 : decode cL_law 1117 = .ok (.invokevirtual 103, 3) := by decide +kernel
theorem dL_law_1120 : decode cL_law 1120 = .ok (.iload 5, 2) := by decide +kernel
theorem dL_law_1122 : decode cL_law 1122 = .ok (.if_icmp .eq 5, 3) := by decide +kernel
theorem dL_law_1125 : decode cL_law 1125 = .ok (.iconst 0, 1) := by decide +kernel
theorem dL_law_1126 : decode cL_law 1126 = .ok (.ireturn, 1) := by decide +kernel
theorem dL_law_1127 : decode cL_law 1127 = .ok (.iload 5, 2) := by decide +kernel
theorem dL_law_1129 : decode cL_law 1129 = .ok (.ifCond .ne 15, 3) := by decide +kernel
theorem dL_law_1132 : decode cL_law 1132 = .ok (.aload_n 3, 1) := by decide +kernel
theorem dL_law_1133 : decode cL_law 1133 = .ok (.iconst 0, 1) := by decide +kernel
theorem dL_law_1134 : decode cL_law 1134 = .ok (.laload, 1) := by decide +kernel
theorem dL_law_1135 : decode cL_law 1135 = .ok (.iload 6, 2) := by decide +kernel
theorem dL_law_1137 : decode cL_law 1137 = .ok (.i2l, 1) := by decide +kernel
theorem dL_law_1138 : decode cL_law 1138 = .ok (.lcmp, 1) := by decide +kernel
theorem dL_law_1139 : decode cL_law 1139 = .ok (.ifCond .eq 5, 3) := by decide +kernel
theorem dL_law_1142 : decode cL_law 1142 = .ok (.iconst 0, 1) := by decide +kernel
theorem dL_law_1143 : decode cL_law 1143 = .ok (.ireturn, 1) := by decide +kernel
theorem dL_law_1144 : decode cL_law 1144 = .ok (.goto 755, 3) := by decide +kernel
theorem dL_law_1147 : decode cL_law 1147 = .ok (.aload_n 1, 1) := by decide +kernel
theorem dL_law_1148 : decode cL_law 1148 = .ok (.aload_n 0, 1) := by decide +kernel
theorem dL_law_1149 : decode cL_law 1149 = .ok (.iload 4, 2) := by decide +kernel
theorem dL_law_1151 : decode cL_law 1151 = .ok (.iconst 1, 1) := by decide +kernel
theorem dL_law_1152 : decode cL_law 1152 = .ok (.iadd, 1) := by decide +kernel
theorem dL_law_1153 : decode cL_law 1153 = .ok (.iaload, 1) := by decide +kernel
theorem dL_law_1154 : decode cL_law 1154 = .ok (.aload_n 3, 1) := by decide +kernel
theorem dL_law_1155 : decode cL_law 1155 = .ok (.invokestatic 146, 3) := by decide +kernel
theorem dL_law_1158 : decode cL_law 1158 = .ok (.istore 5, 2) := by decide +kernel
theorem dL_law_1160 : decode cL_law 1160 = .ok (.aload_n 2, 1) := by decide +kernel
theorem dL_law_1161 : decode cL_law 1161 = .ok (.aload_n 0, 1) := by decide +kernel
theorem dL_law_1162 : decode cL_law 1162 = .ok (.iload 4, 2) := by decide +kernel
theorem dL_law_1164 : decode cL_law 1164 = .ok (.iconst 1, 1) := by decide +kernel
theorem dL_law_1165 : decode cL_law 1165 = .ok (.iadd, 1) := by decide +kernel
theorem dL_law_1166 : decode cL_law 1166 = .ok (.iaload, 1) := by decide +kernel
theorem dL_law_1167 : decode cL_law 1167 = .ok (.invokevirtual 148, 3) := by decide +kernel
theorem dL_law_1170 : decode cL_law 1170 = .ok (.istore 6, 2) := by decide +kernel
theorem dL_law_1172 : decode cL_law 1172 = .ok (.aload_n 2, 1) := by decide +kernel
theorem dL_law_1173 : decode cL_law 1173 = .ok (.invokevirtual 103, 3) := by decide +kernel
theorem dL_law_1176 : decode cL_law 1176 = .ok (.iload 5, 2) := by decide +kernel
theorem dL_law_1178 : decode cL_law 1178 = .ok (.if_icmp .eq 5, 3) := by decide +kernel
theorem dL_law_1181 : decode cL_law 1181 = .ok (.iconst 0, 1) := by decide +kernel
theorem dL_law_1182 : decode cL_law 1182 = .ok (.ireturn, 1) := by decide +kernel
theorem dL_law_1183 : decode cL_law 1183 = .ok (.iload 5, 2) := by decide +kernel
theorem dL_law_1185 : decode cL_law 1185 = .ok (.ifCond .ne 15, 3) := by decide +kernel
theorem dL_law_1188 : decode cL_law 1188 = .ok (.aload_n 3, 1) := by decide +kernel
theorem dL_law_1189 : decode cL_law 1189 = .ok (.iconst 0, 1) := by decide +kernel
theorem dL_law_1190 : decode cL_law 1190 = .ok (.laload, 1) := by decide +kernel
theorem dL_law_1191 : decode cL_law 1191 = .ok (.iload 6, 2) := by decide +kernel
theorem dL_law_1193 : decode cL_law 1193 = .ok (.i2l, 1) := by decide +kernel
theorem dL_law_1194 : decode cL_law 1194 = .ok (.lcmp, 1) := by decide +kernel
theorem dL_law_1195 : decode cL_law 1195 = .ok (.ifCond .eq 5, 3) := by decide +kernel
theorem dL_law_1198 : decode cL_law 1198 = .ok (.iconst 0, 1) := by decide +kernel
theorem dL_law_1199 : decode cL_law 1199 = .ok (.ireturn, 1) := by decide +kernel
theorem dL_law_1200 : decode cL_law 1200 = .ok (.goto 699, 3) := by decide +kernel
theorem dL_law_1203 : decode cL_law 1203 = .ok (.aload_n 1, 1) := by decide +kernel
theorem dL_law_1204 : decode cL_law 1204 = .ok (.aload_n 0, 1) := by decide +kernel
theorem dL_law_1205 : decode cL_law 1205 = .ok (.iload 4, 2) := by decide +kernel
theorem dL_law_1207 : decode cL_law 1207 = .ok (.iconst 1, 1) := by decide +kernel
theorem dL_law_1208 : decode cL_law 1208 = .ok (.iadd, 1) := by decide +kernel
theorem dL_law_1209 : decode cL_law 1209 = .ok (.iaload, 1) := by decide +kernel
theorem dL_law_1210 : decode cL_law 1210 = .ok (.aload_n 0, 1) := by decide +kernel
theorem dL_law_1211 : decode cL_law 1211 = .ok (.iload 4, 2) := by decide +kernel
theorem dL_law_1213 : decode cL_law 1213 = .ok (.iconst 2, 1) := by decide +kernel
theorem dL_law_1214 : decode cL_law 1214 = .ok (.iadd, 1) := by decide +kernel
theorem dL_law_1215 : decode cL_law 1215 = .ok (.iaload, 1) := by decide +kernel
theorem dL_law_1216 : decode cL_law 1216 = .ok (.aload_n 3, 1) := by decide +kernel
theorem dL_law_1217 : decode cL_law 1217 = .ok (.invokestatic 149, 3) := by decide +kernel
theorem dL_law_1220 : decode cL_law 1220 = .ok (.istore 5, 2) := by decide +kernel
theorem dL_law_1222 : decode cL_law 1222 = .ok (.aload_n 2, 1) := by decide +kernel
theorem dL_law_1223 : decode cL_law 1223 = .ok (.aload_n 0, 1) := by decide +kernel
theorem dL_law_1224 : decode cL_law 1224 = .ok (.iload 4, 2) := by decide +kernel
theorem dL_law_1226 : decode cL_law 1226 = .ok (.iconst 1, 1) := by decide +kernel
theorem dL_law_1227 : decode cL_law 1227 = .ok (.iadd, 1) := by decide +kernel
theorem dL_law_1228 : decode cL_law 1228 = .ok (.iaload, 1) := by decide +kernel
theorem dL_law_1229 : decode cL_law 1229 = .ok (.aload_n 0, 1) := by decide +kernel
theorem dL_law_1230 : decode cL_law 1230 = .ok (.iload 4, 2) := by decide +kernel
theorem dL_law_1232 : decode cL_law 1232 = .ok (.iconst 2, 1) := by decide +kernel
theorem dL_law_1233 : decode cL_law 1233 = .ok (.iadd, 1) := by decide +kernel
theorem dL_law_1234 : decode cL_law 1234 = .ok (.iaload, 1) := by decide +kernel
theorem dL_law_1235 : decode cL_law 1235 = .ok (.invokevirtual 151, 3) := by decide +kernel
theorem dL_law_1238 : decode cL_law 1238 = .ok (.istore 6, 2) := by decide +kernel
theorem dL_law_1240 : decode cL_law 1240 = .ok (.aload_n 2, 1) := by decide +kernel
theorem dL_law_1241 : decode cL_law 1241 = .ok (.invokevirtual 103, 3) := by decide +kernel
theorem dL_law_1244 : decode cL_law 1244 = .ok (.iload 5, 2) := by decide +kernel
theorem dL_law_1246 : decode cL_law 1246 = .ok (.if_icmp .eq 5, 3) := by decide +kernel
theorem dL_law_1249 : decode cL_law 1249 = .ok (.iconst 0, 1) := by decide +kernel
theorem dL_law_1250 : decode cL_law 1250 = .ok (.ireturn, 1) := by decide +kernel
theorem dL_law_1251 : decode cL_law 1251 = .ok (.iload 5, 2) := by decide +kernel
theorem dL_law_1253 : decode cL_law 1253 = .ok (.ifCond .ne 15, 3) := by decide +kernel
theorem dL_law_1256 : decode cL_law 1256 = .ok (.aload_n 3, 1) := by decide +kernel
theorem dL_law_1257 : decode cL_law 1257 = .ok (.iconst 0, 1) := by decide +kernel
theorem dL_law_1258 : decode cL_law 1258 = .ok (.laload, 1) := by decide +kernel
theorem dL_law_1259 : decode cL_law 1259 = .ok (.iload 6, 2) := by decide +kernel
theorem dL_law_1261 : decode cL_law 1261 = .ok (.i2l, 1) := by decide +kernel
theorem dL_law_1262 : decode cL_law 1262 = .ok (.lcmp, 1) := by decide +kernel
theorem dL_law_1263 : decode cL_law 1263 = .ok (.ifCond .eq 5, 3) := by decide +kernel
theorem dL_law_1266 : decode cL_law 1266 = .ok (.iconst 0, 1) := by decide +kernel
theorem dL_law_1267 : decode cL_law 1267 = .ok (.ireturn, 1) := by decide +kernel
theorem dL_law_1268 : decode cL_law 1268 = .ok (.goto 631, 3) := by decide +kernel
theorem dL_law_1271 : decode cL_law 1271 = .ok (.aload_n 1, 1) := by decide +kernel
theorem dL_law_1272 : decode cL_law 1272 = .ok (.aload_n 0, 1) := by decide +kernel
theorem dL_law_1273 : decode cL_law 1273 = .ok (.iload 4, 2) := by decide +kernel
theorem dL_law_1275 : decode cL_law 1275 = .ok (.iconst 1, 1) := by decide +kernel
theorem dL_law_1276 : decode cL_law 1276 = .ok (.iadd, 1) := by decide +kernel
theorem dL_law_1277 : decode cL_law 1277 = .ok (.iaload, 1) := by decide +kernel
theorem dL_law_1278 : decode cL_law 1278 = .ok (.aload_n 0, 1) := by decide +kernel
theorem dL_law_1279 : decode cL_law 1279 = .ok (.iload 4, 2) := by decide +kernel
theorem dL_law_1281 : decode cL_law 1281 = .ok (.iconst 2, 1) := by decide +kernel
theorem dL_law_1282 : decode cL_law 1282 = .ok (.iadd, 1) := by decide +kernel
theorem dL_law_1283 : decode cL_law 1283 = .ok (.iaload, 1) := by decide +kernel
theorem dL_law_1284 : decode cL_law 1284 = .ok (.aload_n 0, 1) := by decide +kernel
theorem dL_law_1285 : decode cL_law 1285 = .ok (.iload 4, 2) := by decide +kernel
theorem dL_law_1287 : decode cL_law 1287 = .ok (.iconst 3, 1) := by decide +kernel
theorem dL_law_1288 : decode cL_law 1288 = .ok (.iadd, 1) := by decide +kernel
theorem dL_law_1289 : decode cL_law 1289 = .ok (.iaload, 1) := by decide +kernel
theorem dL_law_1290 : decode cL_law 1290 = .ok (.aload_n 3, 1) := by decide +kernel
theorem dL_law_1291 : decode cL_law 1291 = .ok (.invokestatic 152, 3) := by decide +kernel
theorem dL_law_1294 : decode cL_law 1294 = .ok (.istore 5, 2) := by decide +kernel
theorem dL_law_1296 : decode cL_law 1296 = .ok (.aload_n 2, 1) := by decide +kernel
theorem dL_law_1297 : decode cL_law 1297 = .ok (.aload_n 0, 1) := by decide +kernel
theorem dL_law_1298 : decode cL_law 1298 = .ok (.iload 4, 2) := by decide +kernel
theorem dL_law_1300 : decode cL_law 1300 = .ok (.iconst 1, 1) := by decide +kernel
theorem dL_law_1301 : decode cL_law 1301 = .ok (.iadd, 1) := by decide +kernel
theorem dL_law_1302 : decode cL_law 1302 = .ok (.iaload, 1) := by decide +kernel
theorem dL_law_1303 : decode cL_law 1303 = .ok (.aload_n 0, 1) := by decide +kernel
theorem dL_law_1304 : decode cL_law 1304 = .ok (.iload 4, 2) := by decide +kernel
theorem dL_law_1306 : decode cL_law 1306 = .ok (.iconst 2, 1) := by decide +kernel
theorem dL_law_1307 : decode cL_law 1307 = .ok (.iadd, 1) := by decide +kernel
theorem dL_law_1308 : decode cL_law 1308 = .ok (.iaload, 1) := by decide +kernel
theorem dL_law_1309 : decode cL_law 1309 = .ok (.aload_n 0, 1) := by decide +kernel
theorem dL_law_1310 : decode cL_law 1310 = .ok (.iload 4, 2) := by decide +kernel
theorem dL_law_1312 : decode cL_law 1312 = .ok (.iconst 3, 1) := by decide +kernel
theorem dL_law_1313 : decode cL_law 1313 = .ok (.iadd, 1) := by decide +kernel
theorem dL_law_1314 : decode cL_law 1314 = .ok (.iaload, 1) := by decide +kernel
theorem dL_law_1315 : decode cL_law 1315 = .ok (.invokevirtual 154, 3) := by decide +kernel
theorem dL_law_1318 : decode cL_law 1318 = .ok (.istore 6, 2) := by decide +kernel
theorem dL_law_1320 : decode cL_law 1320 = .ok (.aload_n 2, 1) := by decide +kernel
theorem dL_law_1321 : decode cL_law 1321 = .ok (.invokevirtual 103, 3) := by decide +kernel
theorem dL_law_1324 : decode cL_law 1324 = .ok (.iload 5, 2) := by decide +kernel
theorem dL_law_1326 : decode cL_law 1326 = .ok (.if_icmp .eq 5, 3) := by decide +kernel
theorem dL_law_1329 : decode cL_law 1329 = .ok (.iconst 0, 1) := by decide +kernel
theorem dL_law_1330 : decode cL_law 1330 = .ok (.ireturn, 1) := by decide +kernel
theorem dL_law_1331 : decode cL_law 1331 = .ok (.iload 5, 2) := by decide +kernel
theorem dL_law_1333 : decode cL_law 1333 = .ok (.ifCond .ne 15, 3) := by decide +kernel
theorem dL_law_1336 : decode cL_law 1336 = .ok (.aload_n 3, 1) := by decide +kernel
theorem dL_law_1337 : decode cL_law 1337 = .ok (.iconst 0, 1) := by decide +kernel
theorem dL_law_1338 : decode cL_law 1338 = .ok (.laload, 1) := by decide +kernel
theorem dL_law_1339 : decode cL_law 1339 = .ok (.iload 6, 2) := by decide +kernel
theorem dL_law_1341 : decode cL_law 1341 = .ok (.i2l, 1) := by decide +kernel
theorem dL_law_1342 : decode cL_law 1342 = .ok (.lcmp, 1) := by decide +kernel
theorem dL_law_1343 : decode cL_law 1343 = .ok (.ifCond .eq 5, 3) := by decide +kernel
theorem dL_law_1346 : decode cL_law 1346 = .ok (.iconst 0, 1) := by decide +kernel
theorem dL_law_1347 : decode cL_law 1347 = .ok (.ireturn, 1) := by decide +kernel
theorem dL_law_1348 : decode cL_law 1348 = .ok (.goto 551, 3) := by decide +kernel
theorem dL_law_1351 : decode cL_law 1351 = .ok (.aload_n 1, 1) := by decide +kernel
theorem dL_law_1352 : decode cL_law 1352 = .ok (.aload_n 0, 1) := by decide +kernel
theorem dL_law_1353 : decode cL_law 1353 = .ok (.iload 4, 2) := by decide +kernel
theorem dL_law_1355 : decode cL_law 1355 = .ok (.iconst 1, 1) := by decide +kernel
theorem dL_law_1356 : decode cL_law 1356 = .ok (.iadd, 1) := by decide +kernel
theorem dL_law_1357 : decode cL_law 1357 = .ok (.iaload, 1) := by decide +kernel
theorem dL_law_1358 : decode cL_law 1358 = .ok (.aload_n 0, 1) := by decide +kernel
theorem dL_law_1359 : decode cL_law 1359 = .ok (.iload 4, 2) := by decide +kernel
theorem dL_law_1361 : decode cL_law 1361 = .ok (.iconst 2, 1) := by decide +kernel
theorem dL_law_1362 : decode cL_law 1362 = .ok (.iadd, 1) := by decide +kernel
theorem dL_law_1363 : decode cL_law 1363 = .ok (.iaload, 1) := by decide +kernel
theorem dL_law_1364 : decode cL_law 1364 = .ok (.invokevirtual 155, 3) := by decide +kernel
theorem dL_law_1367 : decode cL_law 1367 = .ok (.aload_n 2, 1) := by decide +kernel
theorem dL_law_1368 : decode cL_law 1368 = .ok (.aload_n 0, 1) := by decide +kernel
theorem dL_law_1369 : decode cL_law 1369 = .ok (.iload 4, 2) := by decide +kernel
theorem dL_law_1371 : decode cL_law 1371 = .ok (.iconst 1, 1) := by decide +kernel
theorem dL_law_1372 : decode cL_law 1372 = .ok (.iadd, 1) := by decide +kernel
theorem dL_law_1373 : decode cL_law 1373 = .ok (.iaload, 1) := by decide +kernel
theorem dL_law_1374 : decode cL_law 1374 = .ok (.aload_n 0, 1) := by decide +kernel
theorem dL_law_1375 : decode cL_law 1375 = .ok (.iload 4, 2) := by decide +kernel
theorem dL_law_1377 : decode cL_law 1377 = .ok (.iconst 2, 1) := by decide +kernel
theorem dL_law_1378 : decode cL_law 1378 = .ok (.iadd, 1) := by decide +kernel
theorem dL_law_1379 : decode cL_law 1379 = .ok (.iaload, 1) := by decide +kernel
theorem dL_law_1380 : decode cL_law 1380 = .ok (.invokevirtual 158, 3) := by decide +kernel
theorem dL_law_1383 : decode cL_law 1383 = .ok (.if_icmp .eq 516, 3) := by decide +kernel
theorem dL_law_1386 : decode cL_law 1386 = .ok (.iconst 0, 1) := by decide +kernel
theorem dL_law_1387 : decode cL_law 1387 = .ok (.ireturn, 1) := by decide +kernel
theorem dL_law_1388 : decode cL_law 1388 = .ok (.aload_n 1, 1) := by decide +kernel
theorem dL_law_1389 : decode cL_law 1389 = .ok (.aload_n 0, 1) := by decide +kernel
theorem dL_law_1390 : decode cL_law 1390 = .ok (.iload 4, 2) := by decide +kernel
theorem dL_law_1392 : decode cL_law 1392 = .ok (.iconst 1, 1) := by decide +kernel
theorem dL_law_1393 : decode cL_law 1393 = .ok (.iadd, 1) := by decide +kernel
theorem dL_law_1394 : decode cL_law 1394 = .ok (.iaload, 1) := by decide +kernel
theorem dL_law_1395 : decode cL_law 1395 = .ok (.aload_n 0, 1) := by decide +kernel
theorem dL_law_1396 : decode cL_law 1396 = .ok (.iload 4, 2) := by decide +kernel
theorem dL_law_1398 : decode cL_law 1398 = .ok (.iconst 2, 1) := by decide +kernel
theorem dL_law_1399 : decode cL_law 1399 = .ok (.iadd, 1) := by decide +kernel
theorem dL_law_1400 : decode cL_law 1400 = .ok (.iaload, 1) := by decide +kernel
theorem dL_law_1401 : decode cL_law 1401 = .ok (.aload_n 3, 1) := by decide +kernel
theorem dL_law_1402 : decode cL_law 1402 = .ok (.invokestatic 159, 3) := by decide +kernel
theorem dL_law_1405 : decode cL_law 1405 = .ok (.istore 5, 2) := by decide +kernel
theorem dL_law_1407 : decode cL_law 1407 = .ok (.aload_n 2, 1) := by decide +kernel
theorem dL_law_1408 : decode cL_law 1408 = .ok (.aload_n 0, 1) := by decide +kernel
theorem dL_law_1409 : decode cL_law 1409 = .ok (.iload 4, 2) := by decide +kernel
theorem dL_law_1411 : decode cL_law 1411 = .ok (.iconst 1, 1) := by decide +kernel
theorem dL_law_1412 : decode cL_law 1412 = .ok (.iadd, 1) := by decide +kernel
theorem dL_law_1413 : decode cL_law 1413 = .ok (.iaload, 1) := by decide +kernel
theorem dL_law_1414 : decode cL_law 1414 = .ok (.aload_n 0, 1) := by decide +kernel
theorem dL_law_1415 : decode cL_law 1415 = .ok (.iload 4, 2) := by decide +kernel
theorem dL_law_1417 : decode cL_law 1417 = .ok (.iconst 2, 1) := by decide +kernel
theorem dL_law_1418 : decode cL_law 1418 = .ok (.iadd, 1) := by decide +kernel
theorem dL_law_1419 : decode cL_law 1419 = .ok (.iaload, 1) := by decide +kernel
theorem dL_law_1420 : decode cL_law 1420 = .ok (.invokevirtual 161, 3) := by decide +kernel
theorem dL_law_1423 : decode cL_law 1423 = .ok (.istore 6, 2) := by decide +kernel
theorem dL_law_1425 : decode cL_law 1425 = .ok (.aload_n 2, 1) := by decide +kernel
theorem dL_law_1426 : decode cL_law 1426 = .ok (.invokevirtual 103, 3) := by decide +kernel
theorem dL_law_1429 : decode cL_law 1429 = .ok (.iload 5, 2) := by decide +kernel
theorem dL_law_1431 : decode cL_law 1431 = .ok (.if_icmp .eq 5, 3) := by decide +kernel
theorem dL_law_1434 : decode cL_law 1434 = .ok (.iconst 0, 1) := by decide +kernel
theorem dL_law_1435 : decode cL_law 1435 = .ok (.ireturn, 1) := by decide +kernel
theorem dL_law_1436 : decode cL_law 1436 = .ok (.iload 5, 2) := by decide +kernel
theorem dL_law_1438 : decode cL_law 1438 = .ok (.ifCond .ne 15, 3) := by decide +kernel
theorem dL_law_1441 : decode cL_law 1441 = .ok (.aload_n 3, 1) := by decide +kernel
theorem dL_law_1442 : decode cL_law 1442 = .ok (.iconst 0, 1) := by decide +kernel
theorem dL_law_1443 : decode cL_law 1443 = .ok (.laload, 1) := by decide +kernel
theorem dL_law_1444 : decode cL_law 1444 = .ok (.iload 6, 2) := by decide +kernel
theorem dL_law_1446 : decode cL_law 1446 = .ok (.i2l, 1) := by decide +kernel
theorem dL_law_1447 : decode cL_law 1447 = .ok (.lcmp, 1) := by decide +kernel
theorem dL_law_1448 : decode cL_law 1448 = .ok (.ifCond .eq 5, 3) := by decide +kernel
theorem dL_law_1451 : decode cL_law 1451 = .ok (.iconst 0, 1) := by decide +kernel
theorem dL_law_1452 : decode cL_law 1452 = .ok (.ireturn, 1) := by decide +kernel
theorem dL_law_1453 : decode cL_law 1453 = .ok (.goto 446, 3) := by decide +kernel
theorem dL_law_1456 : decode cL_law 1456 = .ok (.aload_n 1, 1) := by decide +kernel
theorem dL_law_1457 : decode cL_law 1457 = .ok (.aload_n 0, 1) := by decide +kernel
theorem dL_law_1458 : decode cL_law 1458 = .ok (.iload 4, 2) := by decide +kernel
theorem dL_law_1460 : decode cL_law 1460 = .ok (.iconst 1, 1) := by decide +kernel
theorem dL_law_1461 : decode cL_law 1461 = .ok (.iadd, 1) := by decide +kernel
theorem dL_law_1462 : decode cL_law 1462 = .ok (.iaload, 1) := by decide +kernel
theorem dL_law_1463 : decode cL_law 1463 = .ok (.ifCond .eq 7, 3) := by decide +kernel
theorem dL_law_1466 : decode cL_law 1466 = .ok (.iconst 1, 1) := by decide +kernel
theorem dL_law_1467 : decode cL_law 1467 = .ok (.goto 4, 3) := by decide +kernel
theorem dL_law_1470 : decode cL_law 1470 = .ok (.iconst 0, 1) := by decide +kernel
theorem dL_law_1471 : decode cL_law 1471 = .ok (.aload_n 0, 1) := by decide +kernel
theorem dL_law_1472 : decode cL_law 1472 = .ok (.iload 4, 2) := by decide +kernel
theorem dL_law_1474 : decode cL_law 1474 = .ok (.iconst 2, 1) := by decide +kernel
theorem dL_law_1475 : decode cL_law 1475 = .ok (.iadd, 1) := by decide +kernel
theorem dL_law_1476 : decode cL_law 1476 = .ok (.iaload, 1) := by decide +kernel
theorem dL_law_1477 : decode cL_law 1477 = .ok (.invokevirtual 162, 3) := by decide +kernel
theorem dL_law_1480 : decode cL_law 1480 = .ok (.aload_n 2, 1) := by decide +kernel
theorem dL_law_1481 : decode cL_law 1481 = .ok (.aload_n 0, 1) := by decide +kernel
theorem dL_law_1482 : decode cL_law 1482 = .ok (.iload 4, 2) := by decide +kernel
theorem dL_law_1484 : decode cL_law 1484 = .ok (.iconst 1, 1) := by decide +kernel
theorem dL_law_1485 : decode cL_law 1485 = .ok (.iadd, 1) := by decide +kernel
theorem dL_law_1486 : decode cL_law 1486 = .ok (.iaload, 1) := by decide +kernel
theorem dL_law_1487 : decode cL_law 1487 = .ok (.ifCond .eq 7, 3) := by decide +kernel
theorem dL_law_1490 : decode cL_law 1490 = .ok (.iconst 1, 1) := by decide +kernel
theorem dL_law_1491 : decode cL_law 1491 = .ok (.goto 4, 3) := by decide +kernel
theorem dL_law_1494 : decode cL_law 1494 = .ok (.iconst 0, 1) := by decide +kernel
theorem dL_law_1495 : decode cL_law 1495 = .ok (.aload_n 0, 1) := by decide +kernel
theorem dL_law_1496 : decode cL_law 1496 = .ok (.iload 4, 2) := by decide +kernel
theorem dL_law_1498 : decode cL_law 1498 = .ok (.iconst 2, 1) := by decide +kernel
theorem dL_law_1499 : decode cL_law 1499 = .ok (.iadd, 1) := by decide +kernel
theorem dL_law_1500 : decode cL_law 1500 = .ok (.iaload, 1) := by decide +kernel
theorem dL_law_1501 : decode cL_law 1501 = .ok (.invokevirtual 166, 3) := by decide +kernel
theorem dL_law_1504 : decode cL_law 1504 = .ok (.if_icmp .eq 395, 3) := by decide +kernel
theorem dL_law_1507 : decode cL_law 1507 = .ok (.iconst 0, 1) := by decide +kernel
theorem dL_law_1508 : decode cL_law 1508 = .ok (.ireturn, 1) := by decide +kernel
theorem dL_law_1509 : decode cL_law 1509 = .ok (.aload_n 1, 1) := by decide +kernel
theorem dL_law_1510 : decode cL_law 1510 = .ok (.aload_n 0, 1) := by decide +kernel
theorem dL_law_1511 : decode cL_law 1511 = .ok (.iload 4, 2) := by decide +kernel
theorem dL_law_1513 : decode cL_law 1513 = .ok (.iconst 1, 1) := by decide +kernel
theorem dL_law_1514 : decode cL_law 1514 = .ok (.iadd, 1) := by decide +kernel
theorem dL_law_1515 : decode cL_law 1515 = .ok (.iaload, 1) := by decide +kernel
theorem dL_law_1516 : decode cL_law 1516 = .ok (.ifCond .eq 7, 3) := by decide +kernel
theorem dL_law_1519 : decode cL_law 1519 = .ok (.iconst 1, 1) := by decide +kernel
theorem dL_law_1520 : decode cL_law 1520 = .ok (.goto 4, 3) := by decide +kernel
theorem dL_law_1523 : decode cL_law 1523 = .ok (.iconst 0, 1) := by decide +kernel
theorem dL_law_1524 : decode cL_law 1524 = .ok (.invokevirtual 167, 3) := by decide +kernel
theorem dL_law_1527 : decode cL_law 1527 = .ok (.aload_n 2, 1) := by decide +kernel
theorem dL_law_1528 : decode cL_law 1528 = .ok (.aload_n 0, 1) := by decide +kernel
theorem dL_law_1529 : decode cL_law 1529 = .ok (.iload 4, 2) := by decide +kernel
theorem dL_law_1531 : decode cL_law 1531 = .ok (.iconst 1, 1) := by decide +kernel
theorem dL_law_1532 : decode cL_law 1532 = .ok (.iadd, 1) := by decide +kernel
theorem dL_law_1533 : decode cL_law 1533 = .ok (.iaload, 1) := by decide +kernel
theorem dL_law_1534 : decode cL_law 1534 = .ok (.ifCond .eq 7, 3) := by decide +kernel
theorem dL_law_1537 : decode cL_law 1537 = .ok (.iconst 1, 1) := by decide +kernel
theorem dL_law_1538 : decode cL_law 1538 = .ok (.goto 4, 3) := by decide +kernel
theorem dL_law_1541 : decode cL_law 1541 = .ok (.iconst 0, 1) := by decide +kernel
theorem dL_law_1542 : decode cL_law 1542 = .ok (.invokevirtual 171, 3) := by decide +kernel
theorem dL_law_1545 : decode cL_law 1545 = .ok (.if_icmp .eq 354, 3) := by decide +kernel
theorem dL_law_1548 : decode cL_law 1548 = .ok (.iconst 0, 1) := by decide +kernel
theorem dL_law_1549 : decode cL_law 1549 = .ok (.ireturn, 1) := by decide +kernel
theorem dL_law_1550 : decode cL_law 1550 = .ok (.aload_n 1, 1) := by decide +kernel
theorem dL_law_1551 : decode cL_law 1551 = .ok (.aload_n 3, 1) := by decide +kernel
theorem dL_law_1552 : decode cL_law 1552 = .ok (.invokestatic 172, 3) := by decide +kernel
theorem dL_law_1555 : decode cL_law 1555 = .ok (.istore 5, 2) := by decide +kernel
theorem dL_law_1557 : decode cL_law 1557 = .ok (.aload_n 2, 1) := by decide +kernel
theorem dL_law_1558 : decode cL_law 1558 = .ok (.invokevirtual 175, 3) := by decide +kernel
theorem dL_law_1561 : decode cL_law 1561 = .ok (.istore 6, 2) := by decide +kernel
theorem dL_law_1563 : decode cL_law 1563 = .ok (.aload_n 2, 1) := by decide +kernel
theorem dL_law_1564 : decode cL_law 1564 = .ok (.invokevirtual 103, 3) := by decide +kernel
theorem dL_law_1567 : decode cL_law 1567 = .ok (.iload 5, 2) := by decide +kernel
theorem dL_law_1569 : decode cL_law 1569 = .ok (.if_icmp .eq 5, 3) := by decide +kernel
theorem dL_law_1572 : decode cL_law 1572 = .ok (.iconst 0, 1) := by decide +kernel
theorem dL_law_1573 : decode cL_law 1573 = .ok (.ireturn, 1) := by decide +kernel
theorem dL_law_1574 : decode cL_law 1574 = .ok (.iload 5, 2) := by decide +kernel
theorem dL_law_1576 : decode cL_law 1576 = .ok (.ifCond .ne 15, 3) := by decide +kernel
theorem dL_law_1579 : decode cL_law 1579 = .ok (.aload_n 3, 1) := by decide +kernel
theorem dL_law_1580 : decode cL_law 1580 = .ok (.iconst 0, 1) := by decide +kernel
theorem dL_law_1581 : decode cL_law 1581 = .ok (.laload, 1) := by decide +kernel
theorem dL_law_1582 : decode cL_law 1582 = .ok (.iload 6, 2) := by decide +kernel
theorem dL_law_1584 : decode cL_law 1584 = .ok (.i2l, 1) := by decide +kernel
theorem dL_law_1585 : decode cL_law 1585 = .ok (.lcmp, 1) := by decide +kernel
theorem dL_law_1586 : decode cL_law 1586 = .ok (.ifCond .eq 5, 3) := by decide +kernel
theorem dL_law_1589 : decode cL_law 1589 = .ok (.iconst 0, 1) := by decide +kernel
theorem dL_law_1590 : decode cL_law 1590 = .ok (.ireturn, 1) := by decide +kernel
theorem dL_law_1591 : decode cL_law 1591 = .ok (.goto 308, 3) := by decide +kernel
theorem dL_law_1594 : decode cL_law 1594 = .ok (.aload_n 1, 1) := by decide +kernel
theorem dL_law_1595 : decode cL_law 1595 = .ok (.aload_n 0, 1) := by decide +kernel
theorem dL_law_1596 : decode cL_law 1596 = .ok (.iload 4, 2) := by decide +kernel
theorem dL_law_1598 : decode cL_law 1598 = .ok (.iconst 1, 1) := by decide +kernel
theorem dL_law_1599 : decode cL_law 1599 = .ok (.iadd, 1) := by decide +kernel
theorem dL_law_1600 : decode cL_law 1600 = .ok (.iaload, 1) := by decide +kernel
theorem dL_law_1601 : decode cL_law 1601 = .ok (.aload_n 3, 1) := by decide +kernel
theorem dL_law_1602 : decode cL_law 1602 = .ok (.invokestatic 176, 3) := by decide +kernel
theorem dL_law_1605 : decode cL_law 1605 = .ok (.istore 5, 2) := by decide +kernel
theorem dL_law_1607 : decode cL_law 1607 = .ok (.aload_n 2, 1) := by decide +kernel
theorem dL_law_1608 : decode cL_law 1608 = .ok (.aload_n 0, 1) := by decide +kernel
theorem dL_law_1609 : decode cL_law 1609 = .ok (.iload 4, 2) := by decide +kernel
theorem dL_law_1611 : decode cL_law 1611 = .ok (.iconst 1, 1) := by decide +kernel
theorem dL_law_1612 : decode cL_law 1612 = .ok (.iadd, 1) := by decide +kernel
theorem dL_law_1613 : decode cL_law 1613 = .ok (.iaload, 1) := by decide +kernel
theorem dL_law_1614 : decode cL_law 1614 = .ok (.invokevirtual 178, 3) := by decide +kernel
theorem dL_law_1617 : decode cL_law 1617 = .ok (.istore 6, 2) := by decide +kernel
theorem dL_law_1619 : decode cL_law 1619 = .ok (.aload_n 2, 1) := by decide +kernel
theorem dL_law_1620 : decode cL_law 1620 = .ok (.invokevirtual 103, 3) := by decide +kernel
theorem dL_law_1623 : decode cL_law 1623 = .ok (.iload 5, 2) := by decide +kernel
theorem dL_law_1625 : decode cL_law 1625 = .ok (.if_icmp .eq 5, 3) := by decide +kernel
theorem dL_law_1628 : decode cL_law 1628 = .ok (.iconst 0, 1) := by decide +kernel
theorem dL_law_1629 : decode cL_law 1629 = .ok (.ireturn, 1) := by decide +kernel
theorem dL_law_1630 : decode cL_law 1630 = .ok (.iload 5, 2) := by decide +kernel
theorem dL_law_1632 : decode cL_law 1632 = .ok (.ifCond .ne 15, 3) := by decide +kernel
theorem dL_law_1635 : decode cL_law 1635 = .ok (.aload_n 3, 1) := by decide +kernel
theorem dL_law_1636 : decode cL_law 1636 = .ok (.iconst 0, 1) := by decide +kernel
theorem dL_law_1637 : decode cL_law 1637 = .ok (.laload, 1) := by decide +kernel
theorem dL_law_1638 : decode cL_law 1638 = .ok (.iload 6, 2) := by decide +kernel
theorem dL_law_1640 : decode cL_law 1640 = .ok (.i2l, 1) := by decide +kernel
theorem dL_law_1641 : decode cL_law 1641 = .ok (.lcmp, 1) := by decide +kernel
theorem dL_law_1642 : decode cL_law 1642 = .ok (.ifCond .eq 5, 3) := by decide +kernel
theorem dL_law_1645 : decode cL_law 1645 = .ok (.iconst 0, 1) := by decide +kernel
theorem dL_law_1646 : decode cL_law 1646 = .ok (.ireturn, 1) := by decide +kernel
theorem dL_law_1647 : decode cL_law 1647 = .ok (.goto 252, 3) := by decide +kernel
theorem dL_law_1650 : decode cL_law 1650 = .ok (.aload_n 1, 1) := by decide +kernel
theorem dL_law_1651 : decode cL_law 1651 = .ok (.aload_n 0, 1) := by decide +kernel
theorem dL_law_1652 : decode cL_law 1652 = .ok (.iload 4, 2) := by decide +kernel
theorem dL_law_1654 : decode cL_law 1654 = .ok (.iconst 1, 1) := by decide +kernel
theorem dL_law_1655 : decode cL_law 1655 = .ok (.iadd, 1) := by decide +kernel
theorem dL_law_1656 : decode cL_law 1656 = .ok (.iaload, 1) := by decide +kernel
theorem dL_law_1657 : decode cL_law 1657 = .ok (.aload_n 3, 1) := by decide +kernel
theorem dL_law_1658 : decode cL_law 1658 = .ok (.invokestatic 179, 3) := by decide +kernel
theorem dL_law_1661 : decode cL_law 1661 = .ok (.istore 5, 2) := by decide +kernel
theorem dL_law_1663 : decode cL_law 1663 = .ok (.aload_n 2, 1) := by decide +kernel
theorem dL_law_1664 : decode cL_law 1664 = .ok (.aload_n 0, 1) := by decide +kernel
theorem dL_law_1665 : decode cL_law 1665 = .ok (.iload 4, 2) := by decide +kernel
theorem dL_law_1667 : decode cL_law 1667 = .ok (.iconst 1, 1) := by decide +kernel
theorem dL_law_1668 : decode cL_law 1668 = .ok (.iadd, 1) := by decide +kernel
theorem dL_law_1669 : decode cL_law 1669 = .ok (.iaload, 1) := by decide +kernel
theorem dL_law_1670 : decode cL_law 1670 = .ok (.invokevirtual 181, 3) := by decide +kernel
theorem dL_law_1673 : decode cL_law 1673 = .ok (.istore 6, 2) := by decide +kernel
theorem dL_law_1675 : decode cL_law 1675 = .ok (.aload_n 2, 1) := by decide +kernel
theorem dL_law_1676 : decode cL_law 1676 = .ok (.invokevirtual 103, 3) := by decide +kernel
theorem dL_law_1679 : decode cL_law 1679 = .ok (.iload 5, 2) := by decide +kernel
theorem dL_law_1681 : decode cL_law 1681 = .ok (.if_icmp .eq 5, 3) := by decide +kernel
theorem dL_law_1684 : decode cL_law 1684 = .ok (.iconst 0, 1) := by decide +kernel
theorem dL_law_1685 : decode cL_law 1685 = .ok (.ireturn, 1) := by decide +kernel
theorem dL_law_1686 : decode cL_law 1686 = .ok (.iload 5, 2) := by decide +kernel
theorem dL_law_1688 : decode cL_law 1688 = .ok (.ifCond .ne 15, 3) := by decide +kernel
theorem dL_law_1691 : decode cL_law 1691 = .ok (.aload_n 3, 1) := by decide +kernel
theorem dL_law_1692 : decode cL_law 1692 = .ok (.iconst 0, 1) := by decide +kernel
theorem dL_law_1693 : decode cL_law 1693 = .ok (.laload, 1) := by decide +kernel
theorem dL_law_1694 : decode cL_law 1694 = .ok (.iload 6, 2) := by decide +kernel
theorem dL_law_1696 : decode cL_law 1696 = .ok (.i2l, 1) := by decide +kernel
theorem dL_law_1697 : decode cL_law 1697 = .ok (.lcmp, 1) := by decide +kernel
theorem dL_law_1698 : decode cL_law 1698 = .ok (.ifCond .eq 5, 3) := by decide +kernel
theorem dL_law_1701 : decode cL_law 1701 = .ok (.iconst 0, 1) := by decide +kernel
theorem dL_law_1702 : decode cL_law 1702 = .ok (.ireturn, 1) := by decide +kernel
theorem dL_law_1703 : decode cL_law 1703 = .ok (.goto 196, 3) := by decide +kernel
theorem dL_law_1706 : decode cL_law 1706 = .ok (.aload_n 1, 1) := by decide +kernel
theorem dL_law_1707 : decode cL_law 1707 = .ok (.aload_n 0, 1) := by decide +kernel
theorem dL_law_1708 : decode cL_law 1708 = .ok (.iload 4, 2) := by decide +kernel
theorem dL_law_1710 : decode cL_law 1710 = .ok (.iconst 1, 1) := by decide +kernel
theorem dL_law_1711 : decode cL_law 1711 = .ok (.iadd, 1) := by decide +kernel
theorem dL_law_1712 : decode cL_law 1712 = .ok (.iaload, 1) := by decide +kernel
theorem dL_law_1713 : decode cL_law 1713 = .ok (.aload_n 3, 1) := by decide +kernel
theorem dL_law_1714 : decode cL_law 1714 = .ok (.invokestatic 182, 3) := by decide +kernel
theorem dL_law_1717 : decode cL_law 1717 = .ok (.istore 5, 2) := by decide +kernel
theorem dL_law_1719 : decode cL_law 1719 = .ok (.aload_n 2, 1) := by decide +kernel
theorem dL_law_1720 : decode cL_law 1720 = .ok (.aload_n 0, 1) := by decide +kernel
theorem dL_law_1721 : decode cL_law 1721 = .ok (.iload 4, 2) := by decide +kernel
theorem dL_law_1723 : decode cL_law 1723 = .ok (.iconst 1, 1) := by decide +kernel
theorem dL_law_1724 : decode cL_law 1724 = .ok (.iadd, 1) := by decide +kernel
theorem dL_law_1725 : decode cL_law 1725 = .ok (.iaload, 1) := by decide +kernel
theorem dL_law_1726 : decode cL_law 1726 = .ok (.invokevirtual 184, 3) := by decide +kernel
theorem dL_law_1729 : decode cL_law 1729 = .ok (.istore 6, 2) := by decide +kernel
theorem dL_law_1731 : decode cL_law 1731 = .ok (.aload_n 2, 1) := by decide +kernel
theorem dL_law_1732 : decode cL_law 1732 = .ok (.invokevirtual 103, 3) := by decide +kernel
theorem dL_law_1735 : decode cL_law 1735 = .ok (.iload 5, 2) := by decide +kernel
theorem dL_law_1737 : decode cL_law 1737 = .ok (.if_icmp .eq 5, 3) := by decide +kernel
theorem dL_law_1740 : decode cL_law 1740 = .ok (.iconst 0, 1) := by decide +kernel
theorem dL_law_1741 : decode cL_law 1741 = .ok (.ireturn, 1) := by decide +kernel
theorem dL_law_1742 : decode cL_law 1742 = .ok (.iload 5, 2) := by decide +kernel
theorem dL_law_1744 : decode cL_law 1744 = .ok (.ifCond .ne 15, 3) := by decide +kernel
theorem dL_law_1747 : decode cL_law 1747 = .ok (.aload_n 3, 1) := by decide +kernel
theorem dL_law_1748 : decode cL_law 1748 = .ok (.iconst 0, 1) := by decide +kernel
theorem dL_law_1749 : decode cL_law 1749 = .ok (.laload, 1) := by decide +kernel
theorem dL_law_1750 : decode cL_law 1750 = .ok (.iload 6, 2) := by decide +kernel
theorem dL_law_1752 : decode cL_law 1752 = .ok (.i2l, 1) := by decide +kernel
theorem dL_law_1753 : decode cL_law 1753 = .ok (.lcmp, 1) := by decide +kernel
theorem dL_law_1754 : decode cL_law 1754 = .ok (.ifCond .eq 5, 3) := by decide +kernel
theorem dL_law_1757 : decode cL_law 1757 = .ok (.iconst 0, 1) := by decide +kernel
theorem dL_law_1758 : decode cL_law 1758 = .ok (.ireturn, 1) := by decide +kernel
theorem dL_law_1759 : decode cL_law 1759 = .ok (.goto 140, 3) := by decide +kernel
theorem dL_law_1762 : decode cL_law 1762 = .ok (.aload_n 1, 1) := by decide +kernel
theorem dL_law_1763 : decode cL_law 1763 = .ok (.aload_n 0, 1) := by decide +kernel
theorem dL_law_1764 : decode cL_law 1764 = .ok (.iload 4, 2) := by decide +kernel
theorem dL_law_1766 : decode cL_law 1766 = .ok (.iconst 1, 1) := by decide +kernel
theorem dL_law_1767 : decode cL_law 1767 = .ok (.iadd, 1) := by decide +kernel
theorem dL_law_1768 : decode cL_law 1768 = .ok (.iaload, 1) := by decide +kernel
theorem dL_law_1769 : decode cL_law 1769 = .ok (.aload_n 3, 1) := by decide +kernel
theorem dL_law_1770 : decode cL_law 1770 = .ok (.invokestatic 185, 3) := by decide +kernel
theorem dL_law_1773 : decode cL_law 1773 = .ok (.istore 5, 2) := by decide +kernel
theorem dL_law_1775 : decode cL_law 1775 = .ok (.aload_n 2, 1) := by decide +kernel
theorem dL_law_1776 : decode cL_law 1776 = .ok (.aload_n 0, 1) := by decide +kernel
theorem dL_law_1777 : decode cL_law 1777 = .ok (.iload 4, 2) := by decide +kernel
theorem dL_law_1779 : decode cL_law 1779 = .ok (.iconst 1, 1) := by decide +kernel
theorem dL_law_1780 : decode cL_law 1780 = .ok (.iadd, 1) := by decide +kernel
theorem dL_law_1781 : decode cL_law 1781 = .ok (.iaload, 1) := by decide +kernel
theorem dL_law_1782 : decode cL_law 1782 = .ok (.invokevirtual 187, 3) := by decide +kernel
theorem dL_law_1785 : decode cL_law 1785 = .ok (.istore 6, 2) := by decide +kernel
theorem dL_law_1787 : decode cL_law 1787 = .ok (.aload_n 2, 1) := by decide +kernel
theorem dL_law_1788 : decode cL_law 1788 = .ok (.invokevirtual 103, 3) := by decide +kernel
theorem dL_law_1791 : decode cL_law 1791 = .ok (.iload 5, 2) := by decide +kernel
theorem dL_law_1793 : decode cL_law 1793 = .ok (.if_icmp .eq 5, 3) := by decide +kernel
theorem dL_law_1796 : decode cL_law 1796 = .ok (.iconst 0, 1) := by decide +kernel
theorem dL_law_1797 : decode cL_law 1797 = .ok (.ireturn, 1) := by decide +kernel
theorem dL_law_1798 : decode cL_law 1798 = .ok (.iload 5, 2) := by decide +kernel
theorem dL_law_1800 : decode cL_law 1800 = .ok (.ifCond .ne 15, 3) := by decide +kernel
theorem dL_law_1803 : decode cL_law 1803 = .ok (.aload_n 3, 1) := by decide +kernel
theorem dL_law_1804 : decode cL_law 1804 = .ok (.iconst 0, 1) := by decide +kernel
theorem dL_law_1805 : decode cL_law 1805 = .ok (.laload, 1) := by decide +kernel
theorem dL_law_1806 : decode cL_law 1806 = .ok (.iload 6, 2) := by decide +kernel
theorem dL_law_1808 : decode cL_law 1808 = .ok (.i2l, 1) := by decide +kernel
theorem dL_law_1809 : decode cL_law 1809 = .ok (.lcmp, 1) := by decide +kernel
theorem dL_law_1810 : decode cL_law 1810 = .ok (.ifCond .eq 5, 3) := by decide +kernel
theorem dL_law_1813 : decode cL_law 1813 = .ok (.iconst 0, 1) := by decide +kernel
theorem dL_law_1814 : decode cL_law 1814 = .ok (.ireturn, 1) := by decide +kernel
theorem dL_law_1815 : decode cL_law 1815 = .ok (.goto 84, 3) := by decide +kernel
theorem dL_law_1818 : decode cL_law 1818 = .ok (.aload_n 1, 1) := by decide +kernel
theorem dL_law_1819 : decode cL_law 1819 = .ok (.aload_n 0, 1) := by decide +kernel
theorem dL_law_1820 : decode cL_law 1820 = .ok (.iload 4, 2) := by decide +kernel
theorem dL_law_1822 : decode cL_law 1822 = .ok (.iconst 1, 1) := by decide +kernel
theorem dL_law_1823 : decode cL_law 1823 = .ok (.iadd, 1) := by decide +kernel
theorem dL_law_1824 : decode cL_law 1824 = .ok (.iaload, 1) := by decide +kernel
theorem dL_law_1825 : decode cL_law 1825 = .ok (.aload_n 3, 1) := by decide +kernel
theorem dL_law_1826 : decode cL_law 1826 = .ok (.invokestatic 188, 3) := by decide +kernel
theorem dL_law_1829 : decode cL_law 1829 = .ok (.istore 5, 2) := by decide +kernel
theorem dL_law_1831 : decode cL_law 1831 = .ok (.aload_n 2, 1) := by decide +kernel
theorem dL_law_1832 : decode cL_law 1832 = .ok (.aload_n 0, 1) := by decide +kernel
theorem dL_law_1833 : decode cL_law 1833 = .ok (.iload 4, 2) := by decide +kernel
theorem dL_law_1835 : decode cL_law 1835 = .ok (.iconst 1, 1) := by decide +kernel
theorem dL_law_1836 : decode cL_law 1836 = .ok (.iadd, 1) := by decide +kernel
theorem dL_law_1837 : decode cL_law 1837 = .ok (.iaload, 1) := by decide +kernel
theorem dL_law_1838 : decode cL_law 1838 = .ok (.invokevirtual 190, 3) := by decide +kernel
theorem dL_law_1841 : decode cL_law 1841 = .ok (.istore 6, 2) := by decide +kernel
theorem dL_law_1843 : decode cL_law 1843 = .ok (.aload_n 2, 1) := by decide +kernel
theorem dL_law_1844 : decode cL_law 1844 = .ok (.invokevirtual 103, 3) := by decide +kernel
theorem dL_law_1847 : decode cL_law 1847 = .ok (.iload 5, 2) := by decide +kernel
theorem dL_law_1849 : decode cL_law 1849 = .ok (.if_icmp .eq 5, 3) := by decide +kernel
theorem dL_law_1852 : decode cL_law 1852 = .ok (.iconst 0, 1) := by decide +kernel
theorem dL_law_1853 : decode cL_law 1853 = .ok (.ireturn, 1) := by decide +kernel
theorem dL_law_1854 : decode cL_law 1854 = .ok (.iload 5, 2) := by decide +kernel
theorem dL_law_1856 : decode cL_law 1856 = .ok (.ifCond .ne 15, 3) := by decide +kernel
theorem dL_law_1859 : decode cL_law 1859 = .ok (.aload_n 3, 1) := by decide +kernel
theorem dL_law_1860 : decode cL_law 1860 = .ok (.iconst 0, 1) := by decide +kernel
theorem dL_law_1861 : decode cL_law 1861 = .ok (.laload, 1) := by decide +kernel
theorem dL_law_1862 : decode cL_law 1862 = .ok (.iload 6, 2) := by decide +kernel
theorem dL_law_1864 : decode cL_law 1864 = .ok (.i2l, 1) := by decide +kernel
theorem dL_law_1865 : decode cL_law 1865 = .ok (.lcmp, 1) := by decide +kernel
theorem dL_law_1866 : decode cL_law 1866 = .ok (.ifCond .eq 5, 3) := by decide +kernel
theorem dL_law_1869 : decode cL_law 1869 = .ok (.iconst 0, 1) := by decide +kernel
theorem dL_law_1870 : decode cL_law 1870 = .ok (.ireturn, 1) := by decide +kernel
theorem dL_law_1871 : decode cL_law 1871 = .ok (.goto 28, 3) := by decide +kernel
theorem dL_law_1874 : decode cL_law 1874 = .ok (.aload_n 1, 1) := by decide +kernel
theorem dL_law_1875 : decode cL_law 1875 = .ok (.aload_n 0, 1) := by decide +kernel
theorem dL_law_1876 : decode cL_law 1876 = .ok (.iload 4, 2) := by decide +kernel
theorem dL_law_1878 : decode cL_law 1878 = .ok (.iconst 1, 1) := by decide +kernel
theorem dL_law_1879 : decode cL_law 1879 = .ok (.iadd, 1) := by decide +kernel
theorem dL_law_1880 : decode cL_law 1880 = .ok (.iaload, 1) := by decide +kernel
theorem dL_law_1881 : decode cL_law 1881 = .ok (.invokevirtual 191, 3) := by decide +kernel
theorem dL_law_1884 : decode cL_law 1884 = .ok (.aload_n 2, 1) := by decide +kernel
theorem dL_law_1885 : decode cL_law 1885 = .ok (.aload_n 0, 1) := by decide +kernel
theorem dL_law_1886 : decode cL_law 1886 = .ok (.iload 4, 2) := by decide +kernel
theorem dL_law_1888 : decode cL_law 1888 = .ok (.iconst 1, 1) := by decide +kernel
theorem dL_law_1889 : decode cL_law 1889 = .ok (.iadd, 1) := by decide +kernel
theorem dL_law_1890 : decode cL_law 1890 = .ok (.iaload, 1) := by decide +kernel
theorem dL_law_1891 : decode cL_law 1891 = .ok (.invokevirtual 194, 3) := by decide +kernel
theorem dL_law_1894 : decode cL_law 1894 = .ok (.if_icmp .eq 5, 3) := by decide +kernel
theorem dL_law_1897 : decode cL_law 1897 = .ok (.iconst 0, 1) := by decide +kernel
theorem dL_law_1898 : decode cL_law 1898 = .ok (.ireturn, 1) := by decide +kernel
theorem dL_law_1899 : decode cL_law 1899 = .ok (.iinc 4 6, 3) := by decide +kernel
theorem dL_law_1902 : decode cL_law 1902 = .ok (.goto (-1879), 3) := by decide +kernel
theorem dL_law_1905 : decode cL_law 1905 = .ok (.iconst 1, 1) := by decide +kernel
theorem dL_law_1906 : decode cL_law 1906 = .ok (.ireturn, 1) := by decide +kernel
