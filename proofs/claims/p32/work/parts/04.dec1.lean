theorem dX0_leastPrime_0 : decode cX0_leastPrime 0 = .ok (.iload_n 0, 1) := by decide +kernel
theorem dX0_leastPrime_1 : decode cX0_leastPrime 1 = .ok (.iload_n 1, 1) := by decide +kernel
theorem dX0_leastPrime_2 : decode cX0_leastPrime 2 = .ok (.invokestatic 7, 3) := by decide +kernel
theorem dX0_leastPrime_5 : decode cX0_leastPrime 5 = .ok (.istore_n 2, 1) := by decide +kernel
theorem dX0_leastPrime_6 : decode cX0_leastPrime 6 = .ok (.iload_n 2, 1) := by decide +kernel
theorem dX0_leastPrime_7 : decode cX0_leastPrime 7 = .ok (.istore_n 3, 1) := by decide +kernel
theorem dX0_leastPrime_8 : decode cX0_leastPrime 8 = .ok (.iload_n 3, 1) := by decide +kernel
theorem dX0_leastPrime_9 : decode cX0_leastPrime 9 = .ok (.iconst 2, 1) := by decide +kernel
theorem dX0_leastPrime_10 : decode cX0_leastPrime 10 = .ok (.iload_n 2, 1) := by decide +kernel
theorem dX0_leastPrime_11 : decode cX0_leastPrime 11 = .ok (.imul, 1) := by decide +kernel
theorem dX0_leastPrime_12 : decode cX0_leastPrime 12 = .ok (.if_icmp .ge 20, 3) := by decide +kernel
theorem dX0_leastPrime_15 : decode cX0_leastPrime 15 = .ok (.iload_n 3, 1) := by decide +kernel
theorem dX0_leastPrime_16 : decode cX0_leastPrime 16 = .ok (.iload_n 1, 1) := by decide +kernel
theorem dX0_leastPrime_17 : decode cX0_leastPrime 17 = .ok (.iload_n 0, 1) := by decide +kernel
theorem dX0_leastPrime_18 : decode cX0_leastPrime 18 = .ok (.invokestatic 13, 3) := by decide +kernel
theorem dX0_leastPrime_21 : decode cX0_leastPrime 21 = .ok (.ifCond .eq 5, 3) := by decide +kernel
theorem dX0_leastPrime_24 : decode cX0_leastPrime 24 = .ok (.iload_n 3, 1) := by decide +kernel
theorem dX0_leastPrime_25 : decode cX0_leastPrime 25 = .ok (.ireturn, 1) := by decide +kernel
theorem dX0_leastPrime_26 : decode cX0_leastPrime 26 = .ok (.iinc 3 1, 3) := by decide +kernel
theorem dX0_leastPrime_29 : decode cX0_leastPrime 29 = .ok (.goto (-21), 3) := by decide +kernel
theorem dX0_leastPrime_32 : decode cX0_leastPrime 32 = .ok (.iload_n 2, 1) := by decide +kernel
theorem dX0_leastPrime_33 : decode cX0_leastPrime 33 = .ok (.ireturn, 1) := by decide +kernel
theorem dX0_isPrime_0 : decode cX0_isPrime 0 = .ok (.iconst 1, 1) := by decide +kernel
theorem dX0_isPrime_1 : decode cX0_isPrime 1 = .ok (.istore_n 3, 1) := by decide +kernel
theorem dX0_isPrime_2 : decode cX0_isPrime 2 = .ok (.iconst 2, 1) := by decide +kernel
theorem dX0_isPrime_3 : decode cX0_isPrime 3 = .ok (.iload_n 3, 1) := by decide +kernel
theorem dX0_isPrime_4 : decode cX0_isPrime 4 = .ok (.imul, 1) := by decide +kernel
theorem dX0_isPrime_5 : decode cX0_isPrime 5 = .ok (.iload_n 1, 1) := by decide +kernel
theorem dX0_isPrime_6 : decode cX0_isPrime 6 = .ok (.if_icmp .gt 49, 3) := by decide +kernel
theorem dX0_isPrime_9 : decode cX0_isPrime 9 = .ok (.iload_n 2, 1) := by decide +kernel
theorem dX0_isPrime_10 : decode cX0_isPrime 10 = .ok (.iload_n 3, 1) := by decide +kernel
theorem dX0_isPrime_11 : decode cX0_isPrime 11 = .ok (.invokestatic 7, 3) := by decide +kernel
theorem dX0_isPrime_14 : decode cX0_isPrime 14 = .ok (.istore 4, 2) := by decide +kernel
theorem dX0_isPrime_16 : decode cX0_isPrime 16 = .ok (.iload 4, 2) := by decide +kernel
theorem dX0_isPrime_18 : decode cX0_isPrime 18 = .ok (.istore 5, 2) := by decide +kernel
theorem dX0_isPrime_20 : decode cX0_isPrime 20 = .ok (.iload 5, 2) := by decide +kernel
theorem dX0_isPrime_22 : decode cX0_isPrime 22 = .ok (.iconst 2, 1) := by decide +kernel
theorem dX0_isPrime_23 : decode cX0_isPrime 23 = .ok (.iload 4, 2) := by decide +kernel
theorem dX0_isPrime_25 : decode cX0_isPrime 25 = .ok (.imul, 1) := by decide +kernel
theorem dX0_isPrime_26 : decode cX0_isPrime 26 = .ok (.if_icmp .ge 23, 3) := by decide +kernel
theorem dX0_isPrime_29 : decode cX0_isPrime 29 = .ok (.iload_n 0, 1) := by decide +kernel
theorem dX0_isPrime_30 : decode cX0_isPrime 30 = .ok (.iload_n 1, 1) := by decide +kernel
theorem dX0_isPrime_31 : decode cX0_isPrime 31 = .ok (.iload 5, 2) := by decide +kernel
theorem dX0_isPrime_33 : decode cX0_isPrime 33 = .ok (.iload_n 3, 1) := by decide +kernel
theorem dX0_isPrime_34 : decode cX0_isPrime 34 = .ok (.iload_n 2, 1) := by decide +kernel
theorem dX0_isPrime_35 : decode cX0_isPrime 35 = .ok (.invokestatic 19, 3) := by decide +kernel
theorem dX0_isPrime_38 : decode cX0_isPrime 38 = .ok (.ifCond .ne 5, 3) := by decide +kernel
theorem dX0_isPrime_41 : decode cX0_isPrime 41 = .ok (.iconst 0, 1) := by decide +kernel
theorem dX0_isPrime_42 : decode cX0_isPrime 42 = .ok (.ireturn, 1) := by decide +kernel
theorem dX0_isPrime_43 : decode cX0_isPrime 43 = .ok (.iinc 5 1, 3) := by decide +kernel
theorem dX0_isPrime_46 : decode cX0_isPrime 46 = .ok (.goto (-26), 3) := by decide +kernel
theorem dX0_isPrime_49 : decode cX0_isPrime 49 = .ok (.iinc 3 1, 3) := by decide +kernel
theorem dX0_isPrime_52 : decode cX0_isPrime 52 = .ok (.goto (-50), 3) := by decide +kernel
theorem dX0_isPrime_55 : decode cX0_isPrime 55 = .ok (.iconst 1, 1) := by decide +kernel
theorem dX0_isPrime_56 : decode cX0_isPrime 56 = .ok (.ireturn, 1) := by decide +kernel
theorem dX0_leftBy_0 : decode cX0_leftBy 0 = .ok (.iload_n 0, 1) := by decide +kernel
theorem dX0_leftBy_1 : decode cX0_leftBy 1 = .ok (.istore 5, 2) := by decide +kernel
theorem dX0_leftBy_3 : decode cX0_leftBy 3 = .ok (.iload_n 1, 1) := by decide +kernel
theorem dX0_leftBy_4 : decode cX0_leftBy 4 = .ok (.iload_n 3, 1) := by decide +kernel
theorem dX0_leftBy_5 : decode cX0_leftBy 5 = .ok (.isub, 1) := by decide +kernel
theorem dX0_leftBy_6 : decode cX0_leftBy 6 = .ok (.istore 6, 2) := by decide +kernel
theorem dX0_leftBy_8 : decode cX0_leftBy 8 = .ok (.iload 6, 2) := by decide +kernel
theorem dX0_leftBy_10 : decode cX0_leftBy 10 = .ok (.ifCond .lt 52, 3) := by decide +kernel
theorem dX0_leftBy_13 : decode cX0_leftBy 13 = .ok (.iload 4, 2) := by decide +kernel
theorem dX0_leftBy_15 : decode cX0_leftBy 15 = .ok (.iload 6, 2) := by decide +kernel
theorem dX0_leftBy_17 : decode cX0_leftBy 17 = .ok (.invokestatic 7, 3) := by decide +kernel
theorem dX0_leftBy_20 : decode cX0_leftBy 20 = .ok (.istore 7, 2) := by decide +kernel
theorem dX0_leftBy_22 : decode cX0_leftBy 22 = .ok (.iload 5, 2) := by decide +kernel
theorem dX0_leftBy_24 : decode cX0_leftBy 24 = .ok (.iload 4, 2) := by decide +kernel
theorem dX0_leftBy_26 : decode cX0_leftBy 26 = .ok (.iload_n 3, 1) := by decide +kernel
theorem dX0_leftBy_27 : decode cX0_leftBy 27 = .ok (.iload 6, 2) := by decide +kernel
theorem dX0_leftBy_29 : decode cX0_leftBy 29 = .ok (.iadd, 1) := by decide +kernel
theorem dX0_leftBy_30 : decode cX0_leftBy 30 = .ok (.invokestatic 7, 3) := by decide +kernel
theorem dX0_leftBy_33 : decode cX0_leftBy 33 = .ok (.invokestatic 23, 3) := by decide +kernel
theorem dX0_leftBy_36 : decode cX0_leftBy 36 = .ok (.istore 8, 2) := by decide +kernel
theorem dX0_leftBy_38 : decode cX0_leftBy 38 = .ok (.iload 5, 2) := by decide +kernel
theorem dX0_leftBy_40 : decode cX0_leftBy 40 = .ok (.iload_n 2, 1) := by decide +kernel
theorem dX0_leftBy_41 : decode cX0_leftBy 41 = .ok (.iload 7, 2) := by decide +kernel
theorem dX0_leftBy_43 : decode cX0_leftBy 43 = .ok (.imul, 1) := by decide +kernel
theorem dX0_leftBy_44 : decode cX0_leftBy 44 = .ok (.iload 4, 2) := by decide +kernel
theorem dX0_leftBy_46 : decode cX0_leftBy 46 = .ok (.iload 8, 2) := by decide +kernel
theorem dX0_leftBy_48 : decode cX0_leftBy 48 = .ok (.isub, 1) := by decide +kernel
theorem dX0_leftBy_49 : decode cX0_leftBy 49 = .ok (.iload 4, 2) := by decide +kernel
theorem dX0_leftBy_51 : decode cX0_leftBy 51 = .ok (.invokestatic 26, 3) := by decide +kernel
theorem dX0_leftBy_54 : decode cX0_leftBy 54 = .ok (.istore 5, 2) := by decide +kernel
theorem dX0_leftBy_56 : decode cX0_leftBy 56 = .ok (.iinc 6 (-1), 3) := by decide +kernel
theorem dX0_leftBy_59 : decode cX0_leftBy 59 = .ok (.goto (-51), 3) := by decide +kernel
theorem dX0_leftBy_62 : decode cX0_leftBy 62 = .ok (.iload 5, 2) := by decide +kernel
theorem dX0_leftBy_64 : decode cX0_leftBy 64 = .ok (.ireturn, 1) := by decide +kernel
theorem dX1_init_0 : decode cX1_init 0 = .ok (.aload_n 0, 1) := by decide +kernel
theorem dX1_init_1 : decode cX1_init 1 = .ok (.invokespecial 3, 3) := by decide +kernel
theorem dX1_init_4 : decode cX1_init 4 = .ok (.aload_n 0, 1) := by decide +kernel
theorem dX1_init_5 : decode cX1_init 5 = .ok (.iconst 1, 1) := by decide +kernel
theorem dX1_init_6 : decode cX1_init 6 = .ok (.putfield 9, 3) := by decide +kernel
theorem dX1_init_9 : decode cX1_init 9 = .ok (.aload_n 0, 1) := by decide +kernel
theorem dX1_init_10 : decode cX1_init 10 = .ok (.iconst 0, 1) := by decide +kernel
theorem dX1_init_11 : decode cX1_init 11 = .ok (.putfield 15, 3) := by decide +kernel
theorem dX1_init_14 : decode cX1_init 14 = .ok (.aload_n 0, 1) := by decide +kernel
theorem dX1_init_15 : decode cX1_init 15 = .ok (.iconst 1, 1) := by decide +kernel
theorem dX1_init_16 : decode cX1_init 16 = .ok (.putfield 18, 3) := by decide +kernel
theorem dX1_init_19 : decode cX1_init 19 = .ok (.aload_n 0, 1) := by decide +kernel
theorem dX1_init_20 : decode cX1_init 20 = .ok (.iconst 2, 1) := by decide +kernel
theorem dX1_init_21 : decode cX1_init 21 = .ok (.putfield 21, 3) := by decide +kernel
theorem dX1_init_24 : decode cX1_init 24 = .ok (.aload_n 0, 1) := by decide +kernel
theorem dX1_init_25 : decode cX1_init 25 = .ok (.bipush 64, 2) := by decide +kernel
theorem dX1_init_27 : decode cX1_init 27 = .ok (.newarray .int, 2) := by decide +kernel
theorem dX1_init_29 : decode cX1_init 29 = .ok (.putfield 24, 3) := by decide +kernel
theorem dX1_init_32 : decode cX1_init 32 = .ok (.aload_n 0, 1) := by decide +kernel
theorem dX1_init_33 : decode cX1_init 33 = .ok (.bipush 64, 2) := by decide +kernel
theorem dX1_init_35 : decode cX1_init 35 = .ok (.newarray .int, 2) := by decide +kernel
theorem dX1_init_37 : decode cX1_init 37 = .ok (.putfield 28, 3) := by decide +kernel
theorem dX1_init_40 : decode cX1_init 40 = .ok (.aload_n 0, 1) := by decide +kernel
theorem dX1_init_41 : decode cX1_init 41 = .ok (.aload_n 1, 1) := by decide +kernel
theorem dX1_init_42 : decode cX1_init 42 = .ok (.putfield 31, 3) := by decide +kernel
theorem dX1_init_45 : decode cX1_init 45 = .ok (.return_, 1) := by decide +kernel
theorem dX1_become_0 : decode cX1_become 0 = .ok (.aload_n 0, 1) := by decide +kernel
theorem dX1_become_1 : decode cX1_become 1 = .ok (.aload_n 1, 1) := by decide +kernel
theorem dX1_become_2 : decode cX1_become 2 = .ok (.getfield 35, 3) := by decide +kernel
theorem dX1_become_5 : decode cX1_become 5 = .ok (.putfield 9, 3) := by decide +kernel
theorem dX1_become_8 : decode cX1_become 8 = .ok (.aload_n 0, 1) := by decide +kernel
theorem dX1_become_9 : decode cX1_become 9 = .ok (.iconst 0, 1) := by decide +kernel
theorem dX1_become_10 : decode cX1_become 10 = .ok (.putfield 15, 3) := by decide +kernel
theorem dX1_become_13 : decode cX1_become 13 = .ok (.aload_n 0, 1) := by decide +kernel
theorem dX1_become_14 : decode cX1_become 14 = .ok (.getfield 24, 3) := by decide +kernel
theorem dX1_become_17 : decode cX1_become 17 = .ok (.iconst 0, 1) := by decide +kernel
theorem dX1_become_18 : decode cX1_become 18 = .ok (.invokestatic 38, 3) := by decide +kernel
theorem dX1_become_21 : decode cX1_become 21 = .ok (.aload_n 0, 1) := by decide +kernel
theorem dX1_become_22 : decode cX1_become 22 = .ok (.getfield 28, 3) := by decide +kernel
theorem dX1_become_25 : decode cX1_become 25 = .ok (.iconst 0, 1) := by decide +kernel
theorem dX1_become_26 : decode cX1_become 26 = .ok (.invokestatic 38, 3) := by decide +kernel
theorem dX1_become_29 : decode cX1_become 29 = .ok (.aload_n 0, 1) := by decide +kernel
theorem dX1_become_30 : decode cX1_become 30 = .ok (.getfield 24, 3) := by decide +kernel
theorem dX1_become_33 : decode cX1_become 33 = .ok (.iconst 0, 1) := by decide +kernel
theorem dX1_become_34 : decode cX1_become 34 = .ok (.iconst 1, 1) := by decide +kernel
theorem dX1_become_35 : decode cX1_become 35 = .ok (.iastore, 1) := by decide +kernel
theorem dX1_become_36 : decode cX1_become 36 = .ok (.aload_n 0, 1) := by decide +kernel
theorem dX1_become_37 : decode cX1_become 37 = .ok (.getfield 28, 3) := by decide +kernel
theorem dX1_become_40 : decode cX1_become 40 = .ok (.iconst 0, 1) := by decide +kernel
theorem dX1_become_41 : decode cX1_become 41 = .ok (.iconst 1, 1) := by decide +kernel
theorem dX1_become_42 : decode cX1_become 42 = .ok (.iastore, 1) := by decide +kernel
theorem dX1_become_43 : decode cX1_become 43 = .ok (.aload_n 0, 1) := by decide +kernel
theorem dX1_become_44 : decode cX1_become 44 = .ok (.getfield 31, 3) := by decide +kernel
theorem dX1_become_47 : decode cX1_become 47 = .ok (.getfield 44, 3) := by decide +kernel
theorem dX1_become_50 : decode cX1_become 50 = .ok (.iconst 1, 1) := by decide +kernel
theorem dX1_become_51 : decode cX1_become 51 = .ok (.isub, 1) := by decide +kernel
theorem dX1_become_52 : decode cX1_become 52 = .ok (.aload_n 0, 1) := by decide +kernel
theorem dX1_become_53 : decode cX1_become 53 = .ok (.getfield 9, 3) := by decide +kernel
theorem dX1_become_56 : decode cX1_become 56 = .ok (.invokestatic 49, 3) := by decide +kernel
theorem dX1_become_59 : decode cX1_become 59 = .ok (.istore_n 3, 1) := by decide +kernel
theorem dX1_become_60 : decode cX1_become 60 = .ok (.iconst 0, 1) := by decide +kernel
theorem dX1_become_61 : decode cX1_become 61 = .ok (.istore 4, 2) := by decide +kernel
theorem dX1_become_63 : decode cX1_become 63 = .ok (.iload 4, 2) := by decide +kernel
theorem dX1_become_65 : decode cX1_become 65 = .ok (.aload_n 0, 1) := by decide +kernel
theorem dX1_become_66 : decode cX1_become 66 = .ok (.getfield 9, 3) := by decide +kernel
theorem dX1_become_69 : decode cX1_become 69 = .ok (.if_icmp .ge 100, 3) := by decide +kernel
theorem dX1_become_72 : decode cX1_become 72 = .ok (.aload_n 0, 1) := by decide +kernel
theorem dX1_become_73 : decode cX1_become 73 = .ok (.getfield 31, 3) := by decide +kernel
theorem dX1_become_76 : decode cX1_become 76 = .ok (.getfield 55, 3) := by decide +kernel
theorem dX1_become_79 : decode cX1_become 79 = .ok (.iload 4, 2) := by decide +kernel
theorem dX1_become_81 : decode cX1_become 81 = .ok (.iload_n 3, 1) := by decide +kernel
theorem dX1_become_82 : decode cX1_become 82 = .ok (.imul, 1) := by decide +kernel
theorem dX1_become_83 : decode cX1_become 83 = .ok (.invokestatic 58, 3) := by decide +kernel
theorem dX1_become_86 : decode cX1_become 86 = .ok (.istore 5, 2) := by decide +kernel
theorem dX1_become_88 : decode cX1_become 88 = .ok (.aload_n 1, 1) := by decide +kernel
theorem dX1_become_89 : decode cX1_become 89 = .ok (.iload 4, 2) := by decide +kernel
theorem dX1_become_91 : decode cX1_become 91 = .ok (.invokevirtual 62, 3) := by decide +kernel
theorem dX1_become_94 : decode cX1_become 94 = .ok (.istore 6, 2) := by decide +kernel
theorem dX1_become_96 : decode cX1_become 96 = .ok (.iload 6, 2) := by decide +kernel
theorem dX1_become_98 : decode cX1_become 98 = .ok (.bipush 30, 2) := by decide +kernel
theorem dX1_become_100 : decode cX1_become 100 = .ok (.if_icmp .gt 43, 3) := by decide +kernel
theorem dX1_become_103 : decode cX1_become 103 = .ok (.iload_n 2, 1) := by decide +kernel
theorem dX1_become_104 : decode cX1_become 104 = .ok (.iload 6, 2) := by decide +kernel
theorem dX1_become_106 : decode cX1_become 106 = .ok (.ishr, 1) := by decide +kernel
theorem dX1_become_107 : decode cX1_become 107 = .ok (.iconst 1, 1) := by decide +kernel
theorem dX1_become_108 : decode cX1_become 108 = .ok (.iand, 1) := by decide +kernel
theorem dX1_become_109 : decode cX1_become 109 = .ok (.iconst 1, 1) := by decide +kernel
theorem dX1_become_110 : decode cX1_become 110 = .ok (.if_icmp .ne 33, 3) := by decide +kernel
theorem dX1_become_113 : decode cX1_become 113 = .ok (.aload_n 0, 1) := by decide +kernel
theorem dX1_become_114 : decode cX1_become 114 = .ok (.getfield 31, 3) := by decide +kernel
theorem dX1_become_117 : decode cX1_become 117 = .ok (.aload_n 0, 1) := by decide +kernel
theorem dX1_become_118 : decode cX1_become 118 = .ok (.getfield 24, 3) := by decide +kernel
theorem dX1_become_121 : decode cX1_become 121 = .ok (.aload_n 0, 1) := by decide +kernel
theorem dX1_become_122 : decode cX1_become 122 = .ok (.getfield 15, 3) := by decide +kernel
theorem dX1_become_125 : decode cX1_become 125 = .ok (.iload 5, 2) := by decide +kernel
theorem dX1_become_127 : decode cX1_become 127 = .ok (.invokevirtual 66, 3) := by decide +kernel
theorem dX1_become_130 : decode cX1_become 130 = .ok (.aload_n 0, 1) := by decide +kernel
theorem dX1_become_131 : decode cX1_become 131 = .ok (.dup, 1) := by decide +kernel
theorem dX1_become_132 : decode cX1_become 132 = .ok (.getfield 15, 3) := by decide +kernel
theorem dX1_become_135 : decode cX1_become 135 = .ok (.iconst 1, 1) := by decide +kernel
theorem dX1_become_136 : decode cX1_become 136 = .ok (.iadd, 1) := by decide +kernel
theorem dX1_become_137 : decode cX1_become 137 = .ok (.putfield 15, 3) := by decide +kernel
theorem dX1_become_140 : decode cX1_become 140 = .ok (.goto 23, 3) := by decide +kernel
theorem dX1_become_143 : decode cX1_become 143 = .ok (.aload_n 0, 1) := by decide +kernel
theorem dX1_become_144 : decode cX1_become 144 = .ok (.getfield 31, 3) := by decide +kernel
theorem dX1_become_147 : decode cX1_become 147 = .ok (.aload_n 0, 1) := by decide +kernel
theorem dX1_become_148 : decode cX1_become 148 = .ok (.getfield 28, 3) := by decide +kernel
theorem dX1_become_151 : decode cX1_become 151 = .ok (.iload 4, 2) := by decide +kernel
theorem dX1_become_153 : decode cX1_become 153 = .ok (.aload_n 0, 1) := by decide +kernel
theorem dX1_become_154 : decode cX1_become 154 = .ok (.getfield 15, 3) := by decide +kernel
theorem dX1_become_157 : decode cX1_become 157 = .ok (.isub, 1) := by decide +kernel
theorem dX1_become_158 : decode cX1_become 158 = .ok (.iload 5, 2) := by decide +kernel
theorem dX1_become_160 : decode cX1_become 160 = .ok (.invokevirtual 66, 3) := by decide +kernel
theorem dX1_become_163 : decode cX1_become 163 = .ok (.iinc 4 1, 3) := by decide +kernel
theorem dX1_become_166 : decode cX1_become 166 = .ok (.goto (-103), 3) := by decide +kernel
theorem dX1_become_169 : decode cX1_become 169 = .ok (.aload_n 0, 1) := by decide +kernel
theorem dX1_become_170 : decode cX1_become 170 = .ok (.aload_n 0, 1) := by decide +kernel
theorem dX1_become_171 : decode cX1_become 171 = .ok (.getfield 9, 3) := by decide +kernel
theorem dX1_become_174 : decode cX1_become 174 = .ok (.aload_n 0, 1) := by decide +kernel
theorem dX1_become_175 : decode cX1_become 175 = .ok (.getfield 15, 3) := by decide +kernel
theorem dX1_become_178 : decode cX1_become 178 = .ok (.isub, 1) := by decide +kernel
theorem dX1_become_179 : decode cX1_become 179 = .ok (.putfield 18, 3) := by decide +kernel
theorem dX1_become_182 : decode cX1_become 182 = .ok (.aload_n 0, 1) := by decide +kernel
theorem dX1_become_183 : decode cX1_become 183 = .ok (.aload_n 0, 1) := by decide +kernel
theorem dX1_become_184 : decode cX1_become 184 = .ok (.invokevirtual 70, 3) := by decide +kernel
theorem dX1_become_187 : decode cX1_become 187 = .ok (.putfield 21, 3) := by decide +kernel
theorem dX1_become_190 : decode cX1_become 190 = .ok (.return_, 1) := by decide +kernel
theorem dX1_smallWords_0 : decode cX1_smallWords 0 = .ok (.iconst 1, 1) := by decide +kernel
theorem dX1_smallWords_1 : decode cX1_smallWords 1 = .ok (.istore_n 1, 1) := by decide +kernel
theorem dX1_smallWords_2 : decode cX1_smallWords 2 = .ok (.iconst 0, 1) := by decide +kernel
theorem dX1_smallWords_3 : decode cX1_smallWords 3 = .ok (.istore_n 2, 1) := by decide +kernel
theorem dX1_smallWords_4 : decode cX1_smallWords 4 = .ok (.iload_n 2, 1) := by decide +kernel
theorem dX1_smallWords_5 : decode cX1_smallWords 5 = .ok (.aload_n 0, 1) := by decide +kernel
theorem dX1_smallWords_6 : decode cX1_smallWords 6 = .ok (.getfield 18, 3) := by decide +kernel
theorem dX1_smallWords_9 : decode cX1_smallWords 9 = .ok (.if_icmp .ge 25, 3) := by decide +kernel
theorem dX1_smallWords_12 : decode cX1_smallWords 12 = .ok (.iload_n 1, 1) := by decide +kernel
theorem dX1_smallWords_13 : decode cX1_smallWords 13 = .ok (.ldc 74, 2) := by decide +kernel
theorem dX1_smallWords_15 : decode cX1_smallWords 15 = .ok (.if_icmp .gt 19, 3) := by decide +kernel
theorem dX1_smallWords_18 : decode cX1_smallWords 18 = .ok (.iload_n 1, 1) := by decide +kernel
theorem dX1_smallWords_19 : decode cX1_smallWords 19 = .ok (.aload_n 0, 1) := by decide +kernel
theorem dX1_smallWords_20 : decode cX1_smallWords 20 = .ok (.getfield 31, 3) := by decide +kernel
theorem dX1_smallWords_23 : decode cX1_smallWords 23 = .ok (.getfield 75, 3) := by decide +kernel
theorem dX1_smallWords_26 : decode cX1_smallWords 26 = .ok (.imul, 1) := by decide +kernel
theorem dX1_smallWords_27 : decode cX1_smallWords 27 = .ok (.istore_n 1, 1) := by decide +kernel
theorem dX1_smallWords_28 : decode cX1_smallWords 28 = .ok (.iinc 2 1, 3) := by decide +kernel
theorem dX1_smallWords_31 : decode cX1_smallWords 31 = .ok (.goto (-27), 3) := by decide +kernel
theorem dX1_smallWords_34 : decode cX1_smallWords 34 = .ok (.iload_n 1, 1) := by decide +kernel
theorem dX1_smallWords_35 : decode cX1_smallWords 35 = .ok (.ldc 74, 2) := by decide +kernel
theorem dX1_smallWords_37 : decode cX1_smallWords 37 = .ok (.if_icmp .gt 7, 3) := by decide +kernel
theorem dX1_smallWords_40 : decode cX1_smallWords 40 = .ok (.iload_n 1, 1) := by decide +kernel
theorem dX1_smallWords_41 : decode cX1_smallWords 41 = .ok (.goto 4, 3) := by decide +kernel
theorem dX1_smallWords_44 : decode cX1_smallWords 44 = .ok (.iconst 0, 1) := by decide +kernel
theorem dX1_smallWords_45 : decode cX1_smallWords 45 = .ok (.ireturn, 1) := by decide +kernel
theorem dX2_init_0 : decode cX2_init 0 = .ok (.aload_n 0, 1) := by decide +kernel
theorem dX2_init_1 : decode cX2_init 1 = .ok (.invokespecial 3, 3) := by decide +kernel
theorem dX2_init_4 : decode cX2_init 4 = .ok (.aload_n 0, 1) := by decide +kernel
theorem dX2_init_5 : decode cX2_init 5 = .ok (.iconst 2, 1) := by decide +kernel
theorem dX2_init_6 : decode cX2_init 6 = .ok (.putfield 9, 3) := by decide +kernel
theorem dX2_init_9 : decode cX2_init 9 = .ok (.aload_n 0, 1) := by decide +kernel
theorem dX2_init_10 : decode cX2_init 10 = .ok (.iconst 1, 1) := by decide +kernel
theorem dX2_init_11 : decode cX2_init 11 = .ok (.putfield 15, 3) := by decide +kernel
theorem dX2_init_14 : decode cX2_init 14 = .ok (.aload_n 0, 1) := by decide +kernel
theorem dX2_init_15 : decode cX2_init 15 = .ok (.iconst 1, 1) := by decide +kernel
theorem dX2_init_16 : decode cX2_init 16 = .ok (.putfield 18, 3) := by decide +kernel
theorem dX2_init_19 : decode cX2_init 19 = .ok (.aload_n 0, 1) := by decide +kernel
theorem dX2_init_20 : decode cX2_init 20 = .ok (.iconst 2, 1) := by decide +kernel
theorem dX2_init_21 : decode cX2_init 21 = .ok (.putfield 21, 3) := by decide +kernel
theorem dX2_init_24 : decode cX2_init 24 = .ok (.aload_n 0, 1) := by decide +kernel
theorem dX2_init_25 : decode cX2_init 25 = .ok (.iconst 2, 1) := by decide +kernel
theorem dX2_init_26 : decode cX2_init 26 = .ok (.putfield 24, 3) := by decide +kernel
theorem dX2_init_29 : decode cX2_init 29 = .ok (.aload_n 0, 1) := by decide +kernel
theorem dX2_init_30 : decode cX2_init 30 = .ok (.iconst 2, 1) := by decide +kernel
theorem dX2_init_31 : decode cX2_init 31 = .ok (.putfield 27, 3) := by decide +kernel
theorem dX2_init_34 : decode cX2_init 34 = .ok (.aload_n 0, 1) := by decide +kernel
theorem dX2_init_35 : decode cX2_init 35 = .ok (.iconst 1, 1) := by decide +kernel
theorem dX2_init_36 : decode cX2_init 36 = .ok (.putfield 30, 3) := by decide +kernel
theorem dX2_init_39 : decode cX2_init 39 = .ok (.aload_n 0, 1) := by decide +kernel
theorem dX2_init_40 : decode cX2_init 40 = .ok (.bipush 7, 2) := by decide +kernel
theorem dX2_init_42 : decode cX2_init 42 = .ok (.newarray .int, 2) := by decide +kernel
theorem dX2_init_44 : decode cX2_init 44 = .ok (.putfield 33, 3) := by decide +kernel
theorem dX2_init_47 : decode cX2_init 47 = .ok (.aload_n 0, 1) := by decide +kernel
theorem dX2_init_48 : decode cX2_init 48 = .ok (.sipush 3125, 3) := by decide +kernel
theorem dX2_init_51 : decode cX2_init 51 = .ok (.newarray .int, 2) := by decide +kernel
theorem dX2_init_53 : decode cX2_init 53 = .ok (.putfield 37, 3) := by decide +kernel
theorem dX2_init_56 : decode cX2_init 56 = .ok (.aload_n 0, 1) := by decide +kernel
theorem dX2_init_57 : decode cX2_init 57 = .ok (.sipush 3125, 3) := by decide +kernel
theorem dX2_init_60 : decode cX2_init 60 = .ok (.newarray .int, 2) := by decide +kernel
theorem dX2_init_62 : decode cX2_init 62 = .ok (.putfield 40, 3) := by decide +kernel
theorem dX2_init_65 : decode cX2_init 65 = .ok (.aload_n 0, 1) := by decide +kernel
theorem dX2_init_66 : decode cX2_init 66 = .ok (.bipush 6, 2) := by decide +kernel
theorem dX2_init_68 : decode cX2_init 68 = .ok (.bipush 6, 2) := by decide +kernel
theorem dX2_init_70 : decode cX2_init 70 = .ok (.multianewarray 43 2, 4) := by decide +kernel
theorem dX2_init_74 : decode cX2_init 74 = .ok (.putfield 45, 3) := by decide +kernel
theorem dX2_init_77 : decode cX2_init 77 = .ok (.aload_n 0, 1) := by decide +kernel
theorem dX2_init_78 : decode cX2_init 78 = .ok (.bipush 6, 2) := by decide +kernel
theorem dX2_init_80 : decode cX2_init 80 = .ok (.newarray .int, 2) := by decide +kernel
theorem dX2_init_82 : decode cX2_init 82 = .ok (.putfield 48, 3) := by decide +kernel
theorem dX2_init_85 : decode cX2_init 85 = .ok (.aload_n 0, 1) := by decide +kernel
theorem dX2_init_86 : decode cX2_init 86 = .ok (.bipush 6, 2) := by decide +kernel
theorem dX2_init_88 : decode cX2_init 88 = .ok (.newarray .int, 2) := by decide +kernel
theorem dX2_init_90 : decode cX2_init 90 = .ok (.putfield 51, 3) := by decide +kernel
theorem dX2_init_93 : decode cX2_init 93 = .ok (.aload_n 0, 1) := by decide +kernel
theorem dX2_init_94 : decode cX2_init 94 = .ok (.bipush 12, 2) := by decide +kernel
theorem dX2_init_96 : decode cX2_init 96 = .ok (.newarray .int, 2) := by decide +kernel
theorem dX2_init_98 : decode cX2_init 98 = .ok (.putfield 54, 3) := by decide +kernel
theorem dX2_init_101 : decode cX2_init 101 = .ok (.aload_n 0, 1) := by decide +kernel
theorem dX2_init_102 : decode cX2_init 102 = .ok (.bipush 7, 2) := by decide +kernel
theorem dX2_init_104 : decode cX2_init 104 = .ok (.newarray .int, 2) := by decide +kernel
theorem dX2_init_106 : decode cX2_init 106 = .ok (.putfield 57, 3) := by decide +kernel
theorem dX2_init_109 : decode cX2_init 109 = .ok (.return_, 1) := by decide +kernel
theorem dX2_become_0 : decode cX2_become 0 = .ok (.iload_n 1, 1) := by decide +kernel
theorem dX2_become_1 : decode cX2_become 1 = .ok (.iload_n 2, 1) := by decide +kernel
theorem dX2_become_2 : decode cX2_become 2 = .ok (.iload_n 3, 1) := by decide +kernel
theorem dX2_become_3 : decode cX2_become 3 = .ok (.invokestatic 60, 3) := by decide +kernel
theorem dX2_become_6 : decode cX2_become 6 = .ok (.ifCond .ne 5, 3) := by decide +kernel
theorem dX2_become_9 : decode cX2_become 9 = .ok (.iconst 0, 1) := by decide +kernel
theorem dX2_become_10 : decode cX2_become 10 = .ok (.ireturn, 1) := by decide +kernel
theorem dX2_become_11 : decode cX2_become 11 = .ok (.aload_n 0, 1) := by decide +kernel
theorem dX2_become_12 : decode cX2_become 12 = .ok (.iload_n 1, 1) := by decide +kernel
theorem dX2_become_13 : decode cX2_become 13 = .ok (.putfield 9, 3) := by decide +kernel
theorem dX2_become_16 : decode cX2_become 16 = .ok (.aload_n 0, 1) := by decide +kernel
theorem dX2_become_17 : decode cX2_become 17 = .ok (.iload_n 2, 1) := by decide +kernel
theorem dX2_become_18 : decode cX2_become 18 = .ok (.putfield 15, 3) := by decide +kernel
theorem dX2_become_21 : decode cX2_become 21 = .ok (.aload_n 0, 1) := by decide +kernel
theorem dX2_become_22 : decode cX2_become 22 = .ok (.iload_n 3, 1) := by decide +kernel
theorem dX2_become_23 : decode cX2_become 23 = .ok (.putfield 18, 3) := by decide +kernel
theorem dX2_become_26 : decode cX2_become 26 = .ok (.aload_n 0, 1) := by decide +kernel
theorem dX2_become_27 : decode cX2_become 27 = .ok (.aload_n 0, 1) := by decide +kernel
theorem dX2_become_28 : decode cX2_become 28 = .ok (.getfield 9, 3) := by decide +kernel
theorem dX2_become_31 : decode cX2_become 31 = .ok (.aload_n 0, 1) := by decide +kernel
theorem dX2_become_32 : decode cX2_become 32 = .ok (.getfield 15, 3) := by decide +kernel
theorem dX2_become_35 : decode cX2_become 35 = .ok (.invokestatic 64, 3) := by decide +kernel
theorem dX2_become_38 : decode cX2_become 38 = .ok (.putfield 21, 3) := by decide +kernel
theorem dX2_become_41 : decode cX2_become 41 = .ok (.aload_n 0, 1) := by decide +kernel
theorem dX2_become_42 : decode cX2_become 42 = .ok (.aload_n 0, 1) := by decide +kernel
theorem dX2_become_43 : decode cX2_become 43 = .ok (.getfield 9, 3) := by decide +kernel
theorem dX2_become_46 : decode cX2_become 46 = .ok (.aload_n 0, 1) := by decide +kernel
theorem dX2_become_47 : decode cX2_become 47 = .ok (.getfield 18, 3) := by decide +kernel
theorem dX2_become_50 : decode cX2_become 50 = .ok (.invokestatic 64, 3) := by decide +kernel
theorem dX2_become_53 : decode cX2_become 53 = .ok (.putfield 24, 3) := by decide +kernel
theorem dX2_become_56 : decode cX2_become 56 = .ok (.aload_n 0, 1) := by decide +kernel
theorem dX2_become_57 : decode cX2_become 57 = .ok (.aload_n 0, 1) := by decide +kernel
theorem dX2_become_58 : decode cX2_become 58 = .ok (.getfield 24, 3) := by decide +kernel
theorem dX2_become_61 : decode cX2_become 61 = .ok (.aload_n 0, 1) := by decide +kernel
theorem dX2_become_62 : decode cX2_become 62 = .ok (.getfield 15, 3) := by decide +kernel
theorem dX2_become_65 : decode cX2_become 65 = .ok (.invokestatic 64, 3) := by decide +kernel
theorem dX2_become_68 : decode cX2_become 68 = .ok (.putfield 27, 3) := by decide +kernel
theorem dX2_become_71 : decode cX2_become 71 = .ok (.aload_n 0, 1) := by decide +kernel
theorem dX2_become_72 : decode cX2_become 72 = .ok (.invokevirtual 70, 3) := by decide +kernel
theorem dX2_become_75 : decode cX2_become 75 = .ok (.aload_n 0, 1) := by decide +kernel
theorem dX2_become_76 : decode cX2_become 76 = .ok (.invokevirtual 73, 3) := by decide +kernel
theorem dX2_become_79 : decode cX2_become 79 = .ok (.aload_n 0, 1) := by decide +kernel
theorem dX2_become_80 : decode cX2_become 80 = .ok (.invokevirtual 76, 3) := by decide +kernel
theorem dX2_become_83 : decode cX2_become 83 = .ok (.aload_n 0, 1) := by decide +kernel
theorem dX2_become_84 : decode cX2_become 84 = .ok (.invokevirtual 79, 3) := by decide +kernel
theorem dX2_become_87 : decode cX2_become 87 = .ok (.iconst 1, 1) := by decide +kernel
theorem dX2_become_88 : decode cX2_become 88 = .ok (.ireturn, 1) := by decide +kernel
theorem dX2_exists_0 : decode cX2_exists 0 = .ok (.iload_n 0, 1) := by decide +kernel
theorem dX2_exists_1 : decode cX2_exists 1 = .ok (.iconst 2, 1) := by decide +kernel
theorem dX2_exists_2 : decode cX2_exists 2 = .ok (.if_icmp .eq 19, 3) := by decide +kernel
theorem dX2_exists_5 : decode cX2_exists 5 = .ok (.iload_n 0, 1) := by decide +kernel
theorem dX2_exists_6 : decode cX2_exists 6 = .ok (.iconst 3, 1) := by decide +kernel
theorem dX2_exists_7 : decode cX2_exists 7 = .ok (.if_icmp .eq 14, 3) := by decide +kernel
theorem dX2_exists_10 : decode cX2_exists 10 = .ok (.iload_n 0, 1) := by decide +kernel
theorem dX2_exists_11 : decode cX2_exists 11 = .ok (.iconst 5, 1) := by decide +kernel
theorem dX2_exists_12 : decode cX2_exists 12 = .ok (.if_icmp .eq 9, 3) := by decide +kernel
theorem dX2_exists_15 : decode cX2_exists 15 = .ok (.iload_n 0, 1) := by decide +kernel
theorem dX2_exists_16 : decode cX2_exists 16 = .ok (.bipush 7, 2) := by decide +kernel
theorem dX2_exists_18 : decode cX2_exists 18 = .ok (.if_icmp .ne 28, 3) := by decide +kernel
theorem dX2_exists_21 : decode cX2_exists 21 = .ok (.iload_n 1, 1) := by decide +kernel
theorem dX2_exists_22 : decode cX2_exists 22 = .ok (.iconst 1, 1) := by decide +kernel
theorem dX2_exists_23 : decode cX2_exists 23 = .ok (.if_icmp .lt 23, 3) := by decide +kernel
theorem dX2_exists_26 : decode cX2_exists 26 = .ok (.iload_n 1, 1) := by decide +kernel
theorem dX2_exists_27 : decode cX2_exists 27 = .ok (.iconst 4, 1) := by decide +kernel
theorem dX2_exists_28 : decode cX2_exists 28 = .ok (.if_icmp .gt 18, 3) := by decide +kernel
theorem dX2_exists_31 : decode cX2_exists 31 = .ok (.iload_n 2, 1) := by decide +kernel
theorem dX2_exists_32 : decode cX2_exists 32 = .ok (.iconst 1, 1) := by decide +kernel
theorem dX2_exists_33 : decode cX2_exists 33 = .ok (.if_icmp .lt 13, 3) := by decide +kernel
theorem dX2_exists_36 : decode cX2_exists 36 = .ok (.iload_n 2, 1) := by decide +kernel
theorem dX2_exists_37 : decode cX2_exists 37 = .ok (.bipush 6, 2) := by decide +kernel
theorem dX2_exists_39 : decode cX2_exists 39 = .ok (.if_icmp .gt 7, 3) := by decide +kernel
theorem dX2_exists_42 : decode cX2_exists 42 = .ok (.iconst 1, 1) := by decide +kernel
theorem dX2_exists_43 : decode cX2_exists 43 = .ok (.goto 4, 3) := by decide +kernel
theorem dX2_exists_46 : decode cX2_exists 46 = .ok (.iconst 0, 1) := by decide +kernel
theorem dX2_exists_47 : decode cX2_exists 47 = .ok (.istore_n 3, 1) := by decide +kernel
theorem dX2_exists_48 : decode cX2_exists 48 = .ok (.iconst 1, 1) := by decide +kernel
theorem dX2_exists_49 : decode cX2_exists 49 = .ok (.istore 4, 2) := by decide +kernel
theorem dX2_exists_51 : decode cX2_exists 51 = .ok (.iconst 0, 1) := by decide +kernel
theorem dX2_exists_52 : decode cX2_exists 52 = .ok (.istore 5, 2) := by decide +kernel
theorem dX2_exists_54 : decode cX2_exists 54 = .ok (.iload_n 3, 1) := by decide +kernel
theorem dX2_exists_55 : decode cX2_exists 55 = .ok (.ifCond .eq 31, 3) := by decide +kernel
theorem dX2_exists_58 : decode cX2_exists 58 = .ok (.iload 5, 2) := by decide +kernel
theorem dX2_exists_60 : decode cX2_exists 60 = .ok (.iload_n 1, 1) := by decide +kernel
theorem dX2_exists_61 : decode cX2_exists 61 = .ok (.iload_n 2, 1) := by decide +kernel
theorem dX2_exists_62 : decode cX2_exists 62 = .ok (.imul, 1) := by decide +kernel
theorem dX2_exists_63 : decode cX2_exists 63 = .ok (.if_icmp .ge 23, 3) := by decide +kernel
theorem dX2_exists_66 : decode cX2_exists 66 = .ok (.iload 4, 2) := by decide +kernel
theorem dX2_exists_68 : decode cX2_exists 68 = .ok (.sipush 4096, 3) := by decide +kernel
theorem dX2_exists_71 : decode cX2_exists 71 = .ok (.if_icmp .gt 15, 3) := by decide +kernel
theorem dX2_exists_74 : decode cX2_exists 74 = .ok (.iload 4, 2) := by decide +kernel
theorem dX2_exists_76 : decode cX2_exists 76 = .ok (.iload_n 0, 1) := by decide +kernel
theorem dX2_exists_77 : decode cX2_exists 77 = .ok (.imul, 1) := by decide +kernel
theorem dX2_exists_78 : decode cX2_exists 78 = .ok (.istore 4, 2) := by decide +kernel
theorem dX2_exists_80 : decode cX2_exists 80 = .ok (.iinc 5 1, 3) := by decide +kernel
theorem dX2_exists_83 : decode cX2_exists 83 = .ok (.goto (-29), 3) := by decide +kernel
theorem dX2_exists_86 : decode cX2_exists 86 = .ok (.iload_n 3, 1) := by decide +kernel
theorem dX2_exists_87 : decode cX2_exists 87 = .ok (.ifCond .eq 15, 3) := by decide +kernel
theorem dX2_exists_90 : decode cX2_exists 90 = .ok (.iload 4, 2) := by decide +kernel
theorem dX2_exists_92 : decode cX2_exists 92 = .ok (.sipush 4096, 3) := by decide +kernel
theorem dX2_exists_95 : decode cX2_exists 95 = .ok (.if_icmp .gt 7, 3) := by decide +kernel
theorem dX2_exists_98 : decode cX2_exists 98 = .ok (.iconst 1, 1) := by decide +kernel
theorem dX2_exists_99 : decode cX2_exists 99 = .ok (.goto 4, 3) := by decide +kernel
theorem dX2_exists_102 : decode cX2_exists 102 = .ok (.iconst 0, 1) := by decide +kernel
theorem dX2_exists_103 : decode cX2_exists 103 = .ok (.ireturn, 1) := by decide +kernel
theorem dX2_liftModulus_0 : decode cX2_liftModulus 0 = .ok (.aload_n 0, 1) := by decide +kernel
theorem dX2_liftModulus_1 : decode cX2_liftModulus 1 = .ok (.getfield 9, 3) := by decide +kernel
theorem dX2_liftModulus_4 : decode cX2_liftModulus 4 = .ok (.aload_n 0, 1) := by decide +kernel
theorem dX2_liftModulus_5 : decode cX2_liftModulus 5 = .ok (.getfield 18, 3) := by decide +kernel
theorem dX2_liftModulus_8 : decode cX2_liftModulus 8 = .ok (.invokestatic 82, 3) := by decide +kernel
theorem dX2_liftModulus_11 : decode cX2_liftModulus 11 = .ok (.istore_n 1, 1) := by decide +kernel
theorem dX2_liftModulus_12 : decode cX2_liftModulus 12 = .ok (.iconst 0, 1) := by decide +kernel
theorem dX2_liftModulus_13 : decode cX2_liftModulus 13 = .ok (.istore_n 2, 1) := by decide +kernel
theorem dX2_liftModulus_14 : decode cX2_liftModulus 14 = .ok (.iload_n 2, 1) := by decide +kernel
theorem dX2_liftModulus_15 : decode cX2_liftModulus 15 = .ok (.aload_n 0, 1) := by decide +kernel
theorem dX2_liftModulus_16 : decode cX2_liftModulus 16 = .ok (.getfield 18, 3) := by decide +kernel
theorem dX2_liftModulus_19 : decode cX2_liftModulus 19 = .ok (.if_icmp .gt 34, 3) := by decide +kernel
theorem dX2_liftModulus_22 : decode cX2_liftModulus 22 = .ok (.aload_n 0, 1) := by decide +kernel
theorem dX2_liftModulus_23 : decode cX2_liftModulus 23 = .ok (.getfield 33, 3) := by decide +kernel
theorem dX2_liftModulus_26 : decode cX2_liftModulus 26 = .ok (.iload_n 2, 1) := by decide +kernel
theorem dX2_liftModulus_27 : decode cX2_liftModulus 27 = .ok (.iload_n 1, 1) := by decide +kernel
theorem dX2_liftModulus_28 : decode cX2_liftModulus 28 = .ok (.aload_n 0, 1) := by decide +kernel
theorem dX2_liftModulus_29 : decode cX2_liftModulus 29 = .ok (.getfield 9, 3) := by decide +kernel
theorem dX2_liftModulus_32 : decode cX2_liftModulus 32 = .ok (.invokestatic 87, 3) := by decide +kernel
theorem dX2_liftModulus_35 : decode cX2_liftModulus 35 = .ok (.invokestatic 90, 3) := by decide +kernel
theorem dX2_liftModulus_38 : decode cX2_liftModulus 38 = .ok (.iload_n 1, 1) := by decide +kernel
theorem dX2_liftModulus_39 : decode cX2_liftModulus 39 = .ok (.aload_n 0, 1) := by decide +kernel
theorem dX2_liftModulus_40 : decode cX2_liftModulus 40 = .ok (.getfield 9, 3) := by decide +kernel
theorem dX2_liftModulus_43 : decode cX2_liftModulus 43 = .ok (.invokestatic 94, 3) := by decide +kernel
theorem dX2_liftModulus_46 : decode cX2_liftModulus 46 = .ok (.istore_n 1, 1) := by decide +kernel
theorem dX2_liftModulus_47 : decode cX2_liftModulus 47 = .ok (.iinc 2 1, 3) := by decide +kernel
theorem dX2_liftModulus_50 : decode cX2_liftModulus 50 = .ok (.goto (-36), 3) := by decide +kernel
theorem dX2_liftModulus_53 : decode cX2_liftModulus 53 = .ok (.aload_n 0, 1) := by decide +kernel
theorem dX2_liftModulus_54 : decode cX2_liftModulus 54 = .ok (.getfield 57, 3) := by decide +kernel
theorem dX2_liftModulus_57 : decode cX2_liftModulus 57 = .ok (.iconst 0, 1) := by decide +kernel
theorem dX2_liftModulus_58 : decode cX2_liftModulus 58 = .ok (.invokestatic 97, 3) := by decide +kernel
theorem dX2_liftModulus_61 : decode cX2_liftModulus 61 = .ok (.aload_n 0, 1) := by decide +kernel
theorem dX2_liftModulus_62 : decode cX2_liftModulus 62 = .ok (.getfield 57, 3) := by decide +kernel
theorem dX2_liftModulus_65 : decode cX2_liftModulus 65 = .ok (.iconst 0, 1) := by decide +kernel
theorem dX2_liftModulus_66 : decode cX2_liftModulus 66 = .ok (.iconst 1, 1) := by decide +kernel
theorem dX2_liftModulus_67 : decode cX2_liftModulus 67 = .ok (.iastore, 1) := by decide +kernel
theorem dX2_liftModulus_68 : decode cX2_liftModulus 68 = .ok (.aload_n 0, 1) := by decide +kernel
theorem dX2_liftModulus_69 : decode cX2_liftModulus 69 = .ok (.aload_n 0, 1) := by decide +kernel
theorem dX2_liftModulus_70 : decode cX2_liftModulus 70 = .ok (.invokevirtual 103, 3) := by decide +kernel
theorem dX2_liftModulus_73 : decode cX2_liftModulus 73 = .ok (.aload_n 0, 1) := by decide +kernel
theorem dX2_liftModulus_74 : decode cX2_liftModulus 74 = .ok (.invokevirtual 107, 3) := by decide +kernel
theorem dX2_liftModulus_77 : decode cX2_liftModulus 77 = .ok (.invokevirtual 110, 3) := by decide +kernel
theorem dX2_liftModulus_80 : decode cX2_liftModulus 80 = .ok (.istore_n 2, 1) := by decide +kernel
theorem dX2_liftModulus_81 : decode cX2_liftModulus 81 = .ok (.iconst 0, 1) := by decide +kernel
theorem dX2_liftModulus_82 : decode cX2_liftModulus 82 = .ok (.istore_n 3, 1) := by decide +kernel
theorem dX2_liftModulus_83 : decode cX2_liftModulus 83 = .ok (.iload_n 3, 1) := by decide +kernel
theorem dX2_liftModulus_84 : decode cX2_liftModulus 84 = .ok (.aload_n 0, 1) := by decide +kernel
theorem dX2_liftModulus_85 : decode cX2_liftModulus 85 = .ok (.getfield 18, 3) := by decide +kernel
theorem dX2_liftModulus_88 : decode cX2_liftModulus 88 = .ok (.if_icmp .ge 29, 3) := by decide +kernel
theorem dX2_liftModulus_91 : decode cX2_liftModulus 91 = .ok (.aload_n 0, 1) := by decide +kernel
theorem dX2_liftModulus_92 : decode cX2_liftModulus 92 = .ok (.aload_n 0, 1) := by decide +kernel
theorem dX2_liftModulus_93 : decode cX2_liftModulus 93 = .ok (.getfield 57, 3) := by decide +kernel
theorem dX2_liftModulus_96 : decode cX2_liftModulus 96 = .ok (.iload_n 3, 1) := by decide +kernel
theorem dX2_liftModulus_97 : decode cX2_liftModulus 97 = .ok (.iload_n 2, 1) := by decide +kernel
theorem dX2_liftModulus_98 : decode cX2_liftModulus 98 = .ok (.invokevirtual 113, 3) := by decide +kernel
theorem dX2_liftModulus_101 : decode cX2_liftModulus 101 = .ok (.aload_n 0, 1) := by decide +kernel
theorem dX2_liftModulus_102 : decode cX2_liftModulus 102 = .ok (.iload_n 2, 1) := by decide +kernel
theorem dX2_liftModulus_103 : decode cX2_liftModulus 103 = .ok (.aload_n 0, 1) := by decide +kernel
theorem dX2_liftModulus_104 : decode cX2_liftModulus 104 = .ok (.getfield 9, 3) := by decide +kernel
theorem dX2_liftModulus_107 : decode cX2_liftModulus 107 = .ok (.invokevirtual 110, 3) := by decide +kernel
theorem dX2_liftModulus_110 : decode cX2_liftModulus 110 = .ok (.istore_n 2, 1) := by decide +kernel
theorem dX2_liftModulus_111 : decode cX2_liftModulus 111 = .ok (.iinc 3 1, 3) := by decide +kernel
theorem dX2_liftModulus_114 : decode cX2_liftModulus 114 = .ok (.goto (-31), 3) := by decide +kernel
theorem dX2_liftModulus_117 : decode cX2_liftModulus 117 = .ok (.iconst 0, 1) := by decide +kernel
theorem dX2_liftModulus_118 : decode cX2_liftModulus 118 = .ok (.istore_n 3, 1) := by decide +kernel
theorem dX2_liftModulus_119 : decode cX2_liftModulus 119 = .ok (.iload_n 3, 1) := by decide +kernel
theorem dX2_liftModulus_120 : decode cX2_liftModulus 120 = .ok (.aload_n 0, 1) := by decide +kernel
theorem dX2_liftModulus_121 : decode cX2_liftModulus 121 = .ok (.getfield 18, 3) := by decide +kernel
theorem dX2_liftModulus_124 : decode cX2_liftModulus 124 = .ok (.if_icmp .gt 25, 3) := by decide +kernel
theorem dX2_liftModulus_127 : decode cX2_liftModulus 127 = .ok (.aload_n 0, 1) := by decide +kernel
theorem dX2_liftModulus_128 : decode cX2_liftModulus 128 = .ok (.getfield 33, 3) := by decide +kernel
theorem dX2_liftModulus_131 : decode cX2_liftModulus 131 = .ok (.iload_n 3, 1) := by decide +kernel
theorem dX2_liftModulus_132 : decode cX2_liftModulus 132 = .ok (.aload_n 0, 1) := by decide +kernel
theorem dX2_liftModulus_133 : decode cX2_liftModulus 133 = .ok (.getfield 57, 3) := by decide +kernel
theorem dX2_liftModulus_136 : decode cX2_liftModulus 136 = .ok (.iload_n 3, 1) := by decide +kernel
theorem dX2_liftModulus_137 : decode cX2_liftModulus 137 = .ok (.invokestatic 116, 3) := by decide +kernel
theorem dX2_liftModulus_140 : decode cX2_liftModulus 140 = .ok (.invokestatic 90, 3) := by decide +kernel
theorem dX2_liftModulus_143 : decode cX2_liftModulus 143 = .ok (.iinc 3 1, 3) := by decide +kernel
theorem dX2_liftModulus_146 : decode cX2_liftModulus 146 = .ok (.goto (-27), 3) := by decide +kernel
theorem dX2_liftModulus_149 : decode cX2_liftModulus 149 = .ok (.return_, 1) := by decide +kernel
theorem dX2_fillImages_0 : decode cX2_fillImages 0 = .ok (.iconst 0, 1) := by decide +kernel
theorem dX2_fillImages_1 : decode cX2_fillImages 1 = .ok (.istore_n 1, 1) := by decide +kernel
theorem dX2_fillImages_2 : decode cX2_fillImages 2 = .ok (.iload_n 1, 1) := by decide +kernel
theorem dX2_fillImages_3 : decode cX2_fillImages 3 = .ok (.aload_n 0, 1) := by decide +kernel
theorem dX2_fillImages_4 : decode cX2_fillImages 4 = .ok (.getfield 18, 3) := by decide +kernel
theorem dX2_fillImages_7 : decode cX2_fillImages 7 = .ok (.if_icmp .ge 42, 3) := by decide +kernel
theorem dX2_fillImages_10 : decode cX2_fillImages 10 = .ok (.iload_n 1, 1) := by decide +kernel
theorem dX2_fillImages_11 : decode cX2_fillImages 11 = .ok (.aload_n 0, 1) := by decide +kernel
theorem dX2_fillImages_12 : decode cX2_fillImages 12 = .ok (.getfield 45, 3) := by decide +kernel
theorem dX2_fillImages_15 : decode cX2_fillImages 15 = .ok (.arraylength, 1) := by decide +kernel
theorem dX2_fillImages_16 : decode cX2_fillImages 16 = .ok (.if_icmp .ge 33, 3) := by decide +kernel
theorem dX2_fillImages_19 : decode cX2_fillImages 19 = .ok (.aload_n 0, 1) := by decide +kernel
theorem dX2_fillImages_20 : decode cX2_fillImages 20 = .ok (.aload_n 0, 1) := by decide +kernel
theorem dX2_fillImages_21 : decode cX2_fillImages 21 = .ok (.aload_n 0, 1) := by decide +kernel
theorem dX2_fillImages_22 : decode cX2_fillImages 22 = .ok (.invokevirtual 103, 3) := by decide +kernel
theorem dX2_fillImages_25 : decode cX2_fillImages 25 = .ok (.aload_n 0, 1) := by decide +kernel
theorem dX2_fillImages_26 : decode cX2_fillImages 26 = .ok (.getfield 9, 3) := by decide +kernel
theorem dX2_fillImages_29 : decode cX2_fillImages 29 = .ok (.iload_n 1, 1) := by decide +kernel
theorem dX2_fillImages_30 : decode cX2_fillImages 30 = .ok (.imul, 1) := by decide +kernel
theorem dX2_fillImages_31 : decode cX2_fillImages 31 = .ok (.invokevirtual 110, 3) := by decide +kernel
theorem dX2_fillImages_34 : decode cX2_fillImages 34 = .ok (.aload_n 0, 1) := by decide +kernel
theorem dX2_fillImages_35 : decode cX2_fillImages 35 = .ok (.getfield 45, 3) := by decide +kernel
theorem dX2_fillImages_38 : decode cX2_fillImages 38 = .ok (.iload_n 1, 1) := by decide +kernel
theorem dX2_fillImages_39 : decode cX2_fillImages 39 = .ok (.aaload, 1) := by decide +kernel
theorem dX2_fillImages_40 : decode cX2_fillImages 40 = .ok (.invokevirtual 120, 3) := by decide +kernel
theorem dX2_fillImages_43 : decode cX2_fillImages 43 = .ok (.iinc 1 1, 3) := by decide +kernel
theorem dX2_fillImages_46 : decode cX2_fillImages 46 = .ok (.goto (-44), 3) := by decide +kernel
theorem dX2_fillImages_49 : decode cX2_fillImages 49 = .ok (.return_, 1) := by decide +kernel
theorem dX2_findGenerator_0 : decode cX2_findGenerator 0 = .ok (.aload_n 0, 1) := by decide +kernel
theorem dX2_findGenerator_1 : decode cX2_findGenerator 1 = .ok (.iconst 0, 1) := by decide +kernel
theorem dX2_findGenerator_2 : decode cX2_findGenerator 2 = .ok (.putfield 30, 3) := by decide +kernel
theorem dX2_findGenerator_5 : decode cX2_findGenerator 5 = .ok (.aload_n 0, 1) := by decide +kernel
theorem dX2_findGenerator_6 : decode cX2_findGenerator 6 = .ok (.invokevirtual 107, 3) := by decide +kernel
theorem dX2_findGenerator_9 : decode cX2_findGenerator 9 = .ok (.istore_n 1, 1) := by decide +kernel
theorem dX2_findGenerator_10 : decode cX2_findGenerator 10 = .ok (.iconst 1, 1) := by decide +kernel
theorem dX2_findGenerator_11 : decode cX2_findGenerator 11 = .ok (.istore_n 2, 1) := by decide +kernel
theorem dX2_findGenerator_12 : decode cX2_findGenerator 12 = .ok (.iload_n 2, 1) := by decide +kernel
theorem dX2_findGenerator_13 : decode cX2_findGenerator 13 = .ok (.aload_n 0, 1) := by decide +kernel
theorem dX2_findGenerator_14 : decode cX2_findGenerator 14 = .ok (.getfield 24, 3) := by decide +kernel
theorem dX2_findGenerator_17 : decode cX2_findGenerator 17 = .ok (.if_icmp .ge 56, 3) := by decide +kernel
theorem dX2_findGenerator_20 : decode cX2_findGenerator 20 = .ok (.aload_n 0, 1) := by decide +kernel
theorem dX2_findGenerator_21 : decode cX2_findGenerator 21 = .ok (.aload_n 0, 1) := by decide +kernel
theorem dX2_findGenerator_22 : decode cX2_findGenerator 22 = .ok (.iload_n 2, 1) := by decide +kernel
theorem dX2_findGenerator_23 : decode cX2_findGenerator 23 = .ok (.aload_n 0, 1) := by decide +kernel
theorem dX2_findGenerator_24 : decode cX2_findGenerator 24 = .ok (.getfield 9, 3) := by decide +kernel
theorem dX2_findGenerator_27 : decode cX2_findGenerator 27 = .ok (.aload_n 0, 1) := by decide +kernel
theorem dX2_findGenerator_28 : decode cX2_findGenerator 28 = .ok (.getfield 21, 3) := by decide +kernel
theorem dX2_findGenerator_31 : decode cX2_findGenerator 31 = .ok (.invokevirtual 124, 3) := by decide +kernel
theorem dX2_findGenerator_34 : decode cX2_findGenerator 34 = .ok (.iload_n 1, 1) := by decide +kernel
theorem dX2_findGenerator_35 : decode cX2_findGenerator 35 = .ok (.invokevirtual 110, 3) := by decide +kernel
theorem dX2_findGenerator_38 : decode cX2_findGenerator 38 = .ok (.istore_n 3, 1) := by decide +kernel
theorem dX2_findGenerator_39 : decode cX2_findGenerator 39 = .ok (.aload_n 0, 1) := by decide +kernel
theorem dX2_findGenerator_40 : decode cX2_findGenerator 40 = .ok (.getfield 30, 3) := by decide +kernel
theorem dX2_findGenerator_43 : decode cX2_findGenerator 43 = .ok (.ifCond .eq 11, 3) := by decide +kernel
theorem dX2_findGenerator_46 : decode cX2_findGenerator 46 = .ok (.iload_n 3, 1) := by decide +kernel
theorem dX2_findGenerator_47 : decode cX2_findGenerator 47 = .ok (.aload_n 0, 1) := by decide +kernel
theorem dX2_findGenerator_48 : decode cX2_findGenerator 48 = .ok (.getfield 30, 3) := by decide +kernel
theorem dX2_findGenerator_51 : decode cX2_findGenerator 51 = .ok (.if_icmp .ge 16, 3) := by decide +kernel
theorem dX2_findGenerator_54 : decode cX2_findGenerator 54 = .ok (.aload_n 0, 1) := by decide +kernel
theorem dX2_findGenerator_55 : decode cX2_findGenerator 55 = .ok (.iload_n 3, 1) := by decide +kernel
theorem dX2_findGenerator_56 : decode cX2_findGenerator 56 = .ok (.invokevirtual 128, 3) := by decide +kernel
theorem dX2_findGenerator_59 : decode cX2_findGenerator 59 = .ok (.ifCond .eq 8, 3) := by decide +kernel
theorem dX2_findGenerator_62 : decode cX2_findGenerator 62 = .ok (.aload_n 0, 1) := by decide +kernel
theorem dX2_findGenerator_63 : decode cX2_findGenerator 63 = .ok (.iload_n 3, 1) := by decide +kernel
theorem dX2_findGenerator_64 : decode cX2_findGenerator 64 = .ok (.putfield 30, 3) := by decide +kernel
theorem dX2_findGenerator_67 : decode cX2_findGenerator 67 = .ok (.iinc 2 1, 3) := by decide +kernel
theorem dX2_findGenerator_70 : decode cX2_findGenerator 70 = .ok (.goto (-58), 3) := by decide +kernel
theorem dX2_findGenerator_73 : decode cX2_findGenerator 73 = .ok (.return_, 1) := by decide +kernel
theorem dX2_makesAllRoots_0 : decode cX2_makesAllRoots 0 = .ok (.iload_n 1, 1) := by decide +kernel
theorem dX2_makesAllRoots_1 : decode cX2_makesAllRoots 1 = .ok (.istore_n 2, 1) := by decide +kernel
theorem dX2_makesAllRoots_2 : decode cX2_makesAllRoots 2 = .ok (.iconst 1, 1) := by decide +kernel
theorem dX2_makesAllRoots_3 : decode cX2_makesAllRoots 3 = .ok (.istore_n 3, 1) := by decide +kernel
theorem dX2_makesAllRoots_4 : decode cX2_makesAllRoots 4 = .ok (.iload_n 3, 1) := by decide +kernel
theorem dX2_makesAllRoots_5 : decode cX2_makesAllRoots 5 = .ok (.aload_n 0, 1) := by decide +kernel
theorem dX2_makesAllRoots_6 : decode cX2_makesAllRoots 6 = .ok (.getfield 24, 3) := by decide +kernel
theorem dX2_makesAllRoots_9 : decode cX2_makesAllRoots 9 = .ok (.iconst 1, 1) := by decide +kernel
theorem dX2_makesAllRoots_10 : decode cX2_makesAllRoots 10 = .ok (.isub, 1) := by decide +kernel
theorem dX2_makesAllRoots_11 : decode cX2_makesAllRoots 11 = .ok (.if_icmp .ge 23, 3) := by decide +kernel
theorem dX2_makesAllRoots_14 : decode cX2_makesAllRoots 14 = .ok (.iload_n 2, 1) := by decide +kernel
theorem dX2_makesAllRoots_15 : decode cX2_makesAllRoots 15 = .ok (.iconst 1, 1) := by decide +kernel
theorem dX2_makesAllRoots_16 : decode cX2_makesAllRoots 16 = .ok (.if_icmp .ne 5, 3) := by decide +kernel
theorem dX2_makesAllRoots_19 : decode cX2_makesAllRoots 19 = .ok (.iconst 0, 1) := by decide +kernel
theorem dX2_makesAllRoots_20 : decode cX2_makesAllRoots 20 = .ok (.ireturn, 1) := by decide +kernel
theorem dX2_makesAllRoots_21 : decode cX2_makesAllRoots 21 = .ok (.aload_n 0, 1) := by decide +kernel
theorem dX2_makesAllRoots_22 : decode cX2_makesAllRoots 22 = .ok (.iload_n 2, 1) := by decide +kernel
theorem dX2_makesAllRoots_23 : decode cX2_makesAllRoots 23 = .ok (.iload_n 1, 1) := by decide +kernel
theorem dX2_makesAllRoots_24 : decode cX2_makesAllRoots 24 = .ok (.invokevirtual 132, 3) := by decide +kernel
theorem dX2_makesAllRoots_27 : decode cX2_makesAllRoots 27 = .ok (.istore_n 2, 1) := by decide +kernel
theorem dX2_makesAllRoots_28 : decode cX2_makesAllRoots 28 = .ok (.iinc 3 1, 3) := by decide +kernel
theorem dX2_makesAllRoots_31 : decode cX2_makesAllRoots 31 = .ok (.goto (-27), 3) := by decide +kernel
theorem dX2_makesAllRoots_34 : decode cX2_makesAllRoots 34 = .ok (.iconst 1, 1) := by decide +kernel
theorem dX2_makesAllRoots_35 : decode cX2_makesAllRoots 35 = .ok (.ireturn, 1) := by decide +kernel
theorem dX2_fillLogs_0 : decode cX2_fillLogs 0 = .ok (.aload_n 0, 1) := by decide +kernel
theorem dX2_fillLogs_1 : decode cX2_fillLogs 1 = .ok (.getfield 40, 3) := by decide +kernel
theorem dX2_fillLogs_4 : decode cX2_fillLogs 4 = .ok (.iconst (-1), 1) := by decide +kernel
theorem dX2_fillLogs_5 : decode cX2_fillLogs 5 = .ok (.invokestatic 97, 3) := by decide +kernel
theorem dX2_fillLogs_8 : decode cX2_fillLogs 8 = .ok (.iconst 1, 1) := by decide +kernel
theorem dX2_fillLogs_9 : decode cX2_fillLogs 9 = .ok (.istore_n 1, 1) := by decide +kernel
theorem dX2_fillLogs_10 : decode cX2_fillLogs 10 = .ok (.iconst 0, 1) := by decide +kernel
theorem dX2_fillLogs_11 : decode cX2_fillLogs 11 = .ok (.istore_n 2, 1) := by decide +kernel
theorem dX2_fillLogs_12 : decode cX2_fillLogs 12 = .ok (.iload_n 2, 1) := by decide +kernel
theorem dX2_fillLogs_13 : decode cX2_fillLogs 13 = .ok (.aload_n 0, 1) := by decide +kernel
theorem dX2_fillLogs_14 : decode cX2_fillLogs 14 = .ok (.getfield 24, 3) := by decide +kernel
theorem dX2_fillLogs_17 : decode cX2_fillLogs 17 = .ok (.iconst 1, 1) := by decide +kernel
theorem dX2_fillLogs_18 : decode cX2_fillLogs 18 = .ok (.isub, 1) := by decide +kernel
theorem dX2_fillLogs_19 : decode cX2_fillLogs 19 = .ok (.if_icmp .ge 49, 3) := by decide +kernel
theorem dX2_fillLogs_22 : decode cX2_fillLogs 22 = .ok (.aload_n 0, 1) := by decide +kernel
theorem dX2_fillLogs_23 : decode cX2_fillLogs 23 = .ok (.getfield 37, 3) := by decide +kernel
theorem dX2_fillLogs_26 : decode cX2_fillLogs 26 = .ok (.iload_n 2, 1) := by decide +kernel
theorem dX2_fillLogs_27 : decode cX2_fillLogs 27 = .ok (.iload_n 1, 1) := by decide +kernel
theorem dX2_fillLogs_28 : decode cX2_fillLogs 28 = .ok (.invokestatic 90, 3) := by decide +kernel
theorem dX2_fillLogs_31 : decode cX2_fillLogs 31 = .ok (.aload_n 0, 1) := by decide +kernel
theorem dX2_fillLogs_32 : decode cX2_fillLogs 32 = .ok (.getfield 40, 3) := by decide +kernel
theorem dX2_fillLogs_35 : decode cX2_fillLogs 35 = .ok (.aload_n 0, 1) := by decide +kernel
theorem dX2_fillLogs_36 : decode cX2_fillLogs 36 = .ok (.iload_n 1, 1) := by decide +kernel
theorem dX2_fillLogs_37 : decode cX2_fillLogs 37 = .ok (.aload_n 0, 1) := by decide +kernel
theorem dX2_fillLogs_38 : decode cX2_fillLogs 38 = .ok (.getfield 21, 3) := by decide +kernel
theorem dX2_fillLogs_41 : decode cX2_fillLogs 41 = .ok (.aload_n 0, 1) := by decide +kernel
theorem dX2_fillLogs_42 : decode cX2_fillLogs 42 = .ok (.getfield 9, 3) := by decide +kernel
theorem dX2_fillLogs_45 : decode cX2_fillLogs 45 = .ok (.invokevirtual 124, 3) := by decide +kernel
theorem dX2_fillLogs_48 : decode cX2_fillLogs 48 = .ok (.iload_n 2, 1) := by decide +kernel
theorem dX2_fillLogs_49 : decode cX2_fillLogs 49 = .ok (.invokestatic 90, 3) := by decide +kernel
theorem dX2_fillLogs_52 : decode cX2_fillLogs 52 = .ok (.aload_n 0, 1) := by decide +kernel
theorem dX2_fillLogs_53 : decode cX2_fillLogs 53 = .ok (.iload_n 1, 1) := by decide +kernel
theorem dX2_fillLogs_54 : decode cX2_fillLogs 54 = .ok (.aload_n 0, 1) := by decide +kernel
theorem dX2_fillLogs_55 : decode cX2_fillLogs 55 = .ok (.getfield 30, 3) := by decide +kernel
theorem dX2_fillLogs_58 : decode cX2_fillLogs 58 = .ok (.invokevirtual 132, 3) := by decide +kernel
theorem dX2_fillLogs_61 : decode cX2_fillLogs 61 = .ok (.istore_n 1, 1) := by decide +kernel
theorem dX2_fillLogs_62 : decode cX2_fillLogs 62 = .ok (.iinc 2 1, 3) := by decide +kernel
theorem dX2_fillLogs_65 : decode cX2_fillLogs 65 = .ok (.goto (-53), 3) := by decide +kernel
theorem dX2_fillLogs_68 : decode cX2_fillLogs 68 = .ok (.return_, 1) := by decide +kernel
theorem dX2_toRoot_0 : decode cX2_toRoot 0 = .ok (.aload_n 0, 1) := by decide +kernel
theorem dX2_toRoot_1 : decode cX2_toRoot 1 = .ok (.getfield 24, 3) := by decide +kernel
theorem dX2_toRoot_4 : decode cX2_toRoot 4 = .ok (.aload_n 0, 1) := by decide +kernel
theorem dX2_toRoot_5 : decode cX2_toRoot 5 = .ok (.getfield 15, 3) := by decide +kernel
theorem dX2_toRoot_8 : decode cX2_toRoot 8 = .ok (.iconst 1, 1) := by decide +kernel
theorem dX2_toRoot_9 : decode cX2_toRoot 9 = .ok (.isub, 1) := by decide +kernel
theorem dX2_toRoot_10 : decode cX2_toRoot 10 = .ok (.invokestatic 64, 3) := by decide +kernel
theorem dX2_toRoot_13 : decode cX2_toRoot 13 = .ok (.ireturn, 1) := by decide +kernel
theorem dX2_t_0 : decode cX2_t 0 = .ok (.aload_n 0, 1) := by decide +kernel
theorem dX2_t_1 : decode cX2_t 1 = .ok (.getfield 18, 3) := by decide +kernel
theorem dX2_t_4 : decode cX2_t 4 = .ok (.iconst 1, 1) := by decide +kernel
theorem dX2_t_5 : decode cX2_t 5 = .ok (.if_icmp .ne 7, 3) := by decide +kernel
theorem dX2_t_8 : decode cX2_t 8 = .ok (.iconst 0, 1) := by decide +kernel
theorem dX2_t_9 : decode cX2_t 9 = .ok (.goto 7, 3) := by decide +kernel
theorem dX2_t_12 : decode cX2_t 12 = .ok (.aload_n 0, 1) := by decide +kernel
theorem dX2_t_13 : decode cX2_t 13 = .ok (.getfield 21, 3) := by decide +kernel
theorem dX2_t_16 : decode cX2_t 16 = .ok (.ireturn, 1) := by decide +kernel
theorem dX2_has_0 : decode cX2_has 0 = .ok (.iload_n 1, 1) := by decide +kernel
theorem dX2_has_1 : decode cX2_has 1 = .ok (.ifCond .lt 15, 3) := by decide +kernel
theorem dX2_has_4 : decode cX2_has 4 = .ok (.iload_n 1, 1) := by decide +kernel
theorem dX2_has_5 : decode cX2_has 5 = .ok (.aload_n 0, 1) := by decide +kernel
theorem dX2_has_6 : decode cX2_has 6 = .ok (.getfield 27, 3) := by decide +kernel
theorem dX2_has_9 : decode cX2_has 9 = .ok (.if_icmp .ge 7, 3) := by decide +kernel
theorem dX2_has_12 : decode cX2_has 12 = .ok (.iconst 1, 1) := by decide +kernel
theorem dX2_has_13 : decode cX2_has 13 = .ok (.goto 4, 3) := by decide +kernel
theorem dX2_has_16 : decode cX2_has 16 = .ok (.iconst 0, 1) := by decide +kernel
theorem dX2_has_17 : decode cX2_has 17 = .ok (.ireturn, 1) := by decide +kernel
theorem dX2_hasRootsOfOne_0 : decode cX2_hasRootsOfOne 0 = .ok (.iload_n 1, 1) := by decide +kernel
theorem dX2_hasRootsOfOne_1 : decode cX2_hasRootsOfOne 1 = .ok (.iconst 1, 1) := by decide +kernel
theorem dX2_hasRootsOfOne_2 : decode cX2_hasRootsOfOne 2 = .ok (.if_icmp .lt 26, 3) := by decide +kernel
theorem dX2_hasRootsOfOne_5 : decode cX2_hasRootsOfOne 5 = .ok (.iload_n 1, 1) := by decide +kernel
theorem dX2_hasRootsOfOne_6 : decode cX2_hasRootsOfOne 6 = .ok (.bipush 63, 2) := by decide +kernel
theorem dX2_hasRootsOfOne_8 : decode cX2_hasRootsOfOne 8 = .ok (.if_icmp .gt 20, 3) := by decide +kernel
theorem dX2_hasRootsOfOne_11 : decode cX2_hasRootsOfOne 11 = .ok (.aload_n 0, 1) := by decide +kernel
theorem dX2_hasRootsOfOne_12 : decode cX2_hasRootsOfOne 12 = .ok (.getfield 24, 3) := by decide +kernel
theorem dX2_hasRootsOfOne_15 : decode cX2_hasRootsOfOne 15 = .ok (.iconst 1, 1) := by decide +kernel
theorem dX2_hasRootsOfOne_16 : decode cX2_hasRootsOfOne 16 = .ok (.isub, 1) := by decide +kernel
theorem dX2_hasRootsOfOne_17 : decode cX2_hasRootsOfOne 17 = .ok (.iload_n 1, 1) := by decide +kernel
theorem dX2_hasRootsOfOne_18 : decode cX2_hasRootsOfOne 18 = .ok (.invokestatic 87, 3) := by decide +kernel
theorem dX2_hasRootsOfOne_21 : decode cX2_hasRootsOfOne 21 = .ok (.ifCond .ne 7, 3) := by decide +kernel
theorem dX2_hasRootsOfOne_24 : decode cX2_hasRootsOfOne 24 = .ok (.iconst 1, 1) := by decide +kernel
theorem dX2_hasRootsOfOne_25 : decode cX2_hasRootsOfOne 25 = .ok (.goto 4, 3) := by decide +kernel
theorem dX2_hasRootsOfOne_28 : decode cX2_hasRootsOfOne 28 = .ok (.iconst 0, 1) := by decide +kernel
theorem dX2_hasRootsOfOne_29 : decode cX2_hasRootsOfOne 29 = .ok (.ireturn, 1) := by decide +kernel
theorem dX2_plus_0 : decode cX2_plus 0 = .ok (.iload_n 1, 1) := by decide +kernel
theorem dX2_plus_1 : decode cX2_plus 1 = .ok (.iload_n 2, 1) := by decide +kernel
theorem dX2_plus_2 : decode cX2_plus 2 = .ok (.iconst 1, 1) := by decide +kernel
theorem dX2_plus_3 : decode cX2_plus 3 = .ok (.aload_n 0, 1) := by decide +kernel
theorem dX2_plus_4 : decode cX2_plus 4 = .ok (.getfield 21, 3) := by decide +kernel
theorem dX2_plus_7 : decode cX2_plus 7 = .ok (.invokestatic 135, 3) := by decide +kernel
theorem dX2_plus_10 : decode cX2_plus 10 = .ok (.ireturn, 1) := by decide +kernel
theorem dX2_minus_0 : decode cX2_minus 0 = .ok (.iload_n 1, 1) := by decide +kernel
theorem dX2_minus_1 : decode cX2_minus 1 = .ok (.iload_n 2, 1) := by decide +kernel
theorem dX2_minus_2 : decode cX2_minus 2 = .ok (.aload_n 0, 1) := by decide +kernel
theorem dX2_minus_3 : decode cX2_minus 3 = .ok (.getfield 21, 3) := by decide +kernel
theorem dX2_minus_6 : decode cX2_minus 6 = .ok (.iconst 1, 1) := by decide +kernel
theorem dX2_minus_7 : decode cX2_minus 7 = .ok (.isub, 1) := by decide +kernel
theorem dX2_minus_8 : decode cX2_minus 8 = .ok (.aload_n 0, 1) := by decide +kernel
theorem dX2_minus_9 : decode cX2_minus 9 = .ok (.getfield 21, 3) := by decide +kernel
theorem dX2_minus_12 : decode cX2_minus 12 = .ok (.invokestatic 135, 3) := by decide +kernel
theorem dX2_minus_15 : decode cX2_minus 15 = .ok (.ireturn, 1) := by decide +kernel
theorem dX2_times_0 : decode cX2_times 0 = .ok (.aload_n 0, 1) := by decide +kernel
theorem dX2_times_1 : decode cX2_times 1 = .ok (.iload_n 1, 1) := by decide +kernel
theorem dX2_times_2 : decode cX2_times 2 = .ok (.aload_n 0, 1) := by decide +kernel
theorem dX2_times_3 : decode cX2_times 3 = .ok (.getfield 48, 3) := by decide +kernel
theorem dX2_times_6 : decode cX2_times 6 = .ok (.invokevirtual 120, 3) := by decide +kernel
theorem dX2_times_9 : decode cX2_times 9 = .ok (.aload_n 0, 1) := by decide +kernel
theorem dX2_times_10 : decode cX2_times 10 = .ok (.iload_n 2, 1) := by decide +kernel
theorem dX2_times_11 : decode cX2_times 11 = .ok (.aload_n 0, 1) := by decide +kernel
theorem dX2_times_12 : decode cX2_times 12 = .ok (.getfield 51, 3) := by decide +kernel
theorem dX2_times_15 : decode cX2_times 15 = .ok (.invokevirtual 120, 3) := by decide +kernel
theorem dX2_times_18 : decode cX2_times 18 = .ok (.aload_n 0, 1) := by decide +kernel
theorem dX2_times_19 : decode cX2_times 19 = .ok (.getfield 54, 3) := by decide +kernel
theorem dX2_times_22 : decode cX2_times 22 = .ok (.iconst 0, 1) := by decide +kernel
theorem dX2_times_23 : decode cX2_times 23 = .ok (.invokestatic 97, 3) := by decide +kernel
theorem dX2_times_26 : decode cX2_times 26 = .ok (.iconst 0, 1) := by decide +kernel
theorem dX2_times_27 : decode cX2_times 27 = .ok (.istore_n 3, 1) := by decide +kernel
theorem dX2_times_28 : decode cX2_times 28 = .ok (.iload_n 3, 1) := by decide +kernel
theorem dX2_times_29 : decode cX2_times 29 = .ok (.bipush 6, 2) := by decide +kernel
theorem dX2_times_31 : decode cX2_times 31 = .ok (.if_icmp .ge 51, 3) := by decide +kernel
theorem dX2_times_34 : decode cX2_times 34 = .ok (.iconst 0, 1) := by decide +kernel
theorem dX2_times_35 : decode cX2_times 35 = .ok (.istore 4, 2) := by decide +kernel
theorem dX2_times_37 : decode cX2_times 37 = .ok (.iload 4, 2) := by decide +kernel
theorem dX2_times_39 : decode cX2_times 39 = .ok (.bipush 6, 2) := by decide +kernel
theorem dX2_times_41 : decode cX2_times 41 = .ok (.if_icmp .ge 35, 3) := by decide +kernel
theorem dX2_times_44 : decode cX2_times 44 = .ok (.aload_n 0, 1) := by decide +kernel
theorem dX2_times_45 : decode cX2_times 45 = .ok (.getfield 54, 3) := by decide +kernel
theorem dX2_times_48 : decode cX2_times 48 = .ok (.iload_n 3, 1) := by decide +kernel
theorem dX2_times_49 : decode cX2_times 49 = .ok (.iload 4, 2) := by decide +kernel
theorem dX2_times_51 : decode cX2_times 51 = .ok (.iadd, 1) := by decide +kernel
theorem dX2_times_52 : decode cX2_times 52 = .ok (.dup2, 1) := by decide +kernel
theorem dX2_times_53 : decode cX2_times 53 = .ok (.iaload, 1) := by decide +kernel
theorem dX2_times_54 : decode cX2_times 54 = .ok (.aload_n 0, 1) := by decide +kernel
theorem dX2_times_55 : decode cX2_times 55 = .ok (.getfield 48, 3) := by decide +kernel
theorem dX2_times_58 : decode cX2_times 58 = .ok (.iload_n 3, 1) := by decide +kernel
theorem dX2_times_59 : decode cX2_times 59 = .ok (.iaload, 1) := by decide +kernel
theorem dX2_times_60 : decode cX2_times 60 = .ok (.aload_n 0, 1) := by decide +kernel
theorem dX2_times_61 : decode cX2_times 61 = .ok (.getfield 51, 3) := by decide +kernel
theorem dX2_times_64 : decode cX2_times 64 = .ok (.iload 4, 2) := by decide +kernel
theorem dX2_times_66 : decode cX2_times 66 = .ok (.iaload, 1) := by decide +kernel
theorem dX2_times_67 : decode cX2_times 67 = .ok (.imul, 1) := by decide +kernel
theorem dX2_times_68 : decode cX2_times 68 = .ok (.iadd, 1) := by decide +kernel
theorem dX2_times_69 : decode cX2_times 69 = .ok (.iastore, 1) := by decide +kernel
theorem dX2_times_70 : decode cX2_times 70 = .ok (.iinc 4 1, 3) := by decide +kernel
theorem dX2_times_73 : decode cX2_times 73 = .ok (.goto (-36), 3) := by decide +kernel
theorem dX2_times_76 : decode cX2_times 76 = .ok (.iinc 3 1, 3) := by decide +kernel
theorem dX2_times_79 : decode cX2_times 79 = .ok (.goto (-51), 3) := by decide +kernel
theorem dX2_times_82 : decode cX2_times 82 = .ok (.iconst 2, 1) := by decide +kernel
theorem dX2_times_83 : decode cX2_times 83 = .ok (.aload_n 0, 1) := by decide +kernel
theorem dX2_times_84 : decode cX2_times 84 = .ok (.getfield 18, 3) := by decide +kernel
theorem dX2_times_87 : decode cX2_times 87 = .ok (.imul, 1) := by decide +kernel
theorem dX2_times_88 : decode cX2_times 88 = .ok (.iconst 2, 1) := by decide +kernel
theorem dX2_times_89 : decode cX2_times 89 = .ok (.isub, 1) := by decide +kernel
theorem dX2_times_90 : decode cX2_times 90 = .ok (.istore_n 3, 1) := by decide +kernel
theorem dX2_times_91 : decode cX2_times 91 = .ok (.iload_n 3, 1) := by decide +kernel
theorem dX2_times_92 : decode cX2_times 92 = .ok (.aload_n 0, 1) := by decide +kernel
theorem dX2_times_93 : decode cX2_times 93 = .ok (.getfield 18, 3) := by decide +kernel
theorem dX2_times_96 : decode cX2_times 96 = .ok (.if_icmp .lt 77, 3) := by decide +kernel
theorem dX2_times_99 : decode cX2_times 99 = .ok (.aload_n 0, 1) := by decide +kernel
theorem dX2_times_100 : decode cX2_times 100 = .ok (.getfield 54, 3) := by decide +kernel
theorem dX2_times_103 : decode cX2_times 103 = .ok (.iload_n 3, 1) := by decide +kernel
theorem dX2_times_104 : decode cX2_times 104 = .ok (.invokestatic 116, 3) := by decide +kernel
theorem dX2_times_107 : decode cX2_times 107 = .ok (.aload_n 0, 1) := by decide +kernel
theorem dX2_times_108 : decode cX2_times 108 = .ok (.getfield 21, 3) := by decide +kernel
theorem dX2_times_111 : decode cX2_times 111 = .ok (.invokestatic 87, 3) := by decide +kernel
theorem dX2_times_114 : decode cX2_times 114 = .ok (.istore 4, 2) := by decide +kernel
theorem dX2_times_116 : decode cX2_times 116 = .ok (.iconst 0, 1) := by decide +kernel
theorem dX2_times_117 : decode cX2_times 117 = .ok (.istore 5, 2) := by decide +kernel
theorem dX2_times_119 : decode cX2_times 119 = .ok (.iload 5, 2) := by decide +kernel
theorem dX2_times_121 : decode cX2_times 121 = .ok (.aload_n 0, 1) := by decide +kernel
theorem dX2_times_122 : decode cX2_times 122 = .ok (.getfield 18, 3) := by decide +kernel
theorem dX2_times_125 : decode cX2_times 125 = .ok (.if_icmp .ge 42, 3) := by decide +kernel
theorem dX2_times_128 : decode cX2_times 128 = .ok (.aload_n 0, 1) := by decide +kernel
theorem dX2_times_129 : decode cX2_times 129 = .ok (.getfield 54, 3) := by decide +kernel
theorem dX2_times_132 : decode cX2_times 132 = .ok (.iload_n 3, 1) := by decide +kernel
theorem dX2_times_133 : decode cX2_times 133 = .ok (.aload_n 0, 1) := by decide +kernel
theorem dX2_times_134 : decode cX2_times 134 = .ok (.getfield 18, 3) := by decide +kernel
theorem dX2_times_137 : decode cX2_times 137 = .ok (.isub, 1) := by decide +kernel
theorem dX2_times_138 : decode cX2_times 138 = .ok (.iload 5, 2) := by decide +kernel
theorem dX2_times_140 : decode cX2_times 140 = .ok (.iadd, 1) := by decide +kernel
theorem dX2_times_141 : decode cX2_times 141 = .ok (.iload 4, 2) := by decide +kernel
theorem dX2_times_143 : decode cX2_times 143 = .ok (.aload_n 0, 1) := by decide +kernel
theorem dX2_times_144 : decode cX2_times 144 = .ok (.getfield 21, 3) := by decide +kernel
theorem dX2_times_147 : decode cX2_times 147 = .ok (.aload_n 0, 1) := by decide +kernel
theorem dX2_times_148 : decode cX2_times 148 = .ok (.getfield 33, 3) := by decide +kernel
theorem dX2_times_151 : decode cX2_times 151 = .ok (.iload 5, 2) := by decide +kernel
theorem dX2_times_153 : decode cX2_times 153 = .ok (.invokestatic 116, 3) := by decide +kernel
theorem dX2_times_156 : decode cX2_times 156 = .ok (.isub, 1) := by decide +kernel
theorem dX2_times_157 : decode cX2_times 157 = .ok (.imul, 1) := by decide +kernel
theorem dX2_times_158 : decode cX2_times 158 = .ok (.invokestatic 139, 3) := by decide +kernel
theorem dX2_times_161 : decode cX2_times 161 = .ok (.iinc 5 1, 3) := by decide +kernel
theorem dX2_times_164 : decode cX2_times 164 = .ok (.goto (-45), 3) := by decide +kernel
theorem dX2_times_167 : decode cX2_times 167 = .ok (.iinc 3 (-1), 3) := by decide +kernel
theorem dX2_times_170 : decode cX2_times 170 = .ok (.goto (-79), 3) := by decide +kernel
theorem dX2_times_173 : decode cX2_times 173 = .ok (.aload_n 0, 1) := by decide +kernel
theorem dX2_times_174 : decode cX2_times 174 = .ok (.aload_n 0, 1) := by decide +kernel
theorem dX2_times_175 : decode cX2_times 175 = .ok (.getfield 54, 3) := by decide +kernel
theorem dX2_times_178 : decode cX2_times 178 = .ok (.invokevirtual 142, 3) := by decide +kernel
theorem dX2_times_181 : decode cX2_times 181 = .ok (.ireturn, 1) := by decide +kernel
theorem dX2_power_0 : decode cX2_power 0 = .ok (.iconst 1, 1) := by decide +kernel
theorem dX2_power_1 : decode cX2_power 1 = .ok (.istore_n 3, 1) := by decide +kernel
theorem dX2_power_2 : decode cX2_power 2 = .ok (.iload_n 1, 1) := by decide +kernel
theorem dX2_power_3 : decode cX2_power 3 = .ok (.istore 4, 2) := by decide +kernel
theorem dX2_power_5 : decode cX2_power 5 = .ok (.iload_n 2, 1) := by decide +kernel
theorem dX2_power_6 : decode cX2_power 6 = .ok (.istore 5, 2) := by decide +kernel
theorem dX2_power_8 : decode cX2_power 8 = .ok (.iload 5, 2) := by decide +kernel
theorem dX2_power_10 : decode cX2_power 10 = .ok (.ifCond .le 49, 3) := by decide +kernel
theorem dX2_power_13 : decode cX2_power 13 = .ok (.iload 5, 2) := by decide +kernel
theorem dX2_power_15 : decode cX2_power 15 = .ok (.iconst 1, 1) := by decide +kernel
theorem dX2_power_16 : decode cX2_power 16 = .ok (.iand, 1) := by decide +kernel
theorem dX2_power_17 : decode cX2_power 17 = .ok (.iconst 1, 1) := by decide +kernel
theorem dX2_power_18 : decode cX2_power 18 = .ok (.if_icmp .ne 11, 3) := by decide +kernel
theorem dX2_power_21 : decode cX2_power 21 = .ok (.aload_n 0, 1) := by decide +kernel
theorem dX2_power_22 : decode cX2_power 22 = .ok (.iload_n 3, 1) := by decide +kernel
theorem dX2_power_23 : decode cX2_power 23 = .ok (.iload 4, 2) := by decide +kernel
theorem dX2_power_25 : decode cX2_power 25 = .ok (.invokevirtual 132, 3) := by decide +kernel
theorem dX2_power_28 : decode cX2_power 28 = .ok (.istore_n 3, 1) := by decide +kernel
theorem dX2_power_29 : decode cX2_power 29 = .ok (.iload 5, 2) := by decide +kernel
theorem dX2_power_31 : decode cX2_power 31 = .ok (.iconst 1, 1) := by decide +kernel
theorem dX2_power_32 : decode cX2_power 32 = .ok (.if_icmp .le 14, 3) := by decide +kernel
theorem dX2_power_35 : decode cX2_power 35 = .ok (.aload_n 0, 1) := by decide +kernel
theorem dX2_power_36 : decode cX2_power 36 = .ok (.iload 4, 2) := by decide +kernel
theorem dX2_power_38 : decode cX2_power 38 = .ok (.iload 4, 2) := by decide +kernel
theorem dX2_power_40 : decode cX2_power 40 = .ok (.invokevirtual 132, 3) := by decide +kernel
theorem dX2_power_43 : decode cX2_power 43 = .ok (.goto 5, 3) := by decide +kernel
theorem dX2_power_46 : decode cX2_power 46 = .ok (.iload 4, 2) := by decide +kernel
theorem dX2_power_48 : decode cX2_power 48 = .ok (.istore 4, 2) := by decide +kernel
theorem dX2_power_50 : decode cX2_power 50 = .ok (.iload 5, 2) := by decide +kernel
theorem dX2_power_52 : decode cX2_power 52 = .ok (.iconst 1, 1) := by decide +kernel
theorem dX2_power_53 : decode cX2_power 53 = .ok (.ishr, 1) := by decide +kernel
theorem dX2_power_54 : decode cX2_power 54 = .ok (.istore 5, 2) := by decide +kernel
theorem dX2_power_56 : decode cX2_power 56 = .ok (.goto (-48), 3) := by decide +kernel
theorem dX2_power_59 : decode cX2_power 59 = .ok (.iload_n 3, 1) := by decide +kernel
theorem dX2_power_60 : decode cX2_power 60 = .ok (.ireturn, 1) := by decide +kernel
theorem dX2_grow_0 : decode cX2_grow 0 = .ok (.iload_n 2, 1) := by decide +kernel
theorem dX2_grow_1 : decode cX2_grow 1 = .ok (.iconst 1, 1) := by decide +kernel
theorem dX2_grow_2 : decode cX2_grow 2 = .ok (.iadd, 1) := by decide +kernel
theorem dX2_grow_3 : decode cX2_grow 3 = .ok (.istore 4, 2) := by decide +kernel
theorem dX2_grow_5 : decode cX2_grow 5 = .ok (.iload 4, 2) := by decide +kernel
theorem dX2_grow_7 : decode cX2_grow 7 = .ok (.ifCond .lt 42, 3) := by decide +kernel
theorem dX2_grow_10 : decode cX2_grow 10 = .ok (.aload_n 1, 1) := by decide +kernel
theorem dX2_grow_11 : decode cX2_grow 11 = .ok (.iload 4, 2) := by decide +kernel
theorem dX2_grow_13 : decode cX2_grow 13 = .ok (.iconst 1, 1) := by decide +kernel
theorem dX2_grow_14 : decode cX2_grow 14 = .ok (.isub, 1) := by decide +kernel
theorem dX2_grow_15 : decode cX2_grow 15 = .ok (.invokestatic 116, 3) := by decide +kernel
theorem dX2_grow_18 : decode cX2_grow 18 = .ok (.istore 5, 2) := by decide +kernel
theorem dX2_grow_20 : decode cX2_grow 20 = .ok (.aload_n 1, 1) := by decide +kernel
theorem dX2_grow_21 : decode cX2_grow 21 = .ok (.iload 4, 2) := by decide +kernel
theorem dX2_grow_23 : decode cX2_grow 23 = .ok (.aload_n 0, 1) := by decide +kernel
theorem dX2_grow_24 : decode cX2_grow 24 = .ok (.iload 5, 2) := by decide +kernel
theorem dX2_grow_26 : decode cX2_grow 26 = .ok (.aload_n 0, 1) := by decide +kernel
theorem dX2_grow_27 : decode cX2_grow 27 = .ok (.iload_n 3, 1) := by decide +kernel
theorem dX2_grow_28 : decode cX2_grow 28 = .ok (.aload_n 1, 1) := by decide +kernel
theorem dX2_grow_29 : decode cX2_grow 29 = .ok (.iload 4, 2) := by decide +kernel
theorem dX2_grow_31 : decode cX2_grow 31 = .ok (.invokestatic 116, 3) := by decide +kernel
theorem dX2_grow_34 : decode cX2_grow 34 = .ok (.invokevirtual 132, 3) := by decide +kernel
theorem dX2_grow_37 : decode cX2_grow 37 = .ok (.invokevirtual 146, 3) := by decide +kernel
theorem dX2_grow_40 : decode cX2_grow 40 = .ok (.invokestatic 90, 3) := by decide +kernel
theorem dX2_grow_43 : decode cX2_grow 43 = .ok (.iinc 4 (-1), 3) := by decide +kernel
theorem dX2_grow_46 : decode cX2_grow 46 = .ok (.goto (-41), 3) := by decide +kernel
theorem dX2_grow_49 : decode cX2_grow 49 = .ok (.return_, 1) := by decide +kernel
theorem dX2_spread_0 : decode cX2_spread 0 = .ok (.aload_n 0, 1) := by decide +kernel
theorem dX2_spread_1 : decode cX2_spread 1 = .ok (.getfield 21, 3) := by decide +kernel
theorem dX2_spread_4 : decode cX2_spread 4 = .ok (.iconst 2, 1) := by decide +kernel
theorem dX2_spread_5 : decode cX2_spread 5 = .ok (.if_icmp .ge 4, 3) := by decide +kernel
theorem dX2_spread_8 : decode cX2_spread 8 = .ok (.return_, 1) := by decide +kernel
theorem dX2_spread_9 : decode cX2_spread 9 = .ok (.iload_n 1, 1) := by decide +kernel
theorem dX2_spread_10 : decode cX2_spread 10 = .ok (.istore_n 3, 1) := by decide +kernel
theorem dX2_spread_11 : decode cX2_spread 11 = .ok (.iconst 0, 1) := by decide +kernel
theorem dX2_spread_12 : decode cX2_spread 12 = .ok (.istore 4, 2) := by decide +kernel
theorem dX2_spread_14 : decode cX2_spread 14 = .ok (.iload 4, 2) := by decide +kernel
theorem dX2_spread_16 : decode cX2_spread 16 = .ok (.aload_n 2, 1) := by decide +kernel
theorem dX2_spread_17 : decode cX2_spread 17 = .ok (.arraylength, 1) := by decide +kernel
theorem dX2_spread_18 : decode cX2_spread 18 = .ok (.if_icmp .ge 26, 3) := by decide +kernel
theorem dX2_spread_21 : decode cX2_spread 21 = .ok (.aload_n 2, 1) := by decide +kernel
theorem dX2_spread_22 : decode cX2_spread 22 = .ok (.iload 4, 2) := by decide +kernel
theorem dX2_spread_24 : decode cX2_spread 24 = .ok (.iload_n 3, 1) := by decide +kernel
theorem dX2_spread_25 : decode cX2_spread 25 = .ok (.aload_n 0, 1) := by decide +kernel
theorem dX2_spread_26 : decode cX2_spread 26 = .ok (.getfield 21, 3) := by decide +kernel
theorem dX2_spread_29 : decode cX2_spread 29 = .ok (.irem, 1) := by decide +kernel
theorem dX2_spread_30 : decode cX2_spread 30 = .ok (.iastore, 1) := by decide +kernel
theorem dX2_spread_31 : decode cX2_spread 31 = .ok (.iload_n 3, 1) := by decide +kernel
theorem dX2_spread_32 : decode cX2_spread 32 = .ok (.aload_n 0, 1) := by decide +kernel
theorem dX2_spread_33 : decode cX2_spread 33 = .ok (.getfield 21, 3) := by decide +kernel
theorem dX2_spread_36 : decode cX2_spread 36 = .ok (.idiv, 1) := by decide +kernel
theorem dX2_spread_37 : decode cX2_spread 37 = .ok (.istore_n 3, 1) := by decide +kernel
theorem dX2_spread_38 : decode cX2_spread 38 = .ok (.iinc 4 1, 3) := by decide +kernel
theorem dX2_spread_41 : decode cX2_spread 41 = .ok (.goto (-27), 3) := by decide +kernel
theorem dX2_spread_44 : decode cX2_spread 44 = .ok (.return_, 1) := by decide +kernel
theorem dX2_gather_0 : decode cX2_gather 0 = .ok (.aload_n 0, 1) := by decide +kernel
theorem dX2_gather_1 : decode cX2_gather 1 = .ok (.getfield 21, 3) := by decide +kernel
theorem dX2_gather_4 : decode cX2_gather 4 = .ok (.iconst 2, 1) := by decide +kernel
theorem dX2_gather_5 : decode cX2_gather 5 = .ok (.if_icmp .ge 5, 3) := by decide +kernel
theorem dX2_gather_8 : decode cX2_gather 8 = .ok (.iconst 0, 1) := by decide +kernel
theorem dX2_gather_9 : decode cX2_gather 9 = .ok (.ireturn, 1) := by decide +kernel
theorem dX2_gather_10 : decode cX2_gather 10 = .ok (.iconst 0, 1) := by decide +kernel
theorem dX2_gather_11 : decode cX2_gather 11 = .ok (.istore_n 2, 1) := by decide +kernel
theorem dX2_gather_12 : decode cX2_gather 12 = .ok (.aload_n 0, 1) := by decide +kernel
theorem dX2_gather_13 : decode cX2_gather 13 = .ok (.getfield 18, 3) := by decide +kernel
theorem dX2_gather_16 : decode cX2_gather 16 = .ok (.aload_n 1, 1) := by decide +kernel
theorem dX2_gather_17 : decode cX2_gather 17 = .ok (.arraylength, 1) := by decide +kernel
theorem dX2_gather_18 : decode cX2_gather 18 = .ok (.invokestatic 152, 3) := by decide +kernel
theorem dX2_gather_21 : decode cX2_gather 21 = .ok (.iconst 1, 1) := by decide +kernel
theorem dX2_gather_22 : decode cX2_gather 22 = .ok (.isub, 1) := by decide +kernel
theorem dX2_gather_23 : decode cX2_gather 23 = .ok (.istore_n 3, 1) := by decide +kernel
theorem dX2_gather_24 : decode cX2_gather 24 = .ok (.iload_n 3, 1) := by decide +kernel
theorem dX2_gather_25 : decode cX2_gather 25 = .ok (.ifCond .lt 25, 3) := by decide +kernel
theorem dX2_gather_28 : decode cX2_gather 28 = .ok (.iload_n 2, 1) := by decide +kernel
theorem dX2_gather_29 : decode cX2_gather 29 = .ok (.aload_n 0, 1) := by decide +kernel
theorem dX2_gather_30 : decode cX2_gather 30 = .ok (.getfield 21, 3) := by decide +kernel
theorem dX2_gather_33 : decode cX2_gather 33 = .ok (.imul, 1) := by decide +kernel
theorem dX2_gather_34 : decode cX2_gather 34 = .ok (.aload_n 1, 1) := by decide +kernel
theorem dX2_gather_35 : decode cX2_gather 35 = .ok (.iload_n 3, 1) := by decide +kernel
theorem dX2_gather_36 : decode cX2_gather 36 = .ok (.iaload, 1) := by decide +kernel
theorem dX2_gather_37 : decode cX2_gather 37 = .ok (.aload_n 0, 1) := by decide +kernel
theorem dX2_gather_38 : decode cX2_gather 38 = .ok (.getfield 21, 3) := by decide +kernel
theorem dX2_gather_41 : decode cX2_gather 41 = .ok (.irem, 1) := by decide +kernel
theorem dX2_gather_42 : decode cX2_gather 42 = .ok (.iadd, 1) := by decide +kernel
theorem dX2_gather_43 : decode cX2_gather 43 = .ok (.istore_n 2, 1) := by decide +kernel
theorem dX2_gather_44 : decode cX2_gather 44 = .ok (.iinc 3 (-1), 3) := by decide +kernel
theorem dX2_gather_47 : decode cX2_gather 47 = .ok (.goto (-23), 3) := by decide +kernel
theorem dX2_gather_50 : decode cX2_gather 50 = .ok (.iload_n 2, 1) := by decide +kernel
theorem dX2_gather_51 : decode cX2_gather 51 = .ok (.ireturn, 1) := by decide +kernel
theorem dX2_rebase_0 : decode cX2_rebase 0 = .ok (.iconst 0, 1) := by decide +kernel
theorem dX2_rebase_1 : decode cX2_rebase 1 = .ok (.istore 4, 2) := by decide +kernel
theorem dX2_rebase_3 : decode cX2_rebase 3 = .ok (.iconst 1, 1) := by decide +kernel
theorem dX2_rebase_4 : decode cX2_rebase 4 = .ok (.istore 5, 2) := by decide +kernel
theorem dX2_rebase_6 : decode cX2_rebase 6 = .ok (.iload_n 1, 1) := by decide +kernel
theorem dX2_rebase_7 : decode cX2_rebase 7 = .ok (.istore 6, 2) := by decide +kernel
theorem dX2_rebase_9 : decode cX2_rebase 9 = .ok (.iconst 0, 1) := by decide +kernel
theorem dX2_rebase_10 : decode cX2_rebase 10 = .ok (.istore 7, 2) := by decide +kernel
theorem dX2_rebase_12 : decode cX2_rebase 12 = .ok (.iload 7, 2) := by decide +kernel
theorem dX2_rebase_14 : decode cX2_rebase 14 = .ok (.aload_n 0, 1) := by decide +kernel
theorem dX2_rebase_15 : decode cX2_rebase 15 = .ok (.getfield 18, 3) := by decide +kernel
theorem dX2_rebase_18 : decode cX2_rebase 18 = .ok (.if_icmp .ge 44, 3) := by decide +kernel
theorem dX2_rebase_21 : decode cX2_rebase 21 = .ok (.iload 4, 2) := by decide +kernel
theorem dX2_rebase_23 : decode cX2_rebase 23 = .ok (.iload 5, 2) := by decide +kernel
theorem dX2_rebase_25 : decode cX2_rebase 25 = .ok (.iload 6, 2) := by decide +kernel
theorem dX2_rebase_27 : decode cX2_rebase 27 = .ok (.iload_n 2, 1) := by decide +kernel
theorem dX2_rebase_28 : decode cX2_rebase 28 = .ok (.invokestatic 87, 3) := by decide +kernel
theorem dX2_rebase_31 : decode cX2_rebase 31 = .ok (.aload_n 0, 1) := by decide +kernel
theorem dX2_rebase_32 : decode cX2_rebase 32 = .ok (.getfield 9, 3) := by decide +kernel
theorem dX2_rebase_35 : decode cX2_rebase 35 = .ok (.invokestatic 87, 3) := by decide +kernel
theorem dX2_rebase_38 : decode cX2_rebase 38 = .ok (.imul, 1) := by decide +kernel
theorem dX2_rebase_39 : decode cX2_rebase 39 = .ok (.iadd, 1) := by decide +kernel
theorem dX2_rebase_40 : decode cX2_rebase 40 = .ok (.istore 4, 2) := by decide +kernel
theorem dX2_rebase_42 : decode cX2_rebase 42 = .ok (.iload 6, 2) := by decide +kernel
theorem dX2_rebase_44 : decode cX2_rebase 44 = .ok (.iload_n 2, 1) := by decide +kernel
theorem dX2_rebase_45 : decode cX2_rebase 45 = .ok (.invokestatic 94, 3) := by decide +kernel
theorem dX2_rebase_48 : decode cX2_rebase 48 = .ok (.istore 6, 2) := by decide +kernel
theorem dX2_rebase_50 : decode cX2_rebase 50 = .ok (.iload 5, 2) := by decide +kernel
theorem dX2_rebase_52 : decode cX2_rebase 52 = .ok (.iload_n 3, 1) := by decide +kernel
theorem dX2_rebase_53 : decode cX2_rebase 53 = .ok (.imul, 1) := by decide +kernel
theorem dX2_rebase_54 : decode cX2_rebase 54 = .ok (.istore 5, 2) := by decide +kernel
theorem dX2_rebase_56 : decode cX2_rebase 56 = .ok (.iinc 7 1, 3) := by decide +kernel
theorem dX2_rebase_59 : decode cX2_rebase 59 = .ok (.goto (-47), 3) := by decide +kernel
theorem dX2_rebase_62 : decode cX2_rebase 62 = .ok (.iload 4, 2) := by decide +kernel
theorem dX2_rebase_64 : decode cX2_rebase 64 = .ok (.ireturn, 1) := by decide +kernel
theorem dX2_byP_0 : decode cX2_byP 0 = .ok (.iconst 0, 1) := by decide +kernel
theorem dX2_byP_1 : decode cX2_byP 1 = .ok (.istore_n 2, 1) := by decide +kernel
theorem dX2_byP_2 : decode cX2_byP 2 = .ok (.iconst 1, 1) := by decide +kernel
theorem dX2_byP_3 : decode cX2_byP 3 = .ok (.istore_n 3, 1) := by decide +kernel
theorem dX2_byP_4 : decode cX2_byP 4 = .ok (.iload_n 1, 1) := by decide +kernel
theorem dX2_byP_5 : decode cX2_byP 5 = .ok (.istore 4, 2) := by decide +kernel
theorem dX2_byP_7 : decode cX2_byP 7 = .ok (.iconst 0, 1) := by decide +kernel
theorem dX2_byP_8 : decode cX2_byP 8 = .ok (.istore 5, 2) := by decide +kernel
theorem dX2_byP_10 : decode cX2_byP 10 = .ok (.iload 5, 2) := by decide +kernel
theorem dX2_byP_12 : decode cX2_byP 12 = .ok (.aload_n 0, 1) := by decide +kernel
theorem dX2_byP_13 : decode cX2_byP 13 = .ok (.getfield 18, 3) := by decide +kernel
theorem dX2_byP_16 : decode cX2_byP 16 = .ok (.if_icmp .ge 48, 3) := by decide +kernel
theorem dX2_byP_19 : decode cX2_byP 19 = .ok (.iload_n 2, 1) := by decide +kernel
theorem dX2_byP_20 : decode cX2_byP 20 = .ok (.iload_n 3, 1) := by decide +kernel
theorem dX2_byP_21 : decode cX2_byP 21 = .ok (.iload 4, 2) := by decide +kernel
theorem dX2_byP_23 : decode cX2_byP 23 = .ok (.aload_n 0, 1) := by decide +kernel
theorem dX2_byP_24 : decode cX2_byP 24 = .ok (.getfield 21, 3) := by decide +kernel
theorem dX2_byP_27 : decode cX2_byP 27 = .ok (.invokestatic 87, 3) := by decide +kernel
theorem dX2_byP_30 : decode cX2_byP 30 = .ok (.aload_n 0, 1) := by decide +kernel
theorem dX2_byP_31 : decode cX2_byP 31 = .ok (.getfield 9, 3) := by decide +kernel
theorem dX2_byP_34 : decode cX2_byP 34 = .ok (.invokestatic 94, 3) := by decide +kernel
theorem dX2_byP_37 : decode cX2_byP 37 = .ok (.imul, 1) := by decide +kernel
theorem dX2_byP_38 : decode cX2_byP 38 = .ok (.iadd, 1) := by decide +kernel
theorem dX2_byP_39 : decode cX2_byP 39 = .ok (.istore_n 2, 1) := by decide +kernel
theorem dX2_byP_40 : decode cX2_byP 40 = .ok (.iload 4, 2) := by decide +kernel
theorem dX2_byP_42 : decode cX2_byP 42 = .ok (.aload_n 0, 1) := by decide +kernel
theorem dX2_byP_43 : decode cX2_byP 43 = .ok (.getfield 21, 3) := by decide +kernel
theorem dX2_byP_46 : decode cX2_byP 46 = .ok (.invokestatic 94, 3) := by decide +kernel
theorem dX2_byP_49 : decode cX2_byP 49 = .ok (.istore 4, 2) := by decide +kernel
theorem dX2_byP_51 : decode cX2_byP 51 = .ok (.iload_n 3, 1) := by decide +kernel
theorem dX2_byP_52 : decode cX2_byP 52 = .ok (.aload_n 0, 1) := by decide +kernel
theorem dX2_byP_53 : decode cX2_byP 53 = .ok (.getfield 21, 3) := by decide +kernel
theorem dX2_byP_56 : decode cX2_byP 56 = .ok (.imul, 1) := by decide +kernel
theorem dX2_byP_57 : decode cX2_byP 57 = .ok (.istore_n 3, 1) := by decide +kernel
theorem dX2_byP_58 : decode cX2_byP 58 = .ok (.iinc 5 1, 3) := by decide +kernel
theorem dX2_byP_61 : decode cX2_byP 61 = .ok (.goto (-51), 3) := by decide +kernel
theorem dX2_byP_64 : decode cX2_byP 64 = .ok (.iload_n 2, 1) := by decide +kernel
theorem dX2_byP_65 : decode cX2_byP 65 = .ok (.ireturn, 1) := by decide +kernel
theorem dX2_rootLog_0 : decode cX2_rootLog 0 = .ok (.aload_n 0, 1) := by decide +kernel
theorem dX2_rootLog_1 : decode cX2_rootLog 1 = .ok (.getfield 40, 3) := by decide +kernel
theorem dX2_rootLog_4 : decode cX2_rootLog 4 = .ok (.aload_n 0, 1) := by decide +kernel
theorem dX2_rootLog_5 : decode cX2_rootLog 5 = .ok (.iload_n 1, 1) := by decide +kernel
theorem dX2_rootLog_6 : decode cX2_rootLog 6 = .ok (.aload_n 0, 1) := by decide +kernel
theorem dX2_rootLog_7 : decode cX2_rootLog 7 = .ok (.getfield 21, 3) := by decide +kernel
theorem dX2_rootLog_10 : decode cX2_rootLog 10 = .ok (.aload_n 0, 1) := by decide +kernel
theorem dX2_rootLog_11 : decode cX2_rootLog 11 = .ok (.getfield 9, 3) := by decide +kernel
theorem dX2_rootLog_14 : decode cX2_rootLog 14 = .ok (.invokevirtual 124, 3) := by decide +kernel
theorem dX2_rootLog_17 : decode cX2_rootLog 17 = .ok (.invokestatic 116, 3) := by decide +kernel
theorem dX2_rootLog_20 : decode cX2_rootLog 20 = .ok (.ireturn, 1) := by decide +kernel
theorem dX2_rootOf_0 : decode cX2_rootOf 0 = .ok (.aload_n 0, 1) := by decide +kernel
theorem dX2_rootOf_1 : decode cX2_rootOf 1 = .ok (.iload_n 1, 1) := by decide +kernel
theorem dX2_rootOf_2 : decode cX2_rootOf 2 = .ok (.invokevirtual 157, 3) := by decide +kernel
theorem dX2_rootOf_5 : decode cX2_rootOf 5 = .ok (.istore_n 2, 1) := by decide +kernel
theorem dX2_rootOf_6 : decode cX2_rootOf 6 = .ok (.iload_n 2, 1) := by decide +kernel
theorem dX2_rootOf_7 : decode cX2_rootOf 7 = .ok (.iconst (-1), 1) := by decide +kernel
theorem dX2_rootOf_8 : decode cX2_rootOf 8 = .ok (.if_icmp .ne 7, 3) := by decide +kernel
theorem dX2_rootOf_11 : decode cX2_rootOf 11 = .ok (.iconst 0, 1) := by decide +kernel
theorem dX2_rootOf_12 : decode cX2_rootOf 12 = .ok (.goto 11, 3) := by decide +kernel
theorem dX2_rootOf_15 : decode cX2_rootOf 15 = .ok (.aload_n 0, 1) := by decide +kernel
theorem dX2_rootOf_16 : decode cX2_rootOf 16 = .ok (.getfield 37, 3) := by decide +kernel
theorem dX2_rootOf_19 : decode cX2_rootOf 19 = .ok (.iload_n 2, 1) := by decide +kernel
theorem dX2_rootOf_20 : decode cX2_rootOf 20 = .ok (.invokestatic 116, 3) := by decide +kernel
theorem dX2_rootOf_23 : decode cX2_rootOf 23 = .ok (.ireturn, 1) := by decide +kernel
theorem dX2_isUnit_0 : decode cX2_isUnit 0 = .ok (.aload_n 0, 1) := by decide +kernel
theorem dX2_isUnit_1 : decode cX2_isUnit 1 = .ok (.iload_n 1, 1) := by decide +kernel
theorem dX2_isUnit_2 : decode cX2_isUnit 2 = .ok (.invokevirtual 157, 3) := by decide +kernel
theorem dX2_isUnit_5 : decode cX2_isUnit 5 = .ok (.iconst (-1), 1) := by decide +kernel
theorem dX2_isUnit_6 : decode cX2_isUnit 6 = .ok (.if_icmp .eq 7, 3) := by decide +kernel
theorem dX2_isUnit_9 : decode cX2_isUnit 9 = .ok (.iconst 1, 1) := by decide +kernel
theorem dX2_isUnit_10 : decode cX2_isUnit 10 = .ok (.goto 4, 3) := by decide +kernel
theorem dX2_isUnit_13 : decode cX2_isUnit 13 = .ok (.iconst 0, 1) := by decide +kernel
theorem dX2_isUnit_14 : decode cX2_isUnit 14 = .ok (.ireturn, 1) := by decide +kernel
theorem dX2_digitLog_0 : decode cX2_digitLog 0 = .ok (.iload_n 1, 1) := by decide +kernel
theorem dX2_digitLog_1 : decode cX2_digitLog 1 = .ok (.istore_n 3, 1) := by decide +kernel
theorem dX2_digitLog_2 : decode cX2_digitLog 2 = .ok (.iconst 0, 1) := by decide +kernel
theorem dX2_digitLog_3 : decode cX2_digitLog 3 = .ok (.istore 4, 2) := by decide +kernel
theorem dX2_digitLog_5 : decode cX2_digitLog 5 = .ok (.iload 4, 2) := by decide +kernel
theorem dX2_digitLog_7 : decode cX2_digitLog 7 = .ok (.iload_n 2, 1) := by decide +kernel
theorem dX2_digitLog_8 : decode cX2_digitLog 8 = .ok (.if_icmp .ge 24, 3) := by decide +kernel
theorem dX2_digitLog_11 : decode cX2_digitLog 11 = .ok (.aload_n 0, 1) := by decide +kernel
theorem dX2_digitLog_12 : decode cX2_digitLog 12 = .ok (.aload_n 0, 1) := by decide +kernel
theorem dX2_digitLog_13 : decode cX2_digitLog 13 = .ok (.iload_n 3, 1) := by decide +kernel
theorem dX2_digitLog_14 : decode cX2_digitLog 14 = .ok (.aload_n 0, 1) := by decide +kernel
theorem dX2_digitLog_15 : decode cX2_digitLog 15 = .ok (.iload_n 3, 1) := by decide +kernel
theorem dX2_digitLog_16 : decode cX2_digitLog 16 = .ok (.invokevirtual 161, 3) := by decide +kernel
theorem dX2_digitLog_19 : decode cX2_digitLog 19 = .ok (.invokevirtual 146, 3) := by decide +kernel
theorem dX2_digitLog_22 : decode cX2_digitLog 22 = .ok (.invokevirtual 164, 3) := by decide +kernel
theorem dX2_digitLog_25 : decode cX2_digitLog 25 = .ok (.istore_n 3, 1) := by decide +kernel
theorem dX2_digitLog_26 : decode cX2_digitLog 26 = .ok (.iinc 4 1, 3) := by decide +kernel
theorem dX2_digitLog_29 : decode cX2_digitLog 29 = .ok (.goto (-24), 3) := by decide +kernel
theorem dX2_digitLog_32 : decode cX2_digitLog 32 = .ok (.aload_n 0, 1) := by decide +kernel
theorem dX2_digitLog_33 : decode cX2_digitLog 33 = .ok (.iload_n 3, 1) := by decide +kernel
theorem dX2_digitLog_34 : decode cX2_digitLog 34 = .ok (.invokevirtual 157, 3) := by decide +kernel
theorem dX2_digitLog_37 : decode cX2_digitLog 37 = .ok (.ireturn, 1) := by decide +kernel
theorem dX2_withDigit_0 : decode cX2_withDigit 0 = .ok (.iload_n 3, 1) := by decide +kernel
theorem dX2_withDigit_1 : decode cX2_withDigit 1 = .ok (.iconst (-1), 1) := by decide +kernel
theorem dX2_withDigit_2 : decode cX2_withDigit 2 = .ok (.if_icmp .ne 5, 3) := by decide +kernel
theorem dX2_withDigit_5 : decode cX2_withDigit 5 = .ok (.iload_n 1, 1) := by decide +kernel
theorem dX2_withDigit_6 : decode cX2_withDigit 6 = .ok (.ireturn, 1) := by decide +kernel
theorem dX2_withDigit_7 : decode cX2_withDigit 7 = .ok (.iload_n 1, 1) := by decide +kernel
theorem dX2_withDigit_8 : decode cX2_withDigit 8 = .ok (.aload_n 0, 1) := by decide +kernel
theorem dX2_withDigit_9 : decode cX2_withDigit 9 = .ok (.getfield 37, 3) := by decide +kernel
theorem dX2_withDigit_12 : decode cX2_withDigit 12 = .ok (.iload_n 3, 1) := by decide +kernel
theorem dX2_withDigit_13 : decode cX2_withDigit 13 = .ok (.invokestatic 116, 3) := by decide +kernel
theorem dX2_withDigit_16 : decode cX2_withDigit 16 = .ok (.aload_n 0, 1) := by decide +kernel
theorem dX2_withDigit_17 : decode cX2_withDigit 17 = .ok (.getfield 9, 3) := by decide +kernel
theorem dX2_withDigit_20 : decode cX2_withDigit 20 = .ok (.iload_n 2, 1) := by decide +kernel
theorem dX2_withDigit_21 : decode cX2_withDigit 21 = .ok (.invokestatic 64, 3) := by decide +kernel
theorem dX2_withDigit_24 : decode cX2_withDigit 24 = .ok (.aload_n 0, 1) := by decide +kernel
theorem dX2_withDigit_25 : decode cX2_withDigit 25 = .ok (.getfield 21, 3) := by decide +kernel
theorem dX2_withDigit_28 : decode cX2_withDigit 28 = .ok (.invokestatic 135, 3) := by decide +kernel
theorem dX2_withDigit_31 : decode cX2_withDigit 31 = .ok (.ireturn, 1) := by decide +kernel
theorem dX2_level_0 : decode cX2_level 0 = .ok (.iload_n 1, 1) := by decide +kernel
theorem dX2_level_1 : decode cX2_level 1 = .ok (.istore_n 2, 1) := by decide +kernel
theorem dX2_level_2 : decode cX2_level 2 = .ok (.iconst 0, 1) := by decide +kernel
theorem dX2_level_3 : decode cX2_level 3 = .ok (.istore_n 3, 1) := by decide +kernel
theorem dX2_level_4 : decode cX2_level 4 = .ok (.iload_n 3, 1) := by decide +kernel
theorem dX2_level_5 : decode cX2_level 5 = .ok (.aload_n 0, 1) := by decide +kernel
theorem dX2_level_6 : decode cX2_level 6 = .ok (.getfield 15, 3) := by decide +kernel
theorem dX2_level_9 : decode cX2_level 9 = .ok (.if_icmp .ge 25, 3) := by decide +kernel
theorem dX2_level_12 : decode cX2_level 12 = .ok (.aload_n 0, 1) := by decide +kernel
theorem dX2_level_13 : decode cX2_level 13 = .ok (.iload_n 2, 1) := by decide +kernel
theorem dX2_level_14 : decode cX2_level 14 = .ok (.invokevirtual 167, 3) := by decide +kernel
theorem dX2_level_17 : decode cX2_level 17 = .ok (.ifCond .eq 5, 3) := by decide +kernel
theorem dX2_level_20 : decode cX2_level 20 = .ok (.iload_n 3, 1) := by decide +kernel
theorem dX2_level_21 : decode cX2_level 21 = .ok (.ireturn, 1) := by decide +kernel
theorem dX2_level_22 : decode cX2_level 22 = .ok (.aload_n 0, 1) := by decide +kernel
theorem dX2_level_23 : decode cX2_level 23 = .ok (.iload_n 2, 1) := by decide +kernel
theorem dX2_level_24 : decode cX2_level 24 = .ok (.invokevirtual 164, 3) := by decide +kernel
theorem dX2_level_27 : decode cX2_level 27 = .ok (.istore_n 2, 1) := by decide +kernel
theorem dX2_level_28 : decode cX2_level 28 = .ok (.iinc 3 1, 3) := by decide +kernel
theorem dX2_level_31 : decode cX2_level 31 = .ok (.goto (-27), 3) := by decide +kernel
theorem dX2_level_34 : decode cX2_level 34 = .ok (.aload_n 0, 1) := by decide +kernel
theorem dX2_level_35 : decode cX2_level 35 = .ok (.getfield 15, 3) := by decide +kernel
theorem dX2_level_38 : decode cX2_level 38 = .ok (.ireturn, 1) := by decide +kernel
theorem dX2_moved_0 : decode cX2_moved 0 = .ok (.aload_n 0, 1) := by decide +kernel
theorem dX2_moved_1 : decode cX2_moved 1 = .ok (.iload_n 1, 1) := by decide +kernel
theorem dX2_moved_2 : decode cX2_moved 2 = .ok (.aload_n 0, 1) := by decide +kernel
theorem dX2_moved_3 : decode cX2_moved 3 = .ok (.getfield 48, 3) := by decide +kernel
theorem dX2_moved_6 : decode cX2_moved 6 = .ok (.invokevirtual 120, 3) := by decide +kernel
theorem dX2_moved_9 : decode cX2_moved 9 = .ok (.aload_n 0, 1) := by decide +kernel
theorem dX2_moved_10 : decode cX2_moved 10 = .ok (.getfield 54, 3) := by decide +kernel
theorem dX2_moved_13 : decode cX2_moved 13 = .ok (.iconst 0, 1) := by decide +kernel
theorem dX2_moved_14 : decode cX2_moved 14 = .ok (.invokestatic 97, 3) := by decide +kernel
theorem dX2_moved_17 : decode cX2_moved 17 = .ok (.iconst 0, 1) := by decide +kernel
theorem dX2_moved_18 : decode cX2_moved 18 = .ok (.istore_n 2, 1) := by decide +kernel
theorem dX2_moved_19 : decode cX2_moved 19 = .ok (.iload_n 2, 1) := by decide +kernel
theorem dX2_moved_20 : decode cX2_moved 20 = .ok (.bipush 6, 2) := by decide +kernel
theorem dX2_moved_22 : decode cX2_moved 22 = .ok (.if_icmp .ge 47, 3) := by decide +kernel
theorem dX2_moved_25 : decode cX2_moved 25 = .ok (.iconst 0, 1) := by decide +kernel
theorem dX2_moved_26 : decode cX2_moved 26 = .ok (.istore_n 3, 1) := by decide +kernel
theorem dX2_moved_27 : decode cX2_moved 27 = .ok (.iload_n 3, 1) := by decide +kernel
theorem dX2_moved_28 : decode cX2_moved 28 = .ok (.bipush 6, 2) := by decide +kernel
theorem dX2_moved_30 : decode cX2_moved 30 = .ok (.if_icmp .ge 33, 3) := by decide +kernel
theorem dX2_moved_33 : decode cX2_moved 33 = .ok (.aload_n 0, 1) := by decide +kernel
theorem dX2_moved_34 : decode cX2_moved 34 = .ok (.getfield 54, 3) := by decide +kernel
theorem dX2_moved_37 : decode cX2_moved 37 = .ok (.iload_n 3, 1) := by decide +kernel
theorem dX2_moved_38 : decode cX2_moved 38 = .ok (.dup2, 1) := by decide +kernel
theorem dX2_moved_39 : decode cX2_moved 39 = .ok (.iaload, 1) := by decide +kernel
theorem dX2_moved_40 : decode cX2_moved 40 = .ok (.aload_n 0, 1) := by decide +kernel
theorem dX2_moved_41 : decode cX2_moved 41 = .ok (.getfield 48, 3) := by decide +kernel
theorem dX2_moved_44 : decode cX2_moved 44 = .ok (.iload_n 2, 1) := by decide +kernel
theorem dX2_moved_45 : decode cX2_moved 45 = .ok (.iaload, 1) := by decide +kernel
theorem dX2_moved_46 : decode cX2_moved 46 = .ok (.aload_n 0, 1) := by decide +kernel
theorem dX2_moved_47 : decode cX2_moved 47 = .ok (.getfield 45, 3) := by decide +kernel
theorem dX2_moved_50 : decode cX2_moved 50 = .ok (.iload_n 2, 1) := by decide +kernel
theorem dX2_moved_51 : decode cX2_moved 51 = .ok (.aaload, 1) := by decide +kernel
theorem dX2_moved_52 : decode cX2_moved 52 = .ok (.iload_n 3, 1) := by decide +kernel
theorem dX2_moved_53 : decode cX2_moved 53 = .ok (.iaload, 1) := by decide +kernel
theorem dX2_moved_54 : decode cX2_moved 54 = .ok (.imul, 1) := by decide +kernel
theorem dX2_moved_55 : decode cX2_moved 55 = .ok (.iadd, 1) := by decide +kernel
theorem dX2_moved_56 : decode cX2_moved 56 = .ok (.iastore, 1) := by decide +kernel
theorem dX2_moved_57 : decode cX2_moved 57 = .ok (.iinc 3 1, 3) := by decide +kernel
theorem dX2_moved_60 : decode cX2_moved 60 = .ok (.goto (-33), 3) := by decide +kernel
theorem dX2_moved_63 : decode cX2_moved 63 = .ok (.iinc 2 1, 3) := by decide +kernel
theorem dX2_moved_66 : decode cX2_moved 66 = .ok (.goto (-47), 3) := by decide +kernel
theorem dX2_moved_69 : decode cX2_moved 69 = .ok (.aload_n 0, 1) := by decide +kernel
theorem dX2_moved_70 : decode cX2_moved 70 = .ok (.aload_n 0, 1) := by decide +kernel
theorem dX2_moved_71 : decode cX2_moved 71 = .ok (.getfield 54, 3) := by decide +kernel
theorem dX2_moved_74 : decode cX2_moved 74 = .ok (.invokevirtual 142, 3) := by decide +kernel
theorem dX2_moved_77 : decode cX2_moved 77 = .ok (.ireturn, 1) := by decide +kernel
theorem dX2_trace_0 : decode cX2_trace 0 = .ok (.iconst 0, 1) := by decide +kernel
theorem dX2_trace_1 : decode cX2_trace 1 = .ok (.istore_n 2, 1) := by decide +kernel
theorem dX2_trace_2 : decode cX2_trace 2 = .ok (.iload_n 1, 1) := by decide +kernel
theorem dX2_trace_3 : decode cX2_trace 3 = .ok (.istore_n 3, 1) := by decide +kernel
theorem dX2_trace_4 : decode cX2_trace 4 = .ok (.iconst 0, 1) := by decide +kernel
theorem dX2_trace_5 : decode cX2_trace 5 = .ok (.istore 4, 2) := by decide +kernel
theorem dX2_trace_7 : decode cX2_trace 7 = .ok (.iload 4, 2) := by decide +kernel
theorem dX2_trace_9 : decode cX2_trace 9 = .ok (.aload_n 0, 1) := by decide +kernel
theorem dX2_trace_10 : decode cX2_trace 10 = .ok (.getfield 18, 3) := by decide +kernel
theorem dX2_trace_13 : decode cX2_trace 13 = .ok (.if_icmp .ge 22, 3) := by decide +kernel
theorem dX2_trace_16 : decode cX2_trace 16 = .ok (.aload_n 0, 1) := by decide +kernel
theorem dX2_trace_17 : decode cX2_trace 17 = .ok (.iload_n 2, 1) := by decide +kernel
theorem dX2_trace_18 : decode cX2_trace 18 = .ok (.iload_n 3, 1) := by decide +kernel
theorem dX2_trace_19 : decode cX2_trace 19 = .ok (.invokevirtual 149, 3) := by decide +kernel
theorem dX2_trace_22 : decode cX2_trace 22 = .ok (.istore_n 2, 1) := by decide +kernel
theorem dX2_trace_23 : decode cX2_trace 23 = .ok (.aload_n 0, 1) := by decide +kernel
theorem dX2_trace_24 : decode cX2_trace 24 = .ok (.iload_n 3, 1) := by decide +kernel
theorem dX2_trace_25 : decode cX2_trace 25 = .ok (.invokevirtual 170, 3) := by decide +kernel
theorem dX2_trace_28 : decode cX2_trace 28 = .ok (.istore_n 3, 1) := by decide +kernel
theorem dX2_trace_29 : decode cX2_trace 29 = .ok (.iinc 4 1, 3) := by decide +kernel
theorem dX2_trace_32 : decode cX2_trace 32 = .ok (.goto (-25), 3) := by decide +kernel
theorem dX2_trace_35 : decode cX2_trace 35 = .ok (.iload_n 2, 1) := by decide +kernel
theorem dX2_trace_36 : decode cX2_trace 36 = .ok (.ireturn, 1) := by decide +kernel
theorem dX2_norm_0 : decode cX2_norm 0 = .ok (.iconst 1, 1) := by decide +kernel
theorem dX2_norm_1 : decode cX2_norm 1 = .ok (.istore_n 2, 1) := by decide +kernel
theorem dX2_norm_2 : decode cX2_norm 2 = .ok (.iload_n 1, 1) := by decide +kernel
theorem dX2_norm_3 : decode cX2_norm 3 = .ok (.istore_n 3, 1) := by decide +kernel
theorem dX2_norm_4 : decode cX2_norm 4 = .ok (.iconst 0, 1) := by decide +kernel
theorem dX2_norm_5 : decode cX2_norm 5 = .ok (.istore 4, 2) := by decide +kernel
theorem dX2_norm_7 : decode cX2_norm 7 = .ok (.iload 4, 2) := by decide +kernel
theorem dX2_norm_9 : decode cX2_norm 9 = .ok (.aload_n 0, 1) := by decide +kernel
theorem dX2_norm_10 : decode cX2_norm 10 = .ok (.getfield 18, 3) := by decide +kernel
theorem dX2_norm_13 : decode cX2_norm 13 = .ok (.if_icmp .ge 22, 3) := by decide +kernel
theorem dX2_norm_16 : decode cX2_norm 16 = .ok (.aload_n 0, 1) := by decide +kernel
theorem dX2_norm_17 : decode cX2_norm 17 = .ok (.iload_n 2, 1) := by decide +kernel
theorem dX2_norm_18 : decode cX2_norm 18 = .ok (.iload_n 3, 1) := by decide +kernel
theorem dX2_norm_19 : decode cX2_norm 19 = .ok (.invokevirtual 132, 3) := by decide +kernel
theorem dX2_norm_22 : decode cX2_norm 22 = .ok (.istore_n 2, 1) := by decide +kernel
theorem dX2_norm_23 : decode cX2_norm 23 = .ok (.aload_n 0, 1) := by decide +kernel
theorem dX2_norm_24 : decode cX2_norm 24 = .ok (.iload_n 3, 1) := by decide +kernel
theorem dX2_norm_25 : decode cX2_norm 25 = .ok (.invokevirtual 170, 3) := by decide +kernel
theorem dX2_norm_28 : decode cX2_norm 28 = .ok (.istore_n 3, 1) := by decide +kernel
theorem dX2_norm_29 : decode cX2_norm 29 = .ok (.iinc 4 1, 3) := by decide +kernel
theorem dX2_norm_32 : decode cX2_norm 32 = .ok (.goto (-25), 3) := by decide +kernel
theorem dX2_norm_35 : decode cX2_norm 35 = .ok (.iload_n 2, 1) := by decide +kernel
theorem dX2_norm_36 : decode cX2_norm 36 = .ok (.ireturn, 1) := by decide +kernel
theorem dX2_isWithin_0 : decode cX2_isWithin 0 = .ok (.iload_n 1, 1) := by decide +kernel
theorem dX2_isWithin_1 : decode cX2_isWithin 1 = .ok (.istore_n 3, 1) := by decide +kernel
theorem dX2_isWithin_2 : decode cX2_isWithin 2 = .ok (.iconst 0, 1) := by decide +kernel
theorem dX2_isWithin_3 : decode cX2_isWithin 3 = .ok (.istore 4, 2) := by decide +kernel
theorem dX2_isWithin_5 : decode cX2_isWithin 5 = .ok (.iload 4, 2) := by decide +kernel
theorem dX2_isWithin_7 : decode cX2_isWithin 7 = .ok (.iload_n 2, 1) := by decide +kernel
theorem dX2_isWithin_8 : decode cX2_isWithin 8 = .ok (.if_icmp .ge 15, 3) := by decide +kernel
theorem dX2_isWithin_11 : decode cX2_isWithin 11 = .ok (.aload_n 0, 1) := by decide +kernel
theorem dX2_isWithin_12 : decode cX2_isWithin 12 = .ok (.iload_n 3, 1) := by decide +kernel
theorem dX2_isWithin_13 : decode cX2_isWithin 13 = .ok (.invokevirtual 170, 3) := by decide +kernel
theorem dX2_isWithin_16 : decode cX2_isWithin 16 = .ok (.istore_n 3, 1) := by decide +kernel
theorem dX2_isWithin_17 : decode cX2_isWithin 17 = .ok (.iinc 4 1, 3) := by decide +kernel
theorem dX2_isWithin_20 : decode cX2_isWithin 20 = .ok (.goto (-15), 3) := by decide +kernel
theorem dX2_isWithin_23 : decode cX2_isWithin 23 = .ok (.iload_n 3, 1) := by decide +kernel
theorem dX2_isWithin_24 : decode cX2_isWithin 24 = .ok (.iload_n 1, 1) := by decide +kernel
theorem dX2_isWithin_25 : decode cX2_isWithin 25 = .ok (.if_icmp .ne 7, 3) := by decide +kernel
theorem dX2_isWithin_28 : decode cX2_isWithin 28 = .ok (.iconst 1, 1) := by decide +kernel
theorem dX2_isWithin_29 : decode cX2_isWithin 29 = .ok (.goto 4, 3) := by decide +kernel
theorem dX2_isWithin_32 : decode cX2_isWithin 32 = .ok (.iconst 0, 1) := by decide +kernel
theorem dX2_isWithin_33 : decode cX2_isWithin 33 = .ok (.ireturn, 1) := by decide +kernel
theorem dX2_leastWithin_0 : decode cX2_leastWithin 0 = .ok (.iconst 1, 1) := by decide +kernel
theorem dX2_leastWithin_1 : decode cX2_leastWithin 1 = .ok (.istore_n 2, 1) := by decide +kernel
theorem dX2_leastWithin_2 : decode cX2_leastWithin 2 = .ok (.iload_n 2, 1) := by decide +kernel
theorem dX2_leastWithin_3 : decode cX2_leastWithin 3 = .ok (.aload_n 0, 1) := by decide +kernel
theorem dX2_leastWithin_4 : decode cX2_leastWithin 4 = .ok (.getfield 18, 3) := by decide +kernel
theorem dX2_leastWithin_7 : decode cX2_leastWithin 7 = .ok (.if_icmp .ge 31, 3) := by decide +kernel
theorem dX2_leastWithin_10 : decode cX2_leastWithin 10 = .ok (.aload_n 0, 1) := by decide +kernel
theorem dX2_leastWithin_11 : decode cX2_leastWithin 11 = .ok (.getfield 18, 3) := by decide +kernel
theorem dX2_leastWithin_14 : decode cX2_leastWithin 14 = .ok (.iload_n 2, 1) := by decide +kernel
theorem dX2_leastWithin_15 : decode cX2_leastWithin 15 = .ok (.invokestatic 87, 3) := by decide +kernel
theorem dX2_leastWithin_18 : decode cX2_leastWithin 18 = .ok (.ifCond .ne 14, 3) := by decide +kernel
theorem dX2_leastWithin_21 : decode cX2_leastWithin 21 = .ok (.aload_n 0, 1) := by decide +kernel
theorem dX2_leastWithin_22 : decode cX2_leastWithin 22 = .ok (.iload_n 1, 1) := by decide +kernel
theorem dX2_leastWithin_23 : decode cX2_leastWithin 23 = .ok (.iload_n 2, 1) := by decide +kernel
theorem dX2_leastWithin_24 : decode cX2_leastWithin 24 = .ok (.invokevirtual 173, 3) := by decide +kernel
theorem dX2_leastWithin_27 : decode cX2_leastWithin 27 = .ok (.ifCond .eq 5, 3) := by decide +kernel
theorem dX2_leastWithin_30 : decode cX2_leastWithin 30 = .ok (.iload_n 2, 1) := by decide +kernel
theorem dX2_leastWithin_31 : decode cX2_leastWithin 31 = .ok (.ireturn, 1) := by decide +kernel
theorem dX2_leastWithin_32 : decode cX2_leastWithin 32 = .ok (.iinc 2 1, 3) := by decide +kernel
theorem dX2_leastWithin_35 : decode cX2_leastWithin 35 = .ok (.goto (-33), 3) := by decide +kernel
theorem dX2_leastWithin_38 : decode cX2_leastWithin 38 = .ok (.aload_n 0, 1) := by decide +kernel
theorem dX2_leastWithin_39 : decode cX2_leastWithin 39 = .ok (.getfield 18, 3) := by decide +kernel
theorem dX2_leastWithin_42 : decode cX2_leastWithin 42 = .ok (.ireturn, 1) := by decide +kernel
theorem dX2_oneBelow_0 : decode cX2_oneBelow 0 = .ok (.aload_n 0, 1) := by decide +kernel
theorem dX2_oneBelow_1 : decode cX2_oneBelow 1 = .ok (.iload_n 1, 1) := by decide +kernel
theorem dX2_oneBelow_2 : decode cX2_oneBelow 2 = .ok (.aload_n 0, 1) := by decide +kernel
theorem dX2_oneBelow_3 : decode cX2_oneBelow 3 = .ok (.aload_n 0, 1) := by decide +kernel
theorem dX2_oneBelow_4 : decode cX2_oneBelow 4 = .ok (.iload_n 1, 1) := by decide +kernel
theorem dX2_oneBelow_5 : decode cX2_oneBelow 5 = .ok (.invokevirtual 161, 3) := by decide +kernel
theorem dX2_oneBelow_8 : decode cX2_oneBelow 8 = .ok (.invokevirtual 177, 3) := by decide +kernel
theorem dX2_oneBelow_11 : decode cX2_oneBelow 11 = .ok (.invokevirtual 132, 3) := by decide +kernel
theorem dX2_oneBelow_14 : decode cX2_oneBelow 14 = .ok (.ireturn, 1) := by decide +kernel
theorem dX2_inverse_0 : decode cX2_inverse 0 = .ok (.aload_n 0, 1) := by decide +kernel
theorem dX2_inverse_1 : decode cX2_inverse 1 = .ok (.iload_n 1, 1) := by decide +kernel
theorem dX2_inverse_2 : decode cX2_inverse 2 = .ok (.aload_n 0, 1) := by decide +kernel
theorem dX2_inverse_3 : decode cX2_inverse 3 = .ok (.getfield 24, 3) := by decide +kernel
theorem dX2_inverse_6 : decode cX2_inverse 6 = .ok (.iconst 1, 1) := by decide +kernel
theorem dX2_inverse_7 : decode cX2_inverse 7 = .ok (.isub, 1) := by decide +kernel
theorem dX2_inverse_8 : decode cX2_inverse 8 = .ok (.aload_n 0, 1) := by decide +kernel
theorem dX2_inverse_9 : decode cX2_inverse 9 = .ok (.getfield 9, 3) := by decide +kernel
theorem dX2_inverse_12 : decode cX2_inverse 12 = .ok (.aload_n 0, 1) := by decide +kernel
theorem dX2_inverse_13 : decode cX2_inverse 13 = .ok (.getfield 15, 3) := by decide +kernel
theorem dX2_inverse_16 : decode cX2_inverse 16 = .ok (.iconst 1, 1) := by decide +kernel
theorem dX2_inverse_17 : decode cX2_inverse 17 = .ok (.isub, 1) := by decide +kernel
theorem dX2_inverse_18 : decode cX2_inverse 18 = .ok (.invokestatic 64, 3) := by decide +kernel
theorem dX2_inverse_21 : decode cX2_inverse 21 = .ok (.imul, 1) := by decide +kernel
theorem dX2_inverse_22 : decode cX2_inverse 22 = .ok (.iconst 1, 1) := by decide +kernel
theorem dX2_inverse_23 : decode cX2_inverse 23 = .ok (.isub, 1) := by decide +kernel
theorem dX2_inverse_24 : decode cX2_inverse 24 = .ok (.invokevirtual 110, 3) := by decide +kernel
theorem dX2_inverse_27 : decode cX2_inverse 27 = .ok (.ireturn, 1) := by decide +kernel
theorem dX2_order_0 : decode cX2_order 0 = .ok (.aload_n 0, 1) := by decide +kernel
theorem dX2_order_1 : decode cX2_order 1 = .ok (.getfield 24, 3) := by decide +kernel
theorem dX2_order_4 : decode cX2_order 4 = .ok (.iconst 1, 1) := by decide +kernel
theorem dX2_order_5 : decode cX2_order 5 = .ok (.isub, 1) := by decide +kernel
theorem dX2_order_6 : decode cX2_order 6 = .ok (.aload_n 0, 1) := by decide +kernel
theorem dX2_order_7 : decode cX2_order 7 = .ok (.iload_n 1, 1) := by decide +kernel
theorem dX2_order_8 : decode cX2_order 8 = .ok (.invokevirtual 157, 3) := by decide +kernel
theorem dX2_order_11 : decode cX2_order 11 = .ok (.aload_n 0, 1) := by decide +kernel
theorem dX2_order_12 : decode cX2_order 12 = .ok (.getfield 24, 3) := by decide +kernel
theorem dX2_order_15 : decode cX2_order 15 = .ok (.iconst 1, 1) := by decide +kernel
theorem dX2_order_16 : decode cX2_order 16 = .ok (.isub, 1) := by decide +kernel
theorem dX2_order_17 : decode cX2_order 17 = .ok (.invokestatic 180, 3) := by decide +kernel
theorem dX2_order_20 : decode cX2_order 20 = .ok (.invokestatic 94, 3) := by decide +kernel
theorem dX2_order_23 : decode cX2_order 23 = .ok (.istore_n 2, 1) := by decide +kernel
theorem dX2_order_24 : decode cX2_order 24 = .ok (.iload_n 2, 1) := by decide +kernel
theorem dX2_order_25 : decode cX2_order 25 = .ok (.aload_n 0, 1) := by decide +kernel
theorem dX2_order_26 : decode cX2_order 26 = .ok (.aload_n 0, 1) := by decide +kernel
theorem dX2_order_27 : decode cX2_order 27 = .ok (.iload_n 1, 1) := by decide +kernel
theorem dX2_order_28 : decode cX2_order 28 = .ok (.invokevirtual 183, 3) := by decide +kernel
theorem dX2_order_31 : decode cX2_order 31 = .ok (.invokevirtual 186, 3) := by decide +kernel
theorem dX2_order_34 : decode cX2_order 34 = .ok (.imul, 1) := by decide +kernel
theorem dX2_order_35 : decode cX2_order 35 = .ok (.ireturn, 1) := by decide +kernel
theorem dX2_orderOneBelow_0 : decode cX2_orderOneBelow 0 = .ok (.iconst 1, 1) := by decide +kernel
theorem dX2_orderOneBelow_1 : decode cX2_orderOneBelow 1 = .ok (.istore_n 2, 1) := by decide +kernel
theorem dX2_orderOneBelow_2 : decode cX2_orderOneBelow 2 = .ok (.iload_n 1, 1) := by decide +kernel
theorem dX2_orderOneBelow_3 : decode cX2_orderOneBelow 3 = .ok (.istore_n 3, 1) := by decide +kernel
theorem dX2_orderOneBelow_4 : decode cX2_orderOneBelow 4 = .ok (.iconst 1, 1) := by decide +kernel
theorem dX2_orderOneBelow_5 : decode cX2_orderOneBelow 5 = .ok (.istore 4, 2) := by decide +kernel
theorem dX2_orderOneBelow_7 : decode cX2_orderOneBelow 7 = .ok (.iload 4, 2) := by decide +kernel
theorem dX2_orderOneBelow_9 : decode cX2_orderOneBelow 9 = .ok (.aload_n 0, 1) := by decide +kernel
theorem dX2_orderOneBelow_10 : decode cX2_orderOneBelow 10 = .ok (.getfield 15, 3) := by decide +kernel
theorem dX2_orderOneBelow_13 : decode cX2_orderOneBelow 13 = .ok (.if_icmp .ge 31, 3) := by decide +kernel
theorem dX2_orderOneBelow_16 : decode cX2_orderOneBelow 16 = .ok (.iload_n 3, 1) := by decide +kernel
theorem dX2_orderOneBelow_17 : decode cX2_orderOneBelow 17 = .ok (.iconst 1, 1) := by decide +kernel
theorem dX2_orderOneBelow_18 : decode cX2_orderOneBelow 18 = .ok (.if_icmp .eq 26, 3) := by decide +kernel
theorem dX2_orderOneBelow_21 : decode cX2_orderOneBelow 21 = .ok (.aload_n 0, 1) := by decide +kernel
theorem dX2_orderOneBelow_22 : decode cX2_orderOneBelow 22 = .ok (.iload_n 3, 1) := by decide +kernel
theorem dX2_orderOneBelow_23 : decode cX2_orderOneBelow 23 = .ok (.aload_n 0, 1) := by decide +kernel
theorem dX2_orderOneBelow_24 : decode cX2_orderOneBelow 24 = .ok (.getfield 9, 3) := by decide +kernel
theorem dX2_orderOneBelow_27 : decode cX2_orderOneBelow 27 = .ok (.invokevirtual 110, 3) := by decide +kernel
theorem dX2_orderOneBelow_30 : decode cX2_orderOneBelow 30 = .ok (.istore_n 3, 1) := by decide +kernel
theorem dX2_orderOneBelow_31 : decode cX2_orderOneBelow 31 = .ok (.iload_n 2, 1) := by decide +kernel
theorem dX2_orderOneBelow_32 : decode cX2_orderOneBelow 32 = .ok (.aload_n 0, 1) := by decide +kernel
theorem dX2_orderOneBelow_33 : decode cX2_orderOneBelow 33 = .ok (.getfield 9, 3) := by decide +kernel
theorem dX2_orderOneBelow_36 : decode cX2_orderOneBelow 36 = .ok (.imul, 1) := by decide +kernel
theorem dX2_orderOneBelow_37 : decode cX2_orderOneBelow 37 = .ok (.istore_n 2, 1) := by decide +kernel
theorem dX2_orderOneBelow_38 : decode cX2_orderOneBelow 38 = .ok (.iinc 4 1, 3) := by decide +kernel
theorem dX2_orderOneBelow_41 : decode cX2_orderOneBelow 41 = .ok (.goto (-34), 3) := by decide +kernel
theorem dX2_orderOneBelow_44 : decode cX2_orderOneBelow 44 = .ok (.iload_n 2, 1) := by decide +kernel
theorem dX2_orderOneBelow_45 : decode cX2_orderOneBelow 45 = .ok (.ireturn, 1) := by decide +kernel
theorem dX2_commonOrder_0 : decode cX2_commonOrder 0 = .ok (.iconst 1, 1) := by decide +kernel
theorem dX2_commonOrder_1 : decode cX2_commonOrder 1 = .ok (.istore_n 1, 1) := by decide +kernel
theorem dX2_commonOrder_2 : decode cX2_commonOrder 2 = .ok (.iconst 0, 1) := by decide +kernel
theorem dX2_commonOrder_3 : decode cX2_commonOrder 3 = .ok (.istore_n 2, 1) := by decide +kernel
theorem dX2_commonOrder_4 : decode cX2_commonOrder 4 = .ok (.iload_n 2, 1) := by decide +kernel
theorem dX2_commonOrder_5 : decode cX2_commonOrder 5 = .ok (.aload_n 0, 1) := by decide +kernel
theorem dX2_commonOrder_6 : decode cX2_commonOrder 6 = .ok (.getfield 27, 3) := by decide +kernel
theorem dX2_commonOrder_9 : decode cX2_commonOrder 9 = .ok (.if_icmp .ge 27, 3) := by decide +kernel
theorem dX2_commonOrder_12 : decode cX2_commonOrder 12 = .ok (.aload_n 0, 1) := by decide +kernel
theorem dX2_commonOrder_13 : decode cX2_commonOrder 13 = .ok (.iload_n 2, 1) := by decide +kernel
theorem dX2_commonOrder_14 : decode cX2_commonOrder 14 = .ok (.invokevirtual 157, 3) := by decide +kernel
theorem dX2_commonOrder_17 : decode cX2_commonOrder 17 = .ok (.ifCond .ne 13, 3) := by decide +kernel
theorem dX2_commonOrder_20 : decode cX2_commonOrder 20 = .ok (.iload_n 1, 1) := by decide +kernel
theorem dX2_commonOrder_21 : decode cX2_commonOrder 21 = .ok (.aload_n 0, 1) := by decide +kernel
theorem dX2_commonOrder_22 : decode cX2_commonOrder 22 = .ok (.iload_n 2, 1) := by decide +kernel
theorem dX2_commonOrder_23 : decode cX2_commonOrder 23 = .ok (.invokevirtual 186, 3) := by decide +kernel
theorem dX2_commonOrder_26 : decode cX2_commonOrder 26 = .ok (.invokestatic 189, 3) := by decide +kernel
theorem dX2_commonOrder_29 : decode cX2_commonOrder 29 = .ok (.istore_n 1, 1) := by decide +kernel
theorem dX2_commonOrder_30 : decode cX2_commonOrder 30 = .ok (.iinc 2 1, 3) := by decide +kernel
theorem dX2_commonOrder_33 : decode cX2_commonOrder 33 = .ok (.goto (-29), 3) := by decide +kernel
theorem dX2_commonOrder_36 : decode cX2_commonOrder 36 = .ok (.aload_n 0, 1) := by decide +kernel
theorem dX2_commonOrder_37 : decode cX2_commonOrder 37 = .ok (.getfield 24, 3) := by decide +kernel
theorem dX2_commonOrder_40 : decode cX2_commonOrder 40 = .ok (.iconst 1, 1) := by decide +kernel
theorem dX2_commonOrder_41 : decode cX2_commonOrder 41 = .ok (.isub, 1) := by decide +kernel
theorem dX2_commonOrder_42 : decode cX2_commonOrder 42 = .ok (.iload_n 1, 1) := by decide +kernel
theorem dX2_commonOrder_43 : decode cX2_commonOrder 43 = .ok (.imul, 1) := by decide +kernel
theorem dX2_commonOrder_44 : decode cX2_commonOrder 44 = .ok (.ireturn, 1) := by decide +kernel
theorem dX3_init_0 : decode cX3_init 0 = .ok (.aload_n 0, 1) := by decide +kernel
theorem dX3_init_1 : decode cX3_init 1 = .ok (.invokespecial 3, 3) := by decide +kernel
theorem dX3_init_4 : decode cX3_init 4 = .ok (.aload_n 0, 1) := by decide +kernel
theorem dX3_init_5 : decode cX3_init 5 = .ok (.iconst 0, 1) := by decide +kernel
theorem dX3_init_6 : decode cX3_init 6 = .ok (.putfield 9, 3) := by decide +kernel
theorem dX3_init_9 : decode cX3_init 9 = .ok (.aload_n 0, 1) := by decide +kernel
theorem dX3_init_10 : decode cX3_init 10 = .ok (.iconst 0, 1) := by decide +kernel
theorem dX3_init_11 : decode cX3_init 11 = .ok (.putfield 15, 3) := by decide +kernel
theorem dX3_init_14 : decode cX3_init 14 = .ok (.aload_n 0, 1) := by decide +kernel
theorem dX3_init_15 : decode cX3_init 15 = .ok (.bipush 63, 2) := by decide +kernel
theorem dX3_init_17 : decode cX3_init 17 = .ok (.newarray .int, 2) := by decide +kernel
theorem dX3_init_19 : decode cX3_init 19 = .ok (.putfield 18, 3) := by decide +kernel
theorem dX3_init_22 : decode cX3_init 22 = .ok (.aload_n 0, 1) := by decide +kernel
theorem dX3_init_23 : decode cX3_init 23 = .ok (.bipush 63, 2) := by decide +kernel
theorem dX3_init_25 : decode cX3_init 25 = .ok (.newarray .int, 2) := by decide +kernel
theorem dX3_init_27 : decode cX3_init 27 = .ok (.putfield 22, 3) := by decide +kernel
theorem dX3_init_30 : decode cX3_init 30 = .ok (.aload_n 0, 1) := by decide +kernel
theorem dX3_init_31 : decode cX3_init 31 = .ok (.iconst 0, 1) := by decide +kernel
theorem dX3_init_32 : decode cX3_init 32 = .ok (.putfield 25, 3) := by decide +kernel
theorem dX3_init_35 : decode cX3_init 35 = .ok (.aload_n 0, 1) := by decide +kernel
theorem dX3_init_36 : decode cX3_init 36 = .ok (.iconst (-1), 1) := by decide +kernel
theorem dX3_init_37 : decode cX3_init 37 = .ok (.putfield 29, 3) := by decide +kernel
theorem dX3_init_40 : decode cX3_init 40 = .ok (.aload_n 0, 1) := by decide +kernel
theorem dX3_init_41 : decode cX3_init 41 = .ok (.iconst (-1), 1) := by decide +kernel
theorem dX3_init_42 : decode cX3_init 42 = .ok (.putfield 32, 3) := by decide +kernel
theorem dX3_init_45 : decode cX3_init 45 = .ok (.aload_n 0, 1) := by decide +kernel
theorem dX3_init_46 : decode cX3_init 46 = .ok (.iconst 0, 1) := by decide +kernel
theorem dX3_init_47 : decode cX3_init 47 = .ok (.putfield 35, 3) := by decide +kernel
theorem dX3_init_50 : decode cX3_init 50 = .ok (.aload_n 0, 1) := by decide +kernel
theorem dX3_init_51 : decode cX3_init 51 = .ok (.bipush 63, 2) := by decide +kernel
theorem dX3_init_53 : decode cX3_init 53 = .ok (.newarray .int, 2) := by decide +kernel
theorem dX3_init_55 : decode cX3_init 55 = .ok (.putfield 38, 3) := by decide +kernel
theorem dX3_init_58 : decode cX3_init 58 = .ok (.aload_n 0, 1) := by decide +kernel
theorem dX3_init_59 : decode cX3_init 59 = .ok (.iconst 0, 1) := by decide +kernel
theorem dX3_init_60 : decode cX3_init 60 = .ok (.putfield 41, 3) := by decide +kernel
theorem dX3_init_63 : decode cX3_init 63 = .ok (.aload_n 0, 1) := by decide +kernel
theorem dX3_init_64 : decode cX3_init 64 = .ok (.bipush 63, 2) := by decide +kernel
theorem dX3_init_66 : decode cX3_init 66 = .ok (.newarray .int, 2) := by decide +kernel
theorem dX3_init_68 : decode cX3_init 68 = .ok (.putfield 44, 3) := by decide +kernel
theorem dX3_init_71 : decode cX3_init 71 = .ok (.aload_n 0, 1) := by decide +kernel
theorem dX3_init_72 : decode cX3_init 72 = .ok (.aload_n 1, 1) := by decide +kernel
theorem dX3_init_73 : decode cX3_init 73 = .ok (.putfield 47, 3) := by decide +kernel
theorem dX3_init_76 : decode cX3_init 76 = .ok (.aload_n 0, 1) := by decide +kernel
theorem dX3_init_77 : decode cX3_init 77 = .ok (.new 51, 3) := by decide +kernel
theorem dX3_init_80 : decode cX3_init 80 = .ok (.dup, 1) := by decide +kernel
theorem dX3_init_81 : decode cX3_init 81 = .ok (.aload_n 1, 1) := by decide +kernel
theorem dX3_init_82 : decode cX3_init 82 = .ok (.invokespecial 53, 3) := by decide +kernel
theorem dX3_init_85 : decode cX3_init 85 = .ok (.putfield 56, 3) := by decide +kernel
theorem dX3_init_88 : decode cX3_init 88 = .ok (.return_, 1) := by decide +kernel
theorem dX4_init_0 : decode cX4_init 0 = .ok (.aload_n 0, 1) := by decide +kernel
theorem dX4_init_1 : decode cX4_init 1 = .ok (.invokespecial 3, 3) := by decide +kernel
theorem dX4_init_4 : decode cX4_init 4 = .ok (.aload_n 0, 1) := by decide +kernel
theorem dX4_init_5 : decode cX4_init 5 = .ok (.iconst 1, 1) := by decide +kernel
theorem dX4_init_6 : decode cX4_init 6 = .ok (.putfield 9, 3) := by decide +kernel
theorem dX4_init_9 : decode cX4_init 9 = .ok (.aload_n 0, 1) := by decide +kernel
theorem dX4_init_10 : decode cX4_init 10 = .ok (.iconst 1, 1) := by decide +kernel
theorem dX4_init_11 : decode cX4_init 11 = .ok (.putfield 15, 3) := by decide +kernel
theorem dX4_init_14 : decode cX4_init 14 = .ok (.aload_n 0, 1) := by decide +kernel
theorem dX4_init_15 : decode cX4_init 15 = .ok (.bipush 63, 2) := by decide +kernel
theorem dX4_init_17 : decode cX4_init 17 = .ok (.newarray .int, 2) := by decide +kernel
theorem dX4_init_19 : decode cX4_init 19 = .ok (.putfield 18, 3) := by decide +kernel
theorem dX4_init_22 : decode cX4_init 22 = .ok (.return_, 1) := by decide +kernel
theorem dX4_become_0 : decode cX4_become 0 = .ok (.aload_n 0, 1) := by decide +kernel
theorem dX4_become_1 : decode cX4_become 1 = .ok (.iload_n 1, 1) := by decide +kernel
theorem dX4_become_2 : decode cX4_become 2 = .ok (.putfield 9, 3) := by decide +kernel
theorem dX4_become_5 : decode cX4_become 5 = .ok (.aload_n 0, 1) := by decide +kernel
theorem dX4_become_6 : decode cX4_become 6 = .ok (.iconst 0, 1) := by decide +kernel
theorem dX4_become_7 : decode cX4_become 7 = .ok (.putfield 15, 3) := by decide +kernel
theorem dX4_become_10 : decode cX4_become 10 = .ok (.aload_n 0, 1) := by decide +kernel
theorem dX4_become_11 : decode cX4_become 11 = .ok (.getfield 18, 3) := by decide +kernel
theorem dX4_become_14 : decode cX4_become 14 = .ok (.iconst (-1), 1) := by decide +kernel
theorem dX4_become_15 : decode cX4_become 15 = .ok (.invokestatic 22, 3) := by decide +kernel
theorem dX4_become_18 : decode cX4_become 18 = .ok (.iconst 0, 1) := by decide +kernel
theorem dX4_become_19 : decode cX4_become 19 = .ok (.istore_n 3, 1) := by decide +kernel
theorem dX4_become_20 : decode cX4_become 20 = .ok (.iload_n 3, 1) := by decide +kernel
theorem dX4_become_21 : decode cX4_become 21 = .ok (.aload_n 0, 1) := by decide +kernel
theorem dX4_become_22 : decode cX4_become 22 = .ok (.getfield 9, 3) := by decide +kernel
theorem dX4_become_25 : decode cX4_become 25 = .ok (.if_icmp .ge 34, 3) := by decide +kernel
theorem dX4_become_28 : decode cX4_become 28 = .ok (.aload_n 0, 1) := by decide +kernel
theorem dX4_become_29 : decode cX4_become 29 = .ok (.iload_n 3, 1) := by decide +kernel
theorem dX4_become_30 : decode cX4_become 30 = .ok (.invokevirtual 28, 3) := by decide +kernel
theorem dX4_become_33 : decode cX4_become 33 = .ok (.iconst (-1), 1) := by decide +kernel
theorem dX4_become_34 : decode cX4_become 34 = .ok (.if_icmp .ne 19, 3) := by decide +kernel
theorem dX4_become_37 : decode cX4_become 37 = .ok (.aload_n 0, 1) := by decide +kernel
theorem dX4_become_38 : decode cX4_become 38 = .ok (.iload_n 3, 1) := by decide +kernel
theorem dX4_become_39 : decode cX4_become 39 = .ok (.iload_n 2, 1) := by decide +kernel
theorem dX4_become_40 : decode cX4_become 40 = .ok (.invokevirtual 32, 3) := by decide +kernel
theorem dX4_become_43 : decode cX4_become 43 = .ok (.aload_n 0, 1) := by decide +kernel
theorem dX4_become_44 : decode cX4_become 44 = .ok (.dup, 1) := by decide +kernel
theorem dX4_become_45 : decode cX4_become 45 = .ok (.getfield 15, 3) := by decide +kernel
theorem dX4_become_48 : decode cX4_become 48 = .ok (.iconst 1, 1) := by decide +kernel
theorem dX4_become_49 : decode cX4_become 49 = .ok (.iadd, 1) := by decide +kernel
theorem dX4_become_50 : decode cX4_become 50 = .ok (.putfield 15, 3) := by decide +kernel
theorem dX4_become_53 : decode cX4_become 53 = .ok (.iinc 3 1, 3) := by decide +kernel
theorem dX4_become_56 : decode cX4_become 56 = .ok (.goto (-36), 3) := by decide +kernel
theorem dX4_become_59 : decode cX4_become 59 = .ok (.return_, 1) := by decide +kernel
theorem dX4_join_0 : decode cX4_join 0 = .ok (.iload_n 1, 1) := by decide +kernel
theorem dX4_join_1 : decode cX4_join 1 = .ok (.istore_n 3, 1) := by decide +kernel
theorem dX4_join_2 : decode cX4_join 2 = .ok (.iconst 0, 1) := by decide +kernel
theorem dX4_join_3 : decode cX4_join 3 = .ok (.istore 4, 2) := by decide +kernel
theorem dX4_join_5 : decode cX4_join 5 = .ok (.iload 4, 2) := by decide +kernel
theorem dX4_join_7 : decode cX4_join 7 = .ok (.aload_n 0, 1) := by decide +kernel
theorem dX4_join_8 : decode cX4_join 8 = .ok (.getfield 9, 3) := by decide +kernel
theorem dX4_join_11 : decode cX4_join 11 = .ok (.if_icmp .ge 32, 3) := by decide +kernel
theorem dX4_join_14 : decode cX4_join 14 = .ok (.aload_n 0, 1) := by decide +kernel
theorem dX4_join_15 : decode cX4_join 15 = .ok (.getfield 18, 3) := by decide +kernel
theorem dX4_join_18 : decode cX4_join 18 = .ok (.iload_n 3, 1) := by decide +kernel
theorem dX4_join_19 : decode cX4_join 19 = .ok (.aload_n 0, 1) := by decide +kernel
theorem dX4_join_20 : decode cX4_join 20 = .ok (.getfield 15, 3) := by decide +kernel
theorem dX4_join_23 : decode cX4_join 23 = .ok (.invokestatic 36, 3) := by decide +kernel
theorem dX4_join_26 : decode cX4_join 26 = .ok (.iload_n 3, 1) := by decide +kernel
theorem dX4_join_27 : decode cX4_join 27 = .ok (.iload_n 2, 1) := by decide +kernel
theorem dX4_join_28 : decode cX4_join 28 = .ok (.imul, 1) := by decide +kernel
theorem dX4_join_29 : decode cX4_join 29 = .ok (.aload_n 0, 1) := by decide +kernel
theorem dX4_join_30 : decode cX4_join 30 = .ok (.getfield 9, 3) := by decide +kernel
theorem dX4_join_33 : decode cX4_join 33 = .ok (.invokestatic 42, 3) := by decide +kernel
theorem dX4_join_36 : decode cX4_join 36 = .ok (.istore_n 3, 1) := by decide +kernel
theorem dX4_join_37 : decode cX4_join 37 = .ok (.iinc 4 1, 3) := by decide +kernel
theorem dX4_join_40 : decode cX4_join 40 = .ok (.goto (-35), 3) := by decide +kernel
theorem dX4_join_43 : decode cX4_join 43 = .ok (.return_, 1) := by decide +kernel
theorem dX4_part_0 : decode cX4_part 0 = .ok (.aload_n 0, 1) := by decide +kernel
theorem dX4_part_1 : decode cX4_part 1 = .ok (.getfield 18, 3) := by decide +kernel
theorem dX4_part_4 : decode cX4_part 4 = .ok (.iload_n 1, 1) := by decide +kernel
theorem dX4_part_5 : decode cX4_part 5 = .ok (.invokestatic 46, 3) := by decide +kernel
theorem dX4_part_8 : decode cX4_part 8 = .ok (.ireturn, 1) := by decide +kernel
theorem dX4_sizeOf_0 : decode cX4_sizeOf 0 = .ok (.iconst 0, 1) := by decide +kernel
theorem dX4_sizeOf_1 : decode cX4_sizeOf 1 = .ok (.istore_n 2, 1) := by decide +kernel
theorem dX4_sizeOf_2 : decode cX4_sizeOf 2 = .ok (.iconst 0, 1) := by decide +kernel
theorem dX4_sizeOf_3 : decode cX4_sizeOf 3 = .ok (.istore_n 3, 1) := by decide +kernel
theorem dX4_sizeOf_4 : decode cX4_sizeOf 4 = .ok (.iload_n 3, 1) := by decide +kernel
theorem dX4_sizeOf_5 : decode cX4_sizeOf 5 = .ok (.aload_n 0, 1) := by decide +kernel
theorem dX4_sizeOf_6 : decode cX4_sizeOf 6 = .ok (.getfield 9, 3) := by decide +kernel
theorem dX4_sizeOf_9 : decode cX4_sizeOf 9 = .ok (.if_icmp .ge 26, 3) := by decide +kernel
theorem dX4_sizeOf_12 : decode cX4_sizeOf 12 = .ok (.iload_n 2, 1) := by decide +kernel
theorem dX4_sizeOf_13 : decode cX4_sizeOf 13 = .ok (.aload_n 0, 1) := by decide +kernel
theorem dX4_sizeOf_14 : decode cX4_sizeOf 14 = .ok (.iload_n 3, 1) := by decide +kernel
theorem dX4_sizeOf_15 : decode cX4_sizeOf 15 = .ok (.invokevirtual 28, 3) := by decide +kernel
theorem dX4_sizeOf_18 : decode cX4_sizeOf 18 = .ok (.iload_n 1, 1) := by decide +kernel
theorem dX4_sizeOf_19 : decode cX4_sizeOf 19 = .ok (.if_icmp .ne 7, 3) := by decide +kernel
theorem dX4_sizeOf_22 : decode cX4_sizeOf 22 = .ok (.iconst 1, 1) := by decide +kernel
theorem dX4_sizeOf_23 : decode cX4_sizeOf 23 = .ok (.goto 4, 3) := by decide +kernel
theorem dX4_sizeOf_26 : decode cX4_sizeOf 26 = .ok (.iconst 0, 1) := by decide +kernel
theorem dX4_sizeOf_27 : decode cX4_sizeOf 27 = .ok (.iadd, 1) := by decide +kernel
theorem dX4_sizeOf_28 : decode cX4_sizeOf 28 = .ok (.istore_n 2, 1) := by decide +kernel
theorem dX4_sizeOf_29 : decode cX4_sizeOf 29 = .ok (.iinc 3 1, 3) := by decide +kernel
theorem dX4_sizeOf_32 : decode cX4_sizeOf 32 = .ok (.goto (-28), 3) := by decide +kernel
theorem dX4_sizeOf_35 : decode cX4_sizeOf 35 = .ok (.iload_n 2, 1) := by decide +kernel
theorem dX4_sizeOf_36 : decode cX4_sizeOf 36 = .ok (.ireturn, 1) := by decide +kernel
theorem dX4_member_0 : decode cX4_member 0 = .ok (.iconst 0, 1) := by decide +kernel
theorem dX4_member_1 : decode cX4_member 1 = .ok (.istore_n 3, 1) := by decide +kernel
theorem dX4_member_2 : decode cX4_member 2 = .ok (.iconst 0, 1) := by decide +kernel
theorem dX4_member_3 : decode cX4_member 3 = .ok (.istore 4, 2) := by decide +kernel
theorem dX4_member_5 : decode cX4_member 5 = .ok (.iload 4, 2) := by decide +kernel
theorem dX4_member_7 : decode cX4_member 7 = .ok (.aload_n 0, 1) := by decide +kernel
theorem dX4_member_8 : decode cX4_member 8 = .ok (.getfield 9, 3) := by decide +kernel
theorem dX4_member_11 : decode cX4_member 11 = .ok (.if_icmp .ge 30, 3) := by decide +kernel
theorem dX4_member_14 : decode cX4_member 14 = .ok (.aload_n 0, 1) := by decide +kernel
theorem dX4_member_15 : decode cX4_member 15 = .ok (.iload 4, 2) := by decide +kernel
theorem dX4_member_17 : decode cX4_member 17 = .ok (.invokevirtual 28, 3) := by decide +kernel
theorem dX4_member_20 : decode cX4_member 20 = .ok (.iload_n 1, 1) := by decide +kernel
theorem dX4_member_21 : decode cX4_member 21 = .ok (.if_icmp .ne 14, 3) := by decide +kernel
theorem dX4_member_24 : decode cX4_member 24 = .ok (.iload_n 3, 1) := by decide +kernel
theorem dX4_member_25 : decode cX4_member 25 = .ok (.iload_n 2, 1) := by decide +kernel
theorem dX4_member_26 : decode cX4_member 26 = .ok (.if_icmp .ne 6, 3) := by decide +kernel
theorem dX4_member_29 : decode cX4_member 29 = .ok (.iload 4, 2) := by decide +kernel
theorem dX4_member_31 : decode cX4_member 31 = .ok (.ireturn, 1) := by decide +kernel
theorem dX4_member_32 : decode cX4_member 32 = .ok (.iinc 3 1, 3) := by decide +kernel
theorem dX4_member_35 : decode cX4_member 35 = .ok (.iinc 4 1, 3) := by decide +kernel
theorem dX4_member_38 : decode cX4_member 38 = .ok (.goto (-33), 3) := by decide +kernel
theorem dX4_member_41 : decode cX4_member 41 = .ok (.iconst (-1), 1) := by decide +kernel
theorem dX4_member_42 : decode cX4_member 42 = .ok (.ireturn, 1) := by decide +kernel
theorem dX5_init_0 : decode cX5_init 0 = .ok (.aload_n 0, 1) := by decide +kernel
theorem dX5_init_1 : decode cX5_init 1 = .ok (.invokespecial 3, 3) := by decide +kernel
theorem dX5_init_4 : decode cX5_init 4 = .ok (.aload_n 0, 1) := by decide +kernel
theorem dX5_init_5 : decode cX5_init 5 = .ok (.iconst 0, 1) := by decide +kernel
theorem dX5_init_6 : decode cX5_init 6 = .ok (.putfield 9, 3) := by decide +kernel
theorem dX5_init_9 : decode cX5_init 9 = .ok (.aload_n 0, 1) := by decide +kernel
theorem dX5_init_10 : decode cX5_init 10 = .ok (.iconst (-1), 1) := by decide +kernel
theorem dX5_init_11 : decode cX5_init 11 = .ok (.putfield 15, 3) := by decide +kernel
theorem dX5_init_14 : decode cX5_init 14 = .ok (.aload_n 0, 1) := by decide +kernel
theorem dX5_init_15 : decode cX5_init 15 = .ok (.iconst 0, 1) := by decide +kernel
theorem dX5_init_16 : decode cX5_init 16 = .ok (.putfield 18, 3) := by decide +kernel
theorem dX5_init_19 : decode cX5_init 19 = .ok (.aload_n 0, 1) := by decide +kernel
theorem dX5_init_20 : decode cX5_init 20 = .ok (.iconst 0, 1) := by decide +kernel
theorem dX5_init_21 : decode cX5_init 21 = .ok (.putfield 22, 3) := by decide +kernel
theorem dX5_init_24 : decode cX5_init 24 = .ok (.aload_n 0, 1) := by decide +kernel
theorem dX5_init_25 : decode cX5_init 25 = .ok (.sipush 257, 3) := by decide +kernel
theorem dX5_init_28 : decode cX5_init 28 = .ok (.putfield 25, 3) := by decide +kernel
theorem dX5_init_31 : decode cX5_init 31 = .ok (.aload_n 0, 1) := by decide +kernel
theorem dX5_init_32 : decode cX5_init 32 = .ok (.iconst 0, 1) := by decide +kernel
theorem dX5_init_33 : decode cX5_init 33 = .ok (.putfield 28, 3) := by decide +kernel
theorem dX5_init_36 : decode cX5_init 36 = .ok (.aload_n 0, 1) := by decide +kernel
theorem dX5_init_37 : decode cX5_init 37 = .ok (.iconst 0, 1) := by decide +kernel
theorem dX5_init_38 : decode cX5_init 38 = .ok (.putfield 31, 3) := by decide +kernel
theorem dX5_init_41 : decode cX5_init 41 = .ok (.aload_n 0, 1) := by decide +kernel
theorem dX5_init_42 : decode cX5_init 42 = .ok (.iconst 0, 1) := by decide +kernel
theorem dX5_init_43 : decode cX5_init 43 = .ok (.putfield 34, 3) := by decide +kernel
theorem dX5_init_46 : decode cX5_init 46 = .ok (.aload_n 0, 1) := by decide +kernel
theorem dX5_init_47 : decode cX5_init 47 = .ok (.aload_n 1, 1) := by decide +kernel
theorem dX5_init_48 : decode cX5_init 48 = .ok (.putfield 37, 3) := by decide +kernel
theorem dX5_init_51 : decode cX5_init 51 = .ok (.aload_n 0, 1) := by decide +kernel
theorem dX5_init_52 : decode cX5_init 52 = .ok (.aload_n 2, 1) := by decide +kernel
theorem dX5_init_53 : decode cX5_init 53 = .ok (.putfield 41, 3) := by decide +kernel
theorem dX5_init_56 : decode cX5_init 56 = .ok (.aload_n 0, 1) := by decide +kernel
theorem dX5_init_57 : decode cX5_init 57 = .ok (.aload_n 3, 1) := by decide +kernel
theorem dX5_init_58 : decode cX5_init 58 = .ok (.putfield 45, 3) := by decide +kernel
theorem dX5_init_61 : decode cX5_init 61 = .ok (.return_, 1) := by decide +kernel
theorem dX6_init_0 : decode cX6_init 0 = .ok (.aload_n 0, 1) := by decide +kernel
theorem dX6_init_1 : decode cX6_init 1 = .ok (.invokespecial 3, 3) := by decide +kernel
theorem dX6_init_4 : decode cX6_init 4 = .ok (.aload_n 0, 1) := by decide +kernel
theorem dX6_init_5 : decode cX6_init 5 = .ok (.iconst 0, 1) := by decide +kernel
theorem dX6_init_6 : decode cX6_init 6 = .ok (.putfield 9, 3) := by decide +kernel
theorem dX6_init_9 : decode cX6_init 9 = .ok (.aload_n 0, 1) := by decide +kernel
theorem dX6_init_10 : decode cX6_init 10 = .ok (.sipush 200, 3) := by decide +kernel
theorem dX6_init_13 : decode cX6_init 13 = .ok (.newarray .int, 2) := by decide +kernel
theorem dX6_init_15 : decode cX6_init 15 = .ok (.putfield 15, 3) := by decide +kernel
theorem dX6_init_18 : decode cX6_init 18 = .ok (.aload_n 0, 1) := by decide +kernel
theorem dX6_init_19 : decode cX6_init 19 = .ok (.bipush 6, 2) := by decide +kernel
theorem dX6_init_21 : decode cX6_init 21 = .ok (.newarray .int, 2) := by decide +kernel
theorem dX6_init_23 : decode cX6_init 23 = .ok (.putfield 19, 3) := by decide +kernel
theorem dX6_init_26 : decode cX6_init 26 = .ok (.return_, 1) := by decide +kernel
theorem dX7_at_0 : decode cX7_at 0 = .ok (.iload_n 1, 1) := by decide +kernel
theorem dX7_at_1 : decode cX7_at 1 = .ok (.ifCond .lt 15, 3) := by decide +kernel
theorem dX7_at_4 : decode cX7_at 4 = .ok (.iload_n 1, 1) := by decide +kernel
theorem dX7_at_5 : decode cX7_at 5 = .ok (.aload_n 0, 1) := by decide +kernel
theorem dX7_at_6 : decode cX7_at 6 = .ok (.arraylength, 1) := by decide +kernel
theorem dX7_at_7 : decode cX7_at 7 = .ok (.if_icmp .ge 9, 3) := by decide +kernel
theorem dX7_at_10 : decode cX7_at 10 = .ok (.aload_n 0, 1) := by decide +kernel
theorem dX7_at_11 : decode cX7_at 11 = .ok (.iload_n 1, 1) := by decide +kernel
theorem dX7_at_12 : decode cX7_at 12 = .ok (.iaload, 1) := by decide +kernel
theorem dX7_at_13 : decode cX7_at 13 = .ok (.goto 4, 3) := by decide +kernel
theorem dX7_at_16 : decode cX7_at 16 = .ok (.iconst 0, 1) := by decide +kernel
theorem dX7_at_17 : decode cX7_at 17 = .ok (.ireturn, 1) := by decide +kernel
theorem dX7_set_0 : decode cX7_set 0 = .ok (.iload_n 1, 1) := by decide +kernel
theorem dX7_set_1 : decode cX7_set 1 = .ok (.ifCond .lt 13, 3) := by decide +kernel
theorem dX7_set_4 : decode cX7_set 4 = .ok (.iload_n 1, 1) := by decide +kernel
theorem dX7_set_5 : decode cX7_set 5 = .ok (.aload_n 0, 1) := by decide +kernel
theorem dX7_set_6 : decode cX7_set 6 = .ok (.arraylength, 1) := by decide +kernel
theorem dX7_set_7 : decode cX7_set 7 = .ok (.if_icmp .ge 7, 3) := by decide +kernel
theorem dX7_set_10 : decode cX7_set 10 = .ok (.aload_n 0, 1) := by decide +kernel
theorem dX7_set_11 : decode cX7_set 11 = .ok (.iload_n 1, 1) := by decide +kernel
theorem dX7_set_12 : decode cX7_set 12 = .ok (.iload_n 2, 1) := by decide +kernel
theorem dX7_set_13 : decode cX7_set 13 = .ok (.iastore, 1) := by decide +kernel
theorem dX7_set_14 : decode cX7_set 14 = .ok (.return_, 1) := by decide +kernel
theorem dX7_add_0 : decode cX7_add 0 = .ok (.iload_n 1, 1) := by decide +kernel
theorem dX7_add_1 : decode cX7_add 1 = .ok (.ifCond .lt 16, 3) := by decide +kernel
theorem dX7_add_4 : decode cX7_add 4 = .ok (.iload_n 1, 1) := by decide +kernel
theorem dX7_add_5 : decode cX7_add 5 = .ok (.aload_n 0, 1) := by decide +kernel
theorem dX7_add_6 : decode cX7_add 6 = .ok (.arraylength, 1) := by decide +kernel
theorem dX7_add_7 : decode cX7_add 7 = .ok (.if_icmp .ge 10, 3) := by decide +kernel
theorem dX7_add_10 : decode cX7_add 10 = .ok (.aload_n 0, 1) := by decide +kernel
theorem dX7_add_11 : decode cX7_add 11 = .ok (.iload_n 1, 1) := by decide +kernel
theorem dX7_add_12 : decode cX7_add 12 = .ok (.dup2, 1) := by decide +kernel
theorem dX7_add_13 : decode cX7_add 13 = .ok (.iaload, 1) := by decide +kernel
theorem dX7_add_14 : decode cX7_add 14 = .ok (.iload_n 2, 1) := by decide +kernel
theorem dX7_add_15 : decode cX7_add 15 = .ok (.iadd, 1) := by decide +kernel
theorem dX7_add_16 : decode cX7_add 16 = .ok (.iastore, 1) := by decide +kernel
theorem dX7_add_17 : decode cX7_add 17 = .ok (.return_, 1) := by decide +kernel
theorem dX7_quotient_0 : decode cX7_quotient 0 = .ok (.iload_n 1, 1) := by decide +kernel
theorem dX7_quotient_1 : decode cX7_quotient 1 = .ok (.ifCond .le 9, 3) := by decide +kernel
theorem dX7_quotient_4 : decode cX7_quotient 4 = .ok (.iload_n 0, 1) := by decide +kernel
theorem dX7_quotient_5 : decode cX7_quotient 5 = .ok (.iload_n 1, 1) := by decide +kernel
theorem dX7_quotient_6 : decode cX7_quotient 6 = .ok (.idiv, 1) := by decide +kernel
theorem dX7_quotient_7 : decode cX7_quotient 7 = .ok (.goto 4, 3) := by decide +kernel
theorem dX7_quotient_10 : decode cX7_quotient 10 = .ok (.iconst 0, 1) := by decide +kernel
theorem dX7_quotient_11 : decode cX7_quotient 11 = .ok (.ireturn, 1) := by decide +kernel
theorem dX7_remainder_0 : decode cX7_remainder 0 = .ok (.iload_n 1, 1) := by decide +kernel
theorem dX7_remainder_1 : decode cX7_remainder 1 = .ok (.ifCond .le 9, 3) := by decide +kernel
theorem dX7_remainder_4 : decode cX7_remainder 4 = .ok (.iload_n 0, 1) := by decide +kernel
theorem dX7_remainder_5 : decode cX7_remainder 5 = .ok (.iload_n 1, 1) := by decide +kernel
theorem dX7_remainder_6 : decode cX7_remainder 6 = .ok (.irem, 1) := by decide +kernel
theorem dX7_remainder_7 : decode cX7_remainder 7 = .ok (.goto 4, 3) := by decide +kernel
theorem dX7_remainder_10 : decode cX7_remainder 10 = .ok (.iconst 0, 1) := by decide +kernel
theorem dX7_remainder_11 : decode cX7_remainder 11 = .ok (.ireturn, 1) := by decide +kernel
theorem dX7_raise_0 : decode cX7_raise 0 = .ok (.iconst 1, 1) := by decide +kernel
theorem dX7_raise_1 : decode cX7_raise 1 = .ok (.istore_n 2, 1) := by decide +kernel
theorem dX7_raise_2 : decode cX7_raise 2 = .ok (.iconst 0, 1) := by decide +kernel
theorem dX7_raise_3 : decode cX7_raise 3 = .ok (.istore_n 3, 1) := by decide +kernel
theorem dX7_raise_4 : decode cX7_raise 4 = .ok (.iload_n 3, 1) := by decide +kernel
theorem dX7_raise_5 : decode cX7_raise 5 = .ok (.iload_n 1, 1) := by decide +kernel
theorem dX7_raise_6 : decode cX7_raise 6 = .ok (.if_icmp .ge 13, 3) := by decide +kernel
theorem dX7_raise_9 : decode cX7_raise 9 = .ok (.iload_n 2, 1) := by decide +kernel
theorem dX7_raise_10 : decode cX7_raise 10 = .ok (.iload_n 0, 1) := by decide +kernel
theorem dX7_raise_11 : decode cX7_raise 11 = .ok (.imul, 1) := by decide +kernel
theorem dX7_raise_12 : decode cX7_raise 12 = .ok (.istore_n 2, 1) := by decide +kernel
theorem dX7_raise_13 : decode cX7_raise 13 = .ok (.iinc 3 1, 3) := by decide +kernel
theorem dX7_raise_16 : decode cX7_raise 16 = .ok (.goto (-12), 3) := by decide +kernel
theorem dX7_raise_19 : decode cX7_raise 19 = .ok (.iload_n 2, 1) := by decide +kernel
theorem dX7_raise_20 : decode cX7_raise 20 = .ok (.ireturn, 1) := by decide +kernel
theorem dX7_common_0 : decode cX7_common 0 = .ok (.iload_n 1, 1) := by decide +kernel
theorem dX7_common_1 : decode cX7_common 1 = .ok (.istore_n 2, 1) := by decide +kernel
theorem dX7_common_2 : decode cX7_common 2 = .ok (.iload_n 2, 1) := by decide +kernel
theorem dX7_common_3 : decode cX7_common 3 = .ok (.iconst 1, 1) := by decide +kernel
theorem dX7_common_4 : decode cX7_common 4 = .ok (.if_icmp .le 23, 3) := by decide +kernel
theorem dX7_common_7 : decode cX7_common 7 = .ok (.iload_n 0, 1) := by decide +kernel
theorem dX7_common_8 : decode cX7_common 8 = .ok (.iload_n 2, 1) := by decide +kernel
theorem dX7_common_9 : decode cX7_common 9 = .ok (.irem, 1) := by decide +kernel
theorem dX7_common_10 : decode cX7_common 10 = .ok (.ifCond .ne 11, 3) := by decide +kernel
theorem dX7_common_13 : decode cX7_common 13 = .ok (.iload_n 1, 1) := by decide +kernel
theorem dX7_common_14 : decode cX7_common 14 = .ok (.iload_n 2, 1) := by decide +kernel
theorem dX7_common_15 : decode cX7_common 15 = .ok (.irem, 1) := by decide +kernel
theorem dX7_common_16 : decode cX7_common 16 = .ok (.ifCond .ne 5, 3) := by decide +kernel
theorem dX7_common_19 : decode cX7_common 19 = .ok (.iload_n 2, 1) := by decide +kernel
theorem dX7_common_20 : decode cX7_common 20 = .ok (.ireturn, 1) := by decide +kernel
theorem dX7_common_21 : decode cX7_common 21 = .ok (.iinc 2 (-1), 3) := by decide +kernel
theorem dX7_common_24 : decode cX7_common 24 = .ok (.goto (-22), 3) := by decide +kernel
theorem dX7_common_27 : decode cX7_common 27 = .ok (.iconst 1, 1) := by decide +kernel
theorem dX7_common_28 : decode cX7_common 28 = .ok (.ireturn, 1) := by decide +kernel
theorem dX7_mix_0 : decode cX7_mix 0 = .ok (.iload_n 3, 1) := by decide +kernel
theorem dX7_mix_1 : decode cX7_mix 1 = .ok (.iconst 2, 1) := by decide +kernel
theorem dX7_mix_2 : decode cX7_mix 2 = .ok (.if_icmp .ge 5, 3) := by decide +kernel
theorem dX7_mix_5 : decode cX7_mix 5 = .ok (.iconst 0, 1) := by decide +kernel
theorem dX7_mix_6 : decode cX7_mix 6 = .ok (.ireturn, 1) := by decide +kernel
theorem dX7_mix_7 : decode cX7_mix 7 = .ok (.iconst 0, 1) := by decide +kernel
theorem dX7_mix_8 : decode cX7_mix 8 = .ok (.istore 4, 2) := by decide +kernel
theorem dX7_mix_10 : decode cX7_mix 10 = .ok (.iconst 1, 1) := by decide +kernel
theorem dX7_mix_11 : decode cX7_mix 11 = .ok (.istore 5, 2) := by decide +kernel
theorem dX7_mix_13 : decode cX7_mix 13 = .ok (.iload_n 0, 1) := by decide +kernel
theorem dX7_mix_14 : decode cX7_mix 14 = .ok (.istore 6, 2) := by decide +kernel
theorem dX7_mix_16 : decode cX7_mix 16 = .ok (.iload_n 1, 1) := by decide +kernel
theorem dX7_mix_17 : decode cX7_mix 17 = .ok (.istore 7, 2) := by decide +kernel
theorem dX7_mix_19 : decode cX7_mix 19 = .ok (.iload 6, 2) := by decide +kernel
theorem dX7_mix_21 : decode cX7_mix 21 = .ok (.ifCond .gt 8, 3) := by decide +kernel
theorem dX7_mix_24 : decode cX7_mix 24 = .ok (.iload 7, 2) := by decide +kernel
theorem dX7_mix_26 : decode cX7_mix 26 = .ok (.ifCond .le 45, 3) := by decide +kernel
theorem dX7_mix_29 : decode cX7_mix 29 = .ok (.iload 4, 2) := by decide +kernel
theorem dX7_mix_31 : decode cX7_mix 31 = .ok (.iload 5, 2) := by decide +kernel
theorem dX7_mix_33 : decode cX7_mix 33 = .ok (.iload 6, 2) := by decide +kernel
theorem dX7_mix_35 : decode cX7_mix 35 = .ok (.iload_n 3, 1) := by decide +kernel
theorem dX7_mix_36 : decode cX7_mix 36 = .ok (.irem, 1) := by decide +kernel
theorem dX7_mix_37 : decode cX7_mix 37 = .ok (.iload_n 2, 1) := by decide +kernel
theorem dX7_mix_38 : decode cX7_mix 38 = .ok (.iload 7, 2) := by decide +kernel
theorem dX7_mix_40 : decode cX7_mix 40 = .ok (.iload_n 3, 1) := by decide +kernel
theorem dX7_mix_41 : decode cX7_mix 41 = .ok (.irem, 1) := by decide +kernel
theorem dX7_mix_42 : decode cX7_mix 42 = .ok (.imul, 1) := by decide +kernel
theorem dX7_mix_43 : decode cX7_mix 43 = .ok (.iadd, 1) := by decide +kernel
theorem dX7_mix_44 : decode cX7_mix 44 = .ok (.iload_n 3, 1) := by decide +kernel
theorem dX7_mix_45 : decode cX7_mix 45 = .ok (.irem, 1) := by decide +kernel
theorem dX7_mix_46 : decode cX7_mix 46 = .ok (.imul, 1) := by decide +kernel
theorem dX7_mix_47 : decode cX7_mix 47 = .ok (.iadd, 1) := by decide +kernel
theorem dX7_mix_48 : decode cX7_mix 48 = .ok (.istore 4, 2) := by decide +kernel
theorem dX7_mix_50 : decode cX7_mix 50 = .ok (.iload 5, 2) := by decide +kernel
theorem dX7_mix_52 : decode cX7_mix 52 = .ok (.iload_n 3, 1) := by decide +kernel
theorem dX7_mix_53 : decode cX7_mix 53 = .ok (.imul, 1) := by decide +kernel
theorem dX7_mix_54 : decode cX7_mix 54 = .ok (.istore 5, 2) := by decide +kernel
theorem dX7_mix_56 : decode cX7_mix 56 = .ok (.iload 6, 2) := by decide +kernel
theorem dX7_mix_58 : decode cX7_mix 58 = .ok (.iload_n 3, 1) := by decide +kernel
theorem dX7_mix_59 : decode cX7_mix 59 = .ok (.idiv, 1) := by decide +kernel
theorem dX7_mix_60 : decode cX7_mix 60 = .ok (.istore 6, 2) := by decide +kernel
theorem dX7_mix_62 : decode cX7_mix 62 = .ok (.iload 7, 2) := by decide +kernel
theorem dX7_mix_64 : decode cX7_mix 64 = .ok (.iload_n 3, 1) := by decide +kernel
theorem dX7_mix_65 : decode cX7_mix 65 = .ok (.idiv, 1) := by decide +kernel
theorem dX7_mix_66 : decode cX7_mix 66 = .ok (.istore 7, 2) := by decide +kernel
theorem dX7_mix_68 : decode cX7_mix 68 = .ok (.goto (-49), 3) := by decide +kernel
theorem dX7_mix_71 : decode cX7_mix 71 = .ok (.iload 4, 2) := by decide +kernel
theorem dX7_mix_73 : decode cX7_mix 73 = .ok (.ireturn, 1) := by decide +kernel
theorem dX8_init_0 : decode cX8_init 0 = .ok (.aload_n 0, 1) := by decide +kernel
theorem dX8_init_1 : decode cX8_init 1 = .ok (.invokespecial 3, 3) := by decide +kernel
theorem dX8_init_4 : decode cX8_init 4 = .ok (.aload_n 0, 1) := by decide +kernel
theorem dX8_init_5 : decode cX8_init 5 = .ok (.iconst 0, 1) := by decide +kernel
theorem dX8_init_6 : decode cX8_init 6 = .ok (.putfield 9, 3) := by decide +kernel
theorem dX8_init_9 : decode cX8_init 9 = .ok (.aload_n 0, 1) := by decide +kernel
theorem dX8_init_10 : decode cX8_init 10 = .ok (.sipush 200, 3) := by decide +kernel
theorem dX8_init_13 : decode cX8_init 13 = .ok (.newarray .int, 2) := by decide +kernel
theorem dX8_init_15 : decode cX8_init 15 = .ok (.putfield 15, 3) := by decide +kernel
theorem dX8_init_18 : decode cX8_init 18 = .ok (.return_, 1) := by decide +kernel
theorem dX9_init_0 : decode cX9_init 0 = .ok (.aload_n 0, 1) := by decide +kernel
theorem dX9_init_1 : decode cX9_init 1 = .ok (.invokespecial 3, 3) := by decide +kernel
theorem dX9_init_4 : decode cX9_init 4 = .ok (.aload_n 0, 1) := by decide +kernel
theorem dX9_init_5 : decode cX9_init 5 = .ok (.bipush 63, 2) := by decide +kernel
theorem dX9_init_7 : decode cX9_init 7 = .ok (.newarray .int, 2) := by decide +kernel
theorem dX9_init_9 : decode cX9_init 9 = .ok (.putfield 9, 3) := by decide +kernel
theorem dX9_init_12 : decode cX9_init 12 = .ok (.aload_n 0, 1) := by decide +kernel
theorem dX9_init_13 : decode cX9_init 13 = .ok (.bipush 63, 2) := by decide +kernel
theorem dX9_init_15 : decode cX9_init 15 = .ok (.newarray .int, 2) := by decide +kernel
theorem dX9_init_17 : decode cX9_init 17 = .ok (.putfield 15, 3) := by decide +kernel
theorem dX9_init_20 : decode cX9_init 20 = .ok (.aload_n 0, 1) := by decide +kernel
theorem dX9_init_21 : decode cX9_init 21 = .ok (.aload_n 1, 1) := by decide +kernel
theorem dX9_init_22 : decode cX9_init 22 = .ok (.putfield 18, 3) := by decide +kernel
theorem dX9_init_25 : decode cX9_init 25 = .ok (.return_, 1) := by decide +kernel
theorem dX10_init_0 : decode cX10_init 0 = .ok (.aload_n 0, 1) := by decide +kernel
theorem dX10_init_1 : decode cX10_init 1 = .ok (.invokespecial 3, 3) := by decide +kernel
theorem dX10_init_4 : decode cX10_init 4 = .ok (.aload_n 0, 1) := by decide +kernel
theorem dX10_init_5 : decode cX10_init 5 = .ok (.iconst 0, 1) := by decide +kernel
theorem dX10_init_6 : decode cX10_init 6 = .ok (.putfield 9, 3) := by decide +kernel
theorem dX10_init_9 : decode cX10_init 9 = .ok (.aload_n 0, 1) := by decide +kernel
theorem dX10_init_10 : decode cX10_init 10 = .ok (.bipush 64, 2) := by decide +kernel
theorem dX10_init_12 : decode cX10_init 12 = .ok (.newarray .int, 2) := by decide +kernel
theorem dX10_init_14 : decode cX10_init 14 = .ok (.putfield 15, 3) := by decide +kernel
theorem dX10_init_17 : decode cX10_init 17 = .ok (.aload_n 0, 1) := by decide +kernel
theorem dX10_init_18 : decode cX10_init 18 = .ok (.sipush 7201, 3) := by decide +kernel
theorem dX10_init_21 : decode cX10_init 21 = .ok (.newarray .int, 2) := by decide +kernel
theorem dX10_init_23 : decode cX10_init 23 = .ok (.putfield 19, 3) := by decide +kernel
theorem dX10_init_26 : decode cX10_init 26 = .ok (.aload_n 0, 1) := by decide +kernel
theorem dX10_init_27 : decode cX10_init 27 = .ok (.aload_n 1, 1) := by decide +kernel
theorem dX10_init_28 : decode cX10_init 28 = .ok (.putfield 22, 3) := by decide +kernel
theorem dX10_init_31 : decode cX10_init 31 = .ok (.aload_n 0, 1) := by decide +kernel
theorem dX10_init_32 : decode cX10_init 32 = .ok (.new 26, 3) := by decide +kernel
theorem dX10_init_35 : decode cX10_init 35 = .ok (.dup, 1) := by decide +kernel
theorem dX10_init_36 : decode cX10_init 36 = .ok (.aload_n 1, 1) := by decide +kernel
theorem dX10_init_37 : decode cX10_init 37 = .ok (.invokespecial 28, 3) := by decide +kernel
theorem dX10_init_40 : decode cX10_init 40 = .ok (.putfield 31, 3) := by decide +kernel
theorem dX10_init_43 : decode cX10_init 43 = .ok (.return_, 1) := by decide +kernel
theorem dX11_init_0 : decode cX11_init 0 = .ok (.aload_n 0, 1) := by decide +kernel
theorem dX11_init_1 : decode cX11_init 1 = .ok (.invokespecial 1, 3) := by decide +kernel
theorem dX11_init_4 : decode cX11_init 4 = .ok (.aload_n 0, 1) := by decide +kernel
theorem dX11_init_5 : decode cX11_init 5 = .ok (.new 7, 3) := by decide +kernel
theorem dX11_init_8 : decode cX11_init 8 = .ok (.dup, 1) := by decide +kernel
theorem dX11_init_9 : decode cX11_init 9 = .ok (.invokespecial 9, 3) := by decide +kernel
theorem dX11_init_12 : decode cX11_init 12 = .ok (.putfield 10, 3) := by decide +kernel
theorem dX11_init_15 : decode cX11_init 15 = .ok (.aload_n 0, 1) := by decide +kernel
theorem dX11_init_16 : decode cX11_init 16 = .ok (.bipush 8, 2) := by decide +kernel
theorem dX11_init_18 : decode cX11_init 18 = .ok (.newarray .int, 2) := by decide +kernel
theorem dX11_init_20 : decode cX11_init 20 = .ok (.putfield 16, 3) := by decide +kernel
theorem dX11_init_23 : decode cX11_init 23 = .ok (.aload_n 0, 1) := by decide +kernel
theorem dX11_init_24 : decode cX11_init 24 = .ok (.sipush 4096, 3) := by decide +kernel
theorem dX11_init_27 : decode cX11_init 27 = .ok (.newarray .int, 2) := by decide +kernel
theorem dX11_init_29 : decode cX11_init 29 = .ok (.putfield 20, 3) := by decide +kernel
theorem dX11_init_32 : decode cX11_init 32 = .ok (.aload_n 0, 1) := by decide +kernel
theorem dX11_init_33 : decode cX11_init 33 = .ok (.new 23, 3) := by decide +kernel
theorem dX11_init_36 : decode cX11_init 36 = .ok (.dup, 1) := by decide +kernel
theorem dX11_init_37 : decode cX11_init 37 = .ok (.invokespecial 25, 3) := by decide +kernel
theorem dX11_init_40 : decode cX11_init 40 = .ok (.putfield 26, 3) := by decide +kernel
theorem dX11_init_43 : decode cX11_init 43 = .ok (.aload_n 0, 1) := by decide +kernel
theorem dX11_init_44 : decode cX11_init 44 = .ok (.new 30, 3) := by decide +kernel
theorem dX11_init_47 : decode cX11_init 47 = .ok (.dup, 1) := by decide +kernel
theorem dX11_init_48 : decode cX11_init 48 = .ok (.invokespecial 32, 3) := by decide +kernel
theorem dX11_init_51 : decode cX11_init 51 = .ok (.putfield 33, 3) := by decide +kernel
theorem dX11_init_54 : decode cX11_init 54 = .ok (.aload_n 0, 1) := by decide +kernel
theorem dX11_init_55 : decode cX11_init 55 = .ok (.new 37, 3) := by decide +kernel
theorem dX11_init_58 : decode cX11_init 58 = .ok (.dup, 1) := by decide +kernel
theorem dX11_init_59 : decode cX11_init 59 = .ok (.invokespecial 39, 3) := by decide +kernel
theorem dX11_init_62 : decode cX11_init 62 = .ok (.putfield 40, 3) := by decide +kernel
theorem dX11_init_65 : decode cX11_init 65 = .ok (.aload_n 0, 1) := by decide +kernel
theorem dX11_init_66 : decode cX11_init 66 = .ok (.new 44, 3) := by decide +kernel
theorem dX11_init_69 : decode cX11_init 69 = .ok (.dup, 1) := by decide +kernel
theorem dX11_init_70 : decode cX11_init 70 = .ok (.aload_n 0, 1) := by decide +kernel
theorem dX11_init_71 : decode cX11_init 71 = .ok (.getfield 10, 3) := by decide +kernel
theorem dX11_init_74 : decode cX11_init 74 = .ok (.aload_n 0, 1) := by decide +kernel
theorem dX11_init_75 : decode cX11_init 75 = .ok (.getfield 16, 3) := by decide +kernel
theorem dX11_init_78 : decode cX11_init 78 = .ok (.aload_n 0, 1) := by decide +kernel
theorem dX11_init_79 : decode cX11_init 79 = .ok (.getfield 26, 3) := by decide +kernel
theorem dX11_init_82 : decode cX11_init 82 = .ok (.invokespecial 46, 3) := by decide +kernel
theorem dX11_init_85 : decode cX11_init 85 = .ok (.putfield 49, 3) := by decide +kernel
theorem dX11_init_88 : decode cX11_init 88 = .ok (.aload_n 0, 1) := by decide +kernel
theorem dX11_init_89 : decode cX11_init 89 = .ok (.new 53, 3) := by decide +kernel
theorem dX11_init_92 : decode cX11_init 92 = .ok (.dup, 1) := by decide +kernel
theorem dX11_init_93 : decode cX11_init 93 = .ok (.aload_n 0, 1) := by decide +kernel
theorem dX11_init_94 : decode cX11_init 94 = .ok (.getfield 10, 3) := by decide +kernel
theorem dX11_init_97 : decode cX11_init 97 = .ok (.invokespecial 55, 3) := by decide +kernel
theorem dX11_init_100 : decode cX11_init 100 = .ok (.putfield 58, 3) := by decide +kernel
theorem dX11_init_103 : decode cX11_init 103 = .ok (.aload_n 0, 1) := by decide +kernel
theorem dX11_init_104 : decode cX11_init 104 = .ok (.new 62, 3) := by decide +kernel
theorem dX11_init_107 : decode cX11_init 107 = .ok (.dup, 1) := by decide +kernel
theorem dX11_init_108 : decode cX11_init 108 = .ok (.aload_n 0, 1) := by decide +kernel
theorem dX11_init_109 : decode cX11_init 109 = .ok (.getfield 58, 3) := by decide +kernel
theorem dX11_init_112 : decode cX11_init 112 = .ok (.invokespecial 64, 3) := by decide +kernel
theorem dX11_init_115 : decode cX11_init 115 = .ok (.putfield 67, 3) := by decide +kernel
theorem dX11_init_118 : decode cX11_init 118 = .ok (.aload_n 0, 1) := by decide +kernel
theorem dX11_init_119 : decode cX11_init 119 = .ok (.new 71, 3) := by decide +kernel
theorem dX11_init_122 : decode cX11_init 122 = .ok (.dup, 1) := by decide +kernel
theorem dX11_init_123 : decode cX11_init 123 = .ok (.aload_n 0, 1) := by decide +kernel
theorem dX11_init_124 : decode cX11_init 124 = .ok (.getfield 58, 3) := by decide +kernel
theorem dX11_init_127 : decode cX11_init 127 = .ok (.invokespecial 73, 3) := by decide +kernel
theorem dX11_init_130 : decode cX11_init 130 = .ok (.putfield 74, 3) := by decide +kernel
theorem dX11_init_133 : decode cX11_init 133 = .ok (.aload_n 0, 1) := by decide +kernel
theorem dX11_init_134 : decode cX11_init 134 = .ok (.getfield 10, 3) := by decide +kernel
theorem dX11_init_137 : decode cX11_init 137 = .ok (.iconst 2, 1) := by decide +kernel
theorem dX11_init_138 : decode cX11_init 138 = .ok (.iconst 1, 1) := by decide +kernel
theorem dX11_init_139 : decode cX11_init 139 = .ok (.iconst 1, 1) := by decide +kernel
theorem dX11_init_140 : decode cX11_init 140 = .ok (.invokevirtual 78, 3) := by decide +kernel
theorem dX11_init_143 : decode cX11_init 143 = .ok (.pop, 1) := by decide +kernel
theorem dX11_init_144 : decode cX11_init 144 = .ok (.aload_n 0, 1) := by decide +kernel
theorem dX11_init_145 : decode cX11_init 145 = .ok (.invokevirtual 82, 3) := by decide +kernel
theorem dX11_init_148 : decode cX11_init 148 = .ok (.return_, 1) := by decide +kernel
theorem dX11_ring_0 : decode cX11_ring 0 = .ok (.aload_n 0, 1) := by decide +kernel
theorem dX11_ring_1 : decode cX11_ring 1 = .ok (.getfield 10, 3) := by decide +kernel
theorem dX11_ring_4 : decode cX11_ring 4 = .ok (.iload_n 1, 1) := by decide +kernel
theorem dX11_ring_5 : decode cX11_ring 5 = .ok (.iload_n 2, 1) := by decide +kernel
theorem dX11_ring_6 : decode cX11_ring 6 = .ok (.iload_n 3, 1) := by decide +kernel
theorem dX11_ring_7 : decode cX11_ring 7 = .ok (.invokevirtual 78, 3) := by decide +kernel
theorem dX11_ring_10 : decode cX11_ring 10 = .ok (.ifCond .ne 5, 3) := by decide +kernel
theorem dX11_ring_13 : decode cX11_ring 13 = .ok (.iconst (-1), 1) := by decide +kernel
theorem dX11_ring_14 : decode cX11_ring 14 = .ok (.ireturn, 1) := by decide +kernel
theorem dX11_ring_15 : decode cX11_ring 15 = .ok (.aload_n 0, 1) := by decide +kernel
theorem dX11_ring_16 : decode cX11_ring 16 = .ok (.invokevirtual 82, 3) := by decide +kernel
theorem dX11_ring_19 : decode cX11_ring 19 = .ok (.aload_n 0, 1) := by decide +kernel
theorem dX11_ring_20 : decode cX11_ring 20 = .ok (.getfield 10, 3) := by decide +kernel
theorem dX11_ring_23 : decode cX11_ring 23 = .ok (.getfield 85, 3) := by decide +kernel
theorem dX11_ring_26 : decode cX11_ring 26 = .ok (.ireturn, 1) := by decide +kernel
theorem dX11_count_0 : decode cX11_count 0 = .ok (.iload_n 1, 1) := by decide +kernel
theorem dX11_count_1 : decode cX11_count 1 = .ok (.tableswitch 192 0 12 #[67, 75, 83, 91, 99, 107, 115, 141, 149, 157, 165, 173, 184], 67) := by decide +kernel
theorem dX11_count_68 : decode cX11_count 68 = .ok (.aload_n 0, 1) := by decide +kernel
theorem dX11_count_69 : decode cX11_count 69 = .ok (.getfield 10, 3) := by decide +kernel
theorem dX11_count_72 : decode cX11_count 72 = .ok (.getfield 131, 3) := by decide +kernel
theorem dX11_count_75 : decode cX11_count 75 = .ok (.ireturn, 1) := by decide +kernel
theorem dX11_count_76 : decode cX11_count 76 = .ok (.aload_n 0, 1) := by decide +kernel
theorem dX11_count_77 : decode cX11_count 77 = .ok (.getfield 10, 3) := by decide +kernel
theorem dX11_count_80 : decode cX11_count 80 = .ok (.getfield 134, 3) := by decide +kernel
theorem dX11_count_83 : decode cX11_count 83 = .ok (.ireturn, 1) := by decide +kernel
theorem dX11_count_84 : decode cX11_count 84 = .ok (.aload_n 0, 1) := by decide +kernel
theorem dX11_count_85 : decode cX11_count 85 = .ok (.getfield 10, 3) := by decide +kernel
theorem dX11_count_88 : decode cX11_count 88 = .ok (.getfield 137, 3) := by decide +kernel
theorem dX11_count_91 : decode cX11_count 91 = .ok (.ireturn, 1) := by decide +kernel
theorem dX11_count_92 : decode cX11_count 92 = .ok (.aload_n 0, 1) := by decide +kernel
theorem dX11_count_93 : decode cX11_count 93 = .ok (.getfield 10, 3) := by decide +kernel
theorem dX11_count_96 : decode cX11_count 96 = .ok (.getfield 140, 3) := by decide +kernel
theorem dX11_count_99 : decode cX11_count 99 = .ok (.ireturn, 1) := by decide +kernel
theorem dX11_count_100 : decode cX11_count 100 = .ok (.aload_n 0, 1) := by decide +kernel
theorem dX11_count_101 : decode cX11_count 101 = .ok (.getfield 10, 3) := by decide +kernel
theorem dX11_count_104 : decode cX11_count 104 = .ok (.getfield 143, 3) := by decide +kernel
theorem dX11_count_107 : decode cX11_count 107 = .ok (.ireturn, 1) := by decide +kernel
theorem dX11_count_108 : decode cX11_count 108 = .ok (.aload_n 0, 1) := by decide +kernel
theorem dX11_count_109 : decode cX11_count 109 = .ok (.getfield 10, 3) := by decide +kernel
theorem dX11_count_112 : decode cX11_count 112 = .ok (.getfield 85, 3) := by decide +kernel
theorem dX11_count_115 : decode cX11_count 115 = .ok (.ireturn, 1) := by decide +kernel
theorem dX11_count_116 : decode cX11_count 116 = .ok (.aload_n 0, 1) := by decide +kernel
theorem dX11_count_117 : decode cX11_count 117 = .ok (.getfield 10, 3) := by decide +kernel
theorem dX11_count_120 : decode cX11_count 120 = .ok (.getfield 85, 3) := by decide +kernel
theorem dX11_count_123 : decode cX11_count 123 = .ok (.aload_n 0, 1) := by decide +kernel
theorem dX11_count_124 : decode cX11_count 124 = .ok (.getfield 10, 3) := by decide +kernel
theorem dX11_count_127 : decode cX11_count 127 = .ok (.getfield 85, 3) := by decide +kernel
theorem dX11_count_130 : decode cX11_count 130 = .ok (.aload_n 0, 1) := by decide +kernel
theorem dX11_count_131 : decode cX11_count 131 = .ok (.getfield 10, 3) := by decide +kernel
theorem dX11_count_134 : decode cX11_count 134 = .ok (.getfield 143, 3) := by decide +kernel
theorem dX11_count_137 : decode cX11_count 137 = .ok (.invokestatic 146, 3) := by decide +kernel
theorem dX11_count_140 : decode cX11_count 140 = .ok (.isub, 1) := by decide +kernel
theorem dX11_count_141 : decode cX11_count 141 = .ok (.ireturn, 1) := by decide +kernel
theorem dX11_count_142 : decode cX11_count 142 = .ok (.aload_n 0, 1) := by decide +kernel
theorem dX11_count_143 : decode cX11_count 143 = .ok (.getfield 10, 3) := by decide +kernel
theorem dX11_count_146 : decode cX11_count 146 = .ok (.getfield 150, 3) := by decide +kernel
theorem dX11_count_149 : decode cX11_count 149 = .ok (.ireturn, 1) := by decide +kernel
theorem dX11_count_150 : decode cX11_count 150 = .ok (.aload_n 0, 1) := by decide +kernel
theorem dX11_count_151 : decode cX11_count 151 = .ok (.getfield 58, 3) := by decide +kernel
theorem dX11_count_154 : decode cX11_count 154 = .ok (.getfield 153, 3) := by decide +kernel
theorem dX11_count_157 : decode cX11_count 157 = .ok (.ireturn, 1) := by decide +kernel
theorem dX11_count_158 : decode cX11_count 158 = .ok (.aload_n 0, 1) := by decide +kernel
theorem dX11_count_159 : decode cX11_count 159 = .ok (.getfield 58, 3) := by decide +kernel
theorem dX11_count_162 : decode cX11_count 162 = .ok (.getfield 156, 3) := by decide +kernel
theorem dX11_count_165 : decode cX11_count 165 = .ok (.ireturn, 1) := by decide +kernel
theorem dX11_count_166 : decode cX11_count 166 = .ok (.aload_n 0, 1) := by decide +kernel
theorem dX11_count_167 : decode cX11_count 167 = .ok (.getfield 26, 3) := by decide +kernel
theorem dX11_count_170 : decode cX11_count 170 = .ok (.getfield 89, 3) := by decide +kernel
theorem dX11_count_173 : decode cX11_count 173 = .ok (.ireturn, 1) := by decide +kernel
theorem dX11_count_174 : decode cX11_count 174 = .ok (.aload_n 0, 1) := by decide +kernel
theorem dX11_count_175 : decode cX11_count 175 = .ok (.getfield 10, 3) := by decide +kernel
theorem dX11_count_178 : decode cX11_count 178 = .ok (.getfield 137, 3) := by decide +kernel
theorem dX11_count_181 : decode cX11_count 181 = .ok (.invokestatic 159, 3) := by decide +kernel
theorem dX11_count_184 : decode cX11_count 184 = .ok (.ireturn, 1) := by decide +kernel
theorem dX11_count_185 : decode cX11_count 185 = .ok (.aload_n 0, 1) := by decide +kernel
theorem dX11_count_186 : decode cX11_count 186 = .ok (.getfield 10, 3) := by decide +kernel
theorem dX11_count_189 : decode cX11_count 189 = .ok (.invokevirtual 162, 3) := by decide +kernel
theorem dX11_count_192 : decode cX11_count 192 = .ok (.ireturn, 1) := by decide +kernel
theorem dX11_count_193 : decode cX11_count 193 = .ok (.new 166, 3) := by decide +kernel
theorem dX11_count_196 : decode cX11_count 196 = .ok (.dup, 1) := by decide +kernel
theorem dX11_count_197 : decode cX11_count 197 = .ok (.invokespecial 168, 3) := by decide +kernel
theorem dX11_count_200 : decode cX11_count 200 = .ok (.athrow, 1) := by decide +kernel
theorem dX11_element_0 : decode cX11_element 0 = .ok (.aload_n 0, 1) := by decide +kernel
theorem dX11_element_1 : decode cX11_element 1 = .ok (.getfield 10, 3) := by decide +kernel
theorem dX11_element_4 : decode cX11_element 4 = .ok (.iload_n 2, 1) := by decide +kernel
theorem dX11_element_5 : decode cX11_element 5 = .ok (.invokevirtual 113, 3) := by decide +kernel
theorem dX11_element_8 : decode cX11_element 8 = .ok (.ifCond .eq 18, 3) := by decide +kernel
theorem dX11_element_11 : decode cX11_element 11 = .ok (.aload_n 0, 1) := by decide +kernel
theorem dX11_element_12 : decode cX11_element 12 = .ok (.getfield 10, 3) := by decide +kernel
theorem dX11_element_15 : decode cX11_element 15 = .ok (.iload_n 3, 1) := by decide +kernel
theorem dX11_element_16 : decode cX11_element 16 = .ok (.invokevirtual 113, 3) := by decide +kernel
theorem dX11_element_19 : decode cX11_element 19 = .ok (.ifCond .eq 7, 3) := by decide +kernel
theorem dX11_element_22 : decode cX11_element 22 = .ok (.iconst 1, 1) := by decide +kernel
theorem dX11_element_23 : decode cX11_element 23 = .ok (.goto 4, 3) := by decide +kernel
theorem dX11_element_26 : decode cX11_element 26 = .ok (.iconst 0, 1) := by decide +kernel
theorem dX11_element_27 : decode cX11_element 27 = .ok (.invokestatic 117, 3) := by decide +kernel
theorem dX11_element_30 : decode cX11_element 30 = .ok (.iload_n 1, 1) := by decide +kernel
theorem dX11_element_31 : decode cX11_element 31 = .ok (.tableswitch 87 0 3 #[29, 39, 49, 59], 29) := by decide +kernel
theorem dX11_element_60 : decode cX11_element 60 = .ok (.aload_n 0, 1) := by decide +kernel
theorem dX11_element_61 : decode cX11_element 61 = .ok (.getfield 10, 3) := by decide +kernel
theorem dX11_element_64 : decode cX11_element 64 = .ok (.iload_n 2, 1) := by decide +kernel
theorem dX11_element_65 : decode cX11_element 65 = .ok (.iload_n 3, 1) := by decide +kernel
theorem dX11_element_66 : decode cX11_element 66 = .ok (.invokevirtual 172, 3) := by decide +kernel
theorem dX11_element_69 : decode cX11_element 69 = .ok (.ireturn, 1) := by decide +kernel
theorem dX11_element_70 : decode cX11_element 70 = .ok (.aload_n 0, 1) := by decide +kernel
theorem dX11_element_71 : decode cX11_element 71 = .ok (.getfield 10, 3) := by decide +kernel
theorem dX11_element_74 : decode cX11_element 74 = .ok (.iload_n 2, 1) := by decide +kernel
theorem dX11_element_75 : decode cX11_element 75 = .ok (.iload_n 3, 1) := by decide +kernel
theorem dX11_element_76 : decode cX11_element 76 = .ok (.invokevirtual 175, 3) := by decide +kernel
theorem dX11_element_79 : decode cX11_element 79 = .ok (.ireturn, 1) := by decide +kernel
theorem dX11_element_80 : decode cX11_element 80 = .ok (.aload_n 0, 1) := by decide +kernel
theorem dX11_element_81 : decode cX11_element 81 = .ok (.getfield 10, 3) := by decide +kernel
theorem dX11_element_84 : decode cX11_element 84 = .ok (.iload_n 2, 1) := by decide +kernel
theorem dX11_element_85 : decode cX11_element 85 = .ok (.iload_n 3, 1) := by decide +kernel
theorem dX11_element_86 : decode cX11_element 86 = .ok (.invokevirtual 178, 3) := by decide +kernel
theorem dX11_element_89 : decode cX11_element 89 = .ok (.ireturn, 1) := by decide +kernel
theorem dX11_element_90 : decode cX11_element 90 = .ok (.aload_n 0, 1) := by decide +kernel
theorem dX11_element_91 : decode cX11_element 91 = .ok (.getfield 10, 3) := by decide +kernel
theorem dX11_element_94 : decode cX11_element 94 = .ok (.iload_n 3, 1) := by decide +kernel
theorem dX11_element_95 : decode cX11_element 95 = .ok (.invokevirtual 181, 3) := by decide +kernel
theorem dX11_element_98 : decode cX11_element 98 = .ok (.invokestatic 117, 3) := by decide +kernel
theorem dX11_element_101 : decode cX11_element 101 = .ok (.aload_n 0, 1) := by decide +kernel
theorem dX11_element_102 : decode cX11_element 102 = .ok (.getfield 10, 3) := by decide +kernel
theorem dX11_element_105 : decode cX11_element 105 = .ok (.iload_n 2, 1) := by decide +kernel
theorem dX11_element_106 : decode cX11_element 106 = .ok (.aload_n 0, 1) := by decide +kernel
theorem dX11_element_107 : decode cX11_element 107 = .ok (.getfield 10, 3) := by decide +kernel
theorem dX11_element_110 : decode cX11_element 110 = .ok (.iload_n 3, 1) := by decide +kernel
theorem dX11_element_111 : decode cX11_element 111 = .ok (.invokevirtual 184, 3) := by decide +kernel
theorem dX11_element_114 : decode cX11_element 114 = .ok (.invokevirtual 178, 3) := by decide +kernel
theorem dX11_element_117 : decode cX11_element 117 = .ok (.ireturn, 1) := by decide +kernel
theorem dX11_element_118 : decode cX11_element 118 = .ok (.new 166, 3) := by decide +kernel
theorem dX11_element_121 : decode cX11_element 121 = .ok (.dup, 1) := by decide +kernel
theorem dX11_element_122 : decode cX11_element 122 = .ok (.invokespecial 168, 3) := by decide +kernel
theorem dX11_element_125 : decode cX11_element 125 = .ok (.athrow, 1) := by decide +kernel
theorem dX11_of_0 : decode cX11_of 0 = .ok (.aload_n 0, 1) := by decide +kernel
theorem dX11_of_1 : decode cX11_of 1 = .ok (.getfield 10, 3) := by decide +kernel
theorem dX11_of_4 : decode cX11_of 4 = .ok (.iload_n 1, 1) := by decide +kernel
theorem dX11_of_5 : decode cX11_of 5 = .ok (.invokevirtual 113, 3) := by decide +kernel
theorem dX11_of_8 : decode cX11_of 8 = .ok (.invokestatic 117, 3) := by decide +kernel
theorem dX11_of_11 : decode cX11_of 11 = .ok (.iload_n 2, 1) := by decide +kernel
theorem dX11_of_12 : decode cX11_of 12 = .ok (.tableswitch 178 0 8 #[52, 61, 70, 79, 88, 97, 106, 130, 154], 52) := by decide +kernel
theorem dX11_of_64 : decode cX11_of 64 = .ok (.aload_n 0, 1) := by decide +kernel
theorem dX11_of_65 : decode cX11_of 65 = .ok (.getfield 10, 3) := by decide +kernel
theorem dX11_of_68 : decode cX11_of 68 = .ok (.iload_n 1, 1) := by decide +kernel
theorem dX11_of_69 : decode cX11_of 69 = .ok (.invokevirtual 187, 3) := by decide +kernel
theorem dX11_of_72 : decode cX11_of 72 = .ok (.ireturn, 1) := by decide +kernel
theorem dX11_of_73 : decode cX11_of 73 = .ok (.aload_n 0, 1) := by decide +kernel
theorem dX11_of_74 : decode cX11_of 74 = .ok (.getfield 10, 3) := by decide +kernel
theorem dX11_of_77 : decode cX11_of 77 = .ok (.iload_n 1, 1) := by decide +kernel
theorem dX11_of_78 : decode cX11_of 78 = .ok (.invokevirtual 190, 3) := by decide +kernel
theorem dX11_of_81 : decode cX11_of 81 = .ok (.ireturn, 1) := by decide +kernel
theorem dX11_of_82 : decode cX11_of 82 = .ok (.aload_n 0, 1) := by decide +kernel
theorem dX11_of_83 : decode cX11_of 83 = .ok (.getfield 10, 3) := by decide +kernel
theorem dX11_of_86 : decode cX11_of 86 = .ok (.iload_n 1, 1) := by decide +kernel
theorem dX11_of_87 : decode cX11_of 87 = .ok (.invokevirtual 193, 3) := by decide +kernel
theorem dX11_of_90 : decode cX11_of 90 = .ok (.ireturn, 1) := by decide +kernel
theorem dX11_of_91 : decode cX11_of 91 = .ok (.aload_n 0, 1) := by decide +kernel
theorem dX11_of_92 : decode cX11_of 92 = .ok (.getfield 10, 3) := by decide +kernel
theorem dX11_of_95 : decode cX11_of 95 = .ok (.iload_n 1, 1) := by decide +kernel
theorem dX11_of_96 : decode cX11_of 96 = .ok (.invokevirtual 196, 3) := by decide +kernel
theorem dX11_of_99 : decode cX11_of 99 = .ok (.ireturn, 1) := by decide +kernel
theorem dX11_of_100 : decode cX11_of 100 = .ok (.aload_n 0, 1) := by decide +kernel
theorem dX11_of_101 : decode cX11_of 101 = .ok (.getfield 10, 3) := by decide +kernel
theorem dX11_of_104 : decode cX11_of 104 = .ok (.iload_n 1, 1) := by decide +kernel
theorem dX11_of_105 : decode cX11_of 105 = .ok (.invokevirtual 199, 3) := by decide +kernel
theorem dX11_of_108 : decode cX11_of 108 = .ok (.ireturn, 1) := by decide +kernel
theorem dX11_of_109 : decode cX11_of 109 = .ok (.aload_n 0, 1) := by decide +kernel
theorem dX11_of_110 : decode cX11_of 110 = .ok (.getfield 10, 3) := by decide +kernel
theorem dX11_of_113 : decode cX11_of 113 = .ok (.iload_n 1, 1) := by decide +kernel
theorem dX11_of_114 : decode cX11_of 114 = .ok (.invokevirtual 202, 3) := by decide +kernel
theorem dX11_of_117 : decode cX11_of 117 = .ok (.ireturn, 1) := by decide +kernel
theorem dX11_of_118 : decode cX11_of 118 = .ok (.aload_n 0, 1) := by decide +kernel
theorem dX11_of_119 : decode cX11_of 119 = .ok (.getfield 10, 3) := by decide +kernel
theorem dX11_of_122 : decode cX11_of 122 = .ok (.iload_n 1, 1) := by decide +kernel
theorem dX11_of_123 : decode cX11_of 123 = .ok (.invokevirtual 181, 3) := by decide +kernel
theorem dX11_of_126 : decode cX11_of 126 = .ok (.ifCond .eq 14, 3) := by decide +kernel
theorem dX11_of_129 : decode cX11_of 129 = .ok (.aload_n 0, 1) := by decide +kernel
theorem dX11_of_130 : decode cX11_of 130 = .ok (.getfield 10, 3) := by decide +kernel
theorem dX11_of_133 : decode cX11_of 133 = .ok (.iload_n 1, 1) := by decide +kernel
theorem dX11_of_134 : decode cX11_of 134 = .ok (.invokevirtual 205, 3) := by decide +kernel
theorem dX11_of_137 : decode cX11_of 137 = .ok (.goto 4, 3) := by decide +kernel
theorem dX11_of_140 : decode cX11_of 140 = .ok (.iconst (-1), 1) := by decide +kernel
theorem dX11_of_141 : decode cX11_of 141 = .ok (.ireturn, 1) := by decide +kernel
theorem dX11_of_142 : decode cX11_of 142 = .ok (.aload_n 0, 1) := by decide +kernel
theorem dX11_of_143 : decode cX11_of 143 = .ok (.getfield 10, 3) := by decide +kernel
theorem dX11_of_146 : decode cX11_of 146 = .ok (.iload_n 1, 1) := by decide +kernel
theorem dX11_of_147 : decode cX11_of 147 = .ok (.invokevirtual 181, 3) := by decide +kernel
theorem dX11_of_150 : decode cX11_of 150 = .ok (.ifCond .eq 14, 3) := by decide +kernel
theorem dX11_of_153 : decode cX11_of 153 = .ok (.aload_n 0, 1) := by decide +kernel
theorem dX11_of_154 : decode cX11_of 154 = .ok (.getfield 10, 3) := by decide +kernel
theorem dX11_of_157 : decode cX11_of 157 = .ok (.iload_n 1, 1) := by decide +kernel
theorem dX11_of_158 : decode cX11_of 158 = .ok (.invokevirtual 208, 3) := by decide +kernel
theorem dX11_of_161 : decode cX11_of 161 = .ok (.goto 4, 3) := by decide +kernel
theorem dX11_of_164 : decode cX11_of 164 = .ok (.iconst (-1), 1) := by decide +kernel
theorem dX11_of_165 : decode cX11_of 165 = .ok (.ireturn, 1) := by decide +kernel
theorem dX11_of_166 : decode cX11_of 166 = .ok (.aload_n 0, 1) := by decide +kernel
theorem dX11_of_167 : decode cX11_of 167 = .ok (.getfield 10, 3) := by decide +kernel
theorem dX11_of_170 : decode cX11_of 170 = .ok (.iload_n 1, 1) := by decide +kernel
theorem dX11_of_171 : decode cX11_of 171 = .ok (.invokevirtual 181, 3) := by decide +kernel
theorem dX11_of_174 : decode cX11_of 174 = .ok (.ifCond .eq 14, 3) := by decide +kernel
theorem dX11_of_177 : decode cX11_of 177 = .ok (.aload_n 0, 1) := by decide +kernel
theorem dX11_of_178 : decode cX11_of 178 = .ok (.getfield 10, 3) := by decide +kernel
theorem dX11_of_181 : decode cX11_of 181 = .ok (.iload_n 1, 1) := by decide +kernel
theorem dX11_of_182 : decode cX11_of 182 = .ok (.invokevirtual 184, 3) := by decide +kernel
theorem dX11_of_185 : decode cX11_of 185 = .ok (.goto 4, 3) := by decide +kernel
theorem dX11_of_188 : decode cX11_of 188 = .ok (.iconst (-1), 1) := by decide +kernel
theorem dX11_of_189 : decode cX11_of 189 = .ok (.ireturn, 1) := by decide +kernel
theorem dX11_of_190 : decode cX11_of 190 = .ok (.new 166, 3) := by decide +kernel
theorem dX11_of_193 : decode cX11_of 193 = .ok (.dup, 1) := by decide +kernel
theorem dX11_of_194 : decode cX11_of 194 = .ok (.invokespecial 168, 3) := by decide +kernel
theorem dX11_of_197 : decode cX11_of 197 = .ok (.athrow, 1) := by decide +kernel
theorem dX11_digit_0 : decode cX11_digit 0 = .ok (.aload_n 0, 1) := by decide +kernel
theorem dX11_digit_1 : decode cX11_digit 1 = .ok (.getfield 10, 3) := by decide +kernel
theorem dX11_digit_4 : decode cX11_digit 4 = .ok (.iload_n 1, 1) := by decide +kernel
theorem dX11_digit_5 : decode cX11_digit 5 = .ok (.invokevirtual 113, 3) := by decide +kernel
theorem dX11_digit_8 : decode cX11_digit 8 = .ok (.ifCond .eq 22, 3) := by decide +kernel
theorem dX11_digit_11 : decode cX11_digit 11 = .ok (.iload_n 2, 1) := by decide +kernel
theorem dX11_digit_12 : decode cX11_digit 12 = .ok (.ifCond .lt 18, 3) := by decide +kernel
theorem dX11_digit_15 : decode cX11_digit 15 = .ok (.iload_n 2, 1) := by decide +kernel
theorem dX11_digit_16 : decode cX11_digit 16 = .ok (.aload_n 0, 1) := by decide +kernel
theorem dX11_digit_17 : decode cX11_digit 17 = .ok (.getfield 10, 3) := by decide +kernel
theorem dX11_digit_20 : decode cX11_digit 20 = .ok (.getfield 134, 3) := by decide +kernel
theorem dX11_digit_23 : decode cX11_digit 23 = .ok (.if_icmp .ge 7, 3) := by decide +kernel
theorem dX11_digit_26 : decode cX11_digit 26 = .ok (.iconst 1, 1) := by decide +kernel
theorem dX11_digit_27 : decode cX11_digit 27 = .ok (.goto 4, 3) := by decide +kernel
theorem dX11_digit_30 : decode cX11_digit 30 = .ok (.iconst 0, 1) := by decide +kernel
theorem dX11_digit_31 : decode cX11_digit 31 = .ok (.invokestatic 117, 3) := by decide +kernel
theorem dX11_digit_34 : decode cX11_digit 34 = .ok (.aload_n 0, 1) := by decide +kernel
theorem dX11_digit_35 : decode cX11_digit 35 = .ok (.getfield 10, 3) := by decide +kernel
theorem dX11_digit_38 : decode cX11_digit 38 = .ok (.iload_n 1, 1) := by decide +kernel
theorem dX11_digit_39 : decode cX11_digit 39 = .ok (.iload_n 2, 1) := by decide +kernel
theorem dX11_digit_40 : decode cX11_digit 40 = .ok (.invokevirtual 211, 3) := by decide +kernel
theorem dX11_digit_43 : decode cX11_digit 43 = .ok (.ireturn, 1) := by decide +kernel
theorem dX11_whole_0 : decode cX11_whole 0 = .ok (.aload_n 0, 1) := by decide +kernel
theorem dX11_whole_1 : decode cX11_whole 1 = .ok (.iload_n 1, 1) := by decide +kernel
theorem dX11_whole_2 : decode cX11_whole 2 = .ok (.iconst 0, 1) := by decide +kernel
theorem dX11_whole_3 : decode cX11_whole 3 = .ok (.invokevirtual 214, 3) := by decide +kernel
theorem dX11_whole_6 : decode cX11_whole 6 = .ok (.ifCond .eq 35, 3) := by decide +kernel
theorem dX11_whole_9 : decode cX11_whole 9 = .ok (.aload_n 0, 1) := by decide +kernel
theorem dX11_whole_10 : decode cX11_whole 10 = .ok (.iload_n 2, 1) := by decide +kernel
theorem dX11_whole_11 : decode cX11_whole 11 = .ok (.iconst 1, 1) := by decide +kernel
theorem dX11_whole_12 : decode cX11_whole 12 = .ok (.invokevirtual 214, 3) := by decide +kernel
theorem dX11_whole_15 : decode cX11_whole 15 = .ok (.ifCond .eq 26, 3) := by decide +kernel
theorem dX11_whole_18 : decode cX11_whole 18 = .ok (.aload_n 0, 1) := by decide +kernel
theorem dX11_whole_19 : decode cX11_whole 19 = .ok (.iload_n 3, 1) := by decide +kernel
theorem dX11_whole_20 : decode cX11_whole 20 = .ok (.iconst 2, 1) := by decide +kernel
theorem dX11_whole_21 : decode cX11_whole 21 = .ok (.invokevirtual 214, 3) := by decide +kernel
theorem dX11_whole_24 : decode cX11_whole 24 = .ok (.ifCond .eq 17, 3) := by decide +kernel
theorem dX11_whole_27 : decode cX11_whole 27 = .ok (.aload_n 0, 1) := by decide +kernel
theorem dX11_whole_28 : decode cX11_whole 28 = .ok (.iload 4, 2) := by decide +kernel
theorem dX11_whole_30 : decode cX11_whole 30 = .ok (.iconst 3, 1) := by decide +kernel
theorem dX11_whole_31 : decode cX11_whole 31 = .ok (.invokevirtual 214, 3) := by decide +kernel
theorem dX11_whole_34 : decode cX11_whole 34 = .ok (.ifCond .eq 7, 3) := by decide +kernel
theorem dX11_whole_37 : decode cX11_whole 37 = .ok (.iconst 1, 1) := by decide +kernel
theorem dX11_whole_38 : decode cX11_whole 38 = .ok (.goto 4, 3) := by decide +kernel
theorem dX11_whole_41 : decode cX11_whole 41 = .ok (.iconst 0, 1) := by decide +kernel
theorem dX11_whole_42 : decode cX11_whole 42 = .ok (.invokestatic 117, 3) := by decide +kernel
theorem dX11_whole_45 : decode cX11_whole 45 = .ok (.aload_n 0, 1) := by decide +kernel
theorem dX11_whole_46 : decode cX11_whole 46 = .ok (.getfield 10, 3) := by decide +kernel
theorem dX11_whole_49 : decode cX11_whole 49 = .ok (.iconst 0, 1) := by decide +kernel
theorem dX11_whole_50 : decode cX11_whole 50 = .ok (.iconst 0, 1) := by decide +kernel
theorem dX11_whole_51 : decode cX11_whole 51 = .ok (.iload_n 1, 1) := by decide +kernel
theorem dX11_whole_52 : decode cX11_whole 52 = .ok (.invokevirtual 218, 3) := by decide +kernel
theorem dX11_whole_55 : decode cX11_whole 55 = .ok (.istore 5, 2) := by decide +kernel
theorem dX11_whole_57 : decode cX11_whole 57 = .ok (.aload_n 0, 1) := by decide +kernel
theorem dX11_whole_58 : decode cX11_whole 58 = .ok (.getfield 10, 3) := by decide +kernel
theorem dX11_whole_61 : decode cX11_whole 61 = .ok (.iload 5, 2) := by decide +kernel
theorem dX11_whole_63 : decode cX11_whole 63 = .ok (.iconst 1, 1) := by decide +kernel
theorem dX11_whole_64 : decode cX11_whole 64 = .ok (.iload_n 2, 1) := by decide +kernel
theorem dX11_whole_65 : decode cX11_whole 65 = .ok (.invokevirtual 218, 3) := by decide +kernel
theorem dX11_whole_68 : decode cX11_whole 68 = .ok (.istore 5, 2) := by decide +kernel
theorem dX11_whole_70 : decode cX11_whole 70 = .ok (.aload_n 0, 1) := by decide +kernel
theorem dX11_whole_71 : decode cX11_whole 71 = .ok (.getfield 10, 3) := by decide +kernel
theorem dX11_whole_74 : decode cX11_whole 74 = .ok (.iload 5, 2) := by decide +kernel
theorem dX11_whole_76 : decode cX11_whole 76 = .ok (.iconst 2, 1) := by decide +kernel
theorem dX11_whole_77 : decode cX11_whole 77 = .ok (.iload_n 3, 1) := by decide +kernel
theorem dX11_whole_78 : decode cX11_whole 78 = .ok (.invokevirtual 218, 3) := by decide +kernel
theorem dX11_whole_81 : decode cX11_whole 81 = .ok (.istore 5, 2) := by decide +kernel
theorem dX11_whole_83 : decode cX11_whole 83 = .ok (.aload_n 0, 1) := by decide +kernel
theorem dX11_whole_84 : decode cX11_whole 84 = .ok (.getfield 10, 3) := by decide +kernel
theorem dX11_whole_87 : decode cX11_whole 87 = .ok (.iload 5, 2) := by decide +kernel
theorem dX11_whole_89 : decode cX11_whole 89 = .ok (.iconst 3, 1) := by decide +kernel
theorem dX11_whole_90 : decode cX11_whole 90 = .ok (.iload 4, 2) := by decide +kernel
theorem dX11_whole_92 : decode cX11_whole 92 = .ok (.invokevirtual 218, 3) := by decide +kernel
theorem dX11_whole_95 : decode cX11_whole 95 = .ok (.ireturn, 1) := by decide +kernel
theorem dX11_sum_0 : decode cX11_sum 0 = .ok (.iload_n 1, 1) := by decide +kernel
theorem dX11_sum_1 : decode cX11_sum 1 = .ok (.ifCond .lt 35, 3) := by decide +kernel
theorem dX11_sum_4 : decode cX11_sum 4 = .ok (.iload_n 1, 1) := by decide +kernel
theorem dX11_sum_5 : decode cX11_sum 5 = .ok (.aload_n 0, 1) := by decide +kernel
theorem dX11_sum_6 : decode cX11_sum 6 = .ok (.getfield 10, 3) := by decide +kernel
theorem dX11_sum_9 : decode cX11_sum 9 = .ok (.getfield 143, 3) := by decide +kernel
theorem dX11_sum_12 : decode cX11_sum 12 = .ok (.iconst 2, 1) := by decide +kernel
theorem dX11_sum_13 : decode cX11_sum 13 = .ok (.isub, 1) := by decide +kernel
theorem dX11_sum_14 : decode cX11_sum 14 = .ok (.if_icmp .gt 22, 3) := by decide +kernel
theorem dX11_sum_17 : decode cX11_sum 17 = .ok (.iload_n 2, 1) := by decide +kernel
theorem dX11_sum_18 : decode cX11_sum 18 = .ok (.ifCond .lt 18, 3) := by decide +kernel
theorem dX11_sum_21 : decode cX11_sum 21 = .ok (.iload_n 2, 1) := by decide +kernel
theorem dX11_sum_22 : decode cX11_sum 22 = .ok (.aload_n 0, 1) := by decide +kernel
theorem dX11_sum_23 : decode cX11_sum 23 = .ok (.getfield 10, 3) := by decide +kernel
theorem dX11_sum_26 : decode cX11_sum 26 = .ok (.getfield 134, 3) := by decide +kernel
theorem dX11_sum_29 : decode cX11_sum 29 = .ok (.if_icmp .ge 7, 3) := by decide +kernel
theorem dX11_sum_32 : decode cX11_sum 32 = .ok (.iconst 1, 1) := by decide +kernel
theorem dX11_sum_33 : decode cX11_sum 33 = .ok (.goto 4, 3) := by decide +kernel
theorem dX11_sum_36 : decode cX11_sum 36 = .ok (.iconst 0, 1) := by decide +kernel
theorem dX11_sum_37 : decode cX11_sum 37 = .ok (.invokestatic 117, 3) := by decide +kernel
theorem dX11_sum_40 : decode cX11_sum 40 = .ok (.aload_n 0, 1) := by decide +kernel
theorem dX11_sum_41 : decode cX11_sum 41 = .ok (.getfield 10, 3) := by decide +kernel
theorem dX11_sum_44 : decode cX11_sum 44 = .ok (.aload_n 0, 1) := by decide +kernel
theorem dX11_sum_45 : decode cX11_sum 45 = .ok (.getfield 10, 3) := by decide +kernel
theorem dX11_sum_48 : decode cX11_sum 48 = .ok (.iconst 1, 1) := by decide +kernel
theorem dX11_sum_49 : decode cX11_sum 49 = .ok (.aload_n 0, 1) := by decide +kernel
theorem dX11_sum_50 : decode cX11_sum 50 = .ok (.getfield 10, 3) := by decide +kernel
theorem dX11_sum_53 : decode cX11_sum 53 = .ok (.getfield 222, 3) := by decide +kernel
theorem dX11_sum_56 : decode cX11_sum 56 = .ok (.iload_n 1, 1) := by decide +kernel
theorem dX11_sum_57 : decode cX11_sum 57 = .ok (.invokestatic 121, 3) := by decide +kernel
theorem dX11_sum_60 : decode cX11_sum 60 = .ok (.invokevirtual 172, 3) := by decide +kernel
theorem dX11_sum_63 : decode cX11_sum 63 = .ok (.iload_n 2, 1) := by decide +kernel
theorem dX11_sum_64 : decode cX11_sum 64 = .ok (.invokevirtual 211, 3) := by decide +kernel
theorem dX11_sum_67 : decode cX11_sum 67 = .ok (.ireturn, 1) := by decide +kernel
theorem dX11_classes_0 : decode cX11_classes 0 = .ok (.aload_n 0, 1) := by decide +kernel
theorem dX11_classes_1 : decode cX11_classes 1 = .ok (.getfield 10, 3) := by decide +kernel
theorem dX11_classes_4 : decode cX11_classes 4 = .ok (.iload_n 1, 1) := by decide +kernel
theorem dX11_classes_5 : decode cX11_classes 5 = .ok (.invokevirtual 259, 3) := by decide +kernel
theorem dX11_classes_8 : decode cX11_classes 8 = .ok (.invokestatic 117, 3) := by decide +kernel
theorem dX11_classes_11 : decode cX11_classes 11 = .ok (.aload_n 0, 1) := by decide +kernel
theorem dX11_classes_12 : decode cX11_classes 12 = .ok (.getfield 40, 3) := by decide +kernel
theorem dX11_classes_15 : decode cX11_classes 15 = .ok (.iload_n 1, 1) := by decide +kernel
theorem dX11_classes_16 : decode cX11_classes 16 = .ok (.aload_n 0, 1) := by decide +kernel
theorem dX11_classes_17 : decode cX11_classes 17 = .ok (.getfield 10, 3) := by decide +kernel
theorem dX11_classes_20 : decode cX11_classes 20 = .ok (.getfield 131, 3) := by decide +kernel
theorem dX11_classes_23 : decode cX11_classes 23 = .ok (.invokevirtual 262, 3) := by decide +kernel
theorem dX11_classes_26 : decode cX11_classes 26 = .ok (.iload_n 2, 1) := by decide +kernel
theorem dX11_classes_27 : decode cX11_classes 27 = .ok (.iconst (-1), 1) := by decide +kernel
theorem dX11_classes_28 : decode cX11_classes 28 = .ok (.if_icmp .ne 11, 3) := by decide +kernel
theorem dX11_classes_31 : decode cX11_classes 31 = .ok (.aload_n 0, 1) := by decide +kernel
theorem dX11_classes_32 : decode cX11_classes 32 = .ok (.getfield 40, 3) := by decide +kernel
theorem dX11_classes_35 : decode cX11_classes 35 = .ok (.getfield 265, 3) := by decide +kernel
theorem dX11_classes_38 : decode cX11_classes 38 = .ok (.ireturn, 1) := by decide +kernel
theorem dX11_classes_39 : decode cX11_classes 39 = .ok (.iload_n 2, 1) := by decide +kernel
theorem dX11_classes_40 : decode cX11_classes 40 = .ok (.ifCond .lt 18, 3) := by decide +kernel
theorem dX11_classes_43 : decode cX11_classes 43 = .ok (.iload_n 2, 1) := by decide +kernel
theorem dX11_classes_44 : decode cX11_classes 44 = .ok (.aload_n 0, 1) := by decide +kernel
theorem dX11_classes_45 : decode cX11_classes 45 = .ok (.getfield 40, 3) := by decide +kernel
theorem dX11_classes_48 : decode cX11_classes 48 = .ok (.getfield 265, 3) := by decide +kernel
theorem dX11_classes_51 : decode cX11_classes 51 = .ok (.if_icmp .ge 7, 3) := by decide +kernel
theorem dX11_classes_54 : decode cX11_classes 54 = .ok (.iconst 1, 1) := by decide +kernel
theorem dX11_classes_55 : decode cX11_classes 55 = .ok (.goto 4, 3) := by decide +kernel
theorem dX11_classes_58 : decode cX11_classes 58 = .ok (.iconst 0, 1) := by decide +kernel
theorem dX11_classes_59 : decode cX11_classes 59 = .ok (.invokestatic 117, 3) := by decide +kernel
theorem dX11_classes_62 : decode cX11_classes 62 = .ok (.iload_n 3, 1) := by decide +kernel
theorem dX11_classes_63 : decode cX11_classes 63 = .ok (.iconst (-1), 1) := by decide +kernel
theorem dX11_classes_64 : decode cX11_classes 64 = .ok (.if_icmp .ne 12, 3) := by decide +kernel
theorem dX11_classes_67 : decode cX11_classes 67 = .ok (.aload_n 0, 1) := by decide +kernel
theorem dX11_classes_68 : decode cX11_classes 68 = .ok (.getfield 40, 3) := by decide +kernel
theorem dX11_classes_71 : decode cX11_classes 71 = .ok (.iload_n 2, 1) := by decide +kernel
theorem dX11_classes_72 : decode cX11_classes 72 = .ok (.invokevirtual 268, 3) := by decide +kernel
theorem dX11_classes_75 : decode cX11_classes 75 = .ok (.ireturn, 1) := by decide +kernel
theorem dX11_classes_76 : decode cX11_classes 76 = .ok (.iload_n 3, 1) := by decide +kernel
theorem dX11_classes_77 : decode cX11_classes 77 = .ok (.ifCond .lt 19, 3) := by decide +kernel
theorem dX11_classes_80 : decode cX11_classes 80 = .ok (.iload_n 3, 1) := by decide +kernel
theorem dX11_classes_81 : decode cX11_classes 81 = .ok (.aload_n 0, 1) := by decide +kernel
theorem dX11_classes_82 : decode cX11_classes 82 = .ok (.getfield 40, 3) := by decide +kernel
theorem dX11_classes_85 : decode cX11_classes 85 = .ok (.iload_n 2, 1) := by decide +kernel
theorem dX11_classes_86 : decode cX11_classes 86 = .ok (.invokevirtual 268, 3) := by decide +kernel
theorem dX11_classes_89 : decode cX11_classes 89 = .ok (.if_icmp .ge 7, 3) := by decide +kernel
theorem dX11_classes_92 : decode cX11_classes 92 = .ok (.iconst 1, 1) := by decide +kernel
theorem dX11_classes_93 : decode cX11_classes 93 = .ok (.goto 4, 3) := by decide +kernel
theorem dX11_classes_96 : decode cX11_classes 96 = .ok (.iconst 0, 1) := by decide +kernel
theorem dX11_classes_97 : decode cX11_classes 97 = .ok (.invokestatic 117, 3) := by decide +kernel
theorem dX11_classes_100 : decode cX11_classes 100 = .ok (.aload_n 0, 1) := by decide +kernel
theorem dX11_classes_101 : decode cX11_classes 101 = .ok (.getfield 40, 3) := by decide +kernel
theorem dX11_classes_104 : decode cX11_classes 104 = .ok (.iload_n 2, 1) := by decide +kernel
theorem dX11_classes_105 : decode cX11_classes 105 = .ok (.iload_n 3, 1) := by decide +kernel
theorem dX11_classes_106 : decode cX11_classes 106 = .ok (.invokevirtual 271, 3) := by decide +kernel
theorem dX11_classes_109 : decode cX11_classes 109 = .ok (.ireturn, 1) := by decide +kernel
theorem dX11_code_0 : decode cX11_code 0 = .ok (.aload_n 0, 1) := by decide +kernel
theorem dX11_code_1 : decode cX11_code 1 = .ok (.getfield 10, 3) := by decide +kernel
theorem dX11_code_4 : decode cX11_code 4 = .ok (.iload_n 1, 1) := by decide +kernel
theorem dX11_code_5 : decode cX11_code 5 = .ok (.invokevirtual 259, 3) := by decide +kernel
theorem dX11_code_8 : decode cX11_code 8 = .ok (.ifCond .eq 7, 3) := by decide +kernel
theorem dX11_code_11 : decode cX11_code 11 = .ok (.iload_n 2, 1) := by decide +kernel
theorem dX11_code_12 : decode cX11_code 12 = .ok (.ifCond .ge 5, 3) := by decide +kernel
theorem dX11_code_15 : decode cX11_code 15 = .ok (.iconst (-1), 1) := by decide +kernel
theorem dX11_code_16 : decode cX11_code 16 = .ok (.ireturn, 1) := by decide +kernel
theorem dX11_code_17 : decode cX11_code 17 = .ok (.aload_n 0, 1) := by decide +kernel
theorem dX11_code_18 : decode cX11_code 18 = .ok (.getfield 40, 3) := by decide +kernel
theorem dX11_code_21 : decode cX11_code 21 = .ok (.iload_n 1, 1) := by decide +kernel
theorem dX11_code_22 : decode cX11_code 22 = .ok (.aload_n 0, 1) := by decide +kernel
theorem dX11_code_23 : decode cX11_code 23 = .ok (.getfield 10, 3) := by decide +kernel
theorem dX11_code_26 : decode cX11_code 26 = .ok (.getfield 131, 3) := by decide +kernel
theorem dX11_code_29 : decode cX11_code 29 = .ok (.invokevirtual 262, 3) := by decide +kernel
theorem dX11_code_32 : decode cX11_code 32 = .ok (.aload_n 0, 1) := by decide +kernel
theorem dX11_code_33 : decode cX11_code 33 = .ok (.getfield 40, 3) := by decide +kernel
theorem dX11_code_36 : decode cX11_code 36 = .ok (.getfield 265, 3) := by decide +kernel
theorem dX11_code_39 : decode cX11_code 39 = .ok (.bipush 30, 2) := by decide +kernel
theorem dX11_code_41 : decode cX11_code 41 = .ok (.if_icmp .gt 17, 3) := by decide +kernel
theorem dX11_code_44 : decode cX11_code 44 = .ok (.iload_n 2, 1) := by decide +kernel
theorem dX11_code_45 : decode cX11_code 45 = .ok (.aload_n 0, 1) := by decide +kernel
theorem dX11_code_46 : decode cX11_code 46 = .ok (.getfield 40, 3) := by decide +kernel
theorem dX11_code_49 : decode cX11_code 49 = .ok (.getfield 265, 3) := by decide +kernel
theorem dX11_code_52 : decode cX11_code 52 = .ok (.ishr, 1) := by decide +kernel
theorem dX11_code_53 : decode cX11_code 53 = .ok (.ifCond .eq 5, 3) := by decide +kernel
theorem dX11_code_56 : decode cX11_code 56 = .ok (.iconst (-1), 1) := by decide +kernel
theorem dX11_code_57 : decode cX11_code 57 = .ok (.ireturn, 1) := by decide +kernel
theorem dX11_code_58 : decode cX11_code 58 = .ok (.aload_n 0, 1) := by decide +kernel
theorem dX11_code_59 : decode cX11_code 59 = .ok (.iload_n 2, 1) := by decide +kernel
theorem dX11_code_60 : decode cX11_code 60 = .ok (.invokevirtual 274, 3) := by decide +kernel
theorem dX11_code_63 : decode cX11_code 63 = .ok (.aload_n 0, 1) := by decide +kernel
theorem dX11_code_64 : decode cX11_code 64 = .ok (.getfield 58, 3) := by decide +kernel
theorem dX11_code_67 : decode cX11_code 67 = .ok (.getfield 156, 3) := by decide +kernel
theorem dX11_code_70 : decode cX11_code 70 = .ok (.ireturn, 1) := by decide +kernel
theorem dX11_coefficient_0 : decode cX11_coefficient 0 = .ok (.iload_n 1, 1) := by decide +kernel
theorem dX11_coefficient_1 : decode cX11_coefficient 1 = .ok (.ifCond .eq 8, 3) := by decide +kernel
theorem dX11_coefficient_4 : decode cX11_coefficient 4 = .ok (.iload_n 1, 1) := by decide +kernel
theorem dX11_coefficient_5 : decode cX11_coefficient 5 = .ok (.iconst 1, 1) := by decide +kernel
theorem dX11_coefficient_6 : decode cX11_coefficient 6 = .ok (.if_icmp .ne 7, 3) := by decide +kernel
theorem dX11_coefficient_9 : decode cX11_coefficient 9 = .ok (.iconst 1, 1) := by decide +kernel
theorem dX11_coefficient_10 : decode cX11_coefficient 10 = .ok (.goto 4, 3) := by decide +kernel
theorem dX11_coefficient_13 : decode cX11_coefficient 13 = .ok (.iconst 0, 1) := by decide +kernel
theorem dX11_coefficient_14 : decode cX11_coefficient 14 = .ok (.invokestatic 117, 3) := by decide +kernel
theorem dX11_coefficient_17 : decode cX11_coefficient 17 = .ok (.iload_n 1, 1) := by decide +kernel
theorem dX11_coefficient_18 : decode cX11_coefficient 18 = .ok (.ifCond .ne 13, 3) := by decide +kernel
theorem dX11_coefficient_21 : decode cX11_coefficient 21 = .ok (.aload_n 0, 1) := by decide +kernel
theorem dX11_coefficient_22 : decode cX11_coefficient 22 = .ok (.getfield 58, 3) := by decide +kernel
theorem dX11_coefficient_25 : decode cX11_coefficient 25 = .ok (.getfield 277, 3) := by decide +kernel
theorem dX11_coefficient_28 : decode cX11_coefficient 28 = .ok (.goto 18, 3) := by decide +kernel
theorem dX11_coefficient_31 : decode cX11_coefficient 31 = .ok (.aload_n 0, 1) := by decide +kernel
theorem dX11_coefficient_32 : decode cX11_coefficient 32 = .ok (.getfield 58, 3) := by decide +kernel
theorem dX11_coefficient_35 : decode cX11_coefficient 35 = .ok (.getfield 153, 3) := by decide +kernel
theorem dX11_coefficient_38 : decode cX11_coefficient 38 = .ok (.aload_n 0, 1) := by decide +kernel
theorem dX11_coefficient_39 : decode cX11_coefficient 39 = .ok (.getfield 58, 3) := by decide +kernel
theorem dX11_coefficient_42 : decode cX11_coefficient 42 = .ok (.getfield 277, 3) := by decide +kernel
theorem dX11_coefficient_45 : decode cX11_coefficient 45 = .ok (.isub, 1) := by decide +kernel
theorem dX11_coefficient_46 : decode cX11_coefficient 46 = .ok (.istore_n 3, 1) := by decide +kernel
theorem dX11_coefficient_47 : decode cX11_coefficient 47 = .ok (.iload_n 2, 1) := by decide +kernel
theorem dX11_coefficient_48 : decode cX11_coefficient 48 = .ok (.iconst (-1), 1) := by decide +kernel
theorem dX11_coefficient_49 : decode cX11_coefficient 49 = .ok (.if_icmp .ne 5, 3) := by decide +kernel
theorem dX11_coefficient_52 : decode cX11_coefficient 52 = .ok (.iload_n 3, 1) := by decide +kernel
theorem dX11_coefficient_53 : decode cX11_coefficient 53 = .ok (.ireturn, 1) := by decide +kernel
theorem dX11_coefficient_54 : decode cX11_coefficient 54 = .ok (.iload_n 2, 1) := by decide +kernel
theorem dX11_coefficient_55 : decode cX11_coefficient 55 = .ok (.ifCond .lt 12, 3) := by decide +kernel
theorem dX11_coefficient_58 : decode cX11_coefficient 58 = .ok (.iload_n 2, 1) := by decide +kernel
theorem dX11_coefficient_59 : decode cX11_coefficient 59 = .ok (.iload_n 3, 1) := by decide +kernel
theorem dX11_coefficient_60 : decode cX11_coefficient 60 = .ok (.if_icmp .gt 7, 3) := by decide +kernel
theorem dX11_coefficient_63 : decode cX11_coefficient 63 = .ok (.iconst 1, 1) := by decide +kernel
theorem dX11_coefficient_64 : decode cX11_coefficient 64 = .ok (.goto 4, 3) := by decide +kernel
theorem dX11_coefficient_67 : decode cX11_coefficient 67 = .ok (.iconst 0, 1) := by decide +kernel
theorem dX11_coefficient_68 : decode cX11_coefficient 68 = .ok (.invokestatic 117, 3) := by decide +kernel
theorem dX11_coefficient_71 : decode cX11_coefficient 71 = .ok (.iload_n 1, 1) := by decide +kernel
theorem dX11_coefficient_72 : decode cX11_coefficient 72 = .ok (.ifCond .ne 13, 3) := by decide +kernel
theorem dX11_coefficient_75 : decode cX11_coefficient 75 = .ok (.aload_n 0, 1) := by decide +kernel
theorem dX11_coefficient_76 : decode cX11_coefficient 76 = .ok (.getfield 58, 3) := by decide +kernel
theorem dX11_coefficient_79 : decode cX11_coefficient 79 = .ok (.getfield 280, 3) := by decide +kernel
theorem dX11_coefficient_82 : decode cX11_coefficient 82 = .ok (.goto 10, 3) := by decide +kernel
theorem dX11_coefficient_85 : decode cX11_coefficient 85 = .ok (.aload_n 0, 1) := by decide +kernel
theorem dX11_coefficient_86 : decode cX11_coefficient 86 = .ok (.getfield 58, 3) := by decide +kernel
theorem dX11_coefficient_89 : decode cX11_coefficient 89 = .ok (.getfield 283, 3) := by decide +kernel
theorem dX11_coefficient_92 : decode cX11_coefficient 92 = .ok (.iload_n 2, 1) := by decide +kernel
theorem dX11_coefficient_93 : decode cX11_coefficient 93 = .ok (.invokestatic 121, 3) := by decide +kernel
theorem dX11_coefficient_96 : decode cX11_coefficient 96 = .ok (.ireturn, 1) := by decide +kernel
theorem dX11_need_0 : decode cX11_need 0 = .ok (.iload_n 0, 1) := by decide +kernel
theorem dX11_need_1 : decode cX11_need 1 = .ok (.ifCond .ne 11, 3) := by decide +kernel
theorem dX11_need_4 : decode cX11_need 4 = .ok (.new 166, 3) := by decide +kernel
theorem dX11_need_7 : decode cX11_need 7 = .ok (.dup, 1) := by decide +kernel
theorem dX11_need_8 : decode cX11_need 8 = .ok (.invokespecial 168, 3) := by decide +kernel
theorem dX11_need_11 : decode cX11_need 11 = .ok (.athrow, 1) := by decide +kernel
theorem dX11_need_12 : decode cX11_need 12 = .ok (.return_, 1) := by decide +kernel
theorem dX11_canStand_0 : decode cX11_canStand 0 = .ok (.iload_n 1, 1) := by decide +kernel
theorem dX11_canStand_1 : decode cX11_canStand 1 = .ok (.iconst (-1), 1) := by decide +kernel
theorem dX11_canStand_2 : decode cX11_canStand 2 = .ok (.if_icmp .eq 31, 3) := by decide +kernel
theorem dX11_canStand_5 : decode cX11_canStand 5 = .ok (.iload_n 2, 1) := by decide +kernel
theorem dX11_canStand_6 : decode cX11_canStand 6 = .ok (.aload_n 0, 1) := by decide +kernel
theorem dX11_canStand_7 : decode cX11_canStand 7 = .ok (.getfield 10, 3) := by decide +kernel
theorem dX11_canStand_10 : decode cX11_canStand 10 = .ok (.getfield 134, 3) := by decide +kernel
theorem dX11_canStand_13 : decode cX11_canStand 13 = .ok (.if_icmp .ge 24, 3) := by decide +kernel
theorem dX11_canStand_16 : decode cX11_canStand 16 = .ok (.iload_n 1, 1) := by decide +kernel
theorem dX11_canStand_17 : decode cX11_canStand 17 = .ok (.ifCond .lt 20, 3) := by decide +kernel
theorem dX11_canStand_20 : decode cX11_canStand 20 = .ok (.iload_n 1, 1) := by decide +kernel
theorem dX11_canStand_21 : decode cX11_canStand 21 = .ok (.aload_n 0, 1) := by decide +kernel
theorem dX11_canStand_22 : decode cX11_canStand 22 = .ok (.getfield 10, 3) := by decide +kernel
theorem dX11_canStand_25 : decode cX11_canStand 25 = .ok (.getfield 143, 3) := by decide +kernel
theorem dX11_canStand_28 : decode cX11_canStand 28 = .ok (.iconst 2, 1) := by decide +kernel
theorem dX11_canStand_29 : decode cX11_canStand 29 = .ok (.isub, 1) := by decide +kernel
theorem dX11_canStand_30 : decode cX11_canStand 30 = .ok (.if_icmp .gt 7, 3) := by decide +kernel
theorem dX11_canStand_33 : decode cX11_canStand 33 = .ok (.iconst 1, 1) := by decide +kernel
theorem dX11_canStand_34 : decode cX11_canStand 34 = .ok (.goto 4, 3) := by decide +kernel
theorem dX11_canStand_37 : decode cX11_canStand 37 = .ok (.iconst 0, 1) := by decide +kernel
theorem dX11_canStand_38 : decode cX11_canStand 38 = .ok (.ireturn, 1) := by decide +kernel
theorem dX11_clear_0 : decode cX11_clear 0 = .ok (.aload_n 0, 1) := by decide +kernel
theorem dX11_clear_1 : decode cX11_clear 1 = .ok (.getfield 16, 3) := by decide +kernel
theorem dX11_clear_4 : decode cX11_clear 4 = .ok (.iconst 0, 1) := by decide +kernel
theorem dX11_clear_5 : decode cX11_clear 5 = .ok (.invokestatic 348, 3) := by decide +kernel
theorem dX11_clear_8 : decode cX11_clear 8 = .ok (.aload_n 0, 1) := by decide +kernel
theorem dX11_clear_9 : decode cX11_clear 9 = .ok (.getfield 40, 3) := by decide +kernel
theorem dX11_clear_12 : decode cX11_clear 12 = .ok (.iconst 1, 1) := by decide +kernel
theorem dX11_clear_13 : decode cX11_clear 13 = .ok (.aload_n 0, 1) := by decide +kernel
theorem dX11_clear_14 : decode cX11_clear 14 = .ok (.getfield 10, 3) := by decide +kernel
theorem dX11_clear_17 : decode cX11_clear 17 = .ok (.getfield 131, 3) := by decide +kernel
theorem dX11_clear_20 : decode cX11_clear 20 = .ok (.invokevirtual 262, 3) := by decide +kernel
theorem dX11_clear_23 : decode cX11_clear 23 = .ok (.aload_n 0, 1) := by decide +kernel
theorem dX11_clear_24 : decode cX11_clear 24 = .ok (.iconst 0, 1) := by decide +kernel
theorem dX11_clear_25 : decode cX11_clear 25 = .ok (.invokevirtual 274, 3) := by decide +kernel
theorem dX11_clear_28 : decode cX11_clear 28 = .ok (.return_, 1) := by decide +kernel
theorem dX11_choose_0 : decode cX11_choose 0 = .ok (.aload_n 0, 1) := by decide +kernel
theorem dX11_choose_1 : decode cX11_choose 1 = .ok (.getfield 58, 3) := by decide +kernel
theorem dX11_choose_4 : decode cX11_choose 4 = .ok (.aload_n 0, 1) := by decide +kernel
theorem dX11_choose_5 : decode cX11_choose 5 = .ok (.getfield 40, 3) := by decide +kernel
theorem dX11_choose_8 : decode cX11_choose 8 = .ok (.iload_n 1, 1) := by decide +kernel
theorem dX11_choose_9 : decode cX11_choose 9 = .ok (.invokevirtual 354, 3) := by decide +kernel
theorem dX11_choose_12 : decode cX11_choose 12 = .ok (.aload_n 0, 1) := by decide +kernel
theorem dX11_choose_13 : decode cX11_choose 13 = .ok (.getfield 67, 3) := by decide +kernel
theorem dX11_choose_16 : decode cX11_choose 16 = .ok (.iconst 0, 1) := by decide +kernel
theorem dX11_choose_17 : decode cX11_choose 17 = .ok (.putfield 357, 3) := by decide +kernel
theorem dX11_choose_20 : decode cX11_choose 20 = .ok (.aload_n 0, 1) := by decide +kernel
theorem dX11_choose_21 : decode cX11_choose 21 = .ok (.getfield 74, 3) := by decide +kernel
theorem dX11_choose_24 : decode cX11_choose 24 = .ok (.iconst 0, 1) := by decide +kernel
theorem dX11_choose_25 : decode cX11_choose 25 = .ok (.putfield 315, 3) := by decide +kernel
theorem dX11_choose_28 : decode cX11_choose 28 = .ok (.return_, 1) := by decide +kernel
theorem dX11_divisors_0 : decode cX11_divisors 0 = .ok (.iconst 0, 1) := by decide +kernel
theorem dX11_divisors_1 : decode cX11_divisors 1 = .ok (.istore_n 1, 1) := by decide +kernel
theorem dX11_divisors_2 : decode cX11_divisors 2 = .ok (.iconst 1, 1) := by decide +kernel
theorem dX11_divisors_3 : decode cX11_divisors 3 = .ok (.istore_n 2, 1) := by decide +kernel
theorem dX11_divisors_4 : decode cX11_divisors 4 = .ok (.iload_n 2, 1) := by decide +kernel
theorem dX11_divisors_5 : decode cX11_divisors 5 = .ok (.iload_n 0, 1) := by decide +kernel
theorem dX11_divisors_6 : decode cX11_divisors 6 = .ok (.if_icmp .gt 25, 3) := by decide +kernel
theorem dX11_divisors_9 : decode cX11_divisors 9 = .ok (.iload_n 1, 1) := by decide +kernel
theorem dX11_divisors_10 : decode cX11_divisors 10 = .ok (.iload_n 0, 1) := by decide +kernel
theorem dX11_divisors_11 : decode cX11_divisors 11 = .ok (.iload_n 2, 1) := by decide +kernel
theorem dX11_divisors_12 : decode cX11_divisors 12 = .ok (.invokestatic 238, 3) := by decide +kernel
theorem dX11_divisors_15 : decode cX11_divisors 15 = .ok (.ifCond .ne 7, 3) := by decide +kernel
theorem dX11_divisors_18 : decode cX11_divisors 18 = .ok (.iconst 1, 1) := by decide +kernel
theorem dX11_divisors_19 : decode cX11_divisors 19 = .ok (.goto 4, 3) := by decide +kernel
theorem dX11_divisors_22 : decode cX11_divisors 22 = .ok (.iconst 0, 1) := by decide +kernel
theorem dX11_divisors_23 : decode cX11_divisors 23 = .ok (.iadd, 1) := by decide +kernel
theorem dX11_divisors_24 : decode cX11_divisors 24 = .ok (.istore_n 1, 1) := by decide +kernel
theorem dX11_divisors_25 : decode cX11_divisors 25 = .ok (.iinc 2 1, 3) := by decide +kernel
theorem dX11_divisors_28 : decode cX11_divisors 28 = .ok (.goto (-24), 3) := by decide +kernel
theorem dX11_divisors_31 : decode cX11_divisors 31 = .ok (.iload_n 1, 1) := by decide +kernel
theorem dX11_divisors_32 : decode cX11_divisors 32 = .ok (.ireturn, 1) := by decide +kernel
theorem dJ9_max_7cf53_0 : decode cJ9_max_7cf53 0 = .ok (.iload_n 0, 1) := by decide +kernel
theorem dJ9_max_7cf53_1 : decode cJ9_max_7cf53 1 = .ok (.iload_n 1, 1) := by decide +kernel
theorem dJ9_max_7cf53_2 : decode cJ9_max_7cf53 2 = .ok (.if_icmp .lt 7, 3) := by decide +kernel
theorem dJ9_max_7cf53_5 : decode cJ9_max_7cf53 5 = .ok (.iload_n 0, 1) := by decide +kernel
theorem dJ9_max_7cf53_6 : decode cJ9_max_7cf53 6 = .ok (.goto 4, 3) := by decide +kernel
theorem dJ9_max_7cf53_9 : decode cJ9_max_7cf53 9 = .ok (.iload_n 1, 1) := by decide +kernel
theorem dJ9_max_7cf53_10 : decode cJ9_max_7cf53 10 = .ok (.ireturn, 1) := by decide +kernel
theorem dJ9_min_7cf53_0 : decode cJ9_min_7cf53 0 = .ok (.iload_n 0, 1) := by decide +kernel
theorem dJ9_min_7cf53_1 : decode cJ9_min_7cf53 1 = .ok (.iload_n 1, 1) := by decide +kernel
theorem dJ9_min_7cf53_2 : decode cJ9_min_7cf53 2 = .ok (.if_icmp .gt 7, 3) := by decide +kernel
theorem dJ9_min_7cf53_5 : decode cJ9_min_7cf53 5 = .ok (.iload_n 0, 1) := by decide +kernel
theorem dJ9_min_7cf53_6 : decode cJ9_min_7cf53 6 = .ok (.goto 4, 3) := by decide +kernel
theorem dJ9_min_7cf53_9 : decode cJ9_min_7cf53 9 = .ok (.iload_n 1, 1) := by decide +kernel
theorem dJ9_min_7cf53_10 : decode cJ9_min_7cf53 10 = .ok (.ireturn, 1) := by decide +kernel
theorem dJ7_fill_53178_0 : decode cJ7_fill_53178 0 = .ok (.iconst 0, 1) := by decide +kernel
theorem dJ7_fill_53178_1 : decode cJ7_fill_53178 1 = .ok (.istore_n 2, 1) := by decide +kernel
theorem dJ7_fill_53178_2 : decode cJ7_fill_53178 2 = .ok (.aload_n 0, 1) := by decide +kernel
theorem dJ7_fill_53178_3 : decode cJ7_fill_53178 3 = .ok (.arraylength, 1) := by decide +kernel
theorem dJ7_fill_53178_4 : decode cJ7_fill_53178 4 = .ok (.istore_n 3, 1) := by decide +kernel
theorem dJ7_fill_53178_5 : decode cJ7_fill_53178 5 = .ok (.iload_n 2, 1) := by decide +kernel
theorem dJ7_fill_53178_6 : decode cJ7_fill_53178 6 = .ok (.iload_n 3, 1) := by decide +kernel
theorem dJ7_fill_53178_7 : decode cJ7_fill_53178 7 = .ok (.if_icmp .ge 13, 3) := by decide +kernel
theorem dJ7_fill_53178_10 : decode cJ7_fill_53178 10 = .ok (.aload_n 0, 1) := by decide +kernel
theorem dJ7_fill_53178_11 : decode cJ7_fill_53178 11 = .ok (.iload_n 2, 1) := by decide +kernel
theorem dJ7_fill_53178_12 : decode cJ7_fill_53178 12 = .ok (.iload_n 1, 1) := by decide +kernel
theorem dJ7_fill_53178_13 : decode cJ7_fill_53178 13 = .ok (.iastore, 1) := by decide +kernel
theorem dJ7_fill_53178_14 : decode cJ7_fill_53178 14 = .ok (.iinc 2 1, 3) := by decide +kernel
theorem dJ7_fill_53178_17 : decode cJ7_fill_53178 17 = .ok (.goto (-12), 3) := by decide +kernel
theorem dJ7_fill_53178_20 : decode cJ7_fill_53178 20 = .ok (.return_, 1) := by decide +kernel
theorem dL_cell_0 : decode cL_cell 0 = .ok (.iload_n 1, 1) := by decide +kernel
theorem dL_cell_1 : decode cL_cell 1 = .ok (.aload_n 0, 1) := by decide +kernel
theorem dL_cell_2 : decode cL_cell 2 = .ok (.arraylength, 1) := by decide +kernel
theorem dL_cell_3 : decode cL_cell 3 = .ok (.if_icmp .ge 12, 3) := by decide +kernel
theorem dL_cell_6 : decode cL_cell 6 = .ok (.aload_n 0, 1) := by decide +kernel
theorem dL_cell_7 : decode cL_cell 7 = .ok (.iload_n 1, 1) := by decide +kernel
theorem dL_cell_8 : decode cL_cell 8 = .ok (.iaload, 1) := by decide +kernel
theorem dL_cell_9 : decode cL_cell 9 = .ok (.ldc 7, 2) := by decide +kernel
theorem dL_cell_11 : decode cL_cell 11 = .ok (.iand, 1) := by decide +kernel
theorem dL_cell_12 : decode cL_cell 12 = .ok (.goto 4, 3) := by decide +kernel
theorem dL_cell_15 : decode cL_cell 15 = .ok (.iconst 0, 1) := by decide +kernel
theorem dL_cell_16 : decode cL_cell 16 = .ok (.ireturn, 1) := by decide +kernel
theorem dL_rings_0 : decode cL_rings 0 = .ok (.bipush 36, 2) := by decide +kernel
theorem dL_rings_2 : decode cL_rings 2 = .ok (.newarray .int, 2) := by decide +kernel
theorem dL_rings_4 : decode cL_rings 4 = .ok (.dup, 1) := by decide +kernel
theorem dL_rings_5 : decode cL_rings 5 = .ok (.iconst 0, 1) := by decide +kernel
theorem dL_rings_6 : decode cL_rings 6 = .ok (.iconst 2, 1) := by decide +kernel
theorem dL_rings_7 : decode cL_rings 7 = .ok (.iastore, 1) := by decide +kernel
theorem dL_rings_8 : decode cL_rings 8 = .ok (.dup, 1) := by decide +kernel
theorem dL_rings_9 : decode cL_rings 9 = .ok (.iconst 1, 1) := by decide +kernel
theorem dL_rings_10 : decode cL_rings 10 = .ok (.iconst 2, 1) := by decide +kernel
theorem dL_rings_11 : decode cL_rings 11 = .ok (.iastore, 1) := by decide +kernel
theorem dL_rings_12 : decode cL_rings 12 = .ok (.dup, 1) := by decide +kernel
theorem dL_rings_13 : decode cL_rings 13 = .ok (.iconst 2, 1) := by decide +kernel
theorem dL_rings_14 : decode cL_rings 14 = .ok (.iconst 2, 1) := by decide +kernel
theorem dL_rings_15 : decode cL_rings 15 = .ok (.iastore, 1) := by decide +kernel
theorem dL_rings_16 : decode cL_rings 16 = .ok (.dup, 1) := by decide +kernel
theorem dL_rings_17 : decode cL_rings 17 = .ok (.iconst 3, 1) := by decide +kernel
theorem dL_rings_18 : decode cL_rings 18 = .ok (.iconst 2, 1) := by decide +kernel
theorem dL_rings_19 : decode cL_rings 19 = .ok (.iastore, 1) := by decide +kernel
theorem dL_rings_20 : decode cL_rings 20 = .ok (.dup, 1) := by decide +kernel
theorem dL_rings_21 : decode cL_rings 21 = .ok (.iconst 4, 1) := by decide +kernel
theorem dL_rings_22 : decode cL_rings 22 = .ok (.iconst 3, 1) := by decide +kernel
theorem dL_rings_23 : decode cL_rings 23 = .ok (.iastore, 1) := by decide +kernel
theorem dL_rings_24 : decode cL_rings 24 = .ok (.dup, 1) := by decide +kernel
theorem dL_rings_25 : decode cL_rings 25 = .ok (.iconst 5, 1) := by decide +kernel
theorem dL_rings_26 : decode cL_rings 26 = .ok (.iconst 2, 1) := by decide +kernel
theorem dL_rings_27 : decode cL_rings 27 = .ok (.iastore, 1) := by decide +kernel
theorem dL_rings_28 : decode cL_rings 28 = .ok (.dup, 1) := by decide +kernel
theorem dL_rings_29 : decode cL_rings 29 = .ok (.bipush 6, 2) := by decide +kernel
theorem dL_rings_31 : decode cL_rings 31 = .ok (.iconst 3, 1) := by decide +kernel
theorem dL_rings_32 : decode cL_rings 32 = .ok (.iastore, 1) := by decide +kernel
theorem dL_rings_33 : decode cL_rings 33 = .ok (.dup, 1) := by decide +kernel
theorem dL_rings_34 : decode cL_rings 34 = .ok (.bipush 7, 2) := by decide +kernel
theorem dL_rings_36 : decode cL_rings 36 = .ok (.iconst 2, 1) := by decide +kernel
theorem dL_rings_37 : decode cL_rings 37 = .ok (.iastore, 1) := by decide +kernel
theorem dL_rings_38 : decode cL_rings 38 = .ok (.dup, 1) := by decide +kernel
theorem dL_rings_39 : decode cL_rings 39 = .ok (.bipush 8, 2) := by decide +kernel
theorem dL_rings_41 : decode cL_rings 41 = .ok (.iconst 2, 1) := by decide +kernel
theorem dL_rings_42 : decode cL_rings 42 = .ok (.iastore, 1) := by decide +kernel
theorem dL_rings_43 : decode cL_rings 43 = .ok (.dup, 1) := by decide +kernel
theorem dL_rings_44 : decode cL_rings 44 = .ok (.bipush 9, 2) := by decide +kernel
theorem dL_rings_46 : decode cL_rings 46 = .ok (.iconst 2, 1) := by decide +kernel
theorem dL_rings_47 : decode cL_rings 47 = .ok (.iastore, 1) := by decide +kernel
theorem dL_rings_48 : decode cL_rings 48 = .ok (.dup, 1) := by decide +kernel
theorem dL_rings_49 : decode cL_rings 49 = .ok (.bipush 10, 2) := by decide +kernel
theorem dL_rings_51 : decode cL_rings 51 = .ok (.iconst 2, 1) := by decide +kernel
theorem dL_rings_52 : decode cL_rings 52 = .ok (.iastore, 1) := by decide +kernel
theorem dL_rings_53 : decode cL_rings 53 = .ok (.dup, 1) := by decide +kernel
theorem dL_rings_54 : decode cL_rings 54 = .ok (.bipush 11, 2) := by decide +kernel
theorem dL_rings_56 : decode cL_rings 56 = .ok (.iconst 3, 1) := by decide +kernel
theorem dL_rings_57 : decode cL_rings 57 = .ok (.iastore, 1) := by decide +kernel
theorem dL_rings_58 : decode cL_rings 58 = .ok (.dup, 1) := by decide +kernel
theorem dL_rings_59 : decode cL_rings 59 = .ok (.bipush 12, 2) := by decide +kernel
theorem dL_rings_61 : decode cL_rings 61 = .ok (.iconst 5, 1) := by decide +kernel
theorem dL_rings_62 : decode cL_rings 62 = .ok (.iastore, 1) := by decide +kernel
theorem dL_rings_63 : decode cL_rings 63 = .ok (.dup, 1) := by decide +kernel
theorem dL_rings_64 : decode cL_rings 64 = .ok (.bipush 13, 2) := by decide +kernel
theorem dL_rings_66 : decode cL_rings 66 = .ok (.iconst 2, 1) := by decide +kernel
theorem dL_rings_67 : decode cL_rings 67 = .ok (.iastore, 1) := by decide +kernel
theorem dL_rings_68 : decode cL_rings 68 = .ok (.dup, 1) := by decide +kernel
theorem dL_rings_69 : decode cL_rings 69 = .ok (.bipush 14, 2) := by decide +kernel
theorem dL_rings_71 : decode cL_rings 71 = .ok (.iconst 1, 1) := by decide +kernel
theorem dL_rings_72 : decode cL_rings 72 = .ok (.iastore, 1) := by decide +kernel
theorem dL_rings_73 : decode cL_rings 73 = .ok (.dup, 1) := by decide +kernel
theorem dL_rings_74 : decode cL_rings 74 = .ok (.bipush 15, 2) := by decide +kernel
theorem dL_rings_76 : decode cL_rings 76 = .ok (.bipush 7, 2) := by decide +kernel
theorem dL_rings_78 : decode cL_rings 78 = .ok (.iastore, 1) := by decide +kernel
theorem dL_rings_79 : decode cL_rings 79 = .ok (.dup, 1) := by decide +kernel
theorem dL_rings_80 : decode cL_rings 80 = .ok (.bipush 16, 2) := by decide +kernel
theorem dL_rings_82 : decode cL_rings 82 = .ok (.iconst 1, 1) := by decide +kernel
theorem dL_rings_83 : decode cL_rings 83 = .ok (.iastore, 1) := by decide +kernel
theorem dL_rings_84 : decode cL_rings 84 = .ok (.dup, 1) := by decide +kernel
theorem dL_rings_85 : decode cL_rings 85 = .ok (.bipush 17, 2) := by decide +kernel
theorem dL_rings_87 : decode cL_rings 87 = .ok (.iconst 2, 1) := by decide +kernel
theorem dL_rings_88 : decode cL_rings 88 = .ok (.iastore, 1) := by decide +kernel
theorem dL_rings_89 : decode cL_rings 89 = .ok (.dup, 1) := by decide +kernel
theorem dL_rings_90 : decode cL_rings 90 = .ok (.bipush 18, 2) := by decide +kernel
theorem dL_rings_92 : decode cL_rings 92 = .ok (.iconst 3, 1) := by decide +kernel
theorem dL_rings_93 : decode cL_rings 93 = .ok (.iastore, 1) := by decide +kernel
theorem dL_rings_94 : decode cL_rings 94 = .ok (.dup, 1) := by decide +kernel
theorem dL_rings_95 : decode cL_rings 95 = .ok (.bipush 19, 2) := by decide +kernel
theorem dL_rings_97 : decode cL_rings 97 = .ok (.iconst 3, 1) := by decide +kernel
theorem dL_rings_98 : decode cL_rings 98 = .ok (.iastore, 1) := by decide +kernel
theorem dL_rings_99 : decode cL_rings 99 = .ok (.dup, 1) := by decide +kernel
theorem dL_rings_100 : decode cL_rings 100 = .ok (.bipush 20, 2) := by decide +kernel
theorem dL_rings_102 : decode cL_rings 102 = .ok (.iconst 1, 1) := by decide +kernel
theorem dL_rings_103 : decode cL_rings 103 = .ok (.iastore, 1) := by decide +kernel
theorem dL_rings_104 : decode cL_rings 104 = .ok (.dup, 1) := by decide +kernel
theorem dL_rings_105 : decode cL_rings 105 = .ok (.bipush 21, 2) := by decide +kernel
theorem dL_rings_107 : decode cL_rings 107 = .ok (.iconst 2, 1) := by decide +kernel
theorem dL_rings_108 : decode cL_rings 108 = .ok (.iastore, 1) := by decide +kernel
theorem dL_rings_109 : decode cL_rings 109 = .ok (.dup, 1) := by decide +kernel
theorem dL_rings_110 : decode cL_rings 110 = .ok (.bipush 22, 2) := by decide +kernel
theorem dL_rings_112 : decode cL_rings 112 = .ok (.iconst 1, 1) := by decide +kernel
theorem dL_rings_113 : decode cL_rings 113 = .ok (.iastore, 1) := by decide +kernel
theorem dL_rings_114 : decode cL_rings 114 = .ok (.dup, 1) := by decide +kernel
theorem dL_rings_115 : decode cL_rings 115 = .ok (.bipush 23, 2) := by decide +kernel
theorem dL_rings_117 : decode cL_rings 117 = .ok (.iconst 4, 1) := by decide +kernel
theorem dL_rings_118 : decode cL_rings 118 = .ok (.iastore, 1) := by decide +kernel
theorem dL_rings_119 : decode cL_rings 119 = .ok (.dup, 1) := by decide +kernel
theorem dL_rings_120 : decode cL_rings 120 = .ok (.bipush 24, 2) := by decide +kernel
theorem dL_rings_122 : decode cL_rings 122 = .ok (.iconst 2, 1) := by decide +kernel
theorem dL_rings_123 : decode cL_rings 123 = .ok (.iastore, 1) := by decide +kernel
theorem dL_rings_124 : decode cL_rings 124 = .ok (.dup, 1) := by decide +kernel
theorem dL_rings_125 : decode cL_rings 125 = .ok (.bipush 25, 2) := by decide +kernel
theorem dL_rings_127 : decode cL_rings 127 = .ok (.iconst 4, 1) := by decide +kernel
theorem dL_rings_128 : decode cL_rings 128 = .ok (.iastore, 1) := by decide +kernel
theorem dL_rings_129 : decode cL_rings 129 = .ok (.dup, 1) := by decide +kernel
theorem dL_rings_130 : decode cL_rings 130 = .ok (.bipush 26, 2) := by decide +kernel
theorem dL_rings_132 : decode cL_rings 132 = .ok (.iconst 1, 1) := by decide +kernel
theorem dL_rings_133 : decode cL_rings 133 = .ok (.iastore, 1) := by decide +kernel
theorem dL_rings_134 : decode cL_rings 134 = .ok (.dup, 1) := by decide +kernel
theorem dL_rings_135 : decode cL_rings 135 = .ok (.bipush 27, 2) := by decide +kernel
theorem dL_rings_137 : decode cL_rings 137 = .ok (.iconst 3, 1) := by decide +kernel
theorem dL_rings_138 : decode cL_rings 138 = .ok (.iastore, 1) := by decide +kernel
theorem dL_rings_139 : decode cL_rings 139 = .ok (.dup, 1) := by decide +kernel
theorem dL_rings_140 : decode cL_rings 140 = .ok (.bipush 28, 2) := by decide +kernel
theorem dL_rings_142 : decode cL_rings 142 = .ok (.iconst 1, 1) := by decide +kernel
theorem dL_rings_143 : decode cL_rings 143 = .ok (.iastore, 1) := by decide +kernel
theorem dL_rings_144 : decode cL_rings 144 = .ok (.dup, 1) := by decide +kernel
theorem dL_rings_145 : decode cL_rings 145 = .ok (.bipush 29, 2) := by decide +kernel
theorem dL_rings_147 : decode cL_rings 147 = .ok (.iconst 3, 1) := by decide +kernel
theorem dL_rings_148 : decode cL_rings 148 = .ok (.iastore, 1) := by decide +kernel
theorem dL_rings_149 : decode cL_rings 149 = .ok (.dup, 1) := by decide +kernel
theorem dL_rings_150 : decode cL_rings 150 = .ok (.bipush 30, 2) := by decide +kernel
theorem dL_rings_152 : decode cL_rings 152 = .ok (.iconst 2, 1) := by decide +kernel
theorem dL_rings_153 : decode cL_rings 153 = .ok (.iastore, 1) := by decide +kernel
theorem dL_rings_154 : decode cL_rings 154 = .ok (.dup, 1) := by decide +kernel
theorem dL_rings_155 : decode cL_rings 155 = .ok (.bipush 31, 2) := by decide +kernel
theorem dL_rings_157 : decode cL_rings 157 = .ok (.iconst 1, 1) := by decide +kernel
theorem dL_rings_158 : decode cL_rings 158 = .ok (.iastore, 1) := by decide +kernel
theorem dL_rings_159 : decode cL_rings 159 = .ok (.dup, 1) := by decide +kernel
theorem dL_rings_160 : decode cL_rings 160 = .ok (.bipush 32, 2) := by decide +kernel
theorem dL_rings_162 : decode cL_rings 162 = .ok (.bipush 6, 2) := by decide +kernel
theorem dL_rings_164 : decode cL_rings 164 = .ok (.iastore, 1) := by decide +kernel
theorem dL_rings_165 : decode cL_rings 165 = .ok (.dup, 1) := by decide +kernel
theorem dL_rings_166 : decode cL_rings 166 = .ok (.bipush 33, 2) := by decide +kernel
theorem dL_rings_168 : decode cL_rings 168 = .ok (.iconst 5, 1) := by decide +kernel
theorem dL_rings_169 : decode cL_rings 169 = .ok (.iastore, 1) := by decide +kernel
theorem dL_rings_170 : decode cL_rings 170 = .ok (.dup, 1) := by decide +kernel
theorem dL_rings_171 : decode cL_rings 171 = .ok (.bipush 34, 2) := by decide +kernel
theorem dL_rings_173 : decode cL_rings 173 = .ok (.iconst 1, 1) := by decide +kernel
theorem dL_rings_174 : decode cL_rings 174 = .ok (.iastore, 1) := by decide +kernel
theorem dL_rings_175 : decode cL_rings 175 = .ok (.dup, 1) := by decide +kernel
theorem dL_rings_176 : decode cL_rings 176 = .ok (.bipush 35, 2) := by decide +kernel
theorem dL_rings_178 : decode cL_rings 178 = .ok (.iconst 2, 1) := by decide +kernel
theorem dL_rings_179 : decode cL_rings 179 = .ok (.iastore, 1) := by decide +kernel
theorem dL_rings_180 : decode cL_rings 180 = .ok (.astore_n 2, 1) := by decide +kernel
theorem dL_rings_181 : decode cL_rings 181 = .ok (.iload_n 1, 1) := by decide +kernel
theorem dL_rings_182 : decode cL_rings 182 = .ok (.bipush 12, 2) := by decide +kernel
theorem dL_rings_184 : decode cL_rings 184 = .ok (.irem, 1) := by decide +kernel
theorem dL_rings_185 : decode cL_rings 185 = .ok (.istore_n 3, 1) := by decide +kernel
theorem dL_rings_186 : decode cL_rings 186 = .ok (.aload_n 0, 1) := by decide +kernel
theorem dL_rings_187 : decode cL_rings 187 = .ok (.aload_n 2, 1) := by decide +kernel
theorem dL_rings_188 : decode cL_rings 188 = .ok (.iconst 3, 1) := by decide +kernel
theorem dL_rings_189 : decode cL_rings 189 = .ok (.iload_n 3, 1) := by decide +kernel
theorem dL_rings_190 : decode cL_rings 190 = .ok (.imul, 1) := by decide +kernel
theorem dL_rings_191 : decode cL_rings 191 = .ok (.iaload, 1) := by decide +kernel
theorem dL_rings_192 : decode cL_rings 192 = .ok (.aload_n 2, 1) := by decide +kernel
theorem dL_rings_193 : decode cL_rings 193 = .ok (.iconst 3, 1) := by decide +kernel
theorem dL_rings_194 : decode cL_rings 194 = .ok (.iload_n 3, 1) := by decide +kernel
theorem dL_rings_195 : decode cL_rings 195 = .ok (.imul, 1) := by decide +kernel
theorem dL_rings_196 : decode cL_rings 196 = .ok (.iconst 1, 1) := by decide +kernel
theorem dL_rings_197 : decode cL_rings 197 = .ok (.iadd, 1) := by decide +kernel
theorem dL_rings_198 : decode cL_rings 198 = .ok (.iaload, 1) := by decide +kernel
theorem dL_rings_199 : decode cL_rings 199 = .ok (.aload_n 2, 1) := by decide +kernel
theorem dL_rings_200 : decode cL_rings 200 = .ok (.iconst 3, 1) := by decide +kernel
theorem dL_rings_201 : decode cL_rings 201 = .ok (.iload_n 3, 1) := by decide +kernel
theorem dL_rings_202 : decode cL_rings 202 = .ok (.imul, 1) := by decide +kernel
theorem dL_rings_203 : decode cL_rings 203 = .ok (.iconst 2, 1) := by decide +kernel
theorem dL_rings_204 : decode cL_rings 204 = .ok (.iadd, 1) := by decide +kernel
theorem dL_rings_205 : decode cL_rings 205 = .ok (.iaload, 1) := by decide +kernel
theorem dL_rings_206 : decode cL_rings 206 = .ok (.invokevirtual 8, 3) := by decide +kernel
theorem dL_rings_209 : decode cL_rings 209 = .ok (.ireturn, 1) := by decide +kernel
theorem dL_length_0 : decode cL_length 0 = .ok (.aload_n 0, 1) := by decide +kernel
theorem dL_length_1 : decode cL_length 1 = .ok (.iconst 4, 1) := by decide +kernel
theorem dL_length_2 : decode cL_length 2 = .ok (.invokevirtual 14, 3) := by decide +kernel
theorem dL_length_5 : decode cL_length 5 = .ok (.iconst 1, 1) := by decide +kernel
theorem dL_length_6 : decode cL_length 6 = .ok (.isub, 1) := by decide +kernel
theorem dL_length_7 : decode cL_length 7 = .ok (.istore_n 2, 1) := by decide +kernel
theorem dL_length_8 : decode cL_length 8 = .ok (.iconst 1, 1) := by decide +kernel
theorem dL_length_9 : decode cL_length 9 = .ok (.iload_n 1, 1) := by decide +kernel
theorem dL_length_10 : decode cL_length 10 = .ok (.bipush 63, 2) := by decide +kernel
theorem dL_length_12 : decode cL_length 12 = .ok (.iload_n 2, 1) := by decide +kernel
theorem dL_length_13 : decode cL_length 13 = .ok (.invokestatic 18, 3) := by decide +kernel
theorem dL_length_16 : decode cL_length 16 = .ok (.irem, 1) := by decide +kernel
theorem dL_length_17 : decode cL_length 17 = .ok (.iadd, 1) := by decide +kernel
theorem dL_length_18 : decode cL_length 18 = .ok (.istore_n 3, 1) := by decide +kernel
theorem dL_length_19 : decode cL_length 19 = .ok (.iload_n 2, 1) := by decide +kernel
theorem dL_length_20 : decode cL_length 20 = .ok (.iload_n 3, 1) := by decide +kernel
theorem dL_length_21 : decode cL_length 21 = .ok (.irem, 1) := by decide +kernel
theorem dL_length_22 : decode cL_length 22 = .ok (.ifCond .eq 9, 3) := by decide +kernel
theorem dL_length_25 : decode cL_length 25 = .ok (.iinc 3 (-1), 3) := by decide +kernel
theorem dL_length_28 : decode cL_length 28 = .ok (.goto (-9), 3) := by decide +kernel
theorem dL_length_31 : decode cL_length 31 = .ok (.iload_n 3, 1) := by decide +kernel
theorem dL_length_32 : decode cL_length 32 = .ok (.ireturn, 1) := by decide +kernel
theorem dL_law_0 : decode cL_law 0 = .ok (.new 9, 3) := by decide +kernel
theorem dL_law_3 : decode cL_law 3 = .ok (.dup, 1) := by decide +kernel
theorem dL_law_4 : decode cL_law 4 = .ok (.invokespecial 28, 3) := by decide +kernel
theorem dL_law_7 : decode cL_law 7 = .ok (.astore_n 1, 1) := by decide +kernel
theorem dL_law_8 : decode cL_law 8 = .ok (.aload_n 1, 1) := by decide +kernel
theorem dL_law_9 : decode cL_law 9 = .ok (.aload_n 0, 1) := by decide +kernel
theorem dL_law_10 : decode cL_law 10 = .ok (.iconst 0, 1) := by decide +kernel
theorem dL_law_11 : decode cL_law 11 = .ok (.invokestatic 29, 3) := by decide +kernel
theorem dL_law_14 : decode cL_law 14 = .ok (.invokestatic 35, 3) := by decide +kernel
theorem dL_law_17 : decode cL_law 17 = .ok (.istore_n 2, 1) := by decide +kernel
theorem dL_law_18 : decode cL_law 18 = .ok (.aload_n 1, 1) := by decide +kernel
theorem dL_law_19 : decode cL_law 19 = .ok (.iconst 2, 1) := by decide +kernel
theorem dL_law_20 : decode cL_law 20 = .ok (.invokevirtual 14, 3) := by decide +kernel
theorem dL_law_23 : decode cL_law 23 = .ok (.istore_n 3, 1) := by decide +kernel
theorem dL_law_24 : decode cL_law 24 = .ok (.aload_n 1, 1) := by decide +kernel
theorem dL_law_25 : decode cL_law 25 = .ok (.iconst 1, 1) := by decide +kernel
theorem dL_law_26 : decode cL_law 26 = .ok (.invokevirtual 14, 3) := by decide +kernel
theorem dL_law_29 : decode cL_law 29 = .ok (.istore 4, 2) := by decide +kernel
theorem dL_law_31 : decode cL_law 31 = .ok (.aload_n 1, 1) := by decide +kernel
theorem dL_law_32 : decode cL_law 32 = .ok (.iconst 3, 1) := by decide +kernel
theorem dL_law_33 : decode cL_law 33 = .ok (.invokevirtual 14, 3) := by decide +kernel
theorem dL_law_36 : decode cL_law 36 = .ok (.istore 5, 2) := by decide +kernel
theorem dL_law_38 : decode cL_law 38 = .ok (.aload_n 0, 1) := by decide +kernel
theorem dL_law_39 : decode cL_law 39 = .ok (.iconst 1, 1) := by decide +kernel
theorem dL_law_40 : decode cL_law 40 = .ok (.invokestatic 29, 3) := by decide +kernel
theorem dL_law_43 : decode cL_law 43 = .ok (.iload_n 2, 1) := by decide +kernel
theorem dL_law_44 : decode cL_law 44 = .ok (.irem, 1) := by decide +kernel
theorem dL_law_45 : decode cL_law 45 = .ok (.istore 6, 2) := by decide +kernel
theorem dL_law_47 : decode cL_law 47 = .ok (.aload_n 0, 1) := by decide +kernel
theorem dL_law_48 : decode cL_law 48 = .ok (.iconst 2, 1) := by decide +kernel
theorem dL_law_49 : decode cL_law 49 = .ok (.invokestatic 29, 3) := by decide +kernel
theorem dL_law_52 : decode cL_law 52 = .ok (.iload_n 2, 1) := by decide +kernel
theorem dL_law_53 : decode cL_law 53 = .ok (.irem, 1) := by decide +kernel
theorem dL_law_54 : decode cL_law 54 = .ok (.istore 7, 2) := by decide +kernel
theorem dL_law_56 : decode cL_law 56 = .ok (.iconst 4, 1) := by decide +kernel
theorem dL_law_57 : decode cL_law 57 = .ok (.newarray .int, 2) := by decide +kernel
theorem dL_law_59 : decode cL_law 59 = .ok (.dup, 1) := by decide +kernel
theorem dL_law_60 : decode cL_law 60 = .ok (.iconst 0, 1) := by decide +kernel
theorem dL_law_61 : decode cL_law 61 = .ok (.iconst (-1), 1) := by decide +kernel
theorem dL_law_62 : decode cL_law 62 = .ok (.iastore, 1) := by decide +kernel
theorem dL_law_63 : decode cL_law 63 = .ok (.dup, 1) := by decide +kernel
theorem dL_law_64 : decode cL_law 64 = .ok (.iconst 1, 1) := by decide +kernel
theorem dL_law_65 : decode cL_law 65 = .ok (.iconst (-1), 1) := by decide +kernel
theorem dL_law_66 : decode cL_law 66 = .ok (.iastore, 1) := by decide +kernel
theorem dL_law_67 : decode cL_law 67 = .ok (.dup, 1) := by decide +kernel
theorem dL_law_68 : decode cL_law 68 = .ok (.iconst 2, 1) := by decide +kernel
theorem dL_law_69 : decode cL_law 69 = .ok (.iconst (-1), 1) := by decide +kernel
theorem dL_law_70 : decode cL_law 70 = .ok (.iastore, 1) := by decide +kernel
theorem dL_law_71 : decode cL_law 71 = .ok (.dup, 1) := by decide +kernel
theorem dL_law_72 : decode cL_law 72 = .ok (.iconst 3, 1) := by decide +kernel
theorem dL_law_73 : decode cL_law 73 = .ok (.iconst (-1), 1) := by decide +kernel
theorem dL_law_74 : decode cL_law 74 = .ok (.iastore, 1) := by decide +kernel
theorem dL_law_75 : decode cL_law 75 = .ok (.astore 8, 2) := by decide +kernel
theorem dL_law_77 : decode cL_law 77 = .ok (.iconst 0, 1) := by decide +kernel
theorem dL_law_78 : decode cL_law 78 = .ok (.istore 9, 2) := by decide +kernel
theorem dL_law_80 : decode cL_law 80 = .ok (.iload 9, 2) := by decide +kernel
theorem dL_law_82 : decode cL_law 82 = .ok (.iload 4, 2) := by decide +kernel
theorem dL_law_84 : decode cL_law 84 = .ok (.if_icmp .ge 22, 3) := by decide +kernel
theorem dL_law_87 : decode cL_law 87 = .ok (.aload 8, 2) := by decide +kernel
theorem dL_law_89 : decode cL_law 89 = .ok (.iload 9, 2) := by decide +kernel
theorem dL_law_91 : decode cL_law 91 = .ok (.aload_n 1, 1) := by decide +kernel
theorem dL_law_92 : decode cL_law 92 = .ok (.iload 6, 2) := by decide +kernel
theorem dL_law_94 : decode cL_law 94 = .ok (.iload 9, 2) := by decide +kernel
theorem dL_law_96 : decode cL_law 96 = .ok (.invokevirtual 39, 3) := by decide +kernel
theorem dL_law_99 : decode cL_law 99 = .ok (.iastore, 1) := by decide +kernel
theorem dL_law_100 : decode cL_law 100 = .ok (.iinc 9 1, 3) := by decide +kernel
theorem dL_law_103 : decode cL_law 103 = .ok (.goto (-23), 3) := by decide +kernel
theorem dL_law_106 : decode cL_law 106 = .ok (.aload_n 1, 1) := by decide +kernel
theorem dL_law_107 : decode cL_law 107 = .ok (.aload 8, 2) := by decide +kernel
theorem dL_law_109 : decode cL_law 109 = .ok (.iconst 0, 1) := by decide +kernel
theorem dL_law_110 : decode cL_law 110 = .ok (.iaload, 1) := by decide +kernel
theorem dL_law_111 : decode cL_law 111 = .ok (.aload 8, 2) := by decide +kernel
theorem dL_law_113 : decode cL_law 113 = .ok (.iconst 1, 1) := by decide +kernel
theorem dL_law_114 : decode cL_law 114 = .ok (.iaload, 1) := by decide +kernel
theorem dL_law_115 : decode cL_law 115 = .ok (.aload 8, 2) := by decide +kernel
theorem dL_law_117 : decode cL_law 117 = .ok (.iconst 2, 1) := by decide +kernel
theorem dL_law_118 : decode cL_law 118 = .ok (.iaload, 1) := by decide +kernel
theorem dL_law_119 : decode cL_law 119 = .ok (.aload 8, 2) := by decide +kernel
theorem dL_law_121 : decode cL_law 121 = .ok (.iconst 3, 1) := by decide +kernel
theorem dL_law_122 : decode cL_law 122 = .ok (.iaload, 1) := by decide +kernel
theorem dL_law_123 : decode cL_law 123 = .ok (.invokevirtual 42, 3) := by decide +kernel
theorem dL_law_126 : decode cL_law 126 = .ok (.iload 6, 2) := by decide +kernel
theorem dL_law_128 : decode cL_law 128 = .ok (.if_icmp .eq 5, 3) := by decide +kernel
theorem dL_law_131 : decode cL_law 131 = .ok (.iconst 0, 1) := by decide +kernel
theorem dL_law_132 : decode cL_law 132 = .ok (.ireturn, 1) := by decide +kernel
theorem dL_law_133 : decode cL_law 133 = .ok (.iconst 0, 1) := by decide +kernel
theorem dL_law_134 : decode cL_law 134 = .ok (.istore 9, 2) := by decide +kernel
theorem dL_law_136 : decode cL_law 136 = .ok (.iload 9, 2) := by decide +kernel
theorem dL_law_138 : decode cL_law 138 = .ok (.iload 4, 2) := by decide +kernel
theorem dL_law_140 : decode cL_law 140 = .ok (.if_icmp .ge 18, 3) := by decide +kernel
theorem dL_law_143 : decode cL_law 143 = .ok (.aload 8, 2) := by decide +kernel
theorem dL_law_145 : decode cL_law 145 = .ok (.iload 9, 2) := by decide +kernel
theorem dL_law_147 : decode cL_law 147 = .ok (.iaload, 1) := by decide +kernel
theorem dL_law_148 : decode cL_law 148 = .ok (.iconst (-1), 1) := by decide +kernel
theorem dL_law_149 : decode cL_law 149 = .ok (.if_icmp .ne 9, 3) := by decide +kernel
theorem dL_law_152 : decode cL_law 152 = .ok (.iinc 9 1, 3) := by decide +kernel
theorem dL_law_155 : decode cL_law 155 = .ok (.goto (-19), 3) := by decide +kernel
theorem dL_law_158 : decode cL_law 158 = .ok (.iload 9, 2) := by decide +kernel
theorem dL_law_160 : decode cL_law 160 = .ok (.aload_n 1, 1) := by decide +kernel
theorem dL_law_161 : decode cL_law 161 = .ok (.iload 6, 2) := by decide +kernel
theorem dL_law_163 : decode cL_law 163 = .ok (.iconst 0, 1) := by decide +kernel
theorem dL_law_164 : decode cL_law 164 = .ok (.invokevirtual 46, 3) := by decide +kernel
theorem dL_law_167 : decode cL_law 167 = .ok (.if_icmp .eq 5, 3) := by decide +kernel
theorem dL_law_170 : decode cL_law 170 = .ok (.iconst 0, 1) := by decide +kernel
theorem dL_law_171 : decode cL_law 171 = .ok (.ireturn, 1) := by decide +kernel
theorem dL_law_172 : decode cL_law 172 = .ok (.aload_n 1, 1) := by decide +kernel
theorem dL_law_173 : decode cL_law 173 = .ok (.iload 6, 2) := by decide +kernel
theorem dL_law_175 : decode cL_law 175 = .ok (.iconst 1, 1) := by decide +kernel
theorem dL_law_176 : decode cL_law 176 = .ok (.invokevirtual 46, 3) := by decide +kernel
theorem dL_law_179 : decode cL_law 179 = .ok (.istore 10, 2) := by decide +kernel
theorem dL_law_181 : decode cL_law 181 = .ok (.aload_n 1, 1) := by decide +kernel
theorem dL_law_182 : decode cL_law 182 = .ok (.iload 10, 2) := by decide +kernel
theorem dL_law_184 : decode cL_law 184 = .ok (.iconst 1, 1) := by decide +kernel
theorem dL_law_185 : decode cL_law 185 = .ok (.invokevirtual 46, 3) := by decide +kernel
theorem dL_law_188 : decode cL_law 188 = .ok (.iload 10, 2) := by decide +kernel
theorem dL_law_190 : decode cL_law 190 = .ok (.if_icmp .ne 29, 3) := by decide +kernel
theorem dL_law_193 : decode cL_law 193 = .ok (.aload 8, 2) := by decide +kernel
theorem dL_law_195 : decode cL_law 195 = .ok (.iconst 0, 1) := by decide +kernel
theorem dL_law_196 : decode cL_law 196 = .ok (.iaload, 1) := by decide +kernel
theorem dL_law_197 : decode cL_law 197 = .ok (.iconst (-1), 1) := by decide +kernel
theorem dL_law_198 : decode cL_law 198 = .ok (.if_icmp .ne 7, 3) := by decide +kernel
theorem dL_law_201 : decode cL_law 201 = .ok (.iconst 1, 1) := by decide +kernel
theorem dL_law_202 : decode cL_law 202 = .ok (.goto 4, 3) := by decide +kernel
theorem dL_law_205 : decode cL_law 205 = .ok (.iconst 0, 1) := by decide +kernel
theorem dL_law_206 : decode cL_law 206 = .ok (.iload 10, 2) := by decide +kernel
theorem dL_law_208 : decode cL_law 208 = .ok (.ifCond .ne 7, 3) := by decide +kernel
theorem dL_law_211 : decode cL_law 211 = .ok (.iconst 1, 1) := by decide +kernel
theorem dL_law_212 : decode cL_law 212 = .ok (.goto 4, 3) := by decide +kernel
theorem dL_law_215 : decode cL_law 215 = .ok (.iconst 0, 1) := by decide +kernel
theorem dL_law_216 : decode cL_law 216 = .ok (.if_icmp .eq 5, 3) := by decide +kernel
theorem dL_law_219 : decode cL_law 219 = .ok (.iconst 0, 1) := by decide +kernel
theorem dL_law_220 : decode cL_law 220 = .ok (.ireturn, 1) := by decide +kernel
theorem dL_law_221 : decode cL_law 221 = .ok (.aload_n 1, 1) := by decide +kernel
theorem dL_law_222 : decode cL_law 222 = .ok (.iload 6, 2) := by decide +kernel
theorem dL_law_224 : decode cL_law 224 = .ok (.iconst 0, 1) := by decide +kernel
theorem dL_law_225 : decode cL_law 225 = .ok (.invokevirtual 46, 3) := by decide +kernel
theorem dL_law_228 : decode cL_law 228 = .ok (.ifCond .ne 107, 3) := by decide +kernel
theorem dL_law_231 : decode cL_law 231 = .ok (.aload_n 1, 1) := by decide +kernel
theorem dL_law_232 : decode cL_law 232 = .ok (.iload 6, 2) := by decide +kernel
theorem dL_law_234 : decode cL_law 234 = .ok (.bipush 6, 2) := by decide +kernel
theorem dL_law_236 : decode cL_law 236 = .ok (.invokevirtual 46, 3) := by decide +kernel
theorem dL_law_239 : decode cL_law 239 = .ok (.istore 11, 2) := by decide +kernel
theorem dL_law_241 : decode cL_law 241 = .ok (.aload_n 1, 1) := by decide +kernel
theorem dL_law_242 : decode cL_law 242 = .ok (.iconst 2, 1) := by decide +kernel
theorem dL_law_243 : decode cL_law 243 = .ok (.iload 10, 2) := by decide +kernel
theorem dL_law_245 : decode cL_law 245 = .ok (.iload 11, 2) := by decide +kernel
theorem dL_law_247 : decode cL_law 247 = .ok (.invokevirtual 49, 3) := by decide +kernel
theorem dL_law_250 : decode cL_law 250 = .ok (.iload 6, 2) := by decide +kernel
theorem dL_law_252 : decode cL_law 252 = .ok (.if_icmp .ne 14, 3) := by decide +kernel
theorem dL_law_255 : decode cL_law 255 = .ok (.aload_n 1, 1) := by decide +kernel
theorem dL_law_256 : decode cL_law 256 = .ok (.iload 11, 2) := by decide +kernel
theorem dL_law_258 : decode cL_law 258 = .ok (.iconst 1, 1) := by decide +kernel
theorem dL_law_259 : decode cL_law 259 = .ok (.invokevirtual 46, 3) := by decide +kernel
theorem dL_law_262 : decode cL_law 262 = .ok (.iconst 1, 1) := by decide +kernel
theorem dL_law_263 : decode cL_law 263 = .ok (.if_icmp .eq 5, 3) := by decide +kernel
theorem dL_law_266 : decode cL_law 266 = .ok (.iconst 0, 1) := by decide +kernel
theorem dL_law_267 : decode cL_law 267 = .ok (.ireturn, 1) := by decide +kernel
theorem dL_law_268 : decode cL_law 268 = .ok (.aload_n 1, 1) := by decide +kernel
theorem dL_law_269 : decode cL_law 269 = .ok (.iload 6, 2) := by decide +kernel
theorem dL_law_271 : decode cL_law 271 = .ok (.bipush 8, 2) := by decide +kernel
theorem dL_law_273 : decode cL_law 273 = .ok (.invokevirtual 46, 3) := by decide +kernel
theorem dL_law_276 : decode cL_law 276 = .ok (.istore 12, 2) := by decide +kernel
theorem dL_law_278 : decode cL_law 278 = .ok (.aload_n 1, 1) := by decide +kernel
theorem dL_law_279 : decode cL_law 279 = .ok (.iconst 2, 1) := by decide +kernel
theorem dL_law_280 : decode cL_law 280 = .ok (.iload 6, 2) := by decide +kernel
theorem dL_law_282 : decode cL_law 282 = .ok (.iload 12, 2) := by decide +kernel
theorem dL_law_284 : decode cL_law 284 = .ok (.invokevirtual 49, 3) := by decide +kernel
theorem dL_law_287 : decode cL_law 287 = .ok (.iconst 1, 1) := by decide +kernel
theorem dL_law_288 : decode cL_law 288 = .ok (.if_icmp .ne 42, 3) := by decide +kernel
theorem dL_law_291 : decode cL_law 291 = .ok (.aload_n 1, 1) := by decide +kernel
theorem dL_law_292 : decode cL_law 292 = .ok (.iconst 3, 1) := by decide +kernel
theorem dL_law_293 : decode cL_law 293 = .ok (.iload 7, 2) := by decide +kernel
theorem dL_law_295 : decode cL_law 295 = .ok (.iload 6, 2) := by decide +kernel
theorem dL_law_297 : decode cL_law 297 = .ok (.invokevirtual 49, 3) := by decide +kernel
theorem dL_law_300 : decode cL_law 300 = .ok (.aload_n 1, 1) := by decide +kernel
theorem dL_law_301 : decode cL_law 301 = .ok (.iconst 2, 1) := by decide +kernel
theorem dL_law_302 : decode cL_law 302 = .ok (.iload 7, 2) := by decide +kernel
theorem dL_law_304 : decode cL_law 304 = .ok (.iload 12, 2) := by decide +kernel
theorem dL_law_306 : decode cL_law 306 = .ok (.invokevirtual 49, 3) := by decide +kernel
theorem dL_law_309 : decode cL_law 309 = .ok (.if_icmp .ne 21, 3) := by decide +kernel
theorem dL_law_312 : decode cL_law 312 = .ok (.aload_n 1, 1) := by decide +kernel
theorem dL_law_313 : decode cL_law 313 = .ok (.bipush 12, 2) := by decide +kernel
theorem dL_law_315 : decode cL_law 315 = .ok (.invokevirtual 14, 3) := by decide +kernel
theorem dL_law_318 : decode cL_law 318 = .ok (.aload_n 1, 1) := by decide +kernel
theorem dL_law_319 : decode cL_law 319 = .ok (.iload 6, 2) := by decide +kernel
theorem dL_law_321 : decode cL_law 321 = .ok (.bipush 7, 2) := by decide +kernel
theorem dL_law_323 : decode cL_law 323 = .ok (.invokevirtual 46, 3) := by decide +kernel
theorem dL_law_326 : decode cL_law 326 = .ok (.irem, 1) := by decide +kernel
theorem dL_law_327 : decode cL_law 327 = .ok (.ifCond .eq 5, 3) := by decide +kernel
theorem dL_law_330 : decode cL_law 330 = .ok (.iconst 0, 1) := by decide +kernel
theorem dL_law_331 : decode cL_law 331 = .ok (.ireturn, 1) := by decide +kernel
theorem dL_law_332 : decode cL_law 332 = .ok (.goto 41, 3) := by decide +kernel
theorem dL_law_335 : decode cL_law 335 = .ok (.aload_n 1, 1) := by decide +kernel
theorem dL_law_336 : decode cL_law 336 = .ok (.iload 6, 2) := by decide +kernel
theorem dL_law_338 : decode cL_law 338 = .ok (.bipush 6, 2) := by decide +kernel
theorem dL_law_340 : decode cL_law 340 = .ok (.invokevirtual 46, 3) := by decide +kernel
theorem dL_law_343 : decode cL_law 343 = .ok (.iconst (-1), 1) := by decide +kernel
theorem dL_law_344 : decode cL_law 344 = .ok (.if_icmp .ne 27, 3) := by decide +kernel
theorem dL_law_347 : decode cL_law 347 = .ok (.aload_n 1, 1) := by decide +kernel
theorem dL_law_348 : decode cL_law 348 = .ok (.iload 6, 2) := by decide +kernel
theorem dL_law_350 : decode cL_law 350 = .ok (.bipush 7, 2) := by decide +kernel
theorem dL_law_352 : decode cL_law 352 = .ok (.invokevirtual 46, 3) := by decide +kernel
theorem dL_law_355 : decode cL_law 355 = .ok (.iconst (-1), 1) := by decide +kernel
theorem dL_law_356 : decode cL_law 356 = .ok (.if_icmp .ne 15, 3) := by decide +kernel
theorem dL_law_359 : decode cL_law 359 = .ok (.aload_n 1, 1) := by decide +kernel
theorem dL_law_360 : decode cL_law 360 = .ok (.iload 6, 2) := by decide +kernel
theorem dL_law_362 : decode cL_law 362 = .ok (.bipush 8, 2) := by decide +kernel
theorem dL_law_364 : decode cL_law 364 = .ok (.invokevirtual 46, 3) := by decide +kernel
theorem dL_law_367 : decode cL_law 367 = .ok (.iconst (-1), 1) := by decide +kernel
theorem dL_law_368 : decode cL_law 368 = .ok (.if_icmp .eq 5, 3) := by decide +kernel
theorem dL_law_371 : decode cL_law 371 = .ok (.iconst 0, 1) := by decide +kernel
theorem dL_law_372 : decode cL_law 372 = .ok (.ireturn, 1) := by decide +kernel
theorem dL_law_373 : decode cL_law 373 = .ok (.aload_n 1, 1) := by decide +kernel
theorem dL_law_374 : decode cL_law 374 = .ok (.iconst 0, 1) := by decide +kernel
theorem dL_law_375 : decode cL_law 375 = .ok (.iload 6, 2) := by decide +kernel
theorem dL_law_377 : decode cL_law 377 = .ok (.iload 7, 2) := by decide +kernel
theorem dL_law_379 : decode cL_law 379 = .ok (.invokevirtual 49, 3) := by decide +kernel
theorem dL_law_382 : decode cL_law 382 = .ok (.istore 11, 2) := by decide +kernel
theorem dL_law_384 : decode cL_law 384 = .ok (.aload_n 1, 1) := by decide +kernel
theorem dL_law_385 : decode cL_law 385 = .ok (.iconst 2, 1) := by decide +kernel
theorem dL_law_386 : decode cL_law 386 = .ok (.iload 6, 2) := by decide +kernel
theorem dL_law_388 : decode cL_law 388 = .ok (.iload 7, 2) := by decide +kernel
theorem dL_law_390 : decode cL_law 390 = .ok (.invokevirtual 49, 3) := by decide +kernel
theorem dL_law_393 : decode cL_law 393 = .ok (.istore 12, 2) := by decide +kernel
theorem dL_law_395 : decode cL_law 395 = .ok (.aload_n 1, 1) := by decide +kernel
theorem dL_law_396 : decode cL_law 396 = .ok (.iload 11, 2) := by decide +kernel
theorem dL_law_398 : decode cL_law 398 = .ok (.iconst 2, 1) := by decide +kernel
theorem dL_law_399 : decode cL_law 399 = .ok (.invokevirtual 46, 3) := by decide +kernel
theorem dL_law_402 : decode cL_law 402 = .ok (.aload_n 1, 1) := by decide +kernel
theorem dL_law_403 : decode cL_law 403 = .ok (.iconst 0, 1) := by decide +kernel
theorem dL_law_404 : decode cL_law 404 = .ok (.aload_n 1, 1) := by decide +kernel
theorem dL_law_405 : decode cL_law 405 = .ok (.iload 6, 2) := by decide +kernel
theorem dL_law_407 : decode cL_law 407 = .ok (.iconst 2, 1) := by decide +kernel
theorem dL_law_408 : decode cL_law 408 = .ok (.invokevirtual 46, 3) := by decide +kernel
theorem dL_law_411 : decode cL_law 411 = .ok (.aload_n 1, 1) := by decide +kernel
theorem dL_law_412 : decode cL_law 412 = .ok (.iload 7, 2) := by decide +kernel
theorem dL_law_414 : decode cL_law 414 = .ok (.iconst 2, 1) := by decide +kernel
theorem dL_law_415 : decode cL_law 415 = .ok (.invokevirtual 46, 3) := by decide +kernel
theorem dL_law_418 : decode cL_law 418 = .ok (.invokevirtual 49, 3) := by decide +kernel
theorem dL_law_421 : decode cL_law 421 = .ok (.if_icmp .ne 32, 3) := by decide +kernel
theorem dL_law_424 : decode cL_law 424 = .ok (.aload_n 1, 1) := by decide +kernel
theorem dL_law_425 : decode cL_law 425 = .ok (.iload 12, 2) := by decide +kernel
theorem dL_law_427 : decode cL_law 427 = .ok (.iconst 2, 1) := by decide +kernel
theorem dL_law_428 : decode cL_law 428 = .ok (.invokevirtual 46, 3) := by decide +kernel
theorem dL_law_431 : decode cL_law 431 = .ok (.aload_n 1, 1) := by decide +kernel
theorem dL_law_432 : decode cL_law 432 = .ok (.iconst 2, 1) := by decide +kernel
theorem dL_law_433 : decode cL_law 433 = .ok (.aload_n 1, 1) := by decide +kernel
theorem dL_law_434 : decode cL_law 434 = .ok (.iload 6, 2) := by decide +kernel
theorem dL_law_436 : decode cL_law 436 = .ok (.iconst 2, 1) := by decide +kernel
theorem dL_law_437 : decode cL_law 437 = .ok (.invokevirtual 46, 3) := by decide +kernel
theorem dL_law_440 : decode cL_law 440 = .ok (.aload_n 1, 1) := by decide +kernel
theorem dL_law_441 : decode cL_law 441 = .ok (.iload 7, 2) := by decide +kernel
theorem dL_law_443 : decode cL_law 443 = .ok (.iconst 2, 1) := by decide +kernel
theorem dL_law_444 : decode cL_law 444 = .ok (.invokevirtual 46, 3) := by decide +kernel
theorem dL_law_447 : decode cL_law 447 = .ok (.invokevirtual 49, 3) := by decide +kernel
theorem dL_law_450 : decode cL_law 450 = .ok (.if_icmp .eq 5, 3) := by decide +kernel
theorem dL_law_453 : decode cL_law 453 = .ok (.iconst 0, 1) := by decide +kernel
theorem dL_law_454 : decode cL_law 454 = .ok (.ireturn, 1) := by decide +kernel
theorem dL_law_455 : decode cL_law 455 = .ok (.aload_n 1, 1) := by decide +kernel
theorem dL_law_456 : decode cL_law 456 = .ok (.iload 6, 2) := by decide +kernel
theorem dL_law_458 : decode cL_law 458 = .ok (.iconst 3, 1) := by decide +kernel
theorem dL_law_459 : decode cL_law 459 = .ok (.invokevirtual 46, 3) := by decide +kernel
theorem dL_law_462 : decode cL_law 462 = .ok (.iload 5, 2) := by decide +kernel
theorem dL_law_464 : decode cL_law 464 = .ok (.if_icmp .ge 71, 3) := by decide +kernel
theorem dL_law_467 : decode cL_law 467 = .ok (.aload_n 1, 1) := by decide +kernel
theorem dL_law_468 : decode cL_law 468 = .ok (.iload 6, 2) := by decide +kernel
theorem dL_law_470 : decode cL_law 470 = .ok (.iconst 4, 1) := by decide +kernel
theorem dL_law_471 : decode cL_law 471 = .ok (.invokevirtual 46, 3) := by decide +kernel
theorem dL_law_474 : decode cL_law 474 = .ok (.iload 5, 2) := by decide +kernel
theorem dL_law_476 : decode cL_law 476 = .ok (.if_icmp .ge 59, 3) := by decide +kernel
theorem dL_law_479 : decode cL_law 479 = .ok (.aload_n 1, 1) := by decide +kernel
theorem dL_law_480 : decode cL_law 480 = .ok (.iload 11, 2) := by decide +kernel
theorem dL_law_482 : decode cL_law 482 = .ok (.iconst 3, 1) := by decide +kernel
theorem dL_law_483 : decode cL_law 483 = .ok (.invokevirtual 46, 3) := by decide +kernel
theorem dL_law_486 : decode cL_law 486 = .ok (.aload_n 1, 1) := by decide +kernel
theorem dL_law_487 : decode cL_law 487 = .ok (.iload 6, 2) := by decide +kernel
theorem dL_law_489 : decode cL_law 489 = .ok (.iconst 3, 1) := by decide +kernel
theorem dL_law_490 : decode cL_law 490 = .ok (.invokevirtual 46, 3) := by decide +kernel
theorem dL_law_493 : decode cL_law 493 = .ok (.aload_n 1, 1) := by decide +kernel
theorem dL_law_494 : decode cL_law 494 = .ok (.iload 7, 2) := by decide +kernel
theorem dL_law_496 : decode cL_law 496 = .ok (.iconst 3, 1) := by decide +kernel
theorem dL_law_497 : decode cL_law 497 = .ok (.invokevirtual 46, 3) := by decide +kernel
theorem dL_law_500 : decode cL_law 500 = .ok (.iadd, 1) := by decide +kernel
theorem dL_law_501 : decode cL_law 501 = .ok (.iload 5, 2) := by decide +kernel
theorem dL_law_503 : decode cL_law 503 = .ok (.irem, 1) := by decide +kernel
theorem dL_law_504 : decode cL_law 504 = .ok (.if_icmp .ne 31, 3) := by decide +kernel
theorem dL_law_507 : decode cL_law 507 = .ok (.aload_n 1, 1) := by decide +kernel
theorem dL_law_508 : decode cL_law 508 = .ok (.iload 12, 2) := by decide +kernel
theorem dL_law_510 : decode cL_law 510 = .ok (.iconst 4, 1) := by decide +kernel
theorem dL_law_511 : decode cL_law 511 = .ok (.invokevirtual 46, 3) := by decide +kernel
theorem dL_law_514 : decode cL_law 514 = .ok (.aload_n 1, 1) := by decide +kernel
theorem dL_law_515 : decode cL_law 515 = .ok (.iload 6, 2) := by decide +kernel
theorem dL_law_517 : decode cL_law 517 = .ok (.iconst 4, 1) := by decide +kernel
theorem dL_law_518 : decode cL_law 518 = .ok (.invokevirtual 46, 3) := by decide +kernel
theorem dL_law_521 : decode cL_law 521 = .ok (.aload_n 1, 1) := by decide +kernel
theorem dL_law_522 : decode cL_law 522 = .ok (.iload 7, 2) := by decide +kernel
theorem dL_law_524 : decode cL_law 524 = .ok (.iconst 4, 1) := by decide +kernel
theorem dL_law_525 : decode cL_law 525 = .ok (.invokevirtual 46, 3) := by decide +kernel
theorem dL_law_528 : decode cL_law 528 = .ok (.imul, 1) := by decide +kernel
theorem dL_law_529 : decode cL_law 529 = .ok (.iload 5, 2) := by decide +kernel
theorem dL_law_531 : decode cL_law 531 = .ok (.irem, 1) := by decide +kernel
theorem dL_law_532 : decode cL_law 532 = .ok (.if_icmp .eq 5, 3) := by decide +kernel
theorem dL_law_535 : decode cL_law 535 = .ok (.iconst 0, 1) := by decide +kernel
theorem dL_law_536 : decode cL_law 536 = .ok (.ireturn, 1) := by decide +kernel
theorem dL_law_537 : decode cL_law 537 = .ok (.iload 6, 2) := by decide +kernel
theorem dL_law_539 : decode cL_law 539 = .ok (.istore 13, 2) := by decide +kernel
theorem dL_law_541 : decode cL_law 541 = .ok (.iconst 0, 1) := by decide +kernel
theorem dL_law_542 : decode cL_law 542 = .ok (.istore 14, 2) := by decide +kernel
theorem dL_law_544 : decode cL_law 544 = .ok (.iload 14, 2) := by decide +kernel
theorem dL_law_546 : decode cL_law 546 = .ok (.iload_n 3, 1) := by decide +kernel
theorem dL_law_547 : decode cL_law 547 = .ok (.if_icmp .ge 18, 3) := by decide +kernel
theorem dL_law_550 : decode cL_law 550 = .ok (.aload_n 1, 1) := by decide +kernel
theorem dL_law_551 : decode cL_law 551 = .ok (.iload 13, 2) := by decide +kernel
theorem dL_law_553 : decode cL_law 553 = .ok (.iconst 2, 1) := by decide +kernel
theorem dL_law_554 : decode cL_law 554 = .ok (.invokevirtual 46, 3) := by decide +kernel
theorem dL_law_557 : decode cL_law 557 = .ok (.istore 13, 2) := by decide +kernel
theorem dL_law_559 : decode cL_law 559 = .ok (.iinc 14 1, 3) := by decide +kernel
theorem dL_law_562 : decode cL_law 562 = .ok (.goto (-18), 3) := by decide +kernel
theorem dL_law_565 : decode cL_law 565 = .ok (.iload 13, 2) := by decide +kernel
theorem dL_law_567 : decode cL_law 567 = .ok (.iload 6, 2) := by decide +kernel
theorem dL_law_569 : decode cL_law 569 = .ok (.if_icmp .eq 5, 3) := by decide +kernel
theorem dL_law_572 : decode cL_law 572 = .ok (.iconst 0, 1) := by decide +kernel
theorem dL_law_573 : decode cL_law 573 = .ok (.ireturn, 1) := by decide +kernel
theorem dL_law_574 : decode cL_law 574 = .ok (.aload_n 0, 1) := by decide +kernel
theorem dL_law_575 : decode cL_law 575 = .ok (.iconst 3, 1) := by decide +kernel
theorem dL_law_576 : decode cL_law 576 = .ok (.invokestatic 29, 3) := by decide +kernel
theorem dL_law_579 : decode cL_law 579 = .ok (.iconst 1, 1) := by decide +kernel
theorem dL_law_580 : decode cL_law 580 = .ok (.aload_n 1, 1) := by decide +kernel
theorem dL_law_581 : decode cL_law 581 = .ok (.iconst 4, 1) := by decide +kernel
theorem dL_law_582 : decode cL_law 582 = .ok (.invokevirtual 14, 3) := by decide +kernel
theorem dL_law_585 : decode cL_law 585 = .ok (.iconst 1, 1) := by decide +kernel
theorem dL_law_586 : decode cL_law 586 = .ok (.isub, 1) := by decide +kernel
theorem dL_law_587 : decode cL_law 587 = .ok (.invokestatic 52, 3) := by decide +kernel
theorem dL_law_590 : decode cL_law 590 = .ok (.irem, 1) := by decide +kernel
theorem dL_law_591 : decode cL_law 591 = .ok (.istore 14, 2) := by decide +kernel
theorem dL_law_593 : decode cL_law 593 = .ok (.iconst 4, 1) := by decide +kernel
theorem dL_law_594 : decode cL_law 594 = .ok (.newarray .int, 2) := by decide +kernel
theorem dL_law_596 : decode cL_law 596 = .ok (.dup, 1) := by decide +kernel
theorem dL_law_597 : decode cL_law 597 = .ok (.iconst 0, 1) := by decide +kernel
theorem dL_law_598 : decode cL_law 598 = .ok (.iload 14, 2) := by decide +kernel
theorem dL_law_600 : decode cL_law 600 = .ok (.iastore, 1) := by decide +kernel
theorem dL_law_601 : decode cL_law 601 = .ok (.dup, 1) := by decide +kernel
theorem dL_law_602 : decode cL_law 602 = .ok (.iconst 1, 1) := by decide +kernel
theorem dL_law_603 : decode cL_law 603 = .ok (.iconst (-1), 1) := by decide +kernel
theorem dL_law_604 : decode cL_law 604 = .ok (.iastore, 1) := by decide +kernel
theorem dL_law_605 : decode cL_law 605 = .ok (.dup, 1) := by decide +kernel
theorem dL_law_606 : decode cL_law 606 = .ok (.iconst 2, 1) := by decide +kernel
theorem dL_law_607 : decode cL_law 607 = .ok (.iconst (-1), 1) := by decide +kernel
theorem dL_law_608 : decode cL_law 608 = .ok (.iastore, 1) := by decide +kernel
theorem dL_law_609 : decode cL_law 609 = .ok (.dup, 1) := by decide +kernel
theorem dL_law_610 : decode cL_law 610 = .ok (.iconst 3, 1) := by decide +kernel
theorem dL_law_611 : decode cL_law 611 = .ok (.iconst (-1), 1) := by decide +kernel
theorem dL_law_612 : decode cL_law 612 = .ok (.iastore, 1) := by decide +kernel
theorem dL_law_613 : decode cL_law 613 = .ok (.astore 15, 2) := by decide +kernel
theorem dL_law_615 : decode cL_law 615 = .ok (.aload_n 1, 1) := by decide +kernel
theorem dL_law_616 : decode cL_law 616 = .ok (.iconst 0, 1) := by decide +kernel
theorem dL_law_617 : decode cL_law 617 = .ok (.iconst 1, 1) := by decide +kernel
theorem dL_law_618 : decode cL_law 618 = .ok (.aload_n 1, 1) := by decide +kernel
theorem dL_law_619 : decode cL_law 619 = .ok (.aload 15, 2) := by decide +kernel
theorem dL_law_621 : decode cL_law 621 = .ok (.iconst 0, 1) := by decide +kernel
theorem dL_law_622 : decode cL_law 622 = .ok (.iaload, 1) := by decide +kernel
theorem dL_law_623 : decode cL_law 623 = .ok (.aload 15, 2) := by decide +kernel
theorem dL_law_625 : decode cL_law 625 = .ok (.iconst 1, 1) := by decide +kernel
theorem dL_law_626 : decode cL_law 626 = .ok (.iaload, 1) := by decide +kernel
theorem dL_law_627 : decode cL_law 627 = .ok (.aload 15, 2) := by decide +kernel
theorem dL_law_629 : decode cL_law 629 = .ok (.iconst 2, 1) := by decide +kernel
theorem dL_law_630 : decode cL_law 630 = .ok (.iaload, 1) := by decide +kernel
theorem dL_law_631 : decode cL_law 631 = .ok (.aload 15, 2) := by decide +kernel
theorem dL_law_633 : decode cL_law 633 = .ok (.iconst 3, 1) := by decide +kernel
theorem dL_law_634 : decode cL_law 634 = .ok (.iaload, 1) := by decide +kernel
theorem dL_law_635 : decode cL_law 635 = .ok (.invokevirtual 42, 3) := by decide +kernel
theorem dL_law_638 : decode cL_law 638 = .ok (.invokevirtual 49, 3) := by decide +kernel
theorem dL_law_641 : decode cL_law 641 = .ok (.istore 16, 2) := by decide +kernel
theorem dL_law_643 : decode cL_law 643 = .ok (.iconst 0, 1) := by decide +kernel
theorem dL_law_644 : decode cL_law 644 = .ok (.istore 17, 2) := by decide +kernel
theorem dL_law_646 : decode cL_law 646 = .ok (.iload 17, 2) := by decide +kernel
theorem dL_law_648 : decode cL_law 648 = .ok (.iload 4, 2) := by decide +kernel
theorem dL_law_650 : decode cL_law 650 = .ok (.if_icmp .ge 30, 3) := by decide +kernel
theorem dL_law_653 : decode cL_law 653 = .ok (.aload_n 1, 1) := by decide +kernel
theorem dL_law_654 : decode cL_law 654 = .ok (.iload 14, 2) := by decide +kernel
theorem dL_law_656 : decode cL_law 656 = .ok (.iload 17, 2) := by decide +kernel
theorem dL_law_658 : decode cL_law 658 = .ok (.invokevirtual 55, 3) := by decide +kernel
theorem dL_law_661 : decode cL_law 661 = .ok (.aload_n 1, 1) := by decide +kernel
theorem dL_law_662 : decode cL_law 662 = .ok (.iload 16, 2) := by decide +kernel
theorem dL_law_664 : decode cL_law 664 = .ok (.iload 17, 2) := by decide +kernel
theorem dL_law_666 : decode cL_law 666 = .ok (.invokevirtual 39, 3) := by decide +kernel
theorem dL_law_669 : decode cL_law 669 = .ok (.if_icmp .eq 5, 3) := by decide +kernel
theorem dL_law_672 : decode cL_law 672 = .ok (.iconst 0, 1) := by decide +kernel
theorem dL_law_673 : decode cL_law 673 = .ok (.ireturn, 1) := by decide +kernel
theorem dL_law_674 : decode cL_law 674 = .ok (.iinc 17 1, 3) := by decide +kernel
theorem dL_law_677 : decode cL_law 677 = .ok (.goto (-31), 3) := by decide +kernel
theorem dL_law_680 : decode cL_law 680 = .ok (.aload_n 1, 1) := by decide +kernel
theorem dL_law_681 : decode cL_law 681 = .ok (.aload_n 0, 1) := by decide +kernel
theorem dL_law_682 : decode cL_law 682 = .ok (.iconst 4, 1) := by decide +kernel
theorem dL_law_683 : decode cL_law 683 = .ok (.invokestatic 29, 3) := by decide +kernel
theorem dL_law_686 : decode cL_law 686 = .ok (.invokestatic 58, 3) := by decide +kernel
theorem dL_law_689 : decode cL_law 689 = .ok (.istore 17, 2) := by decide +kernel
theorem dL_law_691 : decode cL_law 691 = .ok (.aload_n 1, 1) := by decide +kernel
theorem dL_law_692 : decode cL_law 692 = .ok (.iload 17, 2) := by decide +kernel
theorem dL_law_694 : decode cL_law 694 = .ok (.iconst (-1), 1) := by decide +kernel
theorem dL_law_695 : decode cL_law 695 = .ok (.iconst 0, 1) := by decide +kernel
theorem dL_law_696 : decode cL_law 696 = .ok (.invokevirtual 61, 3) := by decide +kernel
theorem dL_law_699 : decode cL_law 699 = .ok (.istore 18, 2) := by decide +kernel
theorem dL_law_701 : decode cL_law 701 = .ok (.aload_n 0, 1) := by decide +kernel
theorem dL_law_702 : decode cL_law 702 = .ok (.iconst 5, 1) := by decide +kernel
theorem dL_law_703 : decode cL_law 703 = .ok (.invokestatic 29, 3) := by decide +kernel
theorem dL_law_706 : decode cL_law 706 = .ok (.iconst 1, 1) := by decide +kernel
theorem dL_law_707 : decode cL_law 707 = .ok (.iload 18, 2) := by decide +kernel
theorem dL_law_709 : decode cL_law 709 = .ok (.bipush 20, 2) := by decide +kernel
theorem dL_law_711 : decode cL_law 711 = .ok (.invokestatic 18, 3) := by decide +kernel
theorem dL_law_714 : decode cL_law 714 = .ok (.ishl, 1) := by decide +kernel
theorem dL_law_715 : decode cL_law 715 = .ok (.irem, 1) := by decide +kernel
theorem dL_law_716 : decode cL_law 716 = .ok (.istore 19, 2) := by decide +kernel
theorem dL_law_718 : decode cL_law 718 = .ok (.aload_n 1, 1) := by decide +kernel
theorem dL_law_719 : decode cL_law 719 = .ok (.iload 17, 2) := by decide +kernel
theorem dL_law_721 : decode cL_law 721 = .ok (.iload 19, 2) := by decide +kernel
theorem dL_law_723 : decode cL_law 723 = .ok (.invokevirtual 64, 3) := by decide +kernel
theorem dL_law_726 : decode cL_law 726 = .ok (.istore 20, 2) := by decide +kernel
theorem dL_law_728 : decode cL_law 728 = .ok (.aload_n 1, 1) := by decide +kernel
theorem dL_law_729 : decode cL_law 729 = .ok (.iconst 0, 1) := by decide +kernel
theorem dL_law_730 : decode cL_law 730 = .ok (.iconst (-1), 1) := by decide +kernel
theorem dL_law_731 : decode cL_law 731 = .ok (.invokevirtual 67, 3) := by decide +kernel
theorem dL_law_734 : decode cL_law 734 = .ok (.istore 21, 2) := by decide +kernel
theorem dL_law_736 : decode cL_law 736 = .ok (.aload_n 1, 1) := by decide +kernel
theorem dL_law_737 : decode cL_law 737 = .ok (.iconst 1, 1) := by decide +kernel
theorem dL_law_738 : decode cL_law 738 = .ok (.iconst (-1), 1) := by decide +kernel
theorem dL_law_739 : decode cL_law 739 = .ok (.invokevirtual 67, 3) := by decide +kernel
theorem dL_law_742 : decode cL_law 742 = .ok (.istore 22, 2) := by decide +kernel
theorem dL_law_744 : decode cL_law 744 = .ok (.iload 20, 2) := by decide +kernel
theorem dL_law_746 : decode cL_law 746 = .ok (.iload 17, 2) := by decide +kernel
theorem dL_law_748 : decode cL_law 748 = .ok (.iload 21, 2) := by decide +kernel
theorem dL_law_750 : decode cL_law 750 = .ok (.isub, 1) := by decide +kernel
theorem dL_law_751 : decode cL_law 751 = .ok (.if_icmp .ne 13, 3) := by decide +kernel
theorem dL_law_754 : decode cL_law 754 = .ok (.iload 21, 2) := by decide +kernel
theorem dL_law_756 : decode cL_law 756 = .ok (.iload 22, 2) := by decide +kernel
theorem dL_law_758 : decode cL_law 758 = .ok (.iadd, 1) := by decide +kernel
theorem dL_law_759 : decode cL_law 759 = .ok (.iload 17, 2) := by decide +kernel
theorem dL_law_761 : decode cL_law 761 = .ok (.if_icmp .eq 5, 3) := by decide +kernel
theorem dL_law_764 : decode cL_law 764 = .ok (.iconst 0, 1) := by decide +kernel
theorem dL_law_765 : decode cL_law 765 = .ok (.ireturn, 1) := by decide +kernel
theorem dL_law_766 : decode cL_law 766 = .ok (.iconst 0, 1) := by decide +kernel
theorem dL_law_767 : decode cL_law 767 = .ok (.istore 23, 2) := by decide +kernel
theorem dL_law_769 : decode cL_law 769 = .ok (.iload 23, 2) := by decide +kernel
theorem dL_law_771 : decode cL_law 771 = .ok (.iload 17, 2) := by decide +kernel
theorem dL_law_773 : decode cL_law 773 = .ok (.if_icmp .gt 101, 3) := by decide +kernel
theorem dL_law_776 : decode cL_law 776 = .ok (.iconst 0, 1) := by decide +kernel
theorem dL_law_777 : decode cL_law 777 = .ok (.istore 24, 2) := by decide +kernel
theorem dL_law_779 : decode cL_law 779 = .ok (.iconst 0, 1) := by decide +kernel
theorem dL_law_780 : decode cL_law 780 = .ok (.iload 23, 2) := by decide +kernel
theorem dL_law_782 : decode cL_law 782 = .ok (.iload 22, 2) := by decide +kernel
theorem dL_law_784 : decode cL_law 784 = .ok (.isub, 1) := by decide +kernel
theorem dL_law_785 : decode cL_law 785 = .ok (.invokestatic 52, 3) := by decide +kernel
theorem dL_law_788 : decode cL_law 788 = .ok (.istore 25, 2) := by decide +kernel
theorem dL_law_790 : decode cL_law 790 = .ok (.iload 25, 2) := by decide +kernel
theorem dL_law_792 : decode cL_law 792 = .ok (.iload 23, 2) := by decide +kernel
theorem dL_law_794 : decode cL_law 794 = .ok (.iload 21, 2) := by decide +kernel
theorem dL_law_796 : decode cL_law 796 = .ok (.invokestatic 18, 3) := by decide +kernel
theorem dL_law_799 : decode cL_law 799 = .ok (.if_icmp .gt 35, 3) := by decide +kernel
theorem dL_law_802 : decode cL_law 802 = .ok (.iload 24, 2) := by decide +kernel
theorem dL_law_804 : decode cL_law 804 = .ok (.aload_n 1, 1) := by decide +kernel
theorem dL_law_805 : decode cL_law 805 = .ok (.iconst 0, 1) := by decide +kernel
theorem dL_law_806 : decode cL_law 806 = .ok (.iload 25, 2) := by decide +kernel
theorem dL_law_808 : decode cL_law 808 = .ok (.invokevirtual 67, 3) := by decide +kernel
theorem dL_law_811 : decode cL_law 811 = .ok (.aload_n 1, 1) := by decide +kernel
theorem dL_law_812 : decode cL_law 812 = .ok (.iconst 1, 1) := by decide +kernel
theorem dL_law_813 : decode cL_law 813 = .ok (.iload 23, 2) := by decide +kernel
theorem dL_law_815 : decode cL_law 815 = .ok (.iload 25, 2) := by decide +kernel
theorem dL_law_817 : decode cL_law 817 = .ok (.isub, 1) := by decide +kernel
theorem dL_law_818 : decode cL_law 818 = .ok (.invokevirtual 67, 3) := by decide +kernel
theorem dL_law_821 : decode cL_law 821 = .ok (.imul, 1) := by decide +kernel
theorem dL_law_822 : decode cL_law 822 = .ok (.iadd, 1) := by decide +kernel
theorem dL_law_823 : decode cL_law 823 = .ok (.iload 5, 2) := by decide +kernel
theorem dL_law_825 : decode cL_law 825 = .ok (.irem, 1) := by decide +kernel
theorem dL_law_826 : decode cL_law 826 = .ok (.istore 24, 2) := by decide +kernel
theorem dL_law_828 : decode cL_law 828 = .ok (.iinc 25 1, 3) := by decide +kernel
theorem dL_law_831 : decode cL_law 831 = .ok (.goto (-41), 3) := by decide +kernel
theorem dL_law_834 : decode cL_law 834 = .ok (.iload 24, 2) := by decide +kernel
theorem dL_law_836 : decode cL_law 836 = .ok (.iload 23, 2) := by decide +kernel
theorem dL_law_838 : decode cL_law 838 = .ok (.iload 17, 2) := by decide +kernel
theorem dL_law_840 : decode cL_law 840 = .ok (.if_icmp .ne 10, 3) := by decide +kernel
theorem dL_law_843 : decode cL_law 843 = .ok (.iconst 1, 1) := by decide +kernel
theorem dL_law_844 : decode cL_law 844 = .ok (.iload 5, 2) := by decide +kernel
theorem dL_law_846 : decode cL_law 846 = .ok (.irem, 1) := by decide +kernel
theorem dL_law_847 : decode cL_law 847 = .ok (.goto 16, 3) := by decide +kernel
theorem dL_law_850 : decode cL_law 850 = .ok (.iload 23, 2) := by decide +kernel
theorem dL_law_852 : decode cL_law 852 = .ok (.ifCond .ne 10, 3) := by decide +kernel
theorem dL_law_855 : decode cL_law 855 = .ok (.iload 5, 2) := by decide +kernel
theorem dL_law_857 : decode cL_law 857 = .ok (.iconst 1, 1) := by decide +kernel
theorem dL_law_858 : decode cL_law 858 = .ok (.isub, 1) := by decide +kernel
theorem dL_law_859 : decode cL_law 859 = .ok (.goto 4, 3) := by decide +kernel
theorem dL_law_862 : decode cL_law 862 = .ok (.iconst 0, 1) := by decide +kernel
theorem dL_law_863 : decode cL_law 863 = .ok (.if_icmp .eq 5, 3) := by decide +kernel
theorem dL_law_866 : decode cL_law 866 = .ok (.iconst 0, 1) := by decide +kernel
theorem dL_law_867 : decode cL_law 867 = .ok (.ireturn, 1) := by decide +kernel
theorem dL_law_868 : decode cL_law 868 = .ok (.iinc 23 1, 3) := by decide +kernel
theorem dL_law_871 : decode cL_law 871 = .ok (.goto (-102), 3) := by decide +kernel
theorem dL_law_874 : decode cL_law 874 = .ok (.iconst 1, 1) := by decide +kernel
theorem dL_law_875 : decode cL_law 875 = .ok (.ireturn, 1) := by decide +kernel
