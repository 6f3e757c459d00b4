theorem dX0_leastPrime_0 : decode cX0_leastPrime 0 = .ok (.iload_n 0, 1) := by decide +kernel
theorem dX0_leastPrime_1 : decode cX0_leastPrime 1 = .ok (.iload_n 1, 1) := by decide +kernel
theorem dX0_leastPrime_2 : decode cX0_leastPrime 2 = .ok (.invokestatic 7, 3) := by decide +kernel
theorem dX0_leastPrime_5 : decode cX0_leastPrime 5 = .ok (.istore_n 2, 1) := by decide +kernel
theorem dX0_leastPrime_6 : decode cX0_leastPrime 6 = .ok (.iload_n 2, 1) := by decide +kernel
theorem dX0_leastPrime_7 : decode cX0_leastPrime 7 = .ok (.istore_n 3, 1) := by decide +kernel
theorem dX0_leastPrime_8 : decode cX0_leastPrime 8 = .ok (.iload_n 3, 1) := by decide +kernel
theorem dX0_leastPrime_9 : decode cX0_leastPrime 9 = .ok (.iconst 2, 1) := by decide +kernel
theorem dX0_leastPrime_10 : decode cX0_leastPrime 10 = .ok (.iload_n 2, 1) := by decide +kernel
theorem dX0_leastPrime_11 : decode cX0_leastPrime 11 = .ok (.imul, 1) := by decide +kernel
theorem dX0_leastPrime_12 : decode cX0_leastPrime 12 = .ok (.if_icmp .ge 20, 3) := by decide +kernel
theorem dX0_leastPrime_15 : decode cX0_leastPrime 15 = .ok (.iload_n 3, 1) := by decide +kernel
theorem dX0_leastPrime_16 : decode cX0_leastPrime 16 = .ok (.iload_n 1, 1) := by decide +kernel
theorem dX0_leastPrime_17 : decode cX0_leastPrime 17 = .ok (.iload_n 0, 1) := by decide +kernel
theorem dX0_leastPrime_18 : decode cX0_leastPrime 18 = .ok (.invokestatic 13, 3) := by decide +kernel
theorem dX0_leastPrime_21 : decode cX0_leastPrime 21 = .ok (.ifCond .eq 5, 3) := by decide +kernel
theorem dX0_leastPrime_24 : decode cX0_leastPrime 24 = .ok (.iload_n 3, 1) := by decide +kernel
theorem dX0_leastPrime_25 : decode cX0_leastPrime 25 = .ok (.ireturn, 1) := by decide +kernel
theorem dX0_leastPrime_26 : decode cX0_leastPrime 26 = .ok (.iinc 3 1, 3) := by decide +kernel
theorem dX0_leastPrime_29 : decode cX0_leastPrime 29 = .ok (.goto (-21), 3) := by decide +kernel
theorem dX0_leastPrime_32 : decode cX0_leastPrime 32 = .ok (.iload_n 2, 1) := by decide +kernel
theorem dX0_leastPrime_33 : decode cX0_leastPrime 33 = .ok (.ireturn, 1) := by decide +kernel
theorem dX0_isPrime_0 : decode cX0_isPrime 0 = .ok (.iconst 1, 1) := by decide +kernel
theorem dX0_isPrime_1 : decode cX0_isPrime 1 = .ok (.istore_n 3, 1) := by decide +kernel
theorem dX0_isPrime_2 : decode cX0_isPrime 2 = .ok (.iconst 2, 1) := by decide +kernel
theorem dX0_isPrime_3 : decode cX0_isPrime 3 = .ok (.iload_n 3, 1) := by decide +kernel
theorem dX0_isPrime_4 : decode cX0_isPrime 4 = .ok (.imul, 1) := by decide +kernel
theorem dX0_isPrime_5 : decode cX0_isPrime 5 = .ok (.iload_n 1, 1) := by decide +kernel
theorem dX0_isPrime_6 : decode cX0_isPrime 6 = .ok (.if_icmp .gt 49, 3) := by decide +kernel
theorem dX0_isPrime_9 : decode cX0_isPrime 9 = .ok (.iload_n 2, 1) := by decide +kernel
theorem dX0_isPrime_10 : decode cX0_isPrime 10 = .ok (.iload_n 3, 1) := by decide +kernel
theorem dX0_isPrime_11 : decode cX0_isPrime 11 = .ok (.invokestatic 7, 3) := by decide +kernel
theorem dX0_isPrime_14 : decode cX0_isPrime 14 = .ok (.istore 4, 2) := by decide +kernel
theorem dX0_isPrime_16 : decode cX0_isPrime 16 = .ok (.iload 4, 2) := by decide +kernel
theorem dX0_isPrime_18 : decode cX0_isPrime 18 = .ok (.istore 5, 2) := by decide +kernel
theorem dX0_isPrime_20 : decode cX0_isPrime 20 = .ok (.iload 5, 2) := by decide +kernel
theorem dX0_isPrime_22 : decode cX0_isPrime 22 = .ok (.iconst 2, 1) := by decide +kernel
theorem dX0_isPrime_23 : decode cX0_isPrime 23 = .ok (.iload 4, 2) := by decide +kernel
theorem dX0_isPrime_25 : decode cX0_isPrime 25 = .ok (.imul, 1) := by decide +kernel
theorem dX0_isPrime_26 : decode cX0_isPrime 26 = .ok (.if_icmp .ge 23, 3) := by decide +kernel
theorem dX0_isPrime_29 : decode cX0_isPrime 29 = .ok (.iload_n 0, 1) := by decide +kernel
theorem dX0_isPrime_30 : decode cX0_isPrime 30 = .ok (.iload_n 1, 1) := by decide +kernel
theorem dX0_isPrime_31 : decode cX0_isPrime 31 = .ok (.iload 5, 2) := by decide +kernel
theorem dX0_isPrime_33 : decode cX0_isPrime 33 = .ok (.iload_n 3, 1) := by decide +kernel
theorem dX0_isPrime_34 : decode cX0_isPrime 34 = .ok (.iload_n 2, 1) := by decide +kernel
theorem dX0_isPrime_35 : decode cX0_isPrime 35 = .ok (.invokestatic 19, 3) := by decide +kernel
theorem dX0_isPrime_38 : decode cX0_isPrime 38 = .ok (.ifCond .ne 5, 3) := by decide +kernel
theorem dX0_isPrime_41 : decode cX0_isPrime 41 = .ok (.iconst 0, 1) := by decide +kernel
theorem dX0_isPrime_42 : decode cX0_isPrime 42 = .ok (.ireturn, 1) := by decide +kernel
theorem dX0_isPrime_43 : decode cX0_isPrime 43 = .ok (.iinc 5 1, 3) := by decide +kernel
theorem dX0_isPrime_46 : decode cX0_isPrime 46 = .ok (.goto (-26), 3) := by decide +kernel
theorem dX0_isPrime_49 : decode cX0_isPrime 49 = .ok (.iinc 3 1, 3) := by decide +kernel
theorem dX0_isPrime_52 : decode cX0_isPrime 52 = .ok (.goto (-50), 3) := by decide +kernel
theorem dX0_isPrime_55 : decode cX0_isPrime 55 = .ok (.iconst 1, 1) := by decide +kernel
theorem dX0_isPrime_56 : decode cX0_isPrime 56 = .ok (.ireturn, 1) := by decide +kernel
theorem dX0_leftBy_0 : decode cX0_leftBy 0 = .ok (.iload_n 0, 1) := by decide +kernel
theorem dX0_leftBy_1 : decode cX0_leftBy 1 = .ok (.istore 5, 2) := by decide +kernel
theorem dX0_leftBy_3 : decode cX0_leftBy 3 = .ok (.iload_n 1, 1) := by decide +kernel
theorem dX0_leftBy_4 : decode cX0_leftBy 4 = .ok (.iload_n 3, 1) := by decide +kernel
theorem dX0_leftBy_5 : decode cX0_leftBy 5 = .ok (.isub, 1) := by decide +kernel
theorem dX0_leftBy_6 : decode cX0_leftBy 6 = .ok (.istore 6, 2) := by decide +kernel
theorem dX0_leftBy_8 : decode cX0_leftBy 8 = .ok (.iload 6, 2) := by decide +kernel
theorem dX0_leftBy_10 : decode cX0_leftBy 10 = .ok (.ifCond .lt 52, 3) := by decide +kernel
theorem dX0_leftBy_13 : decode cX0_leftBy 13 = .ok (.iload 4, 2) := by decide +kernel
theorem dX0_leftBy_15 : decode cX0_leftBy 15 = .ok (.iload 6, 2) := by decide +kernel
theorem dX0_leftBy_17 : decode cX0_leftBy 17 = .ok (.invokestatic 7, 3) := by decide +kernel
theorem dX0_leftBy_20 : decode cX0_leftBy 20 = .ok (.istore 7, 2) := by decide +kernel
theorem dX0_leftBy_22 : decode cX0_leftBy 22 = .ok (.iload 5, 2) := by decide +kernel
theorem dX0_leftBy_24 : decode cX0_leftBy 24 = .ok (.iload 4, 2) := by decide +kernel
theorem dX0_leftBy_26 : decode cX0_leftBy 26 = .ok (.iload_n 3, 1) := by decide +kernel
theorem dX0_leftBy_27 : decode cX0_leftBy 27 = .ok (.iload 6, 2) := by decide +kernel
theorem dX0_leftBy_29 : decode cX0_leftBy 29 = .ok (.iadd, 1) := by decide +kernel
theorem dX0_leftBy_30 : decode cX0_leftBy 30 = .ok (.invokestatic 7, 3) := by decide +kernel
theorem dX0_leftBy_33 : decode cX0_leftBy 33 = .ok (.invokestatic 23, 3) := by decide +kernel
theorem dX0_leftBy_36 : decode cX0_leftBy 36 = .ok (.istore 8, 2) := by decide +kernel
theorem dX0_leftBy_38 : decode cX0_leftBy 38 = .ok (.iload 5, 2) := by decide +kernel
theorem dX0_leftBy_40 : decode cX0_leftBy 40 = .ok (.iload_n 2, 1) := by decide +kernel
theorem dX0_leftBy_41 : decode cX0_leftBy 41 = .ok (.iload 7, 2) := by decide +kernel
theorem dX0_leftBy_43 : decode cX0_leftBy 43 = .ok (.imul, 1) := by decide +kernel
theorem dX0_leftBy_44 : decode cX0_leftBy 44 = .ok (.iload 4, 2) := by decide +kernel
theorem dX0_leftBy_46 : decode cX0_leftBy 46 = .ok (.iload 8, 2) := by decide +kernel
theorem dX0_leftBy_48 : decode cX0_leftBy 48 = .ok (.isub, 1) := by decide +kernel
theorem dX0_leftBy_49 : decode cX0_leftBy 49 = .ok (.iload 4, 2) := by decide +kernel
theorem dX0_leftBy_51 : decode cX0_leftBy 51 = .ok (.invokestatic 26, 3) := by decide +kernel
theorem dX0_leftBy_54 : decode cX0_leftBy 54 = .ok (.istore 5, 2) := by decide +kernel
theorem dX0_leftBy_56 : decode cX0_leftBy 56 = .ok (.iinc 6 (-1), 3) := by decide +kernel
theorem dX0_leftBy_59 : decode cX0_leftBy 59 = .ok (.goto (-51), 3) := by decide +kernel
theorem dX0_leftBy_62 : decode cX0_leftBy 62 = .ok (.iload 5, 2) := by decide +kernel
theorem dX0_leftBy_64 : decode cX0_leftBy 64 = .ok (.ireturn, 1) := by decide +kernel
theorem dX1_init_0 : decode cX1_init 0 = .ok (.aload_n 0, 1) := by decide +kernel
theorem dX1_init_1 : decode cX1_init 1 = .ok (.invokespecial 3, 3) := by decide +kernel
theorem dX1_init_4 : decode cX1_init 4 = .ok (.aload_n 0, 1) := by decide +kernel
theorem dX1_init_5 : decode cX1_init 5 = .ok (.iconst 1, 1) := by decide +kernel
theorem dX1_init_6 : decode cX1_init 6 = .ok (.putfield 9, 3) := by decide +kernel
theorem dX1_init_9 : decode cX1_init 9 = .ok (.aload_n 0, 1) := by decide +kernel
theorem dX1_init_10 : decode cX1_init 10 = .ok (.iconst 0, 1) := by decide +kernel
theorem dX1_init_11 : decode cX1_init 11 = .ok (.putfield 15, 3) := by decide +kernel
theorem dX1_init_14 : decode cX1_init 14 = .ok (.aload_n 0, 1) := by decide +kernel
theorem dX1_init_15 : decode cX1_init 15 = .ok (.iconst 1, 1) := by decide +kernel
theorem dX1_init_16 : decode cX1_init 16 = .ok (.putfield 18, 3) := by decide +kernel
theorem dX1_init_19 : decode cX1_init 19 = .ok (.aload_n 0, 1) := by decide +kernel
theorem dX1_init_20 : decode cX1_init 20 = .ok (.iconst 2, 1) := by decide +kernel
theorem dX1_init_21 : decode cX1_init 21 = .ok (.putfield 21, 3) := by decide +kernel
theorem dX1_init_24 : decode cX1_init 24 = .ok (.aload_n 0, 1) := by decide +kernel
theorem dX1_init_25 : decode cX1_init 25 = .ok (.bipush 64, 2) := by decide +kernel
theorem dX1_init_27 : decode cX1_init 27 = .ok (.newarray .int, 2) := by decide +kernel
theorem dX1_init_29 : decode cX1_init 29 = .ok (.putfield 24, 3) := by decide +kernel
theorem dX1_init_32 : decode cX1_init 32 = .ok (.aload_n 0, 1) := by decide +kernel
theorem dX1_init_33 : decode cX1_init 33 = .ok (.bipush 64, 2) := by decide +kernel
theorem dX1_init_35 : decode cX1_init 35 = .ok (.newarray .int, 2) := by decide +kernel
theorem dX1_init_37 : decode cX1_init 37 = .ok (.putfield 28, 3) := by decide +kernel
theorem dX1_init_40 : decode cX1_init 40 = .ok (.aload_n 0, 1) := by decide +kernel
theorem dX1_init_41 : decode cX1_init 41 = .ok (.aload_n 1, 1) := by decide +kernel
theorem dX1_init_42 : decode cX1_init 42 = .ok (.putfield 31, 3) := by decide +kernel
theorem dX1_init_45 : decode cX1_init 45 = .ok (.return_, 1) := by decide +kernel
theorem dX1_become_0 : decode cX1_become 0 = .ok (.aload_n 0, 1) := by decide +kernel
theorem dX1_become_1 : decode cX1_become 1 = .ok (.aload_n 1, 1) := by decide +kernel
theorem dX1_become_2 : decode cX1_become 2 = .ok (.getfield 35, 3) := by decide +kernel
theorem dX1_become_5 : decode cX1_become 5 = .ok (.putfield 9, 3) := by decide +kernel
theorem dX1_become_8 : decode cX1_become 8 = .ok (.aload_n 0, 1) := by decide +kernel
theorem dX1_become_9 : decode cX1_become 9 = .ok (.iconst 0, 1) := by decide +kernel
theorem dX1_become_10 : decode cX1_become 10 = .ok (.putfield 15, 3) := by decide +kernel
theorem dX1_become_13 : decode cX1_become 13 = .ok (.aload_n 0, 1) := by decide +kernel
theorem dX1_become_14 : decode cX1_become 14 = .ok (.getfield 24, 3) := by decide +kernel
theorem dX1_become_17 : decode cX1_become 17 = .ok (.iconst 0, 1) := by decide +kernel
theorem dX1_become_18 : decode cX1_become 18 = .ok (.invokestatic 38, 3) := by decide +kernel
theorem dX1_become_21 : decode cX1_become 21 = .ok (.aload_n 0, 1) := by decide +kernel
theorem dX1_become_22 : decode cX1_become 22 = .ok (.getfield 28, 3) := by decide +kernel
theorem dX1_become_25 : decode cX1_become 25 = .ok (.iconst 0, 1) := by decide +kernel
theorem dX1_become_26 : decode cX1_become 26 = .ok (.invokestatic 38, 3) := by decide +kernel
theorem dX1_become_29 : decode cX1_become 29 = .ok (.aload_n 0, 1) := by decide +kernel
theorem dX1_become_30 : decode cX1_become 30 = .ok (.getfield 24, 3) := by decide +kernel
theorem dX1_become_33 : decode cX1_become 33 = .ok (.iconst 0, 1) := by decide +kernel
theorem dX1_become_34 : decode cX1_become 34 = .ok (.iconst 1, 1) := by decide +kernel
theorem dX1_become_35 : decode cX1_become 35 = .ok (.iastore, 1) := by decide +kernel
theorem dX1_become_36 : decode cX1_become 36 = .ok (.aload_n 0, 1) := by decide +kernel
theorem dX1_become_37 : decode cX1_become 37 = .ok (.getfield 28, 3) := by decide +kernel
theorem dX1_become_40 : decode cX1_become 40 = .ok (.iconst 0, 1) := by decide +kernel
theorem dX1_become_41 : decode cX1_become 41 = .ok (.iconst 1, 1) := by decide +kernel
theorem dX1_become_42 : decode cX1_become 42 = .ok (.iastore, 1) := by decide +kernel
theorem dX1_become_43 : decode cX1_become 43 = .ok (.aload_n 0, 1) := by decide +kernel
theorem dX1_become_44 : decode cX1_become 44 = .ok (.getfield 31, 3) := by decide +kernel
theorem dX1_become_47 : decode cX1_become 47 = .ok (.getfield 44, 3) := by decide +kernel
theorem dX1_become_50 : decode cX1_become 50 = .ok (.iconst 1, 1) := by decide +kernel
theorem dX1_become_51 : decode cX1_become 51 = .ok (.isub, 1) := by decide +kernel
theorem dX1_become_52 : decode cX1_become 52 = .ok (.aload_n 0, 1) := by decide +kernel
theorem dX1_become_53 : decode cX1_become 53 = .ok (.getfield 9, 3) := by decide +kernel
theorem dX1_become_56 : decode cX1_become 56 = .ok (.invokestatic 49, 3) := by decide +kernel
theorem dX1_become_59 : decode cX1_become 59 = .ok (.istore_n 3, 1) := by decide +kernel
theorem dX1_become_60 : decode cX1_become 60 = .ok (.iconst 0, 1) := by decide +kernel
theorem dX1_become_61 : decode cX1_become 61 = .ok (.istore 4, 2) := by decide +kernel
theorem dX1_become_63 : decode cX1_become 63 = .ok (.iload 4, 2) := by decide +kernel
theorem dX1_become_65 : decode cX1_become 65 = .ok (.aload_n 0, 1) := by decide +kernel
theorem dX1_become_66 : decode cX1_become 66 = .ok (.getfield 9, 3) := by decide +kernel
theorem dX1_become_69 : decode cX1_become 69 = .ok (.if_icmp .ge 100, 3) := by decide +kernel
theorem dX1_become_72 : decode cX1_become 72 = .ok (.aload_n 0, 1) := by decide +kernel
theorem dX1_become_73 : decode cX1_become 73 = .ok (.getfield 31, 3) := by decide +kernel
theorem dX1_become_76 : decode cX1_become 76 = .ok (.getfield 55, 3) := by decide +kernel
theorem dX1_become_79 : decode cX1_become 79 = .ok (.iload 4, 2) := by decide +kernel
theorem dX1_become_81 : decode cX1_become 81 = .ok (.iload_n 3, 1) := by decide +kernel
theorem dX1_become_82 : decode cX1_become 82 = .ok (.imul, 1) := by decide +kernel
theorem dX1_become_83 : decode cX1_become 83 = .ok (.invokestatic 58, 3) := by decide +kernel
theorem dX1_become_86 : decode cX1_become 86 = .ok (.istore 5, 2) := by decide +kernel
theorem dX1_become_88 : decode cX1_become 88 = .ok (.aload_n 1, 1) := by decide +kernel
theorem dX1_become_89 : decode cX1_become 89 = .ok (.iload 4, 2) := by decide +kernel
theorem dX1_become_91 : decode cX1_become 91 = .ok (.invokevirtual 62, 3) := by decide +kernel
theorem dX1_become_94 : decode cX1_become 94 = .ok (.istore 6, 2) := by decide +kernel
theorem dX1_become_96 : decode cX1_become 96 = .ok (.iload 6, 2) := by decide +kernel
theorem dX1_become_98 : decode cX1_become 98 = .ok (.bipush 30, 2) := by decide +kernel
theorem dX1_become_100 : decode cX1_become 100 = .ok (.if_icmp .gt 43, 3) := by decide +kernel
theorem dX1_become_103 : decode cX1_become 103 = .ok (.iload_n 2, 1) := by decide +kernel
theorem dX1_become_104 : decode cX1_become 104 = .ok (.iload 6, 2) := by decide +kernel
theorem dX1_become_106 : decode cX1_become 106 = .ok (.ishr, 1) := by decide +kernel
theorem dX1_become_107 : decode cX1_become 107 = .ok (.iconst 1, 1) := by decide +kernel
theorem dX1_become_108 : decode cX1_become 108 = .ok (.iand, 1) := by decide +kernel
theorem dX1_become_109 : decode cX1_become 109 = .ok (.iconst 1, 1) := by decide +kernel
theorem dX1_become_110 : decode cX1_become 110 = .ok (.if_icmp .ne 33, 3) := by decide +kernel
theorem dX1_become_113 : decode cX1_become 113 = .ok (.aload_n 0, 1) := by decide +kernel
theorem dX1_become_114 : decode cX1_become 114 = .ok (.getfield 31, 3) := by decide +kernel
theorem dX1_become_117 : decode cX1_become 117 = .ok (.aload_n 0, 1) := by decide +kernel
theorem dX1_become_118 : decode cX1_become 118 = .ok (.getfield 24, 3) := by decide +kernel
theorem dX1_become_121 : decode cX1_become 121 = .ok (.aload_n 0, 1) := by decide +kernel
theorem dX1_become_122 : decode cX1_become 122 = .ok (.getfield 15, 3) := by decide +kernel
theorem dX1_become_125 : decode cX1_become 125 = .ok (.iload 5, 2) := by decide +kernel
theorem dX1_become_127 : decode cX1_become 127 = .ok (.invokevirtual 66, 3) := by decide +kernel
theorem dX1_become_130 : decode cX1_become 130 = .ok (.aload_n 0, 1) := by decide +kernel
theorem dX1_become_131 : decode cX1_become 131 = .ok (.dup, 1) := by decide +kernel
theorem dX1_become_132 : decode cX1_become 132 = .ok (.getfield 15, 3) := by decide +kernel
theorem dX1_become_135 : decode cX1_become 135 = .ok (.iconst 1, 1) := by decide +kernel
theorem dX1_become_136 : decode cX1_become 136 = .ok (.iadd, 1) := by decide +kernel
theorem dX1_become_137 : decode cX1_become 137 = .ok (.putfield 15, 3) := by decide +kernel
theorem dX1_become_140 : decode cX1_become 140 = .ok (.goto 23, 3) := by decide +kernel
theorem dX1_become_143 : decode cX1_become 143 = .ok (.aload_n 0, 1) := by decide +kernel
theorem dX1_become_144 : decode cX1_become 144 = .ok (.getfield 31, 3) := by decide +kernel
theorem dX1_become_147 : decode cX1_become 147 = .ok (.aload_n 0, 1) := by decide +kernel
theorem dX1_become_148 : decode cX1_become 148 = .ok (.getfield 28, 3) := by decide +kernel
theorem dX1_become_151 : decode cX1_become 151 = .ok (.iload 4, 2) := by decide +kernel
theorem dX1_become_153 : decode cX1_become 153 = .ok (.aload_n 0, 1) := by decide +kernel
theorem dX1_become_154 : decode cX1_become 154 = .ok (.getfield 15, 3) := by decide +kernel
theorem dX1_become_157 : decode cX1_become 157 = .ok (.isub, 1) := by decide +kernel
theorem dX1_become_158 : decode cX1_become 158 = .ok (.iload 5, 2) := by decide +kernel
theorem dX1_become_160 : decode cX1_become 160 = .ok (.invokevirtual 66, 3) := by decide +kernel
theorem dX1_become_163 : decode cX1_become 163 = .ok (.iinc 4 1, 3) := by decide +kernel
theorem dX1_become_166 : decode cX1_become 166 = .ok (.goto (-103), 3) := by decide +kernel
theorem dX1_become_169 : decode cX1_become 169 = .ok (.aload_n 0, 1) := by decide +kernel
theorem dX1_become_170 : decode cX1_become 170 = .ok (.aload_n 0, 1) := by decide +kernel
theorem dX1_become_171 : decode cX1_become 171 = .ok (.getfield 9, 3) := by decide +kernel
theorem dX1_become_174 : decode cX1_become 174 = .ok (.aload_n 0, 1) := by decide +kernel
theorem dX1_become_175 : decode cX1_become 175 = .ok (.getfield 15, 3) := by decide +kernel
theorem dX1_become_178 : decode cX1_become 178 = .ok (.isub, 1) := by decide +kernel
theorem dX1_become_179 : decode cX1_become 179 = .ok (.putfield 18, 3) := by decide +kernel
theorem dX1_become_182 : decode cX1_become 182 = .ok (.aload_n 0, 1) := by decide +kernel
theorem dX1_become_183 : decode cX1_become 183 = .ok (.aload_n 0, 1) := by decide +kernel
theorem dX1_become_184 : decode cX1_become 184 = .ok (.invokevirtual 70, 3) := by decide +kernel
theorem dX1_become_187 : decode cX1_become 187 = .ok (.putfield 21, 3) := by decide +kernel
theorem dX1_become_190 : decode cX1_become 190 = .ok (.return_, 1) := by decide +kernel
theorem dX1_smallWords_0 : decode cX1_smallWords 0 = .ok (.iconst 1, 1) := by decide +kernel
theorem dX1_smallWords_1 : decode cX1_smallWords 1 = .ok (.istore_n 1, 1) := by decide +kernel
theorem dX1_smallWords_2 : decode cX1_smallWords 2 = .ok (.iconst 0, 1) := by decide +kernel
theorem dX1_smallWords_3 : decode cX1_smallWords 3 = .ok (.istore_n 2, 1) := by decide +kernel
theorem dX1_smallWords_4 : decode cX1_smallWords 4 = .ok (.iload_n 2, 1) := by decide +kernel
theorem dX1_smallWords_5 : decode cX1_smallWords 5 = .ok (.aload_n 0, 1) := by decide +kernel
theorem dX1_smallWords_6 : decode cX1_smallWords 6 = .ok (.getfield 18, 3) := by decide +kernel
theorem dX1_smallWords_9 : decode cX1_smallWords 9 = .ok (.if_icmp .ge 25, 3) := by decide +kernel
theorem dX1_smallWords_12 : decode cX1_smallWords 12 = .ok (.iload_n 1, 1) := by decide +kernel
theorem dX1_smallWords_13 : decode cX1_smallWords 13 = .ok (.ldc 74, 2) := by decide +kernel
theorem dX1_smallWords_15 : decode cX1_smallWords 15 = .ok (.if_icmp .gt 19, 3) := by decide +kernel
theorem dX1_smallWords_18 : decode cX1_smallWords 18 = .ok (.iload_n 1, 1) := by decide +kernel
theorem dX1_smallWords_19 : decode cX1_smallWords 19 = .ok (.aload_n 0, 1) := by decide +kernel
theorem dX1_smallWords_20 : decode cX1_smallWords 20 = .ok (.getfield 31, 3) := by decide +kernel
theorem dX1_smallWords_23 : decode cX1_smallWords 23 = .ok (.getfield 75, 3) := by decide +kernel
theorem dX1_smallWords_26 : decode cX1_smallWords 26 = .ok (.imul, 1) := by decide +kernel
theorem dX1_smallWords_27 : decode cX1_smallWords 27 = .ok (.istore_n 1, 1) := by decide +kernel
theorem dX1_smallWords_28 : decode cX1_smallWords 28 = .ok (.iinc 2 1, 3) := by decide +kernel
theorem dX1_smallWords_31 : decode cX1_smallWords 31 = .ok (.goto (-27), 3) := by decide +kernel
theorem dX1_smallWords_34 : decode cX1_smallWords 34 = .ok (.iload_n 1, 1) := by decide +kernel
theorem dX1_smallWords_35 : decode cX1_smallWords 35 = .ok (.ldc 74, 2) := by decide +kernel
theorem dX1_smallWords_37 : decode cX1_smallWords 37 = .ok (.if_icmp .gt 7, 3) := by decide +kernel
theorem dX1_smallWords_40 : decode cX1_smallWords 40 = .ok (.iload_n 1, 1) := by decide +kernel
theorem dX1_smallWords_41 : decode cX1_smallWords 41 = .ok (.goto 4, 3) := by decide +kernel
theorem dX1_smallWords_44 : decode cX1_smallWords 44 = .ok (.iconst 0, 1) := by decide +kernel
theorem dX1_smallWords_45 : decode cX1_smallWords 45 = .ok (.ireturn, 1) := by decide +kernel
theorem dX2_init_0 : decode cX2_init 0 = .ok (.aload_n 0, 1) := by decide +kernel
theorem dX2_init_1 : decode cX2_init 1 = .ok (.invokespecial 3, 3) := by decide +kernel
theorem dX2_init_4 : decode cX2_init 4 = .ok (.aload_n 0, 1) := by decide +kernel
theorem dX2_init_5 : decode cX2_init 5 = .ok (.iconst 2, 1) := by decide +kernel
theorem dX2_init_6 : decode cX2_init 6 = .ok (.putfield 9, 3) := by decide +kernel
theorem dX2_init_9 : decode cX2_init 9 = .ok (.aload_n 0, 1) := by decide +kernel
theorem dX2_init_10 : decode cX2_init 10 = .ok (.iconst 1, 1) := by decide +kernel
theorem dX2_init_11 : decode cX2_init 11 = .ok (.putfield 15, 3) := by decide +kernel
theorem dX2_init_14 : decode cX2_init 14 = .ok (.aload_n 0, 1) := by decide +kernel
theorem dX2_init_15 : decode cX2_init 15 = .ok (.iconst 1, 1) := by decide +kernel
theorem dX2_init_16 : decode cX2_init 16 = .ok (.putfield 18, 3) := by decide +kernel
theorem dX2_init_19 : decode cX2_init 19 = .ok (.aload_n 0, 1) := by decide +kernel
theorem dX2_init_20 : decode cX2_init 20 = .ok (.iconst 2, 1) := by decide +kernel
theorem dX2_init_21 : decode cX2_init 21 = .ok (.putfield 21, 3) := by decide +kernel
theorem dX2_init_24 : decode cX2_init 24 = .ok (.aload_n 0, 1) := by decide +kernel
theorem dX2_init_25 : decode cX2_init 25 = .ok (.iconst 2, 1) := by decide +kernel
theorem dX2_init_26 : decode cX2_init 26 = .ok (.putfield 24, 3) := by decide +kernel
theorem dX2_init_29 : decode cX2_init 29 = .ok (.aload_n 0, 1) := by decide +kernel
theorem dX2_init_30 : decode cX2_init 30 = .ok (.iconst 2, 1) := by decide +kernel
theorem dX2_init_31 : decode cX2_init 31 = .ok (.putfield 27, 3) := by decide +kernel
theorem dX2_init_34 : decode cX2_init 34 = .ok (.aload_n 0, 1) := by decide +kernel
theorem dX2_init_35 : decode cX2_init 35 = .ok (.iconst 1, 1) := by decide +kernel
theorem dX2_init_36 : decode cX2_init 36 = .ok (.putfield 30, 3) := by decide +kernel
theorem dX2_init_39 : decode cX2_init 39 = .ok (.aload_n 0, 1) := by decide +kernel
theorem dX2_init_40 : decode cX2_init 40 = .ok (.bipush 7, 2) := by decide +kernel
theorem dX2_init_42 : decode cX2_init 42 = .ok (.newarray .int, 2) := by decide +kernel
theorem dX2_init_44 : decode cX2_init 44 = .ok (.putfield 33, 3) := by decide +kernel
theorem dX2_init_47 : decode cX2_init 47 = .ok (.aload_n 0, 1) := by decide +kernel
theorem dX2_init_48 : decode cX2_init 48 = .ok (.sipush 3125, 3) := by decide +kernel
theorem dX2_init_51 : decode cX2_init 51 = .ok (.newarray .int, 2) := by decide +kernel
theorem dX2_init_53 : decode cX2_init 53 = .ok (.putfield 37, 3) := by decide +kernel
theorem dX2_init_56 : decode cX2_init 56 = .ok (.aload_n 0, 1) := by decide +kernel
theorem dX2_init_57 : decode cX2_init 57 = .ok (.sipush 3125, 3) := by decide +kernel
theorem dX2_init_60 : decode cX2_init 60 = .ok (.newarray .int, 2) := by decide +kernel
theorem dX2_init_62 : decode cX2_init 62 = .ok (.putfield 40, 3) := by decide +kernel
theorem dX2_init_65 : decode cX2_init 65 = .ok (.aload_n 0, 1) := by decide +kernel
theorem dX2_init_66 : decode cX2_init 66 = .ok (.bipush 6, 2) := by decide +kernel
theorem dX2_init_68 : decode cX2_init 68 = .ok (.bipush 6, 2) := by decide +kernel
theorem dX2_init_70 : decode cX2_init 70 = .ok (.multianewarray 43 2, 4) := by decide +kernel
theorem dX2_init_74 : decode cX2_init 74 = .ok (.putfield 45, 3) := by decide +kernel
theorem dX2_init_77 : decode cX2_init 77 = .ok (.aload_n 0, 1) := by decide +kernel
theorem dX2_init_78 : decode cX2_init 78 = .ok (.bipush 6, 2) := by decide +kernel
theorem dX2_init_80 : decode cX2_init 80 = .ok (.newarray .int, 2) := by decide +kernel
theorem dX2_init_82 : decode cX2_init 82 = .ok (.putfield 48, 3) := by decide +kernel
theorem dX2_init_85 : decode cX2_init 85 = .ok (.aload_n 0, 1) := by decide +kernel
theorem dX2_init_86 : decode cX2_init 86 = .ok (.bipush 6, 2) := by decide +kernel
theorem dX2_init_88 : decode cX2_init 88 = .ok (.newarray .int, 2) := by decide +kernel
theorem dX2_init_90 : decode cX2_init 90 = .ok (.putfield 51, 3) := by decide +kernel
theorem dX2_init_93 : decode cX2_init 93 = .ok (.aload_n 0, 1) := by decide +kernel
theorem dX2_init_94 : decode cX2_init 94 = .ok (.bipush 12, 2) := by decide +kernel
theorem dX2_init_96 : decode cX2_init 96 = .ok (.newarray .int, 2) := by decide +kernel
theorem dX2_init_98 : decode cX2_init 98 = .ok (.putfield 54, 3) := by decide +kernel
theorem dX2_init_101 : decode cX2_init 101 = .ok (.aload_n 0, 1) := by decide +kernel
theorem dX2_init_102 : decode cX2_init 102 = .ok (.bipush 7, 2) := by decide +kernel
theorem dX2_init_104 : decode cX2_init 104 = .ok (.newarray .int, 2) := by decide +kernel
theorem dX2_init_106 : decode cX2_init 106 = .ok (.putfield 57, 3) := by decide +kernel
theorem dX2_init_109 : decode cX2_init 109 = .ok (.return_, 1) := by decide +kernel
theorem dX2_become_0 : decode cX2_become 0 = .ok (.iload_n 1, 1) := by decide +kernel
theorem dX2_become_1 : decode cX2_become 1 = .ok (.iload_n 2, 1) := by decide +kernel
theorem dX2_become_2 : decode cX2_become 2 = .ok (.iload_n 3, 1) := by decide +kernel
theorem dX2_become_3 : decode cX2_become 3 = .ok (.invokestatic 60, 3) := by decide +kernel
theorem dX2_become_6 : decode cX2_become 6 = .ok (.ifCond .ne 5, 3) := by decide +kernel
theorem dX2_become_9 : decode cX2_become 9 = .ok (.iconst 0, 1) := by decide +kernel
theorem dX2_become_10 : decode cX2_become 10 = .ok (.ireturn, 1) := by decide +kernel
theorem dX2_become_11 : decode cX2_become 11 = .ok (.aload_n 0, 1) := by decide +kernel
theorem dX2_become_12 : decode cX2_become 12 = .ok (.iload_n 1, 1) := by decide +kernel
theorem dX2_become_13 : decode cX2_become 13 = .ok (.putfield 9, 3) := by decide +kernel
theorem dX2_become_16 : decode cX2_become 16 = .ok (.aload_n 0, 1) := by decide +kernel
theorem dX2_become_17 : decode cX2_become 17 = .ok (.iload_n 2, 1) := by decide +kernel
theorem dX2_become_18 : decode cX2_become 18 = .ok (.putfield 15, 3) := by decide +kernel
theorem dX2_become_21 : decode cX2_become 21 = .ok (.aload_n 0, 1) := by decide +kernel
theorem dX2_become_22 : decode cX2_become 22 = .ok (.iload_n 3, 1) := by decide +kernel
theorem dX2_become_23 : decode cX2_become 23 = .ok (.putfield 18, 3) := by decide +kernel
theorem dX2_become_26 : decode cX2_become 26 = .ok (.aload_n 0, 1) := by decide +kernel
theorem dX2_become_27 : decode cX2_become 27 = .ok (.aload_n 0, 1) := by decide +kernel
theorem dX2_become_28 : decode cX2_become 28 = .ok (.getfield 9, 3) := by decide +kernel
theorem dX2_become_31 : decode cX2_become 31 = .ok (.aload_n 0, 1) := by decide +kernel
theorem dX2_become_32 : decode cX2_become 32 = .ok (.getfield 15, 3) := by decide +kernel
theorem dX2_become_35 : decode cX2_become 35 = .ok (.invokestatic 64, 3) := by decide +kernel
theorem dX2_become_38 : decode cX2_become 38 = .ok (.putfield 21, 3) := by decide +kernel
theorem dX2_become_41 : decode cX2_become 41 = .ok (.aload_n 0, 1) := by decide +kernel
theorem dX2_become_42 : decode cX2_become 42 = .ok (.aload_n 0, 1) := by decide +kernel
theorem dX2_become_43 : decode cX2_become 43 = .ok (.getfield 9, 3) := by decide +kernel
theorem dX2_become_46 : decode cX2_become 46 = .ok (.aload_n 0, 1) := by decide +kernel
theorem dX2_become_47 : decode cX2_become 47 = .ok (.getfield 18, 3) := by decide +kernel
theorem dX2_become_50 : decode cX2_become 50 = .ok (.invokestatic 64, 3) := by decide +kernel
theorem dX2_become_53 : decode cX2_become 53 = .ok (.putfield 24, 3) := by decide +kernel
theorem dX2_become_56 : decode cX2_become 56 = .ok (.aload_n 0, 1) := by decide +kernel
theorem dX2_become_57 : decode cX2_become 57 = .ok (.aload_n 0, 1) := by decide +kernel
theorem dX2_become_58 : decode cX2_become 58 = .ok (.getfield 24, 3) := by decide +kernel
theorem dX2_become_61 : decode cX2_become 61 = .ok (.aload_n 0, 1) := by decide +kernel
theorem dX2_become_62 : decode cX2_become 62 = .ok (.getfield 15, 3) := by decide +kernel
theorem dX2_become_65 : decode cX2_become 65 = .ok (.invokestatic 64, 3) := by decide +kernel
theorem dX2_become_68 : decode cX2_become 68 = .ok (.putfield 27, 3) := by decide +kernel
theorem dX2_become_71 : decode cX2_become 71 = .ok (.aload_n 0, 1) := by decide +kernel
theorem dX2_become_72 : decode cX2_become 72 = .ok (.invokevirtual 70, 3) := by decide +kernel
theorem dX2_become_75 : decode cX2_become 75 = .ok (.aload_n 0, 1) := by decide +kernel
theorem dX2_become_76 : decode cX2_become 76 = .ok (.invokevirtual 73, 3) := by decide +kernel
theorem dX2_become_79 : decode cX2_become 79 = .ok (.aload_n 0, 1) := by decide +kernel
theorem dX2_become_80 : decode cX2_become 80 = .ok (.invokevirtual 76, 3) := by decide +kernel
theorem dX2_become_83 : decode cX2_become 83 = .ok (.aload_n 0, 1) := by decide +kernel
theorem dX2_become_84 : decode cX2_become 84 = .ok (.invokevirtual 79, 3) := by decide +kernel
theorem dX2_become_87 : decode cX2_become 87 = .ok (.iconst 1, 1) := by decide +kernel
theorem dX2_become_88 : decode cX2_become 88 = .ok (.ireturn, 1) := by decide +kernel
theorem dX2_exists_0 : decode cX2_exists 0 = .ok (.iload_n 0, 1) := by decide +kernel
theorem dX2_exists_1 : decode cX2_exists 1 = .ok (.iconst 2, 1) := by decide +kernel
theorem dX2_exists_2 : decode cX2_exists 2 = .ok (.if_icmp .eq 19, 3) := by decide +kernel
theorem dX2_exists_5 : decode cX2_exists 5 = .ok (.iload_n 0, 1) := by decide +kernel
theorem dX2_exists_6 : decode cX2_exists 6 = .ok (.iconst 3, 1) := by decide +kernel
theorem dX2_exists_7 : decode cX2_exists 7 = .ok (.if_icmp .eq 14, 3) := by decide +kernel
theorem dX2_exists_10 : decode cX2_exists 10 = .ok (.iload_n 0, 1) := by decide +kernel
theorem dX2_exists_11 : decode cX2_exists 11 = .ok (.iconst 5, 1) := by decide +kernel
theorem dX2_exists_12 : decode cX2_exists 12 = .ok (.if_icmp .eq 9, 3) := by decide +kernel
theorem dX2_exists_15 : decode cX2_exists 15 = .ok (.iload_n 0, 1) := by decide +kernel
theorem dX2_exists_16 : decode cX2_exists 16 = .ok (.bipush 7, 2) := by decide +kernel
theorem dX2_exists_18 : decode cX2_exists 18 = .ok (.if_icmp .ne 28, 3) := by decide +kernel
theorem dX2_exists_21 : decode cX2_exists 21 = .ok (.iload_n 1, 1) := by decide +kernel
theorem dX2_exists_22 : decode cX2_exists 22 = .ok (.iconst 1, 1) := by decide +kernel
theorem dX2_exists_23 : decode cX2_exists 23 = .ok (.if_icmp .lt 23, 3) := by decide +kernel
theorem dX2_exists_26 : decode cX2_exists 26 = .ok (.iload_n 1, 1) := by decide +kernel
theorem dX2_exists_27 : decode cX2_exists 27 = .ok (.iconst 4, 1) := by decide +kernel
theorem dX2_exists_28 : decode cX2_exists 28 = .ok (.if_icmp .gt 18, 3) := by decide +kernel
theorem dX2_exists_31 : decode cX2_exists 31 = .ok (.iload_n 2, 1) := by decide +kernel
theorem dX2_exists_32 : decode cX2_exists 32 = .ok (.iconst 1, 1) := by decide +kernel
theorem dX2_exists_33 : decode cX2_exists 33 = .ok (.if_icmp .lt 13, 3) := by decide +kernel
theorem dX2_exists_36 : decode cX2_exists 36 = .ok (.iload_n 2, 1) := by decide +kernel
theorem dX2_exists_37 : decode cX2_exists 37 = .ok (.bipush 6, 2) := by decide +kernel
theorem dX2_exists_39 : decode cX2_exists 39 = .ok (.if_icmp .gt 7, 3) := by decide +kernel
theorem dX2_exists_42 : decode cX2_exists 42 = .ok (.iconst 1, 1) := by decide +kernel
theorem dX2_exists_43 : decode cX2_exists 43 = .ok (.goto 4, 3) := by decide +kernel
theorem dX2_exists_46 : decode cX2_exists 46 = .ok (.iconst 0, 1) := by decide +kernel
theorem dX2_exists_47 : decode cX2_exists 47 = .ok (.istore_n 3, 1) := by decide +kernel
theorem dX2_exists_48 : decode cX2_exists 48 = .ok (.iconst 1, 1) := by decide +kernel
theorem dX2_exists_49 : decode cX2_exists 49 = .ok (.istore 4, 2) := by decide +kernel
theorem dX2_exists_51 : decode cX2_exists 51 = .ok (.iconst 0, 1) := by decide +kernel
theorem dX2_exists_52 : decode cX2_exists 52 = .ok (.istore 5, 2) := by decide +kernel
theorem dX2_exists_54 : decode cX2_exists 54 = .ok (.iload_n 3, 1) := by decide +kernel
theorem dX2_exists_55 : decode cX2_exists 55 = .ok (.ifCond .eq 31, 3) := by decide +kernel
theorem dX2_exists_58 : decode cX2_exists 58 = .ok (.iload 5, 2) := by decide +kernel
theorem dX2_exists_60 : decode cX2_exists 60 = .ok (.iload_n 1, 1) := by decide +kernel
theorem dX2_exists_61 : decode cX2_exists 61 = .ok (.iload_n 2, 1) := by decide +kernel
theorem dX2_exists_62 : decode cX2_exists 62 = .ok (.imul, 1) := by decide +kernel
theorem dX2_exists_63 : decode cX2_exists 63 = .ok (.if_icmp .ge 23, 3) := by decide +kernel
theorem dX2_exists_66 : decode cX2_exists 66 = .ok (.iload 4, 2) := by decide +kernel
theorem dX2_exists_68 : decode cX2_exists 68 = .ok (.sipush 4096, 3) := by decide +kernel
theorem dX2_exists_71 : decode cX2_exists 71 = .ok (.if_icmp .gt 15, 3) := by decide +kernel
theorem dX2_exists_74 : decode cX2_exists 74 = .ok (.iload 4, 2) := by decide +kernel
theorem dX2_exists_76 : decode cX2_exists 76 = .ok (.iload_n 0, 1) := by decide +kernel
theorem dX2_exists_77 : decode cX2_exists 77 = .ok (.imul, 1) := by decide +kernel
theorem dX2_exists_78 : decode cX2_exists 78 = .ok (.istore 4, 2) := by decide +kernel
theorem dX2_exists_80 : decode cX2_exists 80 = .ok (.iinc 5 1, 3) := by decide +kernel
theorem dX2_exists_83 : decode cX2_exists 83 = .ok (.goto (-29), 3) := by decide +kernel
theorem dX2_exists_86 : decode cX2_exists 86 = .ok (.iload_n 3, 1) := by decide +kernel
theorem dX2_exists_87 : decode cX2_exists 87 = .ok (.ifCond .eq 15, 3) := by decide +kernel
theorem dX2_exists_90 : decode cX2_exists 90 = .ok (.iload 4, 2) := by decide +kernel
theorem dX2_exists_92 : decode cX2_exists 92 = .ok (.sipush 4096, 3) := by decide +kernel
theorem dX2_exists_95 : decode cX2_exists 95 = .ok (.if_icmp .gt 7, 3) := by decide +kernel
theorem dX2_exists_98 : decode cX2_exists 98 = .ok (.iconst 1, 1) := by decide +kernel
theorem dX2_exists_99 : decode cX2_exists 99 = .ok (.goto 4, 3) := by decide +kernel
theorem dX2_exists_102 : decode cX2_exists 102 = .ok (.iconst 0, 1) := by decide +kernel
theorem dX2_exists_103 : decode cX2_exists 103 = .ok (.ireturn, 1) := by decide +kernel
theorem dX2_liftModulus_0 : decode cX2_liftModulus 0 = .ok (.aload_n 0, 1) := by decide +kernel
theorem dX2_liftModulus_1 : decode cX2_liftModulus 1 = .ok (.getfield 9, 3) := by decide +kernel
theorem dX2_liftModulus_4 : decode cX2_liftModulus 4 = .ok (.aload_n 0, 1) := by decide +kernel
theorem dX2_liftModulus_5 : decode cX2_liftModulus 5 = .ok (.getfield 18, 3) := by decide +kernel
theorem dX2_liftModulus_8 : decode cX2_liftModulus 8 = .ok (.invokestatic 82, 3) := by decide +kernel
theorem dX2_liftModulus_11 : decode cX2_liftModulus 11 = .ok (.istore_n 1, 1) := by decide +kernel
theorem dX2_liftModulus_12 : decode cX2_liftModulus 12 = .ok (.iconst 0, 1) := by decide +kernel
theorem dX2_liftModulus_13 : decode cX2_liftModulus 13 = .ok (.istore_n 2, 1) := by decide +kernel
theorem dX2_liftModulus_14 : decode cX2_liftModulus 14 = .ok (.iload_n 2, 1) := by decide +kernel
theorem dX2_liftModulus_15 : decode cX2_liftModulus 15 = .ok (.aload_n 0, 1) := by decide +kernel
theorem dX2_liftModulus_16 : decode cX2_liftModulus 16 = .ok (.getfield 18, 3) := by decide +kernel
theorem dX2_liftModulus_19 : decode cX2_liftModulus 19 = .ok (.if_icmp .gt 34, 3) := by decide +kernel
theorem dX2_liftModulus_22 : decode cX2_liftModulus 22 = .ok (.aload_n 0, 1) := by decide +kernel
theorem dX2_liftModulus_23 : decode cX2_liftModulus 23 = .ok (.getfield 33, 3) := by decide +kernel
theorem dX2_liftModulus_26 : decode cX2_liftModulus 26 = .ok (.iload_n 2, 1) := by decide +kernel
theorem dX2_liftModulus_27 : decode cX2_liftModulus 27 = .ok (.iload_n 1, 1) := by decide +kernel
theorem dX2_liftModulus_28 : decode cX2_liftModulus 28 = .ok (.aload_n 0, 1) := by decide +kernel
theorem dX2_liftModulus_29 : decode cX2_liftModulus 29 = .ok (.getfield 9, 3) := by decide +kernel
theorem dX2_liftModulus_32 : decode cX2_liftModulus 32 = .ok (.invokestatic 87, 3) := by decide +kernel
theorem dX2_liftModulus_35 : decode cX2_liftModulus 35 = .ok (.invokestatic 90, 3) := by decide +kernel
theorem dX2_liftModulus_38 : decode cX2_liftModulus 38 = .ok (.iload_n 1, 1) := by decide +kernel
theorem dX2_liftModulus_39 : decode cX2_liftModulus 39 = .ok (.aload_n 0, 1) := by decide +kernel
theorem dX2_liftModulus_40 : decode cX2_liftModulus 40 = .ok (.getfield 9, 3) := by decide +kernel
theorem dX2_liftModulus_43 : decode cX2_liftModulus 43 = .ok (.invokestatic 94, 3) := by decide +kernel
theorem dX2_liftModulus_46 : decode cX2_liftModulus 46 = .ok (.istore_n 1, 1) := by decide +kernel
theorem dX2_liftModulus_47 : decode cX2_liftModulus 47 = .ok (.iinc 2 1, 3) := by decide +kernel
theorem dX2_liftModulus_50 : decode cX2_liftModulus 50 = .ok (.goto (-36), 3) := by decide +kernel
theorem dX2_liftModulus_53 : decode cX2_liftModulus 53 = .ok (.aload_n 0, 1) := by decide +kernel
theorem dX2_liftModulus_54 : decode cX2_liftModulus 54 = .ok (.getfield 57, 3) := by decide +kernel
theorem dX2_liftModulus_57 : decode cX2_liftModulus 57 = .ok (.iconst 0, 1) := by decide +kernel
theorem dX2_liftModulus_58 : decode cX2_liftModulus 58 = .ok (.invokestatic 97, 3) := by decide +kernel
theorem dX2_liftModulus_61 : decode cX2_liftModulus 61 = .ok (.aload_n 0, 1) := by decide +kernel
theorem dX2_liftModulus_62 : decode cX2_liftModulus 62 = .ok (.getfield 57, 3) := by decide +kernel
theorem dX2_liftModulus_65 : decode cX2_liftModulus 65 = .ok (.iconst 0, 1) := by decide +kernel
theorem dX2_liftModulus_66 : decode cX2_liftModulus 66 = .ok (.iconst 1, 1) := by decide +kernel
theorem dX2_liftModulus_67 : decode cX2_liftModulus 67 = .ok (.iastore, 1) := by decide +kernel
theorem dX2_liftModulus_68 : decode cX2_liftModulus 68 = .ok (.aload_n 0, 1) := by decide +kernel
theorem dX2_liftModulus_69 : decode cX2_liftModulus 69 = .ok (.aload_n 0, 1) := by decide +kernel
theorem dX2_liftModulus_70 : decode cX2_liftModulus 70 = .ok (.invokevirtual 103, 3) := by decide +kernel
theorem dX2_liftModulus_73 : decode cX2_liftModulus 73 = .ok (.aload_n 0, 1) := by decide +kernel
theorem dX2_liftModulus_74 : decode cX2_liftModulus 74 = .ok (.invokevirtual 107, 3) := by decide +kernel
theorem dX2_liftModulus_77 : decode cX2_liftModulus 77 = .ok (.invokevirtual 110, 3) := by decide +kernel
theorem dX2_liftModulus_80 : decode cX2_liftModulus 80 = .ok (.istore_n 2, 1) := by decide +kernel
theorem dX2_liftModulus_81 : decode cX2_liftModulus 81 = .ok (.iconst 0, 1) := by decide +kernel
theorem dX2_liftModulus_82 : decode cX2_liftModulus 82 = .ok (.istore_n 3, 1) := by decide +kernel
theorem dX2_liftModulus_83 : decode cX2_liftModulus 83 = .ok (.iload_n 3, 1) := by decide +kernel
theorem dX2_liftModulus_84 : decode cX2_liftModulus 84 = .ok (.aload_n 0, 1) := by decide +kernel
theorem dX2_liftModulus_85 : decode cX2_liftModulus 85 = .ok (.getfield 18, 3) := by decide +kernel
theorem dX2_liftModulus_88 : decode cX2_liftModulus 88 = .ok (.if_icmp .ge 29, 3) := by decide +kernel
theorem dX2_liftModulus_91 : decode cX2_liftModulus 91 = .ok (.aload_n 0, 1) := by decide +kernel
theorem dX2_liftModulus_92 : decode cX2_liftModulus 92 = .ok (.aload_n 0, 1) := by decide +kernel
theorem dX2_liftModulus_93 : decode cX2_liftModulus 93 = .ok (.getfield 57, 3) := by decide +kernel
theorem dX2_liftModulus_96 : decode cX2_liftModulus 96 = .ok (.iload_n 3, 1) := by decide +kernel
theorem dX2_liftModulus_97 : decode cX2_liftModulus 97 = .ok (.iload_n 2, 1) := by decide +kernel
theorem dX2_liftModulus_98 : decode cX2_liftModulus 98 = .ok (.invokevirtual 113, 3) := by decide +kernel
theorem dX2_liftModulus_101 : decode cX2_liftModulus 101 = .ok (.aload_n 0, 1) := by decide +kernel
theorem dX2_liftModulus_102 : decode cX2_liftModulus 102 = .ok (.iload_n 2, 1) := by decide +kernel
theorem dX2_liftModulus_103 : decode cX2_liftModulus 103 = .ok (.aload_n 0, 1) := by decide +kernel
theorem dX2_liftModulus_104 : decode cX2_liftModulus 104 = .ok (.getfield 9, 3) := by decide +kernel
theorem dX2_liftModulus_107 : decode cX2_liftModulus 107 = .ok (.invokevirtual 110, 3) := by decide +kernel
theorem dX2_liftModulus_110 : decode cX2_liftModulus 110 = .ok (.istore_n 2, 1) := by decide +kernel
theorem dX2_liftModulus_111 : decode cX2_liftModulus 111 = .ok (.iinc 3 1, 3) := by decide +kernel
theorem dX2_liftModulus_114 : decode cX2_liftModulus 114 = .ok (.goto (-31), 3) := by decide +kernel
theorem dX2_liftModulus_117 : decode cX2_liftModulus 117 = .ok (.iconst 0, 1) := by decide +kernel
theorem dX2_liftModulus_118 : decode cX2_liftModulus 118 = .ok (.istore_n 3, 1) := by decide +kernel
theorem dX2_liftModulus_119 : decode cX2_liftModulus 119 = .ok (.iload_n 3, 1) := by decide +kernel
theorem dX2_liftModulus_120 : decode cX2_liftModulus 120 = .ok (.aload_n 0, 1) := by decide +kernel
theorem dX2_liftModulus_121 : decode cX2_liftModulus 121 = .ok (.getfield 18, 3) := by decide +kernel
theorem dX2_liftModulus_124 : decode cX2_liftModulus 124 = .ok (.if_icmp .gt 25, 3) := by decide +kernel
theorem dX2_liftModulus_127 : decode cX2_liftModulus 127 = .ok (.aload_n 0, 1) := by decide +kernel
theorem dX2_liftModulus_128 : decode cX2_liftModulus 128 = .ok (.getfield 33, 3) := by decide +kernel
theorem dX2_liftModulus_131 : decode cX2_liftModulus 131 = .ok (.iload_n 3, 1) := by decide +kernel
theorem dX2_liftModulus_132 : decode cX2_liftModulus 132 = .ok (.aload_n 0, 1) := by decide +kernel
theorem dX2_liftModulus_133 : decode cX2_liftModulus 133 = .ok (.getfield 57, 3) := by decide +kernel
theorem dX2_liftModulus_136 : decode cX2_liftModulus 136 = .ok (.iload_n 3, 1) := by decide +kernel
theorem dX2_liftModulus_137 : decode cX2_liftModulus 137 = .ok (.invokestatic 116, 3) := by decide +kernel
theorem dX2_liftModulus_140 : decode cX2_liftModulus 140 = .ok (.invokestatic 90, 3) := by decide +kernel
theorem dX2_liftModulus_143 : decode cX2_liftModulus 143 = .ok (.iinc 3 1, 3) := by decide +kernel
theorem dX2_liftModulus_146 : decode cX2_liftModulus 146 = .ok (.goto (-27), 3) := by decide +kernel
theorem dX2_liftModulus_149 : decode cX2_liftModulus 149 = .ok (.return_, 1) := by decide +kernel
theorem dX2_fillImages_0 : decode cX2_fillImages 0 = .ok (.iconst 0, 1) := by decide +kernel
theorem dX2_fillImages_1 : decode cX2_fillImages 1 = .ok (.istore_n 1, 1) := by decide +kernel
theorem dX2_fillImages_2 : decode cX2_fillImages 2 = .ok (.iload_n 1, 1) := by decide +kernel
theorem dX2_fillImages_3 : decode cX2_fillImages 3 = .ok (.aload_n 0, 1) := by decide +kernel
theorem dX2_fillImages_4 : decode cX2_fillImages 4 = .ok (.getfield 18, 3) := by decide +kernel
theorem dX2_fillImages_7 : decode cX2_fillImages 7 = .ok (.if_icmp .ge 42, 3) := by decide +kernel
theorem dX2_fillImages_10 : decode cX2_fillImages 10 = .ok (.iload_n 1, 1) := by decide +kernel
theorem dX2_fillImages_11 : decode cX2_fillImages 11 = .ok (.aload_n 0, 1) := by decide +kernel
theorem dX2_fillImages_12 : decode cX2_fillImages 12 = .ok (.getfield 45, 3) := by decide +kernel
theorem dX2_fillImages_15 : decode cX2_fillImages 15 = .ok (.arraylength, 1) := by decide +kernel
theorem dX2_fillImages_16 : decode cX2_fillImages 16 = .ok (.if_icmp .ge 33, 3) := by decide +kernel
theorem dX2_fillImages_19 : decode cX2_fillImages 19 = .ok (.aload_n 0, 1) := by decide +kernel
theorem dX2_fillImages_20 : decode cX2_fillImages 20 = .ok (.aload_n 0, 1) := by decide +kernel
theorem dX2_fillImages_21 : decode cX2_fillImages 21 = .ok (.aload_n 0, 1) := by decide +kernel
theorem dX2_fillImages_22 : decode cX2_fillImages 22 = .ok (.invokevirtual 103, 3) := by decide +kernel
theorem dX2_fillImages_25 : decode cX2_fillImages 25 = .ok (.aload_n 0, 1) := by decide +kernel
theorem dX2_fillImages_26 : decode cX2_fillImages 26 = .ok (.getfield 9, 3) := by decide +kernel
theorem dX2_fillImages_29 : decode cX2_fillImages 29 = .ok (.iload_n 1, 1) := by decide +kernel
theorem dX2_fillImages_30 : decode cX2_fillImages 30 = .ok (.imul, 1) := by decide +kernel
theorem dX2_fillImages_31 : decode cX2_fillImages 31 = .ok (.invokevirtual 110, 3) := by decide +kernel
theorem dX2_fillImages_34 : decode cX2_fillImages 34 = .ok (.aload_n 0, 1) := by decide +kernel
theorem dX2_fillImages_35 : decode cX2_fillImages 35 = .ok (.getfield 45, 3) := by decide +kernel
theorem dX2_fillImages_38 : decode cX2_fillImages 38 = .ok (.iload_n 1, 1) := by decide +kernel
theorem dX2_fillImages_39 : decode cX2_fillImages 39 = .ok (.aaload, 1) := by decide +kernel
theorem dX2_fillImages_40 : decode cX2_fillImages 40 = .ok (.invokevirtual 120, 3) := by decide +kernel
theorem dX2_fillImages_43 : decode cX2_fillImages 43 = .ok (.iinc 1 1, 3) := by decide +kernel
theorem dX2_fillImages_46 : decode cX2_fillImages 46 = .ok (.goto (-44), 3) := by decide +kernel
theorem dX2_fillImages_49 : decode cX2_fillImages 49 = .ok (.return_, 1) := by decide +kernel
theorem dX2_findGenerator_0 : decode cX2_findGenerator 0 = .ok (.aload_n 0, 1) := by decide +kernel
theorem dX2_findGenerator_1 : decode cX2_findGenerator 1 = .ok (.iconst 0, 1) := by decide +kernel
theorem dX2_findGenerator_2 : decode cX2_findGenerator 2 = .ok (.putfield 30, 3) := by decide +kernel
theorem dX2_findGenerator_5 : decode cX2_findGenerator 5 = .ok (.aload_n 0, 1) := by decide +kernel
theorem dX2_findGenerator_6 : decode cX2_findGenerator 6 = .ok (.invokevirtual 107, 3) := by decide +kernel
theorem dX2_findGenerator_9 : decode cX2_findGenerator 9 = .ok (.istore_n 1, 1) := by decide +kernel
theorem dX2_findGenerator_10 : decode cX2_findGenerator 10 = .ok (.iconst 1, 1) := by decide +kernel
theorem dX2_findGenerator_11 : decode cX2_findGenerator 11 = .ok (.istore_n 2, 1) := by decide +kernel
theorem dX2_findGenerator_12 : decode cX2_findGenerator 12 = .ok (.iload_n 2, 1) := by decide +kernel
theorem dX2_findGenerator_13 : decode cX2_findGenerator 13 = .ok (.aload_n 0, 1) := by decide +kernel
theorem dX2_findGenerator_14 : decode cX2_findGenerator 14 = .ok (.getfield 24, 3) := by decide +kernel
theorem dX2_findGenerator_17 : decode cX2_findGenerator 17 = .ok (.if_icmp .ge 56, 3) := by decide +kernel
theorem dX2_findGenerator_20 : decode cX2_findGenerator 20 = .ok (.aload_n 0, 1) := by decide +kernel
theorem dX2_findGenerator_21 : decode cX2_findGenerator 21 = .ok (.aload_n 0, 1) := by decide +kernel
theorem dX2_findGenerator_22 : decode cX2_findGenerator 22 = .ok (.iload_n 2, 1) := by decide +kernel
theorem dX2_findGenerator_23 : decode cX2_findGenerator 23 = .ok (.aload_n 0, 1) := by decide +kernel
theorem dX2_findGenerator_24 : decode cX2_findGenerator 24 = .ok (.getfield 9, 3) := by decide +kernel
theorem dX2_findGenerator_27 : decode cX2_findGenerator 27 = .ok (.aload_n 0, 1) := by decide +kernel
theorem dX2_findGenerator_28 : decode cX2_findGenerator 28 = .ok (.getfield 21, 3) := by decide +kernel
theorem dX2_findGenerator_31 : decode cX2_findGenerator 31 = .ok (.invokevirtual 124, 3) := by decide +kernel
theorem dX2_findGenerator_34 : decode cX2_findGenerator 34 = .ok (.iload_n 1, 1) := by decide +kernel
theorem dX2_findGenerator_35 : decode cX2_findGenerator 35 = .ok (.invokevirtual 110, 3) := by decide +kernel
theorem dX2_findGenerator_38 : decode cX2_findGenerator 38 = .ok (.istore_n 3, 1) := by decide +kernel
theorem dX2_findGenerator_39 : decode cX2_findGenerator 39 = .ok (.aload_n 0, 1) := by decide +kernel
theorem dX2_findGenerator_40 : decode cX2_findGenerator 40 = .ok (.getfield 30, 3) := by decide +kernel
theorem dX2_findGenerator_43 : decode cX2_findGenerator 43 = .ok (.ifCond .eq 11, 3) := by decide +kernel
theorem dX2_findGenerator_46 : decode cX2_findGenerator 46 = .ok (.iload_n 3, 1) := by decide +kernel
theorem dX2_findGenerator_47 : decode cX2_findGenerator 47 = .ok (.aload_n 0, 1) := by decide +kernel
theorem dX2_findGenerator_48 : decode cX2_findGenerator 48 = .ok (.getfield 30, 3) := by decide +kernel
theorem dX2_findGenerator_51 : decode cX2_findGenerator 51 = .ok (.if_icmp .ge 16, 3) := by decide +kernel
theorem dX2_findGenerator_54 : decode cX2_findGenerator 54 = .ok (.aload_n 0, 1) := by decide +kernel
theorem dX2_findGenerator_55 : decode cX2_findGenerator 55 = .ok (.iload_n 3, 1) := by decide +kernel
theorem dX2_findGenerator_56 : decode cX2_findGenerator 56 = .ok (.invokevirtual 128, 3) := by decide +kernel
theorem dX2_findGenerator_59 : decode cX2_findGenerator 59 = .ok (.ifCond .eq 8, 3) := by decide +kernel
theorem dX2_findGenerator_62 : decode cX2_findGenerator 62 = .ok (.aload_n 0, 1) := by decide +kernel
theorem dX2_findGenerator_63 : decode cX2_findGenerator 63 = .ok (.iload_n 3, 1) := by decide +kernel
theorem dX2_findGenerator_64 : decode cX2_findGenerator 64 = .ok (.putfield 30, 3) := by decide +kernel
theorem dX2_findGenerator_67 : decode cX2_findGenerator 67 = .ok (.iinc 2 1, 3) := by decide +kernel
theorem dX2_findGenerator_70 : decode cX2_findGenerator 70 = .ok (.goto (-58), 3) := by decide +kernel
theorem dX2_findGenerator_73 : decode cX2_findGenerator 73 = .ok (.return_, 1) := by decide +kernel
theorem dX2_makesAllRoots_0 : decode cX2_makesAllRoots 0 = .ok (.iload_n 1, 1) := by decide +kernel
theorem dX2_makesAllRoots_1 : decode cX2_makesAllRoots 1 = .ok (.istore_n 2, 1) := by decide +kernel
theorem dX2_makesAllRoots_2 : decode cX2_makesAllRoots 2 = .ok (.iconst 1, 1) := by decide +kernel
theorem dX2_makesAllRoots_3 : decode cX2_makesAllRoots 3 = .ok (.istore_n 3, 1) := by decide +kernel
theorem dX2_makesAllRoots_4 : decode cX2_makesAllRoots 4 = .ok (.iload_n 3, 1) := by decide +kernel
theorem dX2_makesAllRoots_5 : decode cX2_makesAllRoots 5 = .ok (.aload_n 0, 1) := by decide +kernel
theorem dX2_makesAllRoots_6 : decode cX2_makesAllRoots 6 = .ok (.getfield 24, 3) := by decide +kernel
theorem dX2_makesAllRoots_9 : decode cX2_makesAllRoots 9 = .ok (.iconst 1, 1) := by decide +kernel
theorem dX2_makesAllRoots_10 : decode cX2_makesAllRoots 10 = .ok (.isub, 1) := by decide +kernel
theorem dX2_makesAllRoots_11 : decode cX2_makesAllRoots 11 = .ok (.if_icmp .ge 23, 3) := by decide +kernel
theorem dX2_makesAllRoots_14 : decode cX2_makesAllRoots 14 = .ok (.iload_n 2, 1) := by decide +kernel
theorem dX2_makesAllRoots_15 : decode cX2_makesAllRoots 15 = .ok (.iconst 1, 1) := by decide +kernel
theorem dX2_makesAllRoots_16 : decode cX2_makesAllRoots 16 = .ok (.if_icmp .ne 5, 3) := by decide +kernel
theorem dX2_makesAllRoots_19 : decode cX2_makesAllRoots 19 = .ok (.iconst 0, 1) := by decide +kernel
theorem dX2_makesAllRoots_20 : decode cX2_makesAllRoots 20 = .ok (.ireturn, 1) := by decide +kernel
theorem dX2_makesAllRoots_21 : decode cX2_makesAllRoots 21 = .ok (.aload_n 0, 1) := by decide +kernel
theorem dX2_makesAllRoots_22 : decode cX2_makesAllRoots 22 = .ok (.iload_n 2, 1) := by decide +kernel
theorem dX2_makesAllRoots_23 : decode cX2_makesAllRoots 23 = .ok (.iload_n 1, 1) := by decide +kernel
theorem dX2_makesAllRoots_24 : decode cX2_makesAllRoots 24 = .ok (.invokevirtual 132, 3) := by decide +kernel
theorem dX2_makesAllRoots_27 : decode cX2_makesAllRoots 27 = .ok (.istore_n 2, 1) := by decide +kernel
theorem dX2_makesAllRoots_28 : decode cX2_makesAllRoots 28 = .ok (.iinc 3 1, 3) := by decide +kernel
theorem dX2_makesAllRoots_31 : decode cX2_makesAllRoots 31 = .ok (.goto (-27), 3) := by decide +kernel
theorem dX2_makesAllRoots_34 : decode cX2_makesAllRoots 34 = .ok (.iconst 1, 1) := by decide +kernel
theorem dX2_makesAllRoots_35 : decode cX2_makesAllRoots 35 = .ok (.ireturn, 1) := by decide +kernel
theorem dX2_fillLogs_0 : decode cX2_fillLogs 0 = .ok (.aload_n 0, 1) := by decide +kernel
theorem dX2_fillLogs_1 : decode cX2_fillLogs 1 = .ok (.getfield 40, 3) := by decide +kernel
theorem dX2_fillLogs_4 : decode cX2_fillLogs 4 = .ok (.iconst (-1), 1) := by decide +kernel
theorem dX2_fillLogs_5 : decode cX2_fillLogs 5 = .ok (.invokestatic 97, 3) := by decide +kernel
theorem dX2_fillLogs_8 : decode cX2_fillLogs 8 = .ok (.iconst 1, 1) := by decide +kernel
theorem dX2_fillLogs_9 : decode cX2_fillLogs 9 = .ok (.istore_n 1, 1) := by decide +kernel
theorem dX2_fillLogs_10 : decode cX2_fillLogs 10 = .ok (.iconst 0, 1) := by decide +kernel
theorem dX2_fillLogs_11 : decode cX2_fillLogs 11 = .ok (.istore_n 2, 1) := by decide +kernel
theorem dX2_fillLogs_12 : decode cX2_fillLogs 12 = .ok (.iload_n 2, 1) := by decide +kernel
theorem dX2_fillLogs_13 : decode cX2_fillLogs 13 = .ok (.aload_n 0, 1) := by decide +kernel
theorem dX2_fillLogs_14 : decode cX2_fillLogs 14 = .ok (.getfield 24, 3) := by decide +kernel
theorem dX2_fillLogs_17 : decode cX2_fillLogs 17 = .ok (.iconst 1, 1) := by decide +kernel
theorem dX2_fillLogs_18 : decode cX2_fillLogs 18 = .ok (.isub, 1) := by decide +kernel
theorem dX2_fillLogs_19 : decode cX2_fillLogs 19 = .ok (.if_icmp .ge 49, 3) := by decide +kernel
theorem dX2_fillLogs_22 : decode cX2_fillLogs 22 = .ok (.aload_n 0, 1) := by decide +kernel
theorem dX2_fillLogs_23 : decode cX2_fillLogs 23 = .ok (.getfield 37, 3) := by decide +kernel
theorem dX2_fillLogs_26 : decode cX2_fillLogs 26 = .ok (.iload_n 2, 1) := by decide +kernel
theorem dX2_fillLogs_27 : decode cX2_fillLogs 27 = .ok (.iload_n 1, 1) := by decide +kernel
theorem dX2_fillLogs_28 : decode cX2_fillLogs 28 = .ok (.invokestatic 90, 3) := by decide +kernel
theorem dX2_fillLogs_31 : decode cX2_fillLogs 31 = .ok (.aload_n 0, 1) := by decide +kernel
theorem dX2_fillLogs_32 : decode cX2_fillLogs 32 = .ok (.getfield 40, 3) := by decide +kernel
theorem dX2_fillLogs_35 : decode cX2_fillLogs 35 = .ok (.aload_n 0, 1) := by decide +kernel
theorem dX2_fillLogs_36 : decode cX2_fillLogs 36 = .ok (.iload_n 1, 1) := by decide +kernel
theorem dX2_fillLogs_37 : decode cX2_fillLogs 37 = .ok (.aload_n 0, 1) := by decide +kernel
theorem dX2_fillLogs_38 : decode cX2_fillLogs 38 = .ok (.getfield 21, 3) := by decide +kernel
theorem dX2_fillLogs_41 : decode cX2_fillLogs 41 = .ok (.aload_n 0, 1) := by decide +kernel
theorem dX2_fillLogs_42 : decode cX2_fillLogs 42 = .ok (.getfield 9, 3) := by decide +kernel
theorem dX2_fillLogs_45 : decode cX2_fillLogs 45 = .ok (.invokevirtual 124, 3) := by decide +kernel
theorem dX2_fillLogs_48 : decode cX2_fillLogs 48 = .ok (.iload_n 2, 1) := by decide +kernel
theorem dX2_fillLogs_49 : decode cX2_fillLogs 49 = .ok (.invokestatic 90, 3) := by decide +kernel
theorem dX2_fillLogs_52 : decode cX2_fillLogs 52 = .ok (.aload_n 0, 1) := by decide +kernel
theorem dX2_fillLogs_53 : decode cX2_fillLogs 53 = .ok (.iload_n 1, 1) := by decide +kernel
theorem dX2_fillLogs_54 : decode cX2_fillLogs 54 = .ok (.aload_n 0, 1) := by decide +kernel
theorem dX2_fillLogs_55 : decode cX2_fillLogs 55 = .ok (.getfield 30, 3) := by decide +kernel
theorem dX2_fillLogs_58 : decode cX2_fillLogs 58 = .ok (.invokevirtual 132, 3) := by decide +kernel
theorem dX2_fillLogs_61 : decode cX2_fillLogs 61 = .ok (.istore_n 1, 1) := by decide +kernel
theorem dX2_fillLogs_62 : decode cX2_fillLogs 62 = .ok (.iinc 2 1, 3) := by decide +kernel
theorem dX2_fillLogs_65 : decode cX2_fillLogs 65 = .ok (.goto (-53), 3) := by decide +kernel
theorem dX2_fillLogs_68 : decode cX2_fillLogs 68 = .ok (.return_, 1) := by decide +kernel
theorem dX2_toRoot_0 : decode cX2_toRoot 0 = .ok (.aload_n 0, 1) := by decide +kernel
theorem dX2_toRoot_1 : decode cX2_toRoot 1 = .ok (.getfield 24, 3) := by decide +kernel
theorem dX2_toRoot_4 : decode cX2_toRoot 4 = .ok (.aload_n 0, 1) := by decide +kernel
theorem dX2_toRoot_5 : decode cX2_toRoot 5 = .ok (.getfield 15, 3) := by decide +kernel
theorem dX2_toRoot_8 : decode cX2_toRoot 8 = .ok (.iconst 1, 1) := by decide +kernel
theorem dX2_toRoot_9 : decode cX2_toRoot 9 = .ok (.isub, 1) := by decide +kernel
theorem dX2_toRoot_10 : decode cX2_toRoot 10 = .ok (.invokestatic 64, 3) := by decide +kernel
theorem dX2_toRoot_13 : decode cX2_toRoot 13 = .ok (.ireturn, 1) := by decide +kernel
theorem dX2_t_0 : decode cX2_t 0 = .ok (.aload_n 0, 1) := by decide +kernel
theorem dX2_t_1 : decode cX2_t 1 = .ok (.getfield 18, 3) := by decide +kernel
theorem dX2_t_4 : decode cX2_t 4 = .ok (.iconst 1, 1) := by decide +kernel
theorem dX2_t_5 : decode cX2_t 5 = .ok (.if_icmp .ne 7, 3) := by decide +kernel
theorem dX2_t_8 : decode cX2_t 8 = .ok (.iconst 0, 1) := by decide +kernel
theorem dX2_t_9 : decode cX2_t 9 = .ok (.goto 7, 3) := by decide +kernel
theorem dX2_t_12 : decode cX2_t 12 = .ok (.aload_n 0, 1) := by decide +kernel
theorem dX2_t_13 : decode cX2_t 13 = .ok (.getfield 21, 3) := by decide +kernel
theorem dX2_t_16 : decode cX2_t 16 = .ok (.ireturn, 1) := by decide +kernel
theorem dX2_has_0 : decode cX2_has 0 = .ok (.iload_n 1, 1) := by decide +kernel
theorem dX2_has_1 : decode cX2_has 1 = .ok (.ifCond .lt 15, 3) := by decide +kernel
theorem dX2_has_4 : decode cX2_has 4 = .ok (.iload_n 1, 1) := by decide +kernel
theorem dX2_has_5 : decode cX2_has 5 = .ok (.aload_n 0, 1) := by decide +kernel
theorem dX2_has_6 : decode cX2_has 6 = .ok (.getfield 27, 3) := by decide +kernel
theorem dX2_has_9 : decode cX2_has 9 = .ok (.if_icmp .ge 7, 3) := by decide +kernel
theorem dX2_has_12 : decode cX2_has 12 = .ok (.iconst 1, 1) := by decide +kernel
theorem dX2_has_13 : decode cX2_has 13 = .ok (.goto 4, 3) := by decide +kernel
theorem dX2_has_16 : decode cX2_has 16 = .ok (.iconst 0, 1) := by decide +kernel
theorem dX2_has_17 : decode cX2_has 17 = .ok (.ireturn, 1) := by decide +kernel
theorem dX2_hasRootsOfOne_0 : decode cX2_hasRootsOfOne 0 = .ok (.iload_n 1, 1) := by decide +kernel
theorem dX2_hasRootsOfOne_1 : decode cX2_hasRootsOfOne 1 = .ok (.iconst 1, 1) := by decide +kernel
theorem dX2_hasRootsOfOne_2 : decode cX2_hasRootsOfOne 2 = .ok (.if_icmp .lt 26, 3) := by decide +kernel
theorem dX2_hasRootsOfOne_5 : decode cX2_hasRootsOfOne 5 = .ok (.iload_n 1, 1) := by decide +kernel
theorem dX2_hasRootsOfOne_6 : decode cX2_hasRootsOfOne 6 = .ok (.bipush 63, 2) := by decide +kernel
theorem dX2_hasRootsOfOne_8 : decode cX2_hasRootsOfOne 8 = .ok (.if_icmp .gt 20, 3) := by decide +kernel
theorem dX2_hasRootsOfOne_11 : decode cX2_hasRootsOfOne 11 = .ok (.aload_n 0, 1) := by decide +kernel
theorem dX2_hasRootsOfOne_12 : decode cX2_hasRootsOfOne 12 = .ok (.getfield 24, 3) := by decide +kernel
theorem dX2_hasRootsOfOne_15 : decode cX2_hasRootsOfOne 15 = .ok (.iconst 1, 1) := by decide +kernel
theorem dX2_hasRootsOfOne_16 : decode cX2_hasRootsOfOne 16 = .ok (.isub, 1) := by decide +kernel
theorem dX2_hasRootsOfOne_17 : decode cX2_hasRootsOfOne 17 = .ok (.iload_n 1, 1) := by decide +kernel
theorem dX2_hasRootsOfOne_18 : decode cX2_hasRootsOfOne 18 = .ok (.invokestatic 87, 3) := by decide +kernel
theorem dX2_hasRootsOfOne_21 : decode cX2_hasRootsOfOne 21 = .ok (.ifCond .ne 7, 3) := by decide +kernel
theorem dX2_hasRootsOfOne_24 : decode cX2_hasRootsOfOne 24 = .ok (.iconst 1, 1) := by decide +kernel
theorem dX2_hasRootsOfOne_25 : decode cX2_hasRootsOfOne 25 = .ok (.goto 4, 3) := by decide +kernel
theorem dX2_hasRootsOfOne_28 : decode cX2_hasRootsOfOne 28 = .ok (.iconst 0, 1) := by decide +kernel
theorem dX2_hasRootsOfOne_29 : decode cX2_hasRootsOfOne 29 = .ok (.ireturn, 1) := by decide +kernel
theorem dX2_plus_0 : decode cX2_plus 0 = .ok (.iload_n 1, 1) := by decide +kernel
theorem dX2_plus_1 : decode cX2_plus 1 = .ok (.iload_n 2, 1) := by decide +kernel
theorem dX2_plus_2 : decode cX2_plus 2 = .ok (.iconst 1, 1) := by decide +kernel
theorem dX2_plus_3 : decode cX2_plus 3 = .ok (.aload_n 0, 1) := by decide +kernel
theorem dX2_plus_4 : decode cX2_plus 4 = .ok (.getfield 21, 3) := by decide +kernel
theorem dX2_plus_7 : decode cX2_plus 7 = .ok (.invokestatic 135, 3) := by decide +kernel
theorem dX2_plus_10 : decode cX2_plus 10 = .ok (.ireturn, 1) := by decide +kernel
theorem dX2_minus_0 : decode cX2_minus 0 = .ok (.iload_n 1, 1) := by decide +kernel
theorem dX2_minus_1 : decode cX2_minus 1 = .ok (.iload_n 2, 1) := by decide +kernel
theorem dX2_minus_2 : decode cX2_minus 2 = .ok (.aload_n 0, 1) := by decide +kernel
theorem dX2_minus_3 : decode cX2_minus 3 = .ok (.getfield 21, 3) := by decide +kernel
theorem dX2_minus_6 : decode cX2_minus 6 = .ok (.iconst 1, 1) := by decide +kernel
theorem dX2_minus_7 : decode cX2_minus 7 = .ok (.isub, 1) := by decide +kernel
theorem dX2_minus_8 : decode cX2_minus 8 = .ok (.aload_n 0, 1) := by decide +kernel
theorem dX2_minus_9 : decode cX2_minus 9 = .ok (.getfield 21, 3) := by decide +kernel
theorem dX2_minus_12 : decode cX2_minus 12 = .ok (.invokestatic 135, 3) := by decide +kernel
theorem dX2_minus_15 : decode cX2_minus 15 = .ok (.ireturn, 1) := by decide +kernel
theorem dX2_times_0 : decode cX2_times 0 = .ok (.aload_n 0, 1) := by decide +kernel
theorem dX2_times_1 : decode cX2_times 1 = .ok (.iload_n 1, 1) := by decide +kernel
theorem dX2_times_2 : decode cX2_times 2 = .ok (.aload_n 0, 1) := by decide +kernel
theorem dX2_times_3 : decode cX2_times 3 = .ok (.getfield 48, 3) := by decide +kernel
theorem dX2_times_6 : decode cX2_times 6 = .ok (.invokevirtual 120, 3) := by decide +kernel
theorem dX2_times_9 : decode cX2_times 9 = .ok (.aload_n 0, 1) := by decide +kernel
theorem dX2_times_10 : decode cX2_times 10 = .ok (.iload_n 2, 1) := by decide +kernel
theorem dX2_times_11 : decode cX2_times 11 = .ok (.aload_n 0, 1) := by decide +kernel
theorem dX2_times_12 : decode cX2_times 12 = .ok (.getfield 51, 3) := by decide +kernel
theorem dX2_times_15 : decode cX2_times 15 = .ok (.invokevirtual 120, 3) := by decide +kernel
theorem dX2_times_18 : decode cX2_times 18 = .ok (.aload_n 0, 1) := by decide +kernel
theorem dX2_times_19 : decode cX2_times 19 = .ok (.getfield 54, 3) := by decide +kernel
theorem dX2_times_22 : decode cX2_times 22 = .ok (.iconst 0, 1) := by decide +kernel
theorem dX2_times_23 : decode cX2_times 23 = .ok (.invokestatic 97, 3) := by decide +kernel
theorem dX2_times_26 : decode cX2_times 26 = .ok (.iconst 0, 1) := by decide +kernel
theorem dX2_times_27 : decode cX2_times 27 = .ok (.istore_n 3, 1) := by decide +kernel
theorem dX2_times_28 : decode cX2_times 28 = .ok (.iload_n 3, 1) := by decide +kernel
theorem dX2_times_29 : decode cX2_times 29 = .ok (.bipush 6, 2) := by decide +kernel
theorem dX2_times_31 : decode cX2_times 31 = .ok (.if_icmp .ge 51, 3) := by decide +kernel
theorem dX2_times_34 : decode cX2_times 34 = .ok (.iconst 0, 1) := by decide +kernel
theorem dX2_times_35 : decode cX2_times 35 = .ok (.istore 4, 2) := by decide +kernel
theorem dX2_times_37 : decode cX2_times 37 = .ok (.iload 4, 2) := by decide +kernel
theorem dX2_times_39 : decode cX2_times 39 = .ok (.bipush 6, 2) := by decide +kernel
theorem dX2_times_41 : decode cX2_times 41 = .ok (.if_icmp .ge 35, 3) := by decide +kernel
theorem dX2_times_44 : decode cX2_times 44 = .ok (.aload_n 0, 1) := by decide +kernel
theorem dX2_times_45 : decode cX2_times 45 = .ok (.getfield 54, 3) := by decide +kernel
theorem dX2_times_48 : decode cX2_times 48 = .ok (.iload_n 3, 1) := by decide +kernel
theorem dX2_times_49 : decode cX2_times 49 = .ok (.iload 4, 2) := by decide +kernel
theorem dX2_times_51 : decode cX2_times 51 = .ok (.iadd, 1) := by decide +kernel
theorem dX2_times_52 : decode cX2_times 52 = .ok (.dup2, 1) := by decide +kernel
theorem dX2_times_53 : decode cX2_times 53 = .ok (.iaload, 1) := by decide +kernel
theorem dX2_times_54 : decode cX2_times 54 = .ok (.aload_n 0, 1) := by decide +kernel
theorem dX2_times_55 : decode cX2_times 55 = .ok (.getfield 48, 3) := by decide +kernel
theorem dX2_times_58 : decode cX2_times 58 = .ok (.iload_n 3, 1) := by decide +kernel
theorem dX2_times_59 : decode cX2_times 59 = .ok (.iaload, 1) := by decide +kernel
theorem dX2_times_60 : decode cX2_times 60 = .ok (.aload_n 0, 1) := by decide +kernel
theorem dX2_times_61 : decode cX2_times 61 = .ok (.getfield 51, 3) := by decide +kernel
theorem dX2_times_64 : decode cX2_times 64 = .ok (.iload 4, 2) := by decide +kernel
theorem dX2_times_66 : decode cX2_times 66 = .ok (.iaload, 1) := by decide +kernel
theorem dX2_times_67 : decode cX2_times 67 = .ok (.imul, 1) := by decide +kernel
theorem dX2_times_68 : decode cX2_times 68 = .ok (.iadd, 1) := by decide +kernel
theorem dX2_times_69 : decode cX2_times 69 = .ok (.iastore, 1) := by decide +kernel
theorem dX2_times_70 : decode cX2_times 70 = .ok (.iinc 4 1, 3) := by decide +kernel
theorem dX2_times_73 : decode cX2_times 73 = .ok (.goto (-36), 3) := by decide +kernel
theorem dX2_times_76 : decode cX2_times 76 = .ok (.iinc 3 1, 3) := by decide +kernel
theorem dX2_times_79 : decode cX2_times 79 = .ok (.goto (-51), 3) := by decide +kernel
theorem dX2_times_82 : decode cX2_times 82 = .ok (.iconst 2, 1) := by decide +kernel
theorem dX2_times_83 : decode cX2_times 83 = .ok (.aload_n 0, 1) := by decide +kernel
theorem dX2_times_84 : decode cX2_times 84 = .ok (.getfield 18, 3) := by decide +kernel
theorem dX2_times_87 : decode cX2_times 87 = .ok (.imul, 1) := by decide +kernel
theorem dX2_times_88 : decode cX2_times 88 = .ok (.iconst 2, 1) := by decide +kernel
theorem dX2_times_89 : decode cX2_times 89 = .ok (.isub, 1) := by decide +kernel
theorem dX2_times_90 : decode cX2_times 90 = .ok (.istore_n 3, 1) := by decide +kernel
theorem dX2_times_91 : decode cX2_times 91 = .ok (.iload_n 3, 1) := by decide +kernel
theorem dX2_times_92 : decode cX2_times 92 = .ok (.aload_n 0, 1) := by decide +kernel
theorem dX2_times_93 : decode cX2_times 93 = .ok (.getfield 18, 3) := by decide +kernel
theorem dX2_times_96 : decode cX2_times 96 = .ok (.if_icmp .lt 77, 3) := by decide +kernel
theorem dX2_times_99 : decode cX2_times 99 = .ok (.aload_n 0, 1) := by decide +kernel
theorem dX2_times_100 : decode cX2_times 100 = .ok (.getfield 54, 3) := by decide +kernel
theorem dX2_times_103 : decode cX2_times 103 = .ok (.iload_n 3, 1) := by decide +kernel
theorem dX2_times_104 : decode cX2_times 104 = .ok (.invokestatic 116, 3) := by decide +kernel
theorem dX2_times_107 : decode cX2_times 107 = .ok (.aload_n 0, 1) := by decide +kernel
theorem dX2_times_108 : decode cX2_times 108 = .ok (.getfield 21, 3) := by decide +kernel
theorem dX2_times_111 : decode cX2_times 111 = .ok (.invokestatic 87, 3) := by decide +kernel
theorem dX2_times_114 : decode cX2_times 114 = .ok (.istore 4, 2) := by decide +kernel
theorem dX2_times_116 : decode cX2_times 116 = .ok (.iconst 0, 1) := by decide +kernel
theorem dX2_times_117 : decode cX2_times 117 = .ok (.istore 5, 2) := by decide +kernel
theorem dX2_times_119 : decode cX2_times 119 = .ok (.iload 5, 2) := by decide +kernel
theorem dX2_times_121 : decode cX2_times 121 = .ok (.aload_n 0, 1) := by decide +kernel
theorem dX2_times_122 : decode cX2_times 122 = .ok (.getfield 18, 3) := by decide +kernel
theorem dX2_times_125 : decode cX2_times 125 = .ok (.if_icmp .ge 42, 3) := by decide +kernel
theorem dX2_times_128 : decode cX2_times 128 = .ok (.aload_n 0, 1) := by decide +kernel
theorem dX2_times_129 : decode cX2_times 129 = .ok (.getfield 54, 3) := by decide +kernel
theorem dX2_times_132 : decode cX2_times 132 = .ok (.iload_n 3, 1) := by decide +kernel
theorem dX2_times_133 : decode cX2_times 133 = .ok (.aload_n 0, 1) := by decide +kernel
theorem dX2_times_134 : decode cX2_times 134 = .ok (.getfield 18, 3) := by decide +kernel
theorem dX2_times_137 : decode cX2_times 137 = .ok (.isub, 1) := by decide +kernel
theorem dX2_times_138 : decode cX2_times 138 = .ok (.iload 5, 2) := by decide +kernel
theorem dX2_times_140 : decode cX2_times 140 = .ok (.iadd, 1) := by decide +kernel
theorem dX2_times_141 : decode cX2_times 141 = .ok (.iload 4, 2) := by decide +kernel
theorem dX2_times_143 : decode cX2_times 143 = .ok (.aload_n 0, 1) := by decide +kernel
theorem dX2_times_144 : decode cX2_times 144 = .ok (.getfield 21, 3) := by decide +kernel
theorem dX2_times_147 : decode cX2_times 147 = .ok (.aload_n 0, 1) := by decide +kernel
theorem dX2_times_148 : decode cX2_times 148 = .ok (.getfield 33, 3) := by decide +kernel
theorem dX2_times_151 : decode cX2_times 151 = .ok (.iload 5, 2) := by decide +kernel
theorem dX2_times_153 : decode cX2_times 153 = .ok (.invokestatic 116, 3) := by decide +kernel
theorem dX2_times_156 : decode cX2_times 156 = .ok (.isub, 1) := by decide +kernel
theorem dX2_times_157 : decode cX2_times 157 = .ok (.imul, 1) := by decide +kernel
theorem dX2_times_158 : decode cX2_times 158 = .ok (.invokestatic 139, 3) := by decide +kernel
theorem dX2_times_161 : decode cX2_times 161 = .ok (.iinc 5 1, 3) := by decide +kernel
theorem dX2_times_164 : decode cX2_times 164 = .ok (.goto (-45), 3) := by decide +kernel
theorem dX2_times_167 : decode cX2_times 167 = .ok (.iinc 3 (-1), 3) := by decide +kernel
theorem dX2_times_170 : decode cX2_times 170 = .ok (.goto (-79), 3) := by decide +kernel
theorem dX2_times_173 : decode cX2_times 173 = .ok (.aload_n 0, 1) := by decide +kernel
theorem dX2_times_174 : decode cX2_times 174 = .ok (.aload_n 0, 1) := by decide +kernel
theorem dX2_times_175 : decode cX2_times 175 = .ok (.getfield 54, 3) := by decide +kernel
theorem dX2_times_178 : decode cX2_times 178 = .ok (.invokevirtual 142, 3) := by decide +kernel
theorem dX2_times_181 : decode cX2_times 181 = .ok (.ireturn, 1) := by decide +kernel
theorem dX2_power_0 : decode cX2_power 0 = .ok (.iconst 1, 1) := by decide +kernel
theorem dX2_power_1 : decode cX2_power 1 = .ok (.istore_n 3, 1) := by decide +kernel
theorem dX2_power_2 : decode cX2_power 2 = .ok (.iload_n 1, 1) := by decide +kernel
theorem dX2_power_3 : decode cX2_power 3 = .ok (.istore 4, 2) := by decide +kernel
theorem dX2_power_5 : decode cX2_power 5 = .ok (.iload_n 2, 1) := by decide +kernel
theorem dX2_power_6 : decode cX2_power 6 = .ok (.istore 5, 2) := by decide +kernel
theorem dX2_power_8 : decode cX2_power 8 = .ok (.iload 5, 2) := by decide +kernel
theorem dX2_power_10 : decode cX2_power 10 = .ok (.ifCond .le 49, 3) := by decide +kernel
theorem dX2_power_13 : decode cX2_power 13 = .ok (.iload 5, 2) := by decide +kernel
theorem dX2_power_15 : decode cX2_power 15 = .ok (.iconst 1, 1) := by decide +kernel
theorem dX2_power_16 : decode cX2_power 16 = .ok (.iand, 1) := by decide +kernel
theorem dX2_power_17 : decode cX2_power 17 = .ok (.iconst 1, 1) := by decide +kernel
theorem dX2_power_18 : decode cX2_power 18 = .ok (.if_icmp .ne 11, 3) := by decide +kernel
theorem dX2_power_21 : decode cX2_power 21 = .ok (.aload_n 0, 1) := by decide +kernel
theorem dX2_power_22 : decode cX2_power 22 = .ok (.iload_n 3, 1) := by decide +kernel
theorem dX2_power_23 : decode cX2_power 23 = .ok (.iload 4, 2) := by decide +kernel
theorem dX2_power_25 : decode cX2_power 25 = .ok (.invokevirtual 132, 3) := by decide +kernel
theorem dX2_power_28 : decode cX2_power 28 = .ok (.istore_n 3, 1) := by decide +kernel
theorem dX2_power_29 : decode cX2_power 29 = .ok (.iload 5, 2) := by decide +kernel
theorem dX2_power_31 : decode cX2_power 31 = .ok (.iconst 1, 1) := by decide +kernel
theorem dX2_power_32 : decode cX2_power 32 = .ok (.if_icmp .le 14, 3) := by decide +kernel
theorem dX2_power_35 : decode cX2_power 35 = .ok (.aload_n 0, 1) := by decide +kernel
theorem dX2_power_36 : decode cX2_power 36 = .ok (.iload 4, 2) := by decide +kernel
theorem dX2_power_38 : decode cX2_power 38 = .ok (.iload 4, 2) := by decide +kernel
theorem dX2_power_40 : decode cX2_power 40 = .ok (.invokevirtual 132, 3) := by decide +kernel
theorem dX2_power_43 : decode cX2_power 43 = .ok (.goto 5, 3) := by decide +kernel
theorem dX2_power_46 : decode cX2_power 46 = .ok (.iload 4, 2) := by decide +kernel
theorem dX2_power_48 : decode cX2_power 48 = .ok (.istore 4, 2) := by decide +kernel
theorem dX2_power_50 : decode cX2_power 50 = .ok (.iload 5, 2) := by decide +kernel
theorem dX2_power_52 : decode cX2_power 52 = .ok (.iconst 1, 1) := by decide +kernel
theorem dX2_power_53 : decode cX2_power 53 = .ok (.ishr, 1) := by decide +kernel
theorem dX2_power_54 : decode cX2_power 54 = .ok (.istore 5, 2) := by decide +kernel
theorem dX2_power_56 : decode cX2_power 56 = .ok (.goto (-48), 3) := by decide +kernel
theorem dX2_power_59 : decode cX2_power 59 = .ok (.iload_n 3, 1) := by decide +kernel
theorem dX2_power_60 : decode cX2_power 60 = .ok (.ireturn, 1) := by decide +kernel
theorem dX2_grow_0 : decode cX2_grow 0 = .ok (.iload_n 2, 1) := by decide +kernel
theorem dX2_grow_1 : decode cX2_grow 1 = .ok (.iconst 1, 1) := by decide +kernel
theorem dX2_grow_2 : decode cX2_grow 2 = .ok (.iadd, 1) := by decide +kernel
theorem dX2_grow_3 : decode cX2_grow 3 = .ok (.istore 4, 2) := by decide +kernel
theorem dX2_grow_5 : decode cX2_grow 5 = .ok (.iload 4, 2) := by decide +kernel
theorem dX2_grow_7 : decode cX2_grow 7 = .ok (.ifCond .lt 42, 3) := by decide +kernel
theorem dX2_grow_10 : decode cX2_grow 10 = .ok (.aload_n 1, 1) := by decide +kernel
theorem dX2_grow_11 : decode cX2_grow 11 = .ok (.iload 4, 2) := by decide +kernel
theorem dX2_grow_13 : decode cX2_grow 13 = .ok (.iconst 1, 1) := by decide +kernel
theorem dX2_grow_14 : decode cX2_grow 14 = .ok (.isub, 1) := by decide +kernel
theorem dX2_grow_15 : decode cX2_grow 15 = .ok (.invokestatic 116, 3) := by decide +kernel
theorem dX2_grow_18 : decode cX2_grow 18 = .ok (.istore 5, 2) := by decide +kernel
theorem dX2_grow_20 : decode cX2_grow 20 = .ok (.aload_n 1, 1) := by decide +kernel
theorem dX2_grow_21 : decode cX2_grow 21 = .ok (.iload 4, 2) := by decide +kernel
theorem dX2_grow_23 : decode cX2_grow 23 = .ok (.aload_n 0, 1) := by decide +kernel
theorem dX2_grow_24 : decode cX2_grow 24 = .ok (.iload 5, 2) := by decide +kernel
theorem dX2_grow_26 : decode cX2_grow 26 = .ok (.aload_n 0, 1) := by decide +kernel
theorem dX2_grow_27 : decode cX2_grow 27 = .ok (.iload_n 3, 1) := by decide +kernel
theorem dX2_grow_28 : decode cX2_grow 28 = .ok (.aload_n 1, 1) := by decide +kernel
theorem dX2_grow_29 : decode cX2_grow 29 = .ok (.iload 4, 2) := by decide +kernel
theorem dX2_grow_31 : decode cX2_grow 31 = .ok (.invokestatic 116, 3) := by decide +kernel
theorem dX2_grow_34 : decode cX2_grow 34 = .ok (.invokevirtual 132, 3) := by decide +kernel
theorem dX2_grow_37 : decode cX2_grow 37 = .ok (.invokevirtual 146, 3) := by decide +kernel
theorem dX2_grow_40 : decode cX2_grow 40 = .ok (.invokestatic 90, 3) := by decide +kernel
theorem dX2_grow_43 : decode cX2_grow 43 = .ok (.iinc 4 (-1), 3) := by decide +kernel
theorem dX2_grow_46 : decode cX2_grow 46 = .ok (.goto (-41), 3) := by decide +kernel
theorem dX2_grow_49 : decode cX2_grow 49 = .ok (.return_, 1) := by decide +kernel
theorem dX2_evaluate_0 : decode cX2_evaluate 0 = .ok (.iconst 0, 1) := by decide +kernel
theorem dX2_evaluate_1 : decode cX2_evaluate 1 = .ok (.istore 4, 2) := by decide +kernel
theorem dX2_evaluate_3 : decode cX2_evaluate 3 = .ok (.iload_n 2, 1) := by decide +kernel
theorem dX2_evaluate_4 : decode cX2_evaluate 4 = .ok (.istore 5, 2) := by decide +kernel
theorem dX2_evaluate_6 : decode cX2_evaluate 6 = .ok (.iload 5, 2) := by decide +kernel
theorem dX2_evaluate_8 : decode cX2_evaluate 8 = .ok (.ifCond .lt 28, 3) := by decide +kernel
theorem dX2_evaluate_11 : decode cX2_evaluate 11 = .ok (.aload_n 0, 1) := by decide +kernel
theorem dX2_evaluate_12 : decode cX2_evaluate 12 = .ok (.aload_n 0, 1) := by decide +kernel
theorem dX2_evaluate_13 : decode cX2_evaluate 13 = .ok (.iload 4, 2) := by decide +kernel
theorem dX2_evaluate_15 : decode cX2_evaluate 15 = .ok (.iload_n 3, 1) := by decide +kernel
theorem dX2_evaluate_16 : decode cX2_evaluate 16 = .ok (.invokevirtual 132, 3) := by decide +kernel
theorem dX2_evaluate_19 : decode cX2_evaluate 19 = .ok (.aload_n 1, 1) := by decide +kernel
theorem dX2_evaluate_20 : decode cX2_evaluate 20 = .ok (.iload 5, 2) := by decide +kernel
theorem dX2_evaluate_22 : decode cX2_evaluate 22 = .ok (.invokestatic 116, 3) := by decide +kernel
theorem dX2_evaluate_25 : decode cX2_evaluate 25 = .ok (.invokevirtual 149, 3) := by decide +kernel
theorem dX2_evaluate_28 : decode cX2_evaluate 28 = .ok (.istore 4, 2) := by decide +kernel
theorem dX2_evaluate_30 : decode cX2_evaluate 30 = .ok (.iinc 5 (-1), 3) := by decide +kernel
theorem dX2_evaluate_33 : decode cX2_evaluate 33 = .ok (.goto (-27), 3) := by decide +kernel
theorem dX2_evaluate_36 : decode cX2_evaluate 36 = .ok (.iload 4, 2) := by decide +kernel
theorem dX2_evaluate_38 : decode cX2_evaluate 38 = .ok (.ireturn, 1) := by decide +kernel
theorem dX2_spread_0 : decode cX2_spread 0 = .ok (.aload_n 0, 1) := by decide +kernel
theorem dX2_spread_1 : decode cX2_spread 1 = .ok (.getfield 21, 3) := by decide +kernel
theorem dX2_spread_4 : decode cX2_spread 4 = .ok (.iconst 2, 1) := by decide +kernel
theorem dX2_spread_5 : decode cX2_spread 5 = .ok (.if_icmp .ge 4, 3) := by decide +kernel
theorem dX2_spread_8 : decode cX2_spread 8 = .ok (.return_, 1) := by decide +kernel
theorem dX2_spread_9 : decode cX2_spread 9 = .ok (.iload_n 1, 1) := by decide +kernel
theorem dX2_spread_10 : decode cX2_spread 10 = .ok (.istore_n 3, 1) := by decide +kernel
theorem dX2_spread_11 : decode cX2_spread 11 = .ok (.iconst 0, 1) := by decide +kernel
theorem dX2_spread_12 : decode cX2_spread 12 = .ok (.istore 4, 2) := by decide +kernel
theorem dX2_spread_14 : decode cX2_spread 14 = .ok (.iload 4, 2) := by decide +kernel
theorem dX2_spread_16 : decode cX2_spread 16 = .ok (.aload_n 2, 1) := by decide +kernel
theorem dX2_spread_17 : decode cX2_spread 17 = .ok (.arraylength, 1) := by decide +kernel
theorem dX2_spread_18 : decode cX2_spread 18 = .ok (.if_icmp .ge 26, 3) := by decide +kernel
theorem dX2_spread_21 : decode cX2_spread 21 = .ok (.aload_n 2, 1) := by decide +kernel
theorem dX2_spread_22 : decode cX2_spread 22 = .ok (.iload 4, 2) := by decide +kernel
theorem dX2_spread_24 : decode cX2_spread 24 = .ok (.iload_n 3, 1) := by decide +kernel
theorem dX2_spread_25 : decode cX2_spread 25 = .ok (.aload_n 0, 1) := by decide +kernel
theorem dX2_spread_26 : decode cX2_spread 26 = .ok (.getfield 21, 3) := by decide +kernel
theorem dX2_spread_29 : decode cX2_spread 29 = .ok (.irem, 1) := by decide +kernel
theorem dX2_spread_30 : decode cX2_spread 30 = .ok (.iastore, 1) := by decide +kernel
theorem dX2_spread_31 : decode cX2_spread 31 = .ok (.iload_n 3, 1) := by decide +kernel
theorem dX2_spread_32 : decode cX2_spread 32 = .ok (.aload_n 0, 1) := by decide +kernel
theorem dX2_spread_33 : decode cX2_spread 33 = .ok (.getfield 21, 3) := by decide +kernel
theorem dX2_spread_36 : decode cX2_spread 36 = .ok (.idiv, 1) := by decide +kernel
theorem dX2_spread_37 : decode cX2_spread 37 = .ok (.istore_n 3, 1) := by decide +kernel
theorem dX2_spread_38 : decode cX2_spread 38 = .ok (.iinc 4 1, 3) := by decide +kernel
theorem dX2_spread_41 : decode cX2_spread 41 = .ok (.goto (-27), 3) := by decide +kernel
theorem dX2_spread_44 : decode cX2_spread 44 = .ok (.return_, 1) := by decide +kernel
theorem dX2_gather_0 : decode cX2_gather 0 = .ok (.aload_n 0, 1) := by decide +kernel
theorem dX2_gather_1 : decode cX2_gather 1 = .ok (.getfield 21, 3) := by decide +kernel
theorem dX2_gather_4 : decode cX2_gather 4 = .ok (.iconst 2, 1) := by decide +kernel
theorem dX2_gather_5 : decode cX2_gather 5 = .ok (.if_icmp .ge 5, 3) := by decide +kernel
theorem dX2_gather_8 : decode cX2_gather 8 = .ok (.iconst 0, 1) := by decide +kernel
theorem dX2_gather_9 : decode cX2_gather 9 = .ok (.ireturn, 1) := by decide +kernel
theorem dX2_gather_10 : decode cX2_gather 10 = .ok (.iconst 0, 1) := by decide +kernel
theorem dX2_gather_11 : decode cX2_gather 11 = .ok (.istore_n 2, 1) := by decide +kernel
theorem dX2_gather_12 : decode cX2_gather 12 = .ok (.aload_n 0, 1) := by decide +kernel
theorem dX2_gather_13 : decode cX2_gather 13 = .ok (.getfield 18, 3) := by decide +kernel
theorem dX2_gather_16 : decode cX2_gather 16 = .ok (.aload_n 1, 1) := by decide +kernel
theorem dX2_gather_17 : decode cX2_gather 17 = .ok (.arraylength, 1) := by decide +kernel
theorem dX2_gather_18 : decode cX2_gather 18 = .ok (.invokestatic 152, 3) := by decide +kernel
theorem dX2_gather_21 : decode cX2_gather 21 = .ok (.iconst 1, 1) := by decide +kernel
theorem dX2_gather_22 : decode cX2_gather 22 = .ok (.isub, 1) := by decide +kernel
theorem dX2_gather_23 : decode cX2_gather 23 = .ok (.istore_n 3, 1) := by decide +kernel
theorem dX2_gather_24 : decode cX2_gather 24 = .ok (.iload_n 3, 1) := by decide +kernel
theorem dX2_gather_25 : decode cX2_gather 25 = .ok (.ifCond .lt 25, 3) := by decide +kernel
theorem dX2_gather_28 : decode cX2_gather 28 = .ok (.iload_n 2, 1) := by decide +kernel
theorem dX2_gather_29 : decode cX2_gather 29 = .ok (.aload_n 0, 1) := by decide +kernel
theorem dX2_gather_30 : decode cX2_gather 30 = .ok (.getfield 21, 3) := by decide +kernel
theorem dX2_gather_33 : decode cX2_gather 33 = .ok (.imul, 1) := by decide +kernel
theorem dX2_gather_34 : decode cX2_gather 34 = .ok (.aload_n 1, 1) := by decide +kernel
theorem dX2_gather_35 : decode cX2_gather 35 = .ok (.iload_n 3, 1) := by decide +kernel
theorem dX2_gather_36 : decode cX2_gather 36 = .ok (.iaload, 1) := by decide +kernel
theorem dX2_gather_37 : decode cX2_gather 37 = .ok (.aload_n 0, 1) := by decide +kernel
theorem dX2_gather_38 : decode cX2_gather 38 = .ok (.getfield 21, 3) := by decide +kernel
theorem dX2_gather_41 : decode cX2_gather 41 = .ok (.irem, 1) := by decide +kernel
theorem dX2_gather_42 : decode cX2_gather 42 = .ok (.iadd, 1) := by decide +kernel
theorem dX2_gather_43 : decode cX2_gather 43 = .ok (.istore_n 2, 1) := by decide +kernel
theorem dX2_gather_44 : decode cX2_gather 44 = .ok (.iinc 3 (-1), 3) := by decide +kernel
theorem dX2_gather_47 : decode cX2_gather 47 = .ok (.goto (-23), 3) := by decide +kernel
theorem dX2_gather_50 : decode cX2_gather 50 = .ok (.iload_n 2, 1) := by decide +kernel
theorem dX2_gather_51 : decode cX2_gather 51 = .ok (.ireturn, 1) := by decide +kernel
theorem dX2_rebase_0 : decode cX2_rebase 0 = .ok (.iconst 0, 1) := by decide +kernel
theorem dX2_rebase_1 : decode cX2_rebase 1 = .ok (.istore 4, 2) := by decide +kernel
theorem dX2_rebase_3 : decode cX2_rebase 3 = .ok (.iconst 1, 1) := by decide +kernel
theorem dX2_rebase_4 : decode cX2_rebase 4 = .ok (.istore 5, 2) := by decide +kernel
theorem dX2_rebase_6 : decode cX2_rebase 6 = .ok (.iload_n 1, 1) := by decide +kernel
theorem dX2_rebase_7 : decode cX2_rebase 7 = .ok (.istore 6, 2) := by decide +kernel
theorem dX2_rebase_9 : decode cX2_rebase 9 = .ok (.iconst 0, 1) := by decide +kernel
theorem dX2_rebase_10 : decode cX2_rebase 10 = .ok (.istore 7, 2) := by decide +kernel
theorem dX2_rebase_12 : decode cX2_rebase 12 = .ok (.iload 7, 2) := by decide +kernel
theorem dX2_rebase_14 : decode cX2_rebase 14 = .ok (.aload_n 0, 1) := by decide +kernel
theorem dX2_rebase_15 : decode cX2_rebase 15 = .ok (.getfield 18, 3) := by decide +kernel
theorem dX2_rebase_18 : decode cX2_rebase 18 = .ok (.if_icmp .ge 44, 3) := by decide +kernel
theorem dX2_rebase_21 : decode cX2_rebase 21 = .ok (.iload 4, 2) := by decide +kernel
theorem dX2_rebase_23 : decode cX2_rebase 23 = .ok (.iload 5, 2) := by decide +kernel
theorem dX2_rebase_25 : decode cX2_rebase 25 = .ok (.iload 6, 2) := by decide +kernel
theorem dX2_rebase_27 : decode cX2_rebase 27 = .ok (.iload_n 2, 1) := by decide +kernel
theorem dX2_rebase_28 : decode cX2_rebase 28 = .ok (.invokestatic 87, 3) := by decide +kernel
theorem dX2_rebase_31 : decode cX2_rebase 31 = .ok (.aload_n 0, 1) := by decide +kernel
theorem dX2_rebase_32 : decode cX2_rebase 32 = .ok (.getfield 9, 3) := by decide +kernel
theorem dX2_rebase_35 : decode cX2_rebase 35 = .ok (.invokestatic 87, 3) := by decide +kernel
theorem dX2_rebase_38 : decode cX2_rebase 38 = .ok (.imul, 1) := by decide +kernel
theorem dX2_rebase_39 : decode cX2_rebase 39 = .ok (.iadd, 1) := by decide +kernel
theorem dX2_rebase_40 : decode cX2_rebase 40 = .ok (.istore 4, 2) := by decide +kernel
theorem dX2_rebase_42 : decode cX2_rebase 42 = .ok (.iload 6, 2) := by decide +kernel
theorem dX2_rebase_44 : decode cX2_rebase 44 = .ok (.iload_n 2, 1) := by decide +kernel
theorem dX2_rebase_45 : decode cX2_rebase 45 = .ok (.invokestatic 94, 3) := by decide +kernel
theorem dX2_rebase_48 : decode cX2_rebase 48 = .ok (.istore 6, 2) := by decide +kernel
theorem dX2_rebase_50 : decode cX2_rebase 50 = .ok (.iload 5, 2) := by decide +kernel
theorem dX2_rebase_52 : decode cX2_rebase 52 = .ok (.iload_n 3, 1) := by decide +kernel
theorem dX2_rebase_53 : decode cX2_rebase 53 = .ok (.imul, 1) := by decide +kernel
theorem dX2_rebase_54 : decode cX2_rebase 54 = .ok (.istore 5, 2) := by decide +kernel
theorem dX2_rebase_56 : decode cX2_rebase 56 = .ok (.iinc 7 1, 3) := by decide +kernel
theorem dX2_rebase_59 : decode cX2_rebase 59 = .ok (.goto (-47), 3) := by decide +kernel
theorem dX2_rebase_62 : decode cX2_rebase 62 = .ok (.iload 4, 2) := by decide +kernel
theorem dX2_rebase_64 : decode cX2_rebase 64 = .ok (.ireturn, 1) := by decide +kernel
theorem dX2_byP_0 : decode cX2_byP 0 = .ok (.iconst 0, 1) := by decide +kernel
theorem dX2_byP_1 : decode cX2_byP 1 = .ok (.istore_n 2, 1) := by decide +kernel
theorem dX2_byP_2 : decode cX2_byP 2 = .ok (.iconst 1, 1) := by decide +kernel
theorem dX2_byP_3 : decode cX2_byP 3 = .ok (.istore_n 3, 1) := by decide +kernel
theorem dX2_byP_4 : decode cX2_byP 4 = .ok (.iload_n 1, 1) := by decide +kernel
theorem dX2_byP_5 : decode cX2_byP 5 = .ok (.istore 4, 2) := by decide +kernel
theorem dX2_byP_7 : decode cX2_byP 7 = .ok (.iconst 0, 1) := by decide +kernel
theorem dX2_byP_8 : decode cX2_byP 8 = .ok (.istore 5, 2) := by decide +kernel
theorem dX2_byP_10 : decode cX2_byP 10 = .ok (.iload 5, 2) := by decide +kernel
theorem dX2_byP_12 : decode cX2_byP 12 = .ok (.aload_n 0, 1) := by decide +kernel
theorem dX2_byP_13 : decode cX2_byP 13 = .ok (.getfield 18, 3) := by decide +kernel
theorem dX2_byP_16 : decode cX2_byP 16 = .ok (.if_icmp .ge 48, 3) := by decide +kernel
theorem dX2_byP_19 : decode cX2_byP 19 = .ok (.iload_n 2, 1) := by decide +kernel
theorem dX2_byP_20 : decode cX2_byP 20 = .ok (.iload_n 3, 1) := by decide +kernel
theorem dX2_byP_21 : decode cX2_byP 21 = .ok (.iload 4, 2) := by decide +kernel
theorem dX2_byP_23 : decode cX2_byP 23 = .ok (.aload_n 0, 1) := by decide +kernel
theorem dX2_byP_24 : decode cX2_byP 24 = .ok (.getfield 21, 3) := by decide +kernel
theorem dX2_byP_27 : decode cX2_byP 27 = .ok (.invokestatic 87, 3) := by decide +kernel
theorem dX2_byP_30 : decode cX2_byP 30 = .ok (.aload_n 0, 1) := by decide +kernel
theorem dX2_byP_31 : decode cX2_byP 31 = .ok (.getfield 9, 3) := by decide +kernel
theorem dX2_byP_34 : decode cX2_byP 34 = .ok (.invokestatic 94, 3) := by decide +kernel
theorem dX2_byP_37 : decode cX2_byP 37 = .ok (.imul, 1) := by decide +kernel
theorem dX2_byP_38 : decode cX2_byP 38 = .ok (.iadd, 1) := by decide +kernel
theorem dX2_byP_39 : decode cX2_byP 39 = .ok (.istore_n 2, 1) := by decide +kernel
theorem dX2_byP_40 : decode cX2_byP 40 = .ok (.iload 4, 2) := by decide +kernel
theorem dX2_byP_42 : decode cX2_byP 42 = .ok (.aload_n 0, 1) := by decide +kernel
theorem dX2_byP_43 : decode cX2_byP 43 = .ok (.getfield 21, 3) := by decide +kernel
theorem dX2_byP_46 : decode cX2_byP 46 = .ok (.invokestatic 94, 3) := by decide +kernel
theorem dX2_byP_49 : decode cX2_byP 49 = .ok (.istore 4, 2) := by decide +kernel
theorem dX2_byP_51 : decode cX2_byP 51 = .ok (.iload_n 3, 1) := by decide +kernel
theorem dX2_byP_52 : decode cX2_byP 52 = .ok (.aload_n 0, 1) := by decide +kernel
theorem dX2_byP_53 : decode cX2_byP 53 = .ok (.getfield 21, 3) := by decide +kernel
theorem dX2_byP_56 : decode cX2_byP 56 = .ok (.imul, 1) := by decide +kernel
theorem dX2_byP_57 : decode cX2_byP 57 = .ok (.istore_n 3, 1) := by decide +kernel
theorem dX2_byP_58 : decode cX2_byP 58 = .ok (.iinc 5 1, 3) := by decide +kernel
theorem dX2_byP_61 : decode cX2_byP 61 = .ok (.goto (-51), 3) := by decide +kernel
theorem dX2_byP_64 : decode cX2_byP 64 = .ok (.iload_n 2, 1) := by decide +kernel
theorem dX2_byP_65 : decode cX2_byP 65 = .ok (.ireturn, 1) := by decide +kernel
theorem dX2_rootLog_0 : decode cX2_rootLog 0 = .ok (.aload_n 0, 1) := by decide +kernel
theorem dX2_rootLog_1 : decode cX2_rootLog 1 = .ok (.getfield 40, 3) := by decide +kernel
theorem dX2_rootLog_4 : decode cX2_rootLog 4 = .ok (.aload_n 0, 1) := by decide +kernel
theorem dX2_rootLog_5 : decode cX2_rootLog 5 = .ok (.iload_n 1, 1) := by decide +kernel
theorem dX2_rootLog_6 : decode cX2_rootLog 6 = .ok (.aload_n 0, 1) := by decide +kernel
theorem dX2_rootLog_7 : decode cX2_rootLog 7 = .ok (.getfield 21, 3) := by decide +kernel
theorem dX2_rootLog_10 : decode cX2_rootLog 10 = .ok (.aload_n 0, 1) := by decide +kernel
theorem dX2_rootLog_11 : decode cX2_rootLog 11 = .ok (.getfield 9, 3) := by decide +kernel
theorem dX2_rootLog_14 : decode cX2_rootLog 14 = .ok (.invokevirtual 124, 3) := by decide +kernel
theorem dX2_rootLog_17 : decode cX2_rootLog 17 = .ok (.invokestatic 116, 3) := by decide +kernel
theorem dX2_rootLog_20 : decode cX2_rootLog 20 = .ok (.ireturn, 1) := by decide +kernel
theorem dX2_rootOf_0 : decode cX2_rootOf 0 = .ok (.aload_n 0, 1) := by decide +kernel
theorem dX2_rootOf_1 : decode cX2_rootOf 1 = .ok (.iload_n 1, 1) := by decide +kernel
theorem dX2_rootOf_2 : decode cX2_rootOf 2 = .ok (.invokevirtual 157, 3) := by decide +kernel
theorem dX2_rootOf_5 : decode cX2_rootOf 5 = .ok (.istore_n 2, 1) := by decide +kernel
theorem dX2_rootOf_6 : decode cX2_rootOf 6 = .ok (.iload_n 2, 1) := by decide +kernel
theorem dX2_rootOf_7 : decode cX2_rootOf 7 = .ok (.iconst (-1), 1) := by decide +kernel
theorem dX2_rootOf_8 : decode cX2_rootOf 8 = .ok (.if_icmp .ne 7, 3) := by decide +kernel
theorem dX2_rootOf_11 : decode cX2_rootOf 11 = .ok (.iconst 0, 1) := by decide +kernel
theorem dX2_rootOf_12 : decode cX2_rootOf 12 = .ok (.goto 11, 3) := by decide +kernel
theorem dX2_rootOf_15 : decode cX2_rootOf 15 = .ok (.aload_n 0, 1) := by decide +kernel
theorem dX2_rootOf_16 : decode cX2_rootOf 16 = .ok (.getfield 37, 3) := by decide +kernel
theorem dX2_rootOf_19 : decode cX2_rootOf 19 = .ok (.iload_n 2, 1) := by decide +kernel
theorem dX2_rootOf_20 : decode cX2_rootOf 20 = .ok (.invokestatic 116, 3) := by decide +kernel
theorem dX2_rootOf_23 : decode cX2_rootOf 23 = .ok (.ireturn, 1) := by decide +kernel
theorem dX2_isUnit_0 : decode cX2_isUnit 0 = .ok (.aload_n 0, 1) := by decide +kernel
theorem dX2_isUnit_1 : decode cX2_isUnit 1 = .ok (.iload_n 1, 1) := by decide +kernel
theorem dX2_isUnit_2 : decode cX2_isUnit 2 = .ok (.invokevirtual 157, 3) := by decide +kernel
theorem dX2_isUnit_5 : decode cX2_isUnit 5 = .ok (.iconst (-1), 1) := by decide +kernel
theorem dX2_isUnit_6 : decode cX2_isUnit 6 = .ok (.if_icmp .eq 7, 3) := by decide +kernel
theorem dX2_isUnit_9 : decode cX2_isUnit 9 = .ok (.iconst 1, 1) := by decide +kernel
theorem dX2_isUnit_10 : decode cX2_isUnit 10 = .ok (.goto 4, 3) := by decide +kernel
theorem dX2_isUnit_13 : decode cX2_isUnit 13 = .ok (.iconst 0, 1) := by decide +kernel
theorem dX2_isUnit_14 : decode cX2_isUnit 14 = .ok (.ireturn, 1) := by decide +kernel
theorem dX2_mayReach_0 : decode cX2_mayReach 0 = .ok (.aload_n 0, 1) := by decide +kernel
theorem dX2_mayReach_1 : decode cX2_mayReach 1 = .ok (.iload_n 1, 1) := by decide +kernel
theorem dX2_mayReach_2 : decode cX2_mayReach 2 = .ok (.invokevirtual 157, 3) := by decide +kernel
theorem dX2_mayReach_5 : decode cX2_mayReach 5 = .ok (.istore 4, 2) := by decide +kernel
theorem dX2_mayReach_7 : decode cX2_mayReach 7 = .ok (.aload_n 0, 1) := by decide +kernel
theorem dX2_mayReach_8 : decode cX2_mayReach 8 = .ok (.iload_n 3, 1) := by decide +kernel
theorem dX2_mayReach_9 : decode cX2_mayReach 9 = .ok (.invokevirtual 157, 3) := by decide +kernel
theorem dX2_mayReach_12 : decode cX2_mayReach 12 = .ok (.iload 4, 2) := by decide +kernel
theorem dX2_mayReach_14 : decode cX2_mayReach 14 = .ok (.iconst (-1), 1) := by decide +kernel
theorem dX2_mayReach_15 : decode cX2_mayReach 15 = .ok (.if_icmp .ne 7, 3) := by decide +kernel
theorem dX2_mayReach_18 : decode cX2_mayReach 18 = .ok (.iconst (-1), 1) := by decide +kernel
theorem dX2_mayReach_19 : decode cX2_mayReach 19 = .ok (.goto 16, 3) := by decide +kernel
theorem dX2_mayReach_22 : decode cX2_mayReach 22 = .ok (.iload 4, 2) := by decide +kernel
theorem dX2_mayReach_24 : decode cX2_mayReach 24 = .ok (.iload_n 2, 1) := by decide +kernel
theorem dX2_mayReach_25 : decode cX2_mayReach 25 = .ok (.imul, 1) := by decide +kernel
theorem dX2_mayReach_26 : decode cX2_mayReach 26 = .ok (.aload_n 0, 1) := by decide +kernel
theorem dX2_mayReach_27 : decode cX2_mayReach 27 = .ok (.getfield 24, 3) := by decide +kernel
theorem dX2_mayReach_30 : decode cX2_mayReach 30 = .ok (.iconst 1, 1) := by decide +kernel
theorem dX2_mayReach_31 : decode cX2_mayReach 31 = .ok (.isub, 1) := by decide +kernel
theorem dX2_mayReach_32 : decode cX2_mayReach 32 = .ok (.invokestatic 87, 3) := by decide +kernel
theorem dX2_mayReach_35 : decode cX2_mayReach 35 = .ok (.if_icmp .ne 7, 3) := by decide +kernel
theorem dX2_mayReach_38 : decode cX2_mayReach 38 = .ok (.iconst 1, 1) := by decide +kernel
theorem dX2_mayReach_39 : decode cX2_mayReach 39 = .ok (.goto 4, 3) := by decide +kernel
theorem dX2_mayReach_42 : decode cX2_mayReach 42 = .ok (.iconst 0, 1) := by decide +kernel
theorem dX2_mayReach_43 : decode cX2_mayReach 43 = .ok (.ireturn, 1) := by decide +kernel
theorem dX2_digitLog_0 : decode cX2_digitLog 0 = .ok (.iload_n 1, 1) := by decide +kernel
theorem dX2_digitLog_1 : decode cX2_digitLog 1 = .ok (.istore_n 3, 1) := by decide +kernel
theorem dX2_digitLog_2 : decode cX2_digitLog 2 = .ok (.iconst 0, 1) := by decide +kernel
theorem dX2_digitLog_3 : decode cX2_digitLog 3 = .ok (.istore 4, 2) := by decide +kernel
theorem dX2_digitLog_5 : decode cX2_digitLog 5 = .ok (.iload 4, 2) := by decide +kernel
theorem dX2_digitLog_7 : decode cX2_digitLog 7 = .ok (.iload_n 2, 1) := by decide +kernel
theorem dX2_digitLog_8 : decode cX2_digitLog 8 = .ok (.if_icmp .ge 24, 3) := by decide +kernel
theorem dX2_digitLog_11 : decode cX2_digitLog 11 = .ok (.aload_n 0, 1) := by decide +kernel
theorem dX2_digitLog_12 : decode cX2_digitLog 12 = .ok (.aload_n 0, 1) := by decide +kernel
theorem dX2_digitLog_13 : decode cX2_digitLog 13 = .ok (.iload_n 3, 1) := by decide +kernel
theorem dX2_digitLog_14 : decode cX2_digitLog 14 = .ok (.aload_n 0, 1) := by decide +kernel
theorem dX2_digitLog_15 : decode cX2_digitLog 15 = .ok (.iload_n 3, 1) := by decide +kernel
theorem dX2_digitLog_16 : decode cX2_digitLog 16 = .ok (.invokevirtual 161, 3) := by decide +kernel
theorem dX2_digitLog_19 : decode cX2_digitLog 19 = .ok (.invokevirtual 146, 3) := by decide +kernel
theorem dX2_digitLog_22 : decode cX2_digitLog 22 = .ok (.invokevirtual 164, 3) := by decide +kernel
theorem dX2_digitLog_25 : decode cX2_digitLog 25 = .ok (.istore_n 3, 1) := by decide +kernel
theorem dX2_digitLog_26 : decode cX2_digitLog 26 = .ok (.iinc 4 1, 3) := by decide +kernel
theorem dX2_digitLog_29 : decode cX2_digitLog 29 = .ok (.goto (-24), 3) := by decide +kernel
theorem dX2_digitLog_32 : decode cX2_digitLog 32 = .ok (.aload_n 0, 1) := by decide +kernel
theorem dX2_digitLog_33 : decode cX2_digitLog 33 = .ok (.iload_n 3, 1) := by decide +kernel
theorem dX2_digitLog_34 : decode cX2_digitLog 34 = .ok (.invokevirtual 157, 3) := by decide +kernel
theorem dX2_digitLog_37 : decode cX2_digitLog 37 = .ok (.ireturn, 1) := by decide +kernel
theorem dX2_withDigit_0 : decode cX2_withDigit 0 = .ok (.iload_n 3, 1) := by decide +kernel
theorem dX2_withDigit_1 : decode cX2_withDigit 1 = .ok (.iconst (-1), 1) := by decide +kernel
theorem dX2_withDigit_2 : decode cX2_withDigit 2 = .ok (.if_icmp .ne 5, 3) := by decide +kernel
theorem dX2_withDigit_5 : decode cX2_withDigit 5 = .ok (.iload_n 1, 1) := by decide +kernel
theorem dX2_withDigit_6 : decode cX2_withDigit 6 = .ok (.ireturn, 1) := by decide +kernel
theorem dX2_withDigit_7 : decode cX2_withDigit 7 = .ok (.iload_n 1, 1) := by decide +kernel
theorem dX2_withDigit_8 : decode cX2_withDigit 8 = .ok (.aload_n 0, 1) := by decide +kernel
theorem dX2_withDigit_9 : decode cX2_withDigit 9 = .ok (.getfield 37, 3) := by decide +kernel
theorem dX2_withDigit_12 : decode cX2_withDigit 12 = .ok (.iload_n 3, 1) := by decide +kernel
theorem dX2_withDigit_13 : decode cX2_withDigit 13 = .ok (.invokestatic 116, 3) := by decide +kernel
theorem dX2_withDigit_16 : decode cX2_withDigit 16 = .ok (.aload_n 0, 1) := by decide +kernel
theorem dX2_withDigit_17 : decode cX2_withDigit 17 = .ok (.getfield 9, 3) := by decide +kernel
theorem dX2_withDigit_20 : decode cX2_withDigit 20 = .ok (.iload_n 2, 1) := by decide +kernel
theorem dX2_withDigit_21 : decode cX2_withDigit 21 = .ok (.invokestatic 64, 3) := by decide +kernel
theorem dX2_withDigit_24 : decode cX2_withDigit 24 = .ok (.aload_n 0, 1) := by decide +kernel
theorem dX2_withDigit_25 : decode cX2_withDigit 25 = .ok (.getfield 21, 3) := by decide +kernel
theorem dX2_withDigit_28 : decode cX2_withDigit 28 = .ok (.invokestatic 135, 3) := by decide +kernel
theorem dX2_withDigit_31 : decode cX2_withDigit 31 = .ok (.ireturn, 1) := by decide +kernel
theorem dX2_level_0 : decode cX2_level 0 = .ok (.iload_n 1, 1) := by decide +kernel
theorem dX2_level_1 : decode cX2_level 1 = .ok (.istore_n 2, 1) := by decide +kernel
theorem dX2_level_2 : decode cX2_level 2 = .ok (.iconst 0, 1) := by decide +kernel
theorem dX2_level_3 : decode cX2_level 3 = .ok (.istore_n 3, 1) := by decide +kernel
theorem dX2_level_4 : decode cX2_level 4 = .ok (.iload_n 3, 1) := by decide +kernel
theorem dX2_level_5 : decode cX2_level 5 = .ok (.aload_n 0, 1) := by decide +kernel
theorem dX2_level_6 : decode cX2_level 6 = .ok (.getfield 15, 3) := by decide +kernel
theorem dX2_level_9 : decode cX2_level 9 = .ok (.if_icmp .ge 25, 3) := by decide +kernel
theorem dX2_level_12 : decode cX2_level 12 = .ok (.aload_n 0, 1) := by decide +kernel
theorem dX2_level_13 : decode cX2_level 13 = .ok (.iload_n 2, 1) := by decide +kernel
theorem dX2_level_14 : decode cX2_level 14 = .ok (.invokevirtual 167, 3) := by decide +kernel
theorem dX2_level_17 : decode cX2_level 17 = .ok (.ifCond .eq 5, 3) := by decide +kernel
theorem dX2_level_20 : decode cX2_level 20 = .ok (.iload_n 3, 1) := by decide +kernel
theorem dX2_level_21 : decode cX2_level 21 = .ok (.ireturn, 1) := by decide +kernel
theorem dX2_level_22 : decode cX2_level 22 = .ok (.aload_n 0, 1) := by decide +kernel
theorem dX2_level_23 : decode cX2_level 23 = .ok (.iload_n 2, 1) := by decide +kernel
theorem dX2_level_24 : decode cX2_level 24 = .ok (.invokevirtual 164, 3) := by decide +kernel
theorem dX2_level_27 : decode cX2_level 27 = .ok (.istore_n 2, 1) := by decide +kernel
theorem dX2_level_28 : decode cX2_level 28 = .ok (.iinc 3 1, 3) := by decide +kernel
theorem dX2_level_31 : decode cX2_level 31 = .ok (.goto (-27), 3) := by decide +kernel
theorem dX2_level_34 : decode cX2_level 34 = .ok (.aload_n 0, 1) := by decide +kernel
theorem dX2_level_35 : decode cX2_level 35 = .ok (.getfield 15, 3) := by decide +kernel
theorem dX2_level_38 : decode cX2_level 38 = .ok (.ireturn, 1) := by decide +kernel
theorem dX2_moved_0 : decode cX2_moved 0 = .ok (.aload_n 0, 1) := by decide +kernel
theorem dX2_moved_1 : decode cX2_moved 1 = .ok (.iload_n 1, 1) := by decide +kernel
theorem dX2_moved_2 : decode cX2_moved 2 = .ok (.aload_n 0, 1) := by decide +kernel
theorem dX2_moved_3 : decode cX2_moved 3 = .ok (.getfield 48, 3) := by decide +kernel
theorem dX2_moved_6 : decode cX2_moved 6 = .ok (.invokevirtual 120, 3) := by decide +kernel
theorem dX2_moved_9 : decode cX2_moved 9 = .ok (.aload_n 0, 1) := by decide +kernel
theorem dX2_moved_10 : decode cX2_moved 10 = .ok (.getfield 54, 3) := by decide +kernel
theorem dX2_moved_13 : decode cX2_moved 13 = .ok (.iconst 0, 1) := by decide +kernel
theorem dX2_moved_14 : decode cX2_moved 14 = .ok (.invokestatic 97, 3) := by decide +kernel
theorem dX2_moved_17 : decode cX2_moved 17 = .ok (.iconst 0, 1) := by decide +kernel
theorem dX2_moved_18 : decode cX2_moved 18 = .ok (.istore_n 2, 1) := by decide +kernel
theorem dX2_moved_19 : decode cX2_moved 19 = .ok (.iload_n 2, 1) := by decide +kernel
theorem dX2_moved_20 : decode cX2_moved 20 = .ok (.bipush 6, 2) := by decide +kernel
theorem dX2_moved_22 : decode cX2_moved 22 = .ok (.if_icmp .ge 47, 3) := by decide +kernel
theorem dX2_moved_25 : decode cX2_moved 25 = .ok (.iconst 0, 1) := by decide +kernel
theorem dX2_moved_26 : decode cX2_moved 26 = .ok (.istore_n 3, 1) := by decide +kernel
theorem dX2_moved_27 : decode cX2_moved 27 = .ok (.iload_n 3, 1) := by decide +kernel
theorem dX2_moved_28 : decode cX2_moved 28 = .ok (.bipush 6, 2) := by decide +kernel
theorem dX2_moved_30 : decode cX2_moved 30 = .ok (.if_icmp .ge 33, 3) := by decide +kernel
theorem dX2_moved_33 : decode cX2_moved 33 = .ok (.aload_n 0, 1) := by decide +kernel
theorem dX2_moved_34 : decode cX2_moved 34 = .ok (.getfield 54, 3) := by decide +kernel
theorem dX2_moved_37 : decode cX2_moved 37 = .ok (.iload_n 3, 1) := by decide +kernel
theorem dX2_moved_38 : decode cX2_moved 38 = .ok (.dup2, 1) := by decide +kernel
theorem dX2_moved_39 : decode cX2_moved 39 = .ok (.iaload, 1) := by decide +kernel
theorem dX2_moved_40 : decode cX2_moved 40 = .ok (.aload_n 0, 1) := by decide +kernel
theorem dX2_moved_41 : decode cX2_moved 41 = .ok (.getfield 48, 3) := by decide +kernel
theorem dX2_moved_44 : decode cX2_moved 44 = .ok (.iload_n 2, 1) := by decide +kernel
theorem dX2_moved_45 : decode cX2_moved 45 = .ok (.iaload, 1) := by decide +kernel
theorem dX2_moved_46 : decode cX2_moved 46 = .ok (.aload_n 0, 1) := by decide +kernel
theorem dX2_moved_47 : decode cX2_moved 47 = .ok (.getfield 45, 3) := by decide +kernel
theorem dX2_moved_50 : decode cX2_moved 50 = .ok (.iload_n 2, 1) := by decide +kernel
theorem dX2_moved_51 : decode cX2_moved 51 = .ok (.aaload, 1) := by decide +kernel
theorem dX2_moved_52 : decode cX2_moved 52 = .ok (.iload_n 3, 1) := by decide +kernel
theorem dX2_moved_53 : decode cX2_moved 53 = .ok (.iaload, 1) := by decide +kernel
theorem dX2_moved_54 : decode cX2_moved 54 = .ok (.imul, 1) := by decide +kernel
theorem dX2_moved_55 : decode cX2_moved 55 = .ok (.iadd, 1) := by decide +kernel
theorem dX2_moved_56 : decode cX2_moved 56 = .ok (.iastore, 1) := by decide +kernel
theorem dX2_moved_57 : decode cX2_moved 57 = .ok (.iinc 3 1, 3) := by decide +kernel
theorem dX2_moved_60 : decode cX2_moved 60 = .ok (.goto (-33), 3) := by decide +kernel
theorem dX2_moved_63 : decode cX2_moved 63 = .ok (.iinc 2 1, 3) := by decide +kernel
theorem dX2_moved_66 : decode cX2_moved 66 = .ok (.goto (-47), 3) := by decide +kernel
theorem dX2_moved_69 : decode cX2_moved 69 = .ok (.aload_n 0, 1) := by decide +kernel
theorem dX2_moved_70 : decode cX2_moved 70 = .ok (.aload_n 0, 1) := by decide +kernel
theorem dX2_moved_71 : decode cX2_moved 71 = .ok (.getfield 54, 3) := by decide +kernel
theorem dX2_moved_74 : decode cX2_moved 74 = .ok (.invokevirtual 142, 3) := by decide +kernel
theorem dX2_moved_77 : decode cX2_moved 77 = .ok (.ireturn, 1) := by decide +kernel
theorem dX2_trace_0 : decode cX2_trace 0 = .ok (.iconst 0, 1) := by decide +kernel
theorem dX2_trace_1 : decode cX2_trace 1 = .ok (.istore_n 2, 1) := by decide +kernel
theorem dX2_trace_2 : decode cX2_trace 2 = .ok (.iload_n 1, 1) := by decide +kernel
theorem dX2_trace_3 : decode cX2_trace 3 = .ok (.istore_n 3, 1) := by decide +kernel
theorem dX2_trace_4 : decode cX2_trace 4 = .ok (.iconst 0, 1) := by decide +kernel
theorem dX2_trace_5 : decode cX2_trace 5 = .ok (.istore 4, 2) := by decide +kernel
theorem dX2_trace_7 : decode cX2_trace 7 = .ok (.iload 4, 2) := by decide +kernel
theorem dX2_trace_9 : decode cX2_trace 9 = .ok (.aload_n 0, 1) := by decide +kernel
theorem dX2_trace_10 : decode cX2_trace 10 = .ok (.getfield 18, 3) := by decide +kernel
theorem dX2_trace_13 : decode cX2_trace 13 = .ok (.if_icmp .ge 22, 3) := by decide +kernel
theorem dX2_trace_16 : decode cX2_trace 16 = .ok (.aload_n 0, 1) := by decide +kernel
theorem dX2_trace_17 : decode cX2_trace 17 = .ok (.iload_n 2, 1) := by decide +kernel
theorem dX2_trace_18 : decode cX2_trace 18 = .ok (.iload_n 3, 1) := by decide +kernel
theorem dX2_trace_19 : decode cX2_trace 19 = .ok (.invokevirtual 149, 3) := by decide +kernel
theorem dX2_trace_22 : decode cX2_trace 22 = .ok (.istore_n 2, 1) := by decide +kernel
theorem dX2_trace_23 : decode cX2_trace 23 = .ok (.aload_n 0, 1) := by decide +kernel
theorem dX2_trace_24 : decode cX2_trace 24 = .ok (.iload_n 3, 1) := by decide +kernel
theorem dX2_trace_25 : decode cX2_trace 25 = .ok (.invokevirtual 170, 3) := by decide +kernel
theorem dX2_trace_28 : decode cX2_trace 28 = .ok (.istore_n 3, 1) := by decide +kernel
theorem dX2_trace_29 : decode cX2_trace 29 = .ok (.iinc 4 1, 3) := by decide +kernel
theorem dX2_trace_32 : decode cX2_trace 32 = .ok (.goto (-25), 3) := by decide +kernel
theorem dX2_trace_35 : decode cX2_trace 35 = .ok (.iload_n 2, 1) := by decide +kernel
theorem dX2_trace_36 : decode cX2_trace 36 = .ok (.ireturn, 1) := by decide +kernel
theorem dX2_norm_0 : decode cX2_norm 0 = .ok (.iconst 1, 1) := by decide +kernel
theorem dX2_norm_1 : decode cX2_norm 1 = .ok (.istore_n 2, 1) := by decide +kernel
theorem dX2_norm_2 : decode cX2_norm 2 = .ok (.iload_n 1, 1) := by decide +kernel
theorem dX2_norm_3 : decode cX2_norm 3 = .ok (.istore_n 3, 1) := by decide +kernel
theorem dX2_norm_4 : decode cX2_norm 4 = .ok (.iconst 0, 1) := by decide +kernel
theorem dX2_norm_5 : decode cX2_norm 5 = .ok (.istore 4, 2) := by decide +kernel
theorem dX2_norm_7 : decode cX2_norm 7 = .ok (.iload 4, 2) := by decide +kernel
theorem dX2_norm_9 : decode cX2_norm 9 = .ok (.aload_n 0, 1) := by decide +kernel
theorem dX2_norm_10 : decode cX2_norm 10 = .ok (.getfield 18, 3) := by decide +kernel
theorem dX2_norm_13 : decode cX2_norm 13 = .ok (.if_icmp .ge 22, 3) := by decide +kernel
theorem dX2_norm_16 : decode cX2_norm 16 = .ok (.aload_n 0, 1) := by decide +kernel
theorem dX2_norm_17 : decode cX2_norm 17 = .ok (.iload_n 2, 1) := by decide +kernel
theorem dX2_norm_18 : decode cX2_norm 18 = .ok (.iload_n 3, 1) := by decide +kernel
theorem dX2_norm_19 : decode cX2_norm 19 = .ok (.invokevirtual 132, 3) := by decide +kernel
theorem dX2_norm_22 : decode cX2_norm 22 = .ok (.istore_n 2, 1) := by decide +kernel
theorem dX2_norm_23 : decode cX2_norm 23 = .ok (.aload_n 0, 1) := by decide +kernel
theorem dX2_norm_24 : decode cX2_norm 24 = .ok (.iload_n 3, 1) := by decide +kernel
theorem dX2_norm_25 : decode cX2_norm 25 = .ok (.invokevirtual 170, 3) := by decide +kernel
theorem dX2_norm_28 : decode cX2_norm 28 = .ok (.istore_n 3, 1) := by decide +kernel
theorem dX2_norm_29 : decode cX2_norm 29 = .ok (.iinc 4 1, 3) := by decide +kernel
theorem dX2_norm_32 : decode cX2_norm 32 = .ok (.goto (-25), 3) := by decide +kernel
theorem dX2_norm_35 : decode cX2_norm 35 = .ok (.iload_n 2, 1) := by decide +kernel
theorem dX2_norm_36 : decode cX2_norm 36 = .ok (.ireturn, 1) := by decide +kernel
theorem dX2_isWithin_0 : decode cX2_isWithin 0 = .ok (.iload_n 1, 1) := by decide +kernel
theorem dX2_isWithin_1 : decode cX2_isWithin 1 = .ok (.istore_n 3, 1) := by decide +kernel
theorem dX2_isWithin_2 : decode cX2_isWithin 2 = .ok (.iconst 0, 1) := by decide +kernel
theorem dX2_isWithin_3 : decode cX2_isWithin 3 = .ok (.istore 4, 2) := by decide +kernel
theorem dX2_isWithin_5 : decode cX2_isWithin 5 = .ok (.iload 4, 2) := by decide +kernel
theorem dX2_isWithin_7 : decode cX2_isWithin 7 = .ok (.iload_n 2, 1) := by decide +kernel
theorem dX2_isWithin_8 : decode cX2_isWithin 8 = .ok (.if_icmp .ge 15, 3) := by decide +kernel
theorem dX2_isWithin_11 : decode cX2_isWithin 11 = .ok (.aload_n 0, 1) := by decide +kernel
theorem dX2_isWithin_12 : decode cX2_isWithin 12 = .ok (.iload_n 3, 1) := by decide +kernel
theorem dX2_isWithin_13 : decode cX2_isWithin 13 = .ok (.invokevirtual 170, 3) := by decide +kernel
theorem dX2_isWithin_16 : decode cX2_isWithin 16 = .ok (.istore_n 3, 1) := by decide +kernel
theorem dX2_isWithin_17 : decode cX2_isWithin 17 = .ok (.iinc 4 1, 3) := by decide +kernel
theorem dX2_isWithin_20 : decode cX2_isWithin 20 = .ok (.goto (-15), 3) := by decide +kernel
theorem dX2_isWithin_23 : decode cX2_isWithin 23 = .ok (.iload_n 3, 1) := by decide +kernel
theorem dX2_isWithin_24 : decode cX2_isWithin 24 = .ok (.iload_n 1, 1) := by decide +kernel
theorem dX2_isWithin_25 : decode cX2_isWithin 25 = .ok (.if_icmp .ne 7, 3) := by decide +kernel
theorem dX2_isWithin_28 : decode cX2_isWithin 28 = .ok (.iconst 1, 1) := by decide +kernel
theorem dX2_isWithin_29 : decode cX2_isWithin 29 = .ok (.goto 4, 3) := by decide +kernel
theorem dX2_isWithin_32 : decode cX2_isWithin 32 = .ok (.iconst 0, 1) := by decide +kernel
theorem dX2_isWithin_33 : decode cX2_isWithin 33 = .ok (.ireturn, 1) := by decide +kernel
theorem dX2_leastWithin_0 : decode cX2_leastWithin 0 = .ok (.iconst 1, 1) := by decide +kernel
theorem dX2_leastWithin_1 : decode cX2_leastWithin 1 = .ok (.istore_n 2, 1) := by decide +kernel
theorem dX2_leastWithin_2 : decode cX2_leastWithin 2 = .ok (.iload_n 2, 1) := by decide +kernel
theorem dX2_leastWithin_3 : decode cX2_leastWithin 3 = .ok (.aload_n 0, 1) := by decide +kernel
theorem dX2_leastWithin_4 : decode cX2_leastWithin 4 = .ok (.getfield 18, 3) := by decide +kernel
theorem dX2_leastWithin_7 : decode cX2_leastWithin 7 = .ok (.if_icmp .ge 31, 3) := by decide +kernel
theorem dX2_leastWithin_10 : decode cX2_leastWithin 10 = .ok (.aload_n 0, 1) := by decide +kernel
theorem dX2_leastWithin_11 : decode cX2_leastWithin 11 = .ok (.getfield 18, 3) := by decide +kernel
theorem dX2_leastWithin_14 : decode cX2_leastWithin 14 = .ok (.iload_n 2, 1) := by decide +kernel
theorem dX2_leastWithin_15 : decode cX2_leastWithin 15 = .ok (.invokestatic 87, 3) := by decide +kernel
theorem dX2_leastWithin_18 : decode cX2_leastWithin 18 = .ok (.ifCond .ne 14, 3) := by decide +kernel
theorem dX2_leastWithin_21 : decode cX2_leastWithin 21 = .ok (.aload_n 0, 1) := by decide +kernel
theorem dX2_leastWithin_22 : decode cX2_leastWithin 22 = .ok (.iload_n 1, 1) := by decide +kernel
theorem dX2_leastWithin_23 : decode cX2_leastWithin 23 = .ok (.iload_n 2, 1) := by decide +kernel
theorem dX2_leastWithin_24 : decode cX2_leastWithin 24 = .ok (.invokevirtual 173, 3) := by decide +kernel
theorem dX2_leastWithin_27 : decode cX2_leastWithin 27 = .ok (.ifCond .eq 5, 3) := by decide +kernel
theorem dX2_leastWithin_30 : decode cX2_leastWithin 30 = .ok (.iload_n 2, 1) := by decide +kernel
theorem dX2_leastWithin_31 : decode cX2_leastWithin 31 = .ok (.ireturn, 1) := by decide +kernel
theorem dX2_leastWithin_32 : decode cX2_leastWithin 32 = .ok (.iinc 2 1, 3) := by decide +kernel
theorem dX2_leastWithin_35 : decode cX2_leastWithin 35 = .ok (.goto (-33), 3) := by decide +kernel
theorem dX2_leastWithin_38 : decode cX2_leastWithin 38 = .ok (.aload_n 0, 1) := by decide +kernel
theorem dX2_leastWithin_39 : decode cX2_leastWithin 39 = .ok (.getfield 18, 3) := by decide +kernel
theorem dX2_leastWithin_42 : decode cX2_leastWithin 42 = .ok (.ireturn, 1) := by decide +kernel
theorem dX2_oneBelow_0 : decode cX2_oneBelow 0 = .ok (.aload_n 0, 1) := by decide +kernel
theorem dX2_oneBelow_1 : decode cX2_oneBelow 1 = .ok (.iload_n 1, 1) := by decide +kernel
theorem dX2_oneBelow_2 : decode cX2_oneBelow 2 = .ok (.aload_n 0, 1) := by decide +kernel
theorem dX2_oneBelow_3 : decode cX2_oneBelow 3 = .ok (.aload_n 0, 1) := by decide +kernel
theorem dX2_oneBelow_4 : decode cX2_oneBelow 4 = .ok (.iload_n 1, 1) := by decide +kernel
theorem dX2_oneBelow_5 : decode cX2_oneBelow 5 = .ok (.invokevirtual 161, 3) := by decide +kernel
theorem dX2_oneBelow_8 : decode cX2_oneBelow 8 = .ok (.invokevirtual 177, 3) := by decide +kernel
theorem dX2_oneBelow_11 : decode cX2_oneBelow 11 = .ok (.invokevirtual 132, 3) := by decide +kernel
theorem dX2_oneBelow_14 : decode cX2_oneBelow 14 = .ok (.ireturn, 1) := by decide +kernel
theorem dX2_inverse_0 : decode cX2_inverse 0 = .ok (.aload_n 0, 1) := by decide +kernel
theorem dX2_inverse_1 : decode cX2_inverse 1 = .ok (.iload_n 1, 1) := by decide +kernel
theorem dX2_inverse_2 : decode cX2_inverse 2 = .ok (.aload_n 0, 1) := by decide +kernel
theorem dX2_inverse_3 : decode cX2_inverse 3 = .ok (.getfield 24, 3) := by decide +kernel
theorem dX2_inverse_6 : decode cX2_inverse 6 = .ok (.iconst 1, 1) := by decide +kernel
theorem dX2_inverse_7 : decode cX2_inverse 7 = .ok (.isub, 1) := by decide +kernel
theorem dX2_inverse_8 : decode cX2_inverse 8 = .ok (.aload_n 0, 1) := by decide +kernel
theorem dX2_inverse_9 : decode cX2_inverse 9 = .ok (.getfield 9, 3) := by decide +kernel
theorem dX2_inverse_12 : decode cX2_inverse 12 = .ok (.aload_n 0, 1) := by decide +kernel
theorem dX2_inverse_13 : decode cX2_inverse 13 = .ok (.getfield 15, 3) := by decide +kernel
theorem dX2_inverse_16 : decode cX2_inverse 16 = .ok (.iconst 1, 1) := by decide +kernel
theorem dX2_inverse_17 : decode cX2_inverse 17 = .ok (.isub, 1) := by decide +kernel
theorem dX2_inverse_18 : decode cX2_inverse 18 = .ok (.invokestatic 64, 3) := by decide +kernel
theorem dX2_inverse_21 : decode cX2_inverse 21 = .ok (.imul, 1) := by decide +kernel
theorem dX2_inverse_22 : decode cX2_inverse 22 = .ok (.iconst 1, 1) := by decide +kernel
theorem dX2_inverse_23 : decode cX2_inverse 23 = .ok (.isub, 1) := by decide +kernel
theorem dX2_inverse_24 : decode cX2_inverse 24 = .ok (.invokevirtual 110, 3) := by decide +kernel
theorem dX2_inverse_27 : decode cX2_inverse 27 = .ok (.ireturn, 1) := by decide +kernel
theorem dX2_order_0 : decode cX2_order 0 = .ok (.aload_n 0, 1) := by decide +kernel
theorem dX2_order_1 : decode cX2_order 1 = .ok (.getfield 24, 3) := by decide +kernel
theorem dX2_order_4 : decode cX2_order 4 = .ok (.iconst 1, 1) := by decide +kernel
theorem dX2_order_5 : decode cX2_order 5 = .ok (.isub, 1) := by decide +kernel
theorem dX2_order_6 : decode cX2_order 6 = .ok (.aload_n 0, 1) := by decide +kernel
theorem dX2_order_7 : decode cX2_order 7 = .ok (.iload_n 1, 1) := by decide +kernel
theorem dX2_order_8 : decode cX2_order 8 = .ok (.invokevirtual 157, 3) := by decide +kernel
theorem dX2_order_11 : decode cX2_order 11 = .ok (.aload_n 0, 1) := by decide +kernel
theorem dX2_order_12 : decode cX2_order 12 = .ok (.getfield 24, 3) := by decide +kernel
theorem dX2_order_15 : decode cX2_order 15 = .ok (.iconst 1, 1) := by decide +kernel
theorem dX2_order_16 : decode cX2_order 16 = .ok (.isub, 1) := by decide +kernel
theorem dX2_order_17 : decode cX2_order 17 = .ok (.invokestatic 180, 3) := by decide +kernel
theorem dX2_order_20 : decode cX2_order 20 = .ok (.invokestatic 94, 3) := by decide +kernel
theorem dX2_order_23 : decode cX2_order 23 = .ok (.istore_n 2, 1) := by decide +kernel
theorem dX2_order_24 : decode cX2_order 24 = .ok (.iload_n 2, 1) := by decide +kernel
theorem dX2_order_25 : decode cX2_order 25 = .ok (.aload_n 0, 1) := by decide +kernel
theorem dX2_order_26 : decode cX2_order 26 = .ok (.aload_n 0, 1) := by decide +kernel
theorem dX2_order_27 : decode cX2_order 27 = .ok (.iload_n 1, 1) := by decide +kernel
theorem dX2_order_28 : decode cX2_order 28 = .ok (.invokevirtual 183, 3) := by decide +kernel
theorem dX2_order_31 : decode cX2_order 31 = .ok (.invokevirtual 186, 3) := by decide +kernel
theorem dX2_order_34 : decode cX2_order 34 = .ok (.imul, 1) := by decide +kernel
theorem dX2_order_35 : decode cX2_order 35 = .ok (.ireturn, 1) := by decide +kernel
theorem dX2_orderOneBelow_0 : decode cX2_orderOneBelow 0 = .ok (.iconst 1, 1) := by decide +kernel
theorem dX2_orderOneBelow_1 : decode cX2_orderOneBelow 1 = .ok (.istore_n 2, 1) := by decide +kernel
theorem dX2_orderOneBelow_2 : decode cX2_orderOneBelow 2 = .ok (.iload_n 1, 1) := by decide +kernel
theorem dX2_orderOneBelow_3 : decode cX2_orderOneBelow 3 = .ok (.istore_n 3, 1) := by decide +kernel
theorem dX2_orderOneBelow_4 : decode cX2_orderOneBelow 4 = .ok (.iconst 1, 1) := by decide +kernel
theorem dX2_orderOneBelow_5 : decode cX2_orderOneBelow 5 = .ok (.istore 4, 2) := by decide +kernel
theorem dX2_orderOneBelow_7 : decode cX2_orderOneBelow 7 = .ok (.iload 4, 2) := by decide +kernel
theorem dX2_orderOneBelow_9 : decode cX2_orderOneBelow 9 = .ok (.aload_n 0, 1) := by decide +kernel
theorem dX2_orderOneBelow_10 : decode cX2_orderOneBelow 10 = .ok (.getfield 15, 3) := by decide +kernel
theorem dX2_orderOneBelow_13 : decode cX2_orderOneBelow 13 = .ok (.if_icmp .ge 31, 3) := by decide +kernel
theorem dX2_orderOneBelow_16 : decode cX2_orderOneBelow 16 = .ok (.iload_n 3, 1) := by decide +kernel
theorem dX2_orderOneBelow_17 : decode cX2_orderOneBelow 17 = .ok (.iconst 1, 1) := by decide +kernel
theorem dX2_orderOneBelow_18 : decode cX2_orderOneBelow 18 = .ok (.if_icmp .eq 26, 3) := by decide +kernel
theorem dX2_orderOneBelow_21 : decode cX2_orderOneBelow 21 = .ok (.aload_n 0, 1) := by decide +kernel
theorem dX2_orderOneBelow_22 : decode cX2_orderOneBelow 22 = .ok (.iload_n 3, 1) := by decide +kernel
theorem dX2_orderOneBelow_23 : decode cX2_orderOneBelow 23 = .ok (.aload_n 0, 1) := by decide +kernel
theorem dX2_orderOneBelow_24 : decode cX2_orderOneBelow 24 = .ok (.getfield 9, 3) := by decide +kernel
theorem dX2_orderOneBelow_27 : decode cX2_orderOneBelow 27 = .ok (.invokevirtual 110, 3) := by decide +kernel
theorem dX2_orderOneBelow_30 : decode cX2_orderOneBelow 30 = .ok (.istore_n 3, 1) := by decide +kernel
theorem dX2_orderOneBelow_31 : decode cX2_orderOneBelow 31 = .ok (.iload_n 2, 1) := by decide +kernel
theorem dX2_orderOneBelow_32 : decode cX2_orderOneBelow 32 = .ok (.aload_n 0, 1) := by decide +kernel
theorem dX2_orderOneBelow_33 : decode cX2_orderOneBelow 33 = .ok (.getfield 9, 3) := by decide +kernel
theorem dX2_orderOneBelow_36 : decode cX2_orderOneBelow 36 = .ok (.imul, 1) := by decide +kernel
theorem dX2_orderOneBelow_37 : decode cX2_orderOneBelow 37 = .ok (.istore_n 2, 1) := by decide +kernel
theorem dX2_orderOneBelow_38 : decode cX2_orderOneBelow 38 = .ok (.iinc 4 1, 3) := by decide +kernel
theorem dX2_orderOneBelow_41 : decode cX2_orderOneBelow 41 = .ok (.goto (-34), 3) := by decide +kernel
theorem dX2_orderOneBelow_44 : decode cX2_orderOneBelow 44 = .ok (.iload_n 2, 1) := by decide +kernel
theorem dX2_orderOneBelow_45 : decode cX2_orderOneBelow 45 = .ok (.ireturn, 1) := by decide +kernel
theorem dX2_commonOrder_0 : decode cX2_commonOrder 0 = .ok (.iconst 1, 1) := by decide +kernel
theorem dX2_commonOrder_1 : decode cX2_commonOrder 1 = .ok (.istore_n 1, 1) := by decide +kernel
theorem dX2_commonOrder_2 : decode cX2_commonOrder 2 = .ok (.iconst 0, 1) := by decide +kernel
theorem dX2_commonOrder_3 : decode cX2_commonOrder 3 = .ok (.istore_n 2, 1) := by decide +kernel
theorem dX2_commonOrder_4 : decode cX2_commonOrder 4 = .ok (.iload_n 2, 1) := by decide +kernel
theorem dX2_commonOrder_5 : decode cX2_commonOrder 5 = .ok (.aload_n 0, 1) := by decide +kernel
theorem dX2_commonOrder_6 : decode cX2_commonOrder 6 = .ok (.getfield 27, 3) := by decide +kernel
theorem dX2_commonOrder_9 : decode cX2_commonOrder 9 = .ok (.if_icmp .ge 27, 3) := by decide +kernel
theorem dX2_commonOrder_12 : decode cX2_commonOrder 12 = .ok (.aload_n 0, 1) := by decide +kernel
theorem dX2_commonOrder_13 : decode cX2_commonOrder 13 = .ok (.iload_n 2, 1) := by decide +kernel
theorem dX2_commonOrder_14 : decode cX2_commonOrder 14 = .ok (.invokevirtual 157, 3) := by decide +kernel
theorem dX2_commonOrder_17 : decode cX2_commonOrder 17 = .ok (.ifCond .ne 13, 3) := by decide +kernel
theorem dX2_commonOrder_20 : decode cX2_commonOrder 20 = .ok (.iload_n 1, 1) := by decide +kernel
theorem dX2_commonOrder_21 : decode cX2_commonOrder 21 = .ok (.aload_n 0, 1) := by decide +kernel
theorem dX2_commonOrder_22 : decode cX2_commonOrder 22 = .ok (.iload_n 2, 1) := by decide +kernel
theorem dX2_commonOrder_23 : decode cX2_commonOrder 23 = .ok (.invokevirtual 186, 3) := by decide +kernel
theorem dX2_commonOrder_26 : decode cX2_commonOrder 26 = .ok (.invokestatic 189, 3) := by decide +kernel
theorem dX2_commonOrder_29 : decode cX2_commonOrder 29 = .ok (.istore_n 1, 1) := by decide +kernel
theorem dX2_commonOrder_30 : decode cX2_commonOrder 30 = .ok (.iinc 2 1, 3) := by decide +kernel
theorem dX2_commonOrder_33 : decode cX2_commonOrder 33 = .ok (.goto (-29), 3) := by decide +kernel
theorem dX2_commonOrder_36 : decode cX2_commonOrder 36 = .ok (.aload_n 0, 1) := by decide +kernel
theorem dX2_commonOrder_37 : decode cX2_commonOrder 37 = .ok (.getfield 24, 3) := by decide +kernel
theorem dX2_commonOrder_40 : decode cX2_commonOrder 40 = .ok (.iconst 1, 1) := by decide +kernel
theorem dX2_commonOrder_41 : decode cX2_commonOrder 41 = .ok (.isub, 1) := by decide +kernel
theorem dX2_commonOrder_42 : decode cX2_commonOrder 42 = .ok (.iload_n 1, 1) := by decide +kernel
theorem dX2_commonOrder_43 : decode cX2_commonOrder 43 = .ok (.imul, 1) := by decide +kernel
theorem dX2_commonOrder_44 : decode cX2_commonOrder 44 = .ok (.ireturn, 1) := by decide +kernel
theorem dX2_unitsOfPower_0 : decode cX2_unitsOfPower 0 = .ok (.iconst 0, 1) := by decide +kernel
theorem dX2_unitsOfPower_1 : decode cX2_unitsOfPower 1 = .ok (.istore_n 2, 1) := by decide +kernel
theorem dX2_unitsOfPower_2 : decode cX2_unitsOfPower 2 = .ok (.iconst 0, 1) := by decide +kernel
theorem dX2_unitsOfPower_3 : decode cX2_unitsOfPower 3 = .ok (.istore_n 3, 1) := by decide +kernel
theorem dX2_unitsOfPower_4 : decode cX2_unitsOfPower 4 = .ok (.iload_n 3, 1) := by decide +kernel
theorem dX2_unitsOfPower_5 : decode cX2_unitsOfPower 5 = .ok (.aload_n 0, 1) := by decide +kernel
theorem dX2_unitsOfPower_6 : decode cX2_unitsOfPower 6 = .ok (.getfield 27, 3) := by decide +kernel
theorem dX2_unitsOfPower_9 : decode cX2_unitsOfPower 9 = .ok (.if_icmp .ge 30, 3) := by decide +kernel
theorem dX2_unitsOfPower_12 : decode cX2_unitsOfPower 12 = .ok (.aload_n 0, 1) := by decide +kernel
theorem dX2_unitsOfPower_13 : decode cX2_unitsOfPower 13 = .ok (.iload_n 3, 1) := by decide +kernel
theorem dX2_unitsOfPower_14 : decode cX2_unitsOfPower 14 = .ok (.invokevirtual 157, 3) := by decide +kernel
theorem dX2_unitsOfPower_17 : decode cX2_unitsOfPower 17 = .ok (.ifCond .ne 16, 3) := by decide +kernel
theorem dX2_unitsOfPower_20 : decode cX2_unitsOfPower 20 = .ok (.aload_n 0, 1) := by decide +kernel
theorem dX2_unitsOfPower_21 : decode cX2_unitsOfPower 21 = .ok (.iload_n 3, 1) := by decide +kernel
theorem dX2_unitsOfPower_22 : decode cX2_unitsOfPower 22 = .ok (.iload_n 1, 1) := by decide +kernel
theorem dX2_unitsOfPower_23 : decode cX2_unitsOfPower 23 = .ok (.invokevirtual 110, 3) := by decide +kernel
theorem dX2_unitsOfPower_26 : decode cX2_unitsOfPower 26 = .ok (.iconst 1, 1) := by decide +kernel
theorem dX2_unitsOfPower_27 : decode cX2_unitsOfPower 27 = .ok (.if_icmp .ne 6, 3) := by decide +kernel
theorem dX2_unitsOfPower_30 : decode cX2_unitsOfPower 30 = .ok (.iinc 2 1, 3) := by decide +kernel
theorem dX2_unitsOfPower_33 : decode cX2_unitsOfPower 33 = .ok (.iinc 3 1, 3) := by decide +kernel
theorem dX2_unitsOfPower_36 : decode cX2_unitsOfPower 36 = .ok (.goto (-32), 3) := by decide +kernel
theorem dX2_unitsOfPower_39 : decode cX2_unitsOfPower 39 = .ok (.iload_n 2, 1) := by decide +kernel
theorem dX2_unitsOfPower_40 : decode cX2_unitsOfPower 40 = .ok (.iload_n 1, 1) := by decide +kernel
theorem dX2_unitsOfPower_41 : decode cX2_unitsOfPower 41 = .ok (.aload_n 0, 1) := by decide +kernel
theorem dX2_unitsOfPower_42 : decode cX2_unitsOfPower 42 = .ok (.getfield 24, 3) := by decide +kernel
theorem dX2_unitsOfPower_45 : decode cX2_unitsOfPower 45 = .ok (.iconst 1, 1) := by decide +kernel
theorem dX2_unitsOfPower_46 : decode cX2_unitsOfPower 46 = .ok (.isub, 1) := by decide +kernel
theorem dX2_unitsOfPower_47 : decode cX2_unitsOfPower 47 = .ok (.invokestatic 180, 3) := by decide +kernel
theorem dX2_unitsOfPower_50 : decode cX2_unitsOfPower 50 = .ok (.imul, 1) := by decide +kernel
theorem dX2_unitsOfPower_51 : decode cX2_unitsOfPower 51 = .ok (.ireturn, 1) := by decide +kernel
theorem dX2_manyOfLevel_0 : decode cX2_manyOfLevel 0 = .ok (.iload_n 1, 1) := by decide +kernel
theorem dX2_manyOfLevel_1 : decode cX2_manyOfLevel 1 = .ok (.aload_n 0, 1) := by decide +kernel
theorem dX2_manyOfLevel_2 : decode cX2_manyOfLevel 2 = .ok (.getfield 15, 3) := by decide +kernel
theorem dX2_manyOfLevel_5 : decode cX2_manyOfLevel 5 = .ok (.if_icmp .lt 17, 3) := by decide +kernel
theorem dX2_manyOfLevel_8 : decode cX2_manyOfLevel 8 = .ok (.iload_n 1, 1) := by decide +kernel
theorem dX2_manyOfLevel_9 : decode cX2_manyOfLevel 9 = .ok (.aload_n 0, 1) := by decide +kernel
theorem dX2_manyOfLevel_10 : decode cX2_manyOfLevel 10 = .ok (.getfield 15, 3) := by decide +kernel
theorem dX2_manyOfLevel_13 : decode cX2_manyOfLevel 13 = .ok (.if_icmp .ne 7, 3) := by decide +kernel
theorem dX2_manyOfLevel_16 : decode cX2_manyOfLevel 16 = .ok (.iconst 1, 1) := by decide +kernel
theorem dX2_manyOfLevel_17 : decode cX2_manyOfLevel 17 = .ok (.goto 4, 3) := by decide +kernel
theorem dX2_manyOfLevel_20 : decode cX2_manyOfLevel 20 = .ok (.iconst 0, 1) := by decide +kernel
theorem dX2_manyOfLevel_21 : decode cX2_manyOfLevel 21 = .ok (.ireturn, 1) := by decide +kernel
theorem dX2_manyOfLevel_22 : decode cX2_manyOfLevel 22 = .ok (.aload_n 0, 1) := by decide +kernel
theorem dX2_manyOfLevel_23 : decode cX2_manyOfLevel 23 = .ok (.getfield 24, 3) := by decide +kernel
theorem dX2_manyOfLevel_26 : decode cX2_manyOfLevel 26 = .ok (.aload_n 0, 1) := by decide +kernel
theorem dX2_manyOfLevel_27 : decode cX2_manyOfLevel 27 = .ok (.getfield 15, 3) := by decide +kernel
theorem dX2_manyOfLevel_30 : decode cX2_manyOfLevel 30 = .ok (.iload_n 1, 1) := by decide +kernel
theorem dX2_manyOfLevel_31 : decode cX2_manyOfLevel 31 = .ok (.isub, 1) := by decide +kernel
theorem dX2_manyOfLevel_32 : decode cX2_manyOfLevel 32 = .ok (.invokestatic 64, 3) := by decide +kernel
theorem dX2_manyOfLevel_35 : decode cX2_manyOfLevel 35 = .ok (.aload_n 0, 1) := by decide +kernel
theorem dX2_manyOfLevel_36 : decode cX2_manyOfLevel 36 = .ok (.getfield 24, 3) := by decide +kernel
theorem dX2_manyOfLevel_39 : decode cX2_manyOfLevel 39 = .ok (.aload_n 0, 1) := by decide +kernel
theorem dX2_manyOfLevel_40 : decode cX2_manyOfLevel 40 = .ok (.getfield 15, 3) := by decide +kernel
theorem dX2_manyOfLevel_43 : decode cX2_manyOfLevel 43 = .ok (.iload_n 1, 1) := by decide +kernel
theorem dX2_manyOfLevel_44 : decode cX2_manyOfLevel 44 = .ok (.isub, 1) := by decide +kernel
theorem dX2_manyOfLevel_45 : decode cX2_manyOfLevel 45 = .ok (.iconst 1, 1) := by decide +kernel
theorem dX2_manyOfLevel_46 : decode cX2_manyOfLevel 46 = .ok (.isub, 1) := by decide +kernel
theorem dX2_manyOfLevel_47 : decode cX2_manyOfLevel 47 = .ok (.invokestatic 64, 3) := by decide +kernel
theorem dX2_manyOfLevel_50 : decode cX2_manyOfLevel 50 = .ok (.isub, 1) := by decide +kernel
theorem dX2_manyOfLevel_51 : decode cX2_manyOfLevel 51 = .ok (.ireturn, 1) := by decide +kernel
theorem dX2_manyOfNorm_0 : decode cX2_manyOfNorm 0 = .ok (.iconst 0, 1) := by decide +kernel
theorem dX2_manyOfNorm_1 : decode cX2_manyOfNorm 1 = .ok (.istore_n 2, 1) := by decide +kernel
theorem dX2_manyOfNorm_2 : decode cX2_manyOfNorm 2 = .ok (.iconst 0, 1) := by decide +kernel
theorem dX2_manyOfNorm_3 : decode cX2_manyOfNorm 3 = .ok (.istore_n 3, 1) := by decide +kernel
theorem dX2_manyOfNorm_4 : decode cX2_manyOfNorm 4 = .ok (.iload_n 3, 1) := by decide +kernel
theorem dX2_manyOfNorm_5 : decode cX2_manyOfNorm 5 = .ok (.aload_n 0, 1) := by decide +kernel
theorem dX2_manyOfNorm_6 : decode cX2_manyOfNorm 6 = .ok (.getfield 27, 3) := by decide +kernel
theorem dX2_manyOfNorm_9 : decode cX2_manyOfNorm 9 = .ok (.if_icmp .ge 21, 3) := by decide +kernel
theorem dX2_manyOfNorm_12 : decode cX2_manyOfNorm 12 = .ok (.aload_n 0, 1) := by decide +kernel
theorem dX2_manyOfNorm_13 : decode cX2_manyOfNorm 13 = .ok (.iload_n 3, 1) := by decide +kernel
theorem dX2_manyOfNorm_14 : decode cX2_manyOfNorm 14 = .ok (.invokevirtual 192, 3) := by decide +kernel
theorem dX2_manyOfNorm_17 : decode cX2_manyOfNorm 17 = .ok (.iload_n 1, 1) := by decide +kernel
theorem dX2_manyOfNorm_18 : decode cX2_manyOfNorm 18 = .ok (.if_icmp .ne 6, 3) := by decide +kernel
theorem dX2_manyOfNorm_21 : decode cX2_manyOfNorm 21 = .ok (.iinc 2 1, 3) := by decide +kernel
theorem dX2_manyOfNorm_24 : decode cX2_manyOfNorm 24 = .ok (.iinc 3 1, 3) := by decide +kernel
theorem dX2_manyOfNorm_27 : decode cX2_manyOfNorm 27 = .ok (.goto (-23), 3) := by decide +kernel
theorem dX2_manyOfNorm_30 : decode cX2_manyOfNorm 30 = .ok (.iload_n 2, 1) := by decide +kernel
theorem dX2_manyOfNorm_31 : decode cX2_manyOfNorm 31 = .ok (.ireturn, 1) := by decide +kernel
theorem dX3_init_0 : decode cX3_init 0 = .ok (.aload_n 0, 1) := by decide +kernel
theorem dX3_init_1 : decode cX3_init 1 = .ok (.invokespecial 3, 3) := by decide +kernel
theorem dX3_init_4 : decode cX3_init 4 = .ok (.aload_n 0, 1) := by decide +kernel
theorem dX3_init_5 : decode cX3_init 5 = .ok (.iconst 0, 1) := by decide +kernel
theorem dX3_init_6 : decode cX3_init 6 = .ok (.putfield 9, 3) := by decide +kernel
theorem dX3_init_9 : decode cX3_init 9 = .ok (.aload_n 0, 1) := by decide +kernel
theorem dX3_init_10 : decode cX3_init 10 = .ok (.iconst 0, 1) := by decide +kernel
theorem dX3_init_11 : decode cX3_init 11 = .ok (.putfield 15, 3) := by decide +kernel
theorem dX3_init_14 : decode cX3_init 14 = .ok (.aload_n 0, 1) := by decide +kernel
theorem dX3_init_15 : decode cX3_init 15 = .ok (.bipush 63, 2) := by decide +kernel
theorem dX3_init_17 : decode cX3_init 17 = .ok (.newarray .int, 2) := by decide +kernel
theorem dX3_init_19 : decode cX3_init 19 = .ok (.putfield 18, 3) := by decide +kernel
theorem dX3_init_22 : decode cX3_init 22 = .ok (.aload_n 0, 1) := by decide +kernel
theorem dX3_init_23 : decode cX3_init 23 = .ok (.bipush 63, 2) := by decide +kernel
theorem dX3_init_25 : decode cX3_init 25 = .ok (.newarray .int, 2) := by decide +kernel
theorem dX3_init_27 : decode cX3_init 27 = .ok (.putfield 22, 3) := by decide +kernel
theorem dX3_init_30 : decode cX3_init 30 = .ok (.aload_n 0, 1) := by decide +kernel
theorem dX3_init_31 : decode cX3_init 31 = .ok (.iconst 0, 1) := by decide +kernel
theorem dX3_init_32 : decode cX3_init 32 = .ok (.putfield 25, 3) := by decide +kernel
theorem dX3_init_35 : decode cX3_init 35 = .ok (.aload_n 0, 1) := by decide +kernel
theorem dX3_init_36 : decode cX3_init 36 = .ok (.iconst (-1), 1) := by decide +kernel
theorem dX3_init_37 : decode cX3_init 37 = .ok (.putfield 29, 3) := by decide +kernel
theorem dX3_init_40 : decode cX3_init 40 = .ok (.aload_n 0, 1) := by decide +kernel
theorem dX3_init_41 : decode cX3_init 41 = .ok (.iconst (-1), 1) := by decide +kernel
theorem dX3_init_42 : decode cX3_init 42 = .ok (.putfield 32, 3) := by decide +kernel
theorem dX3_init_45 : decode cX3_init 45 = .ok (.aload_n 0, 1) := by decide +kernel
theorem dX3_init_46 : decode cX3_init 46 = .ok (.iconst 0, 1) := by decide +kernel
theorem dX3_init_47 : decode cX3_init 47 = .ok (.putfield 35, 3) := by decide +kernel
theorem dX3_init_50 : decode cX3_init 50 = .ok (.aload_n 0, 1) := by decide +kernel
theorem dX3_init_51 : decode cX3_init 51 = .ok (.bipush 63, 2) := by decide +kernel
theorem dX3_init_53 : decode cX3_init 53 = .ok (.newarray .int, 2) := by decide +kernel
theorem dX3_init_55 : decode cX3_init 55 = .ok (.putfield 38, 3) := by decide +kernel
theorem dX3_init_58 : decode cX3_init 58 = .ok (.aload_n 0, 1) := by decide +kernel
theorem dX3_init_59 : decode cX3_init 59 = .ok (.iconst 0, 1) := by decide +kernel
theorem dX3_init_60 : decode cX3_init 60 = .ok (.putfield 41, 3) := by decide +kernel
theorem dX3_init_63 : decode cX3_init 63 = .ok (.aload_n 0, 1) := by decide +kernel
theorem dX3_init_64 : decode cX3_init 64 = .ok (.bipush 63, 2) := by decide +kernel
theorem dX3_init_66 : decode cX3_init 66 = .ok (.newarray .int, 2) := by decide +kernel
theorem dX3_init_68 : decode cX3_init 68 = .ok (.putfield 44, 3) := by decide +kernel
theorem dX3_init_71 : decode cX3_init 71 = .ok (.aload_n 0, 1) := by decide +kernel
theorem dX3_init_72 : decode cX3_init 72 = .ok (.aload_n 1, 1) := by decide +kernel
theorem dX3_init_73 : decode cX3_init 73 = .ok (.putfield 47, 3) := by decide +kernel
theorem dX3_init_76 : decode cX3_init 76 = .ok (.aload_n 0, 1) := by decide +kernel
theorem dX3_init_77 : decode cX3_init 77 = .ok (.new 51, 3) := by decide +kernel
theorem dX3_init_80 : decode cX3_init 80 = .ok (.dup, 1) := by decide +kernel
theorem dX3_init_81 : decode cX3_init 81 = .ok (.aload_n 1, 1) := by decide +kernel
theorem dX3_init_82 : decode cX3_init 82 = .ok (.invokespecial 53, 3) := by decide +kernel
theorem dX3_init_85 : decode cX3_init 85 = .ok (.putfield 56, 3) := by decide +kernel
theorem dX3_init_88 : decode cX3_init 88 = .ok (.return_, 1) := by decide +kernel
theorem dX3_take_0 : decode cX3_take 0 = .ok (.iconst 0, 1) := by decide +kernel
theorem dX3_take_1 : decode cX3_take 1 = .ok (.istore_n 2, 1) := by decide +kernel
theorem dX3_take_2 : decode cX3_take 2 = .ok (.iload_n 2, 1) := by decide +kernel
theorem dX3_take_3 : decode cX3_take 3 = .ok (.bipush 63, 2) := by decide +kernel
theorem dX3_take_5 : decode cX3_take 5 = .ok (.if_icmp .ge 47, 3) := by decide +kernel
theorem dX3_take_8 : decode cX3_take 8 = .ok (.aload_n 0, 1) := by decide +kernel
theorem dX3_take_9 : decode cX3_take 9 = .ok (.getfield 18, 3) := by decide +kernel
theorem dX3_take_12 : decode cX3_take 12 = .ok (.iload_n 2, 1) := by decide +kernel
theorem dX3_take_13 : decode cX3_take 13 = .ok (.iload_n 2, 1) := by decide +kernel
theorem dX3_take_14 : decode cX3_take 14 = .ok (.aload_n 0, 1) := by decide +kernel
theorem dX3_take_15 : decode cX3_take 15 = .ok (.getfield 47, 3) := by decide +kernel
theorem dX3_take_18 : decode cX3_take 18 = .ok (.getfield 60, 3) := by decide +kernel
theorem dX3_take_21 : decode cX3_take 21 = .ok (.if_icmp .ge 11, 3) := by decide +kernel
theorem dX3_take_24 : decode cX3_take 24 = .ok (.aload_n 1, 1) := by decide +kernel
theorem dX3_take_25 : decode cX3_take 25 = .ok (.iload_n 2, 1) := by decide +kernel
theorem dX3_take_26 : decode cX3_take 26 = .ok (.invokestatic 65, 3) := by decide +kernel
theorem dX3_take_29 : decode cX3_take 29 = .ok (.goto 4, 3) := by decide +kernel
theorem dX3_take_32 : decode cX3_take 32 = .ok (.iconst 0, 1) := by decide +kernel
theorem dX3_take_33 : decode cX3_take 33 = .ok (.iastore, 1) := by decide +kernel
theorem dX3_take_34 : decode cX3_take 34 = .ok (.aload_n 0, 1) := by decide +kernel
theorem dX3_take_35 : decode cX3_take 35 = .ok (.getfield 22, 3) := by decide +kernel
theorem dX3_take_38 : decode cX3_take 38 = .ok (.iload_n 2, 1) := by decide +kernel
theorem dX3_take_39 : decode cX3_take 39 = .ok (.aload_n 0, 1) := by decide +kernel
theorem dX3_take_40 : decode cX3_take 40 = .ok (.getfield 18, 3) := by decide +kernel
theorem dX3_take_43 : decode cX3_take 43 = .ok (.iload_n 2, 1) := by decide +kernel
theorem dX3_take_44 : decode cX3_take 44 = .ok (.iaload, 1) := by decide +kernel
theorem dX3_take_45 : decode cX3_take 45 = .ok (.iastore, 1) := by decide +kernel
theorem dX3_take_46 : decode cX3_take 46 = .ok (.iinc 2 1, 3) := by decide +kernel
theorem dX3_take_49 : decode cX3_take 49 = .ok (.goto (-47), 3) := by decide +kernel
theorem dX3_take_52 : decode cX3_take 52 = .ok (.aload_n 0, 1) := by decide +kernel
theorem dX3_take_53 : decode cX3_take 53 = .ok (.getfield 47, 3) := by decide +kernel
theorem dX3_take_56 : decode cX3_take 56 = .ok (.getfield 60, 3) := by decide +kernel
theorem dX3_take_59 : decode cX3_take 59 = .ok (.iconst 1, 1) := by decide +kernel
theorem dX3_take_60 : decode cX3_take 60 = .ok (.isub, 1) := by decide +kernel
theorem dX3_take_61 : decode cX3_take 61 = .ok (.istore_n 2, 1) := by decide +kernel
theorem dX3_take_62 : decode cX3_take 62 = .ok (.iload_n 2, 1) := by decide +kernel
theorem dX3_take_63 : decode cX3_take 63 = .ok (.aload_n 0, 1) := by decide +kernel
theorem dX3_take_64 : decode cX3_take 64 = .ok (.getfield 47, 3) := by decide +kernel
theorem dX3_take_67 : decode cX3_take 67 = .ok (.getfield 71, 3) := by decide +kernel
theorem dX3_take_70 : decode cX3_take 70 = .ok (.if_icmp .lt 18, 3) := by decide +kernel
theorem dX3_take_73 : decode cX3_take 73 = .ok (.aload_n 0, 1) := by decide +kernel
theorem dX3_take_74 : decode cX3_take 74 = .ok (.aload_n 0, 1) := by decide +kernel
theorem dX3_take_75 : decode cX3_take 75 = .ok (.getfield 22, 3) := by decide +kernel
theorem dX3_take_78 : decode cX3_take 78 = .ok (.iload_n 2, 1) := by decide +kernel
theorem dX3_take_79 : decode cX3_take 79 = .ok (.invokevirtual 74, 3) := by decide +kernel
theorem dX3_take_82 : decode cX3_take 82 = .ok (.iinc 2 (-1), 3) := by decide +kernel
theorem dX3_take_85 : decode cX3_take 85 = .ok (.goto (-23), 3) := by decide +kernel
theorem dX3_take_88 : decode cX3_take 88 = .ok (.aload_n 0, 1) := by decide +kernel
theorem dX3_take_89 : decode cX3_take 89 = .ok (.iconst 0, 1) := by decide +kernel
theorem dX3_take_90 : decode cX3_take 90 = .ok (.putfield 15, 3) := by decide +kernel
theorem dX3_take_93 : decode cX3_take 93 = .ok (.iconst 0, 1) := by decide +kernel
theorem dX3_take_94 : decode cX3_take 94 = .ok (.istore_n 2, 1) := by decide +kernel
theorem dX3_take_95 : decode cX3_take 95 = .ok (.iload_n 2, 1) := by decide +kernel
theorem dX3_take_96 : decode cX3_take 96 = .ok (.aload_n 0, 1) := by decide +kernel
theorem dX3_take_97 : decode cX3_take 97 = .ok (.getfield 47, 3) := by decide +kernel
theorem dX3_take_100 : decode cX3_take 100 = .ok (.getfield 71, 3) := by decide +kernel
theorem dX3_take_103 : decode cX3_take 103 = .ok (.if_icmp .ge 36, 3) := by decide +kernel
theorem dX3_take_106 : decode cX3_take 106 = .ok (.aload_n 0, 1) := by decide +kernel
theorem dX3_take_107 : decode cX3_take 107 = .ok (.aload_n 0, 1) := by decide +kernel
theorem dX3_take_108 : decode cX3_take 108 = .ok (.getfield 15, 3) := by decide +kernel
theorem dX3_take_111 : decode cX3_take 111 = .ok (.ifCond .ne 14, 3) := by decide +kernel
theorem dX3_take_114 : decode cX3_take 114 = .ok (.aload_n 0, 1) := by decide +kernel
theorem dX3_take_115 : decode cX3_take 115 = .ok (.getfield 22, 3) := by decide +kernel
theorem dX3_take_118 : decode cX3_take 118 = .ok (.iload_n 2, 1) := by decide +kernel
theorem dX3_take_119 : decode cX3_take 119 = .ok (.invokestatic 65, 3) := by decide +kernel
theorem dX3_take_122 : decode cX3_take 122 = .ok (.ifCond .eq 7, 3) := by decide +kernel
theorem dX3_take_125 : decode cX3_take 125 = .ok (.iconst 1, 1) := by decide +kernel
theorem dX3_take_126 : decode cX3_take 126 = .ok (.goto 4, 3) := by decide +kernel
theorem dX3_take_129 : decode cX3_take 129 = .ok (.iconst 0, 1) := by decide +kernel
theorem dX3_take_130 : decode cX3_take 130 = .ok (.putfield 15, 3) := by decide +kernel
theorem dX3_take_133 : decode cX3_take 133 = .ok (.iinc 2 1, 3) := by decide +kernel
theorem dX3_take_136 : decode cX3_take 136 = .ok (.goto (-41), 3) := by decide +kernel
theorem dX3_take_139 : decode cX3_take 139 = .ok (.aload_n 0, 1) := by decide +kernel
theorem dX3_take_140 : decode cX3_take 140 = .ok (.invokevirtual 78, 3) := by decide +kernel
theorem dX3_take_143 : decode cX3_take 143 = .ok (.aload_n 0, 1) := by decide +kernel
theorem dX3_take_144 : decode cX3_take 144 = .ok (.iconst 0, 1) := by decide +kernel
theorem dX3_take_145 : decode cX3_take 145 = .ok (.putfield 41, 3) := by decide +kernel
theorem dX3_take_148 : decode cX3_take 148 = .ok (.aload_n 0, 1) := by decide +kernel
theorem dX3_take_149 : decode cX3_take 149 = .ok (.iconst 1, 1) := by decide +kernel
theorem dX3_take_150 : decode cX3_take 150 = .ok (.putfield 9, 3) := by decide +kernel
theorem dX3_take_153 : decode cX3_take 153 = .ok (.return_, 1) := by decide +kernel
theorem dX3_lessMaker_0 : decode cX3_lessMaker 0 = .ok (.aload_n 0, 1) := by decide +kernel
theorem dX3_lessMaker_1 : decode cX3_lessMaker 1 = .ok (.getfield 47, 3) := by decide +kernel
theorem dX3_lessMaker_4 : decode cX3_lessMaker 4 = .ok (.getfield 81, 3) := by decide +kernel
theorem dX3_lessMaker_7 : decode cX3_lessMaker 7 = .ok (.getfield 85, 3) := by decide +kernel
theorem dX3_lessMaker_10 : decode cX3_lessMaker 10 = .ok (.istore_n 3, 1) := by decide +kernel
theorem dX3_lessMaker_11 : decode cX3_lessMaker 11 = .ok (.iload_n 3, 1) := by decide +kernel
theorem dX3_lessMaker_12 : decode cX3_lessMaker 12 = .ok (.aload_n 1, 1) := by decide +kernel
theorem dX3_lessMaker_13 : decode cX3_lessMaker 13 = .ok (.iload_n 2, 1) := by decide +kernel
theorem dX3_lessMaker_14 : decode cX3_lessMaker 14 = .ok (.invokestatic 65, 3) := by decide +kernel
theorem dX3_lessMaker_17 : decode cX3_lessMaker 17 = .ok (.isub, 1) := by decide +kernel
theorem dX3_lessMaker_18 : decode cX3_lessMaker 18 = .ok (.istore 4, 2) := by decide +kernel
theorem dX3_lessMaker_20 : decode cX3_lessMaker 20 = .ok (.iconst 0, 1) := by decide +kernel
theorem dX3_lessMaker_21 : decode cX3_lessMaker 21 = .ok (.istore 5, 2) := by decide +kernel
theorem dX3_lessMaker_23 : decode cX3_lessMaker 23 = .ok (.iload 5, 2) := by decide +kernel
theorem dX3_lessMaker_25 : decode cX3_lessMaker 25 = .ok (.aload_n 0, 1) := by decide +kernel
theorem dX3_lessMaker_26 : decode cX3_lessMaker 26 = .ok (.getfield 47, 3) := by decide +kernel
theorem dX3_lessMaker_29 : decode cX3_lessMaker 29 = .ok (.getfield 71, 3) := by decide +kernel
theorem dX3_lessMaker_32 : decode cX3_lessMaker 32 = .ok (.if_icmp .gt 55, 3) := by decide +kernel
theorem dX3_lessMaker_35 : decode cX3_lessMaker 35 = .ok (.iload_n 2, 1) := by decide +kernel
theorem dX3_lessMaker_36 : decode cX3_lessMaker 36 = .ok (.aload_n 0, 1) := by decide +kernel
theorem dX3_lessMaker_37 : decode cX3_lessMaker 37 = .ok (.getfield 47, 3) := by decide +kernel
theorem dX3_lessMaker_40 : decode cX3_lessMaker 40 = .ok (.getfield 71, 3) := by decide +kernel
theorem dX3_lessMaker_43 : decode cX3_lessMaker 43 = .ok (.isub, 1) := by decide +kernel
theorem dX3_lessMaker_44 : decode cX3_lessMaker 44 = .ok (.iload 5, 2) := by decide +kernel
theorem dX3_lessMaker_46 : decode cX3_lessMaker 46 = .ok (.iadd, 1) := by decide +kernel
theorem dX3_lessMaker_47 : decode cX3_lessMaker 47 = .ok (.istore 6, 2) := by decide +kernel
theorem dX3_lessMaker_49 : decode cX3_lessMaker 49 = .ok (.aload_n 1, 1) := by decide +kernel
theorem dX3_lessMaker_50 : decode cX3_lessMaker 50 = .ok (.iload 6, 2) := by decide +kernel
theorem dX3_lessMaker_52 : decode cX3_lessMaker 52 = .ok (.aload_n 1, 1) := by decide +kernel
theorem dX3_lessMaker_53 : decode cX3_lessMaker 53 = .ok (.iload 6, 2) := by decide +kernel
theorem dX3_lessMaker_55 : decode cX3_lessMaker 55 = .ok (.invokestatic 65, 3) := by decide +kernel
theorem dX3_lessMaker_58 : decode cX3_lessMaker 58 = .ok (.iload 4, 2) := by decide +kernel
theorem dX3_lessMaker_60 : decode cX3_lessMaker 60 = .ok (.aload_n 0, 1) := by decide +kernel
theorem dX3_lessMaker_61 : decode cX3_lessMaker 61 = .ok (.getfield 47, 3) := by decide +kernel
theorem dX3_lessMaker_64 : decode cX3_lessMaker 64 = .ok (.getfield 90, 3) := by decide +kernel
theorem dX3_lessMaker_67 : decode cX3_lessMaker 67 = .ok (.iload 5, 2) := by decide +kernel
theorem dX3_lessMaker_69 : decode cX3_lessMaker 69 = .ok (.invokestatic 65, 3) := by decide +kernel
theorem dX3_lessMaker_72 : decode cX3_lessMaker 72 = .ok (.imul, 1) := by decide +kernel
theorem dX3_lessMaker_73 : decode cX3_lessMaker 73 = .ok (.iadd, 1) := by decide +kernel
theorem dX3_lessMaker_74 : decode cX3_lessMaker 74 = .ok (.iload_n 3, 1) := by decide +kernel
theorem dX3_lessMaker_75 : decode cX3_lessMaker 75 = .ok (.invokestatic 93, 3) := by decide +kernel
theorem dX3_lessMaker_78 : decode cX3_lessMaker 78 = .ok (.invokestatic 97, 3) := by decide +kernel
theorem dX3_lessMaker_81 : decode cX3_lessMaker 81 = .ok (.iinc 5 1, 3) := by decide +kernel
theorem dX3_lessMaker_84 : decode cX3_lessMaker 84 = .ok (.goto (-61), 3) := by decide +kernel
theorem dX3_lessMaker_87 : decode cX3_lessMaker 87 = .ok (.return_, 1) := by decide +kernel
theorem dX3_countMends_0 : decode cX3_countMends 0 = .ok (.aload_n 0, 1) := by decide +kernel
theorem dX3_countMends_1 : decode cX3_countMends 1 = .ok (.iconst 0, 1) := by decide +kernel
theorem dX3_countMends_2 : decode cX3_countMends 2 = .ok (.putfield 25, 3) := by decide +kernel
theorem dX3_countMends_5 : decode cX3_countMends 5 = .ok (.aload_n 0, 1) := by decide +kernel
theorem dX3_countMends_6 : decode cX3_countMends 6 = .ok (.iconst (-1), 1) := by decide +kernel
theorem dX3_countMends_7 : decode cX3_countMends 7 = .ok (.putfield 29, 3) := by decide +kernel
theorem dX3_countMends_10 : decode cX3_countMends 10 = .ok (.aload_n 0, 1) := by decide +kernel
theorem dX3_countMends_11 : decode cX3_countMends 11 = .ok (.iconst (-1), 1) := by decide +kernel
theorem dX3_countMends_12 : decode cX3_countMends 12 = .ok (.putfield 32, 3) := by decide +kernel
theorem dX3_countMends_15 : decode cX3_countMends 15 = .ok (.aload_n 0, 1) := by decide +kernel
theorem dX3_countMends_16 : decode cX3_countMends 16 = .ok (.getfield 44, 3) := by decide +kernel
theorem dX3_countMends_19 : decode cX3_countMends 19 = .ok (.iconst 0, 1) := by decide +kernel
theorem dX3_countMends_20 : decode cX3_countMends 20 = .ok (.invokestatic 101, 3) := by decide +kernel
theorem dX3_countMends_23 : decode cX3_countMends 23 = .ok (.aload_n 0, 1) := by decide +kernel
theorem dX3_countMends_24 : decode cX3_countMends 24 = .ok (.getfield 44, 3) := by decide +kernel
theorem dX3_countMends_27 : decode cX3_countMends 27 = .ok (.iconst 0, 1) := by decide +kernel
theorem dX3_countMends_28 : decode cX3_countMends 28 = .ok (.iconst 1, 1) := by decide +kernel
theorem dX3_countMends_29 : decode cX3_countMends 29 = .ok (.iastore, 1) := by decide +kernel
theorem dX3_countMends_30 : decode cX3_countMends 30 = .ok (.iconst 0, 1) := by decide +kernel
theorem dX3_countMends_31 : decode cX3_countMends 31 = .ok (.istore_n 1, 1) := by decide +kernel
theorem dX3_countMends_32 : decode cX3_countMends 32 = .ok (.aload_n 0, 1) := by decide +kernel
theorem dX3_countMends_33 : decode cX3_countMends 33 = .ok (.getfield 15, 3) := by decide +kernel
theorem dX3_countMends_36 : decode cX3_countMends 36 = .ok (.ifCond .eq 102, 3) := by decide +kernel
theorem dX3_countMends_39 : decode cX3_countMends 39 = .ok (.iload_n 1, 1) := by decide +kernel
theorem dX3_countMends_40 : decode cX3_countMends 40 = .ok (.aload_n 0, 1) := by decide +kernel
theorem dX3_countMends_41 : decode cX3_countMends 41 = .ok (.getfield 47, 3) := by decide +kernel
theorem dX3_countMends_44 : decode cX3_countMends 44 = .ok (.getfield 60, 3) := by decide +kernel
theorem dX3_countMends_47 : decode cX3_countMends 47 = .ok (.if_icmp .ge 91, 3) := by decide +kernel
theorem dX3_countMends_50 : decode cX3_countMends 50 = .ok (.iconst 1, 1) := by decide +kernel
theorem dX3_countMends_51 : decode cX3_countMends 51 = .ok (.istore_n 2, 1) := by decide +kernel
theorem dX3_countMends_52 : decode cX3_countMends 52 = .ok (.iload_n 2, 1) := by decide +kernel
theorem dX3_countMends_53 : decode cX3_countMends 53 = .ok (.aload_n 0, 1) := by decide +kernel
theorem dX3_countMends_54 : decode cX3_countMends 54 = .ok (.getfield 47, 3) := by decide +kernel
theorem dX3_countMends_57 : decode cX3_countMends 57 = .ok (.getfield 81, 3) := by decide +kernel
theorem dX3_countMends_60 : decode cX3_countMends 60 = .ok (.getfield 85, 3) := by decide +kernel
theorem dX3_countMends_63 : decode cX3_countMends 63 = .ok (.if_icmp .ge 65, 3) := by decide +kernel
theorem dX3_countMends_66 : decode cX3_countMends 66 = .ok (.aload_n 0, 1) := by decide +kernel
theorem dX3_countMends_67 : decode cX3_countMends 67 = .ok (.iload_n 2, 1) := by decide +kernel
theorem dX3_countMends_68 : decode cX3_countMends 68 = .ok (.invokevirtual 106, 3) := by decide +kernel
theorem dX3_countMends_71 : decode cX3_countMends 71 = .ok (.ifCond .eq 51, 3) := by decide +kernel
theorem dX3_countMends_74 : decode cX3_countMends 74 = .ok (.aload_n 0, 1) := by decide +kernel
theorem dX3_countMends_75 : decode cX3_countMends 75 = .ok (.aload_n 0, 1) := by decide +kernel
theorem dX3_countMends_76 : decode cX3_countMends 76 = .ok (.getfield 25, 3) := by decide +kernel
theorem dX3_countMends_79 : decode cX3_countMends 79 = .ok (.ifCond .ne 7, 3) := by decide +kernel
theorem dX3_countMends_82 : decode cX3_countMends 82 = .ok (.iload_n 1, 1) := by decide +kernel
theorem dX3_countMends_83 : decode cX3_countMends 83 = .ok (.goto 7, 3) := by decide +kernel
theorem dX3_countMends_86 : decode cX3_countMends 86 = .ok (.aload_n 0, 1) := by decide +kernel
theorem dX3_countMends_87 : decode cX3_countMends 87 = .ok (.getfield 29, 3) := by decide +kernel
theorem dX3_countMends_90 : decode cX3_countMends 90 = .ok (.putfield 29, 3) := by decide +kernel
theorem dX3_countMends_93 : decode cX3_countMends 93 = .ok (.aload_n 0, 1) := by decide +kernel
theorem dX3_countMends_94 : decode cX3_countMends 94 = .ok (.aload_n 0, 1) := by decide +kernel
theorem dX3_countMends_95 : decode cX3_countMends 95 = .ok (.getfield 25, 3) := by decide +kernel
theorem dX3_countMends_98 : decode cX3_countMends 98 = .ok (.ifCond .ne 7, 3) := by decide +kernel
theorem dX3_countMends_101 : decode cX3_countMends 101 = .ok (.iload_n 2, 1) := by decide +kernel
theorem dX3_countMends_102 : decode cX3_countMends 102 = .ok (.goto 7, 3) := by decide +kernel
theorem dX3_countMends_105 : decode cX3_countMends 105 = .ok (.aload_n 0, 1) := by decide +kernel
theorem dX3_countMends_106 : decode cX3_countMends 106 = .ok (.getfield 32, 3) := by decide +kernel
theorem dX3_countMends_109 : decode cX3_countMends 109 = .ok (.putfield 32, 3) := by decide +kernel
theorem dX3_countMends_112 : decode cX3_countMends 112 = .ok (.aload_n 0, 1) := by decide +kernel
theorem dX3_countMends_113 : decode cX3_countMends 113 = .ok (.dup, 1) := by decide +kernel
theorem dX3_countMends_114 : decode cX3_countMends 114 = .ok (.getfield 25, 3) := by decide +kernel
theorem dX3_countMends_117 : decode cX3_countMends 117 = .ok (.iconst 1, 1) := by decide +kernel
theorem dX3_countMends_118 : decode cX3_countMends 118 = .ok (.iadd, 1) := by decide +kernel
theorem dX3_countMends_119 : decode cX3_countMends 119 = .ok (.putfield 25, 3) := by decide +kernel
theorem dX3_countMends_122 : decode cX3_countMends 122 = .ok (.iinc 2 1, 3) := by decide +kernel
theorem dX3_countMends_125 : decode cX3_countMends 125 = .ok (.goto (-73), 3) := by decide +kernel
theorem dX3_countMends_128 : decode cX3_countMends 128 = .ok (.aload_n 0, 1) := by decide +kernel
theorem dX3_countMends_129 : decode cX3_countMends 129 = .ok (.invokevirtual 110, 3) := by decide +kernel
theorem dX3_countMends_132 : decode cX3_countMends 132 = .ok (.iinc 1 1, 3) := by decide +kernel
theorem dX3_countMends_135 : decode cX3_countMends 135 = .ok (.goto (-103), 3) := by decide +kernel
theorem dX3_countMends_138 : decode cX3_countMends 138 = .ok (.return_, 1) := by decide +kernel
theorem dX3_isMendedBy_0 : decode cX3_isMendedBy 0 = .ok (.aload_n 0, 1) := by decide +kernel
theorem dX3_isMendedBy_1 : decode cX3_isMendedBy 1 = .ok (.getfield 47, 3) := by decide +kernel
theorem dX3_isMendedBy_4 : decode cX3_isMendedBy 4 = .ok (.getfield 81, 3) := by decide +kernel
theorem dX3_isMendedBy_7 : decode cX3_isMendedBy 7 = .ok (.getfield 85, 3) := by decide +kernel
theorem dX3_isMendedBy_10 : decode cX3_isMendedBy 10 = .ok (.istore_n 2, 1) := by decide +kernel
theorem dX3_isMendedBy_11 : decode cX3_isMendedBy 11 = .ok (.iconst 0, 1) := by decide +kernel
theorem dX3_isMendedBy_12 : decode cX3_isMendedBy 12 = .ok (.istore_n 3, 1) := by decide +kernel
theorem dX3_isMendedBy_13 : decode cX3_isMendedBy 13 = .ok (.iload_n 3, 1) := by decide +kernel
theorem dX3_isMendedBy_14 : decode cX3_isMendedBy 14 = .ok (.aload_n 0, 1) := by decide +kernel
theorem dX3_isMendedBy_15 : decode cX3_isMendedBy 15 = .ok (.getfield 47, 3) := by decide +kernel
theorem dX3_isMendedBy_18 : decode cX3_isMendedBy 18 = .ok (.getfield 71, 3) := by decide +kernel
theorem dX3_isMendedBy_21 : decode cX3_isMendedBy 21 = .ok (.if_icmp .ge 37, 3) := by decide +kernel
theorem dX3_isMendedBy_24 : decode cX3_isMendedBy 24 = .ok (.aload_n 0, 1) := by decide +kernel
theorem dX3_isMendedBy_25 : decode cX3_isMendedBy 25 = .ok (.getfield 22, 3) := by decide +kernel
theorem dX3_isMendedBy_28 : decode cX3_isMendedBy 28 = .ok (.iload_n 3, 1) := by decide +kernel
theorem dX3_isMendedBy_29 : decode cX3_isMendedBy 29 = .ok (.invokestatic 65, 3) := by decide +kernel
theorem dX3_isMendedBy_32 : decode cX3_isMendedBy 32 = .ok (.iload_n 1, 1) := by decide +kernel
theorem dX3_isMendedBy_33 : decode cX3_isMendedBy 33 = .ok (.aload_n 0, 1) := by decide +kernel
theorem dX3_isMendedBy_34 : decode cX3_isMendedBy 34 = .ok (.getfield 44, 3) := by decide +kernel
theorem dX3_isMendedBy_37 : decode cX3_isMendedBy 37 = .ok (.iload_n 3, 1) := by decide +kernel
theorem dX3_isMendedBy_38 : decode cX3_isMendedBy 38 = .ok (.invokestatic 65, 3) := by decide +kernel
theorem dX3_isMendedBy_41 : decode cX3_isMendedBy 41 = .ok (.imul, 1) := by decide +kernel
theorem dX3_isMendedBy_42 : decode cX3_isMendedBy 42 = .ok (.iadd, 1) := by decide +kernel
theorem dX3_isMendedBy_43 : decode cX3_isMendedBy 43 = .ok (.iload_n 2, 1) := by decide +kernel
theorem dX3_isMendedBy_44 : decode cX3_isMendedBy 44 = .ok (.invokestatic 93, 3) := by decide +kernel
theorem dX3_isMendedBy_47 : decode cX3_isMendedBy 47 = .ok (.ifCond .eq 5, 3) := by decide +kernel
theorem dX3_isMendedBy_50 : decode cX3_isMendedBy 50 = .ok (.iconst 0, 1) := by decide +kernel
theorem dX3_isMendedBy_51 : decode cX3_isMendedBy 51 = .ok (.ireturn, 1) := by decide +kernel
theorem dX3_isMendedBy_52 : decode cX3_isMendedBy 52 = .ok (.iinc 3 1, 3) := by decide +kernel
theorem dX3_isMendedBy_55 : decode cX3_isMendedBy 55 = .ok (.goto (-42), 3) := by decide +kernel
theorem dX3_isMendedBy_58 : decode cX3_isMendedBy 58 = .ok (.iconst 1, 1) := by decide +kernel
theorem dX3_isMendedBy_59 : decode cX3_isMendedBy 59 = .ok (.ireturn, 1) := by decide +kernel
theorem dX3_shift_0 : decode cX3_shift 0 = .ok (.aload_n 0, 1) := by decide +kernel
theorem dX3_shift_1 : decode cX3_shift 1 = .ok (.getfield 47, 3) := by decide +kernel
theorem dX3_shift_4 : decode cX3_shift 4 = .ok (.getfield 81, 3) := by decide +kernel
theorem dX3_shift_7 : decode cX3_shift 7 = .ok (.getfield 85, 3) := by decide +kernel
theorem dX3_shift_10 : decode cX3_shift 10 = .ok (.istore_n 1, 1) := by decide +kernel
theorem dX3_shift_11 : decode cX3_shift 11 = .ok (.iload_n 1, 1) := by decide +kernel
theorem dX3_shift_12 : decode cX3_shift 12 = .ok (.aload_n 0, 1) := by decide +kernel
theorem dX3_shift_13 : decode cX3_shift 13 = .ok (.getfield 44, 3) := by decide +kernel
theorem dX3_shift_16 : decode cX3_shift 16 = .ok (.aload_n 0, 1) := by decide +kernel
theorem dX3_shift_17 : decode cX3_shift 17 = .ok (.getfield 47, 3) := by decide +kernel
theorem dX3_shift_20 : decode cX3_shift 20 = .ok (.getfield 71, 3) := by decide +kernel
theorem dX3_shift_23 : decode cX3_shift 23 = .ok (.iconst 1, 1) := by decide +kernel
theorem dX3_shift_24 : decode cX3_shift 24 = .ok (.isub, 1) := by decide +kernel
theorem dX3_shift_25 : decode cX3_shift 25 = .ok (.invokestatic 65, 3) := by decide +kernel
theorem dX3_shift_28 : decode cX3_shift 28 = .ok (.isub, 1) := by decide +kernel
theorem dX3_shift_29 : decode cX3_shift 29 = .ok (.istore_n 2, 1) := by decide +kernel
theorem dX3_shift_30 : decode cX3_shift 30 = .ok (.aload_n 0, 1) := by decide +kernel
theorem dX3_shift_31 : decode cX3_shift 31 = .ok (.getfield 47, 3) := by decide +kernel
theorem dX3_shift_34 : decode cX3_shift 34 = .ok (.getfield 71, 3) := by decide +kernel
theorem dX3_shift_37 : decode cX3_shift 37 = .ok (.iconst 1, 1) := by decide +kernel
theorem dX3_shift_38 : decode cX3_shift 38 = .ok (.isub, 1) := by decide +kernel
theorem dX3_shift_39 : decode cX3_shift 39 = .ok (.istore_n 3, 1) := by decide +kernel
theorem dX3_shift_40 : decode cX3_shift 40 = .ok (.iload_n 3, 1) := by decide +kernel
theorem dX3_shift_41 : decode cX3_shift 41 = .ok (.ifCond .lt 49, 3) := by decide +kernel
theorem dX3_shift_44 : decode cX3_shift 44 = .ok (.aload_n 0, 1) := by decide +kernel
theorem dX3_shift_45 : decode cX3_shift 45 = .ok (.getfield 44, 3) := by decide +kernel
theorem dX3_shift_48 : decode cX3_shift 48 = .ok (.iload_n 3, 1) := by decide +kernel
theorem dX3_shift_49 : decode cX3_shift 49 = .ok (.iconst 1, 1) := by decide +kernel
theorem dX3_shift_50 : decode cX3_shift 50 = .ok (.isub, 1) := by decide +kernel
theorem dX3_shift_51 : decode cX3_shift 51 = .ok (.invokestatic 65, 3) := by decide +kernel
theorem dX3_shift_54 : decode cX3_shift 54 = .ok (.istore 4, 2) := by decide +kernel
theorem dX3_shift_56 : decode cX3_shift 56 = .ok (.aload_n 0, 1) := by decide +kernel
theorem dX3_shift_57 : decode cX3_shift 57 = .ok (.getfield 44, 3) := by decide +kernel
theorem dX3_shift_60 : decode cX3_shift 60 = .ok (.iload_n 3, 1) := by decide +kernel
theorem dX3_shift_61 : decode cX3_shift 61 = .ok (.iload 4, 2) := by decide +kernel
theorem dX3_shift_63 : decode cX3_shift 63 = .ok (.iload_n 2, 1) := by decide +kernel
theorem dX3_shift_64 : decode cX3_shift 64 = .ok (.aload_n 0, 1) := by decide +kernel
theorem dX3_shift_65 : decode cX3_shift 65 = .ok (.getfield 47, 3) := by decide +kernel
theorem dX3_shift_68 : decode cX3_shift 68 = .ok (.getfield 90, 3) := by decide +kernel
theorem dX3_shift_71 : decode cX3_shift 71 = .ok (.iload_n 3, 1) := by decide +kernel
theorem dX3_shift_72 : decode cX3_shift 72 = .ok (.invokestatic 65, 3) := by decide +kernel
theorem dX3_shift_75 : decode cX3_shift 75 = .ok (.imul, 1) := by decide +kernel
theorem dX3_shift_76 : decode cX3_shift 76 = .ok (.iadd, 1) := by decide +kernel
theorem dX3_shift_77 : decode cX3_shift 77 = .ok (.iload_n 1, 1) := by decide +kernel
theorem dX3_shift_78 : decode cX3_shift 78 = .ok (.invokestatic 93, 3) := by decide +kernel
theorem dX3_shift_81 : decode cX3_shift 81 = .ok (.invokestatic 97, 3) := by decide +kernel
theorem dX3_shift_84 : decode cX3_shift 84 = .ok (.iinc 3 (-1), 3) := by decide +kernel
theorem dX3_shift_87 : decode cX3_shift 87 = .ok (.goto (-47), 3) := by decide +kernel
theorem dX3_shift_90 : decode cX3_shift 90 = .ok (.return_, 1) := by decide +kernel
theorem dX3_seek_0 : decode cX3_seek 0 = .ok (.aload_n 0, 1) := by decide +kernel
theorem dX3_seek_1 : decode cX3_seek 1 = .ok (.getfield 41, 3) := by decide +kernel
theorem dX3_seek_4 : decode cX3_seek 4 = .ok (.ifCond .eq 4, 3) := by decide +kernel
theorem dX3_seek_7 : decode cX3_seek 7 = .ok (.return_, 1) := by decide +kernel
theorem dX3_seek_8 : decode cX3_seek 8 = .ok (.aload_n 0, 1) := by decide +kernel
theorem dX3_seek_9 : decode cX3_seek 9 = .ok (.bipush 64, 2) := by decide +kernel
theorem dX3_seek_11 : decode cX3_seek 11 = .ok (.putfield 35, 3) := by decide +kernel
theorem dX3_seek_14 : decode cX3_seek 14 = .ok (.aload_n 0, 1) := by decide +kernel
theorem dX3_seek_15 : decode cX3_seek 15 = .ok (.getfield 56, 3) := by decide +kernel
theorem dX3_seek_18 : decode cX3_seek 18 = .ok (.invokevirtual 113, 3) := by decide +kernel
theorem dX3_seek_21 : decode cX3_seek 21 = .ok (.iconst 0, 1) := by decide +kernel
theorem dX3_seek_22 : decode cX3_seek 22 = .ok (.istore_n 1, 1) := by decide +kernel
theorem dX3_seek_23 : decode cX3_seek 23 = .ok (.iload_n 1, 1) := by decide +kernel
theorem dX3_seek_24 : decode cX3_seek 24 = .ok (.aload_n 0, 1) := by decide +kernel
theorem dX3_seek_25 : decode cX3_seek 25 = .ok (.getfield 47, 3) := by decide +kernel
theorem dX3_seek_28 : decode cX3_seek 28 = .ok (.getfield 116, 3) := by decide +kernel
theorem dX3_seek_31 : decode cX3_seek 31 = .ok (.if_icmp .ge 81, 3) := by decide +kernel
theorem dX3_seek_34 : decode cX3_seek 34 = .ok (.aload_n 0, 1) := by decide +kernel
theorem dX3_seek_35 : decode cX3_seek 35 = .ok (.aload_n 0, 1) := by decide +kernel
theorem dX3_seek_36 : decode cX3_seek 36 = .ok (.getfield 56, 3) := by decide +kernel
theorem dX3_seek_39 : decode cX3_seek 39 = .ok (.getfield 119, 3) := by decide +kernel
theorem dX3_seek_42 : decode cX3_seek 42 = .ok (.invokevirtual 120, 3) := by decide +kernel
theorem dX3_seek_45 : decode cX3_seek 45 = .ok (.istore_n 2, 1) := by decide +kernel
theorem dX3_seek_46 : decode cX3_seek 46 = .ok (.iload_n 2, 1) := by decide +kernel
theorem dX3_seek_47 : decode cX3_seek 47 = .ok (.aload_n 0, 1) := by decide +kernel
theorem dX3_seek_48 : decode cX3_seek 48 = .ok (.getfield 35, 3) := by decide +kernel
theorem dX3_seek_51 : decode cX3_seek 51 = .ok (.if_icmp .lt 25, 3) := by decide +kernel
theorem dX3_seek_54 : decode cX3_seek 54 = .ok (.iload_n 2, 1) := by decide +kernel
theorem dX3_seek_55 : decode cX3_seek 55 = .ok (.aload_n 0, 1) := by decide +kernel
theorem dX3_seek_56 : decode cX3_seek 56 = .ok (.getfield 35, 3) := by decide +kernel
theorem dX3_seek_59 : decode cX3_seek 59 = .ok (.if_icmp .ne 40, 3) := by decide +kernel
theorem dX3_seek_62 : decode cX3_seek 62 = .ok (.aload_n 0, 1) := by decide +kernel
theorem dX3_seek_63 : decode cX3_seek 63 = .ok (.aload_n 0, 1) := by decide +kernel
theorem dX3_seek_64 : decode cX3_seek 64 = .ok (.getfield 56, 3) := by decide +kernel
theorem dX3_seek_67 : decode cX3_seek 67 = .ok (.getfield 119, 3) := by decide +kernel
theorem dX3_seek_70 : decode cX3_seek 70 = .ok (.invokevirtual 124, 3) := by decide +kernel
theorem dX3_seek_73 : decode cX3_seek 73 = .ok (.ifCond .eq 26, 3) := by decide +kernel
theorem dX3_seek_76 : decode cX3_seek 76 = .ok (.aload_n 0, 1) := by decide +kernel
theorem dX3_seek_77 : decode cX3_seek 77 = .ok (.iload_n 2, 1) := by decide +kernel
theorem dX3_seek_78 : decode cX3_seek 78 = .ok (.putfield 35, 3) := by decide +kernel
theorem dX3_seek_81 : decode cX3_seek 81 = .ok (.aload_n 0, 1) := by decide +kernel
theorem dX3_seek_82 : decode cX3_seek 82 = .ok (.getfield 56, 3) := by decide +kernel
theorem dX3_seek_85 : decode cX3_seek 85 = .ok (.getfield 119, 3) := by decide +kernel
theorem dX3_seek_88 : decode cX3_seek 88 = .ok (.iconst 0, 1) := by decide +kernel
theorem dX3_seek_89 : decode cX3_seek 89 = .ok (.aload_n 0, 1) := by decide +kernel
theorem dX3_seek_90 : decode cX3_seek 90 = .ok (.getfield 38, 3) := by decide +kernel
theorem dX3_seek_93 : decode cX3_seek 93 = .ok (.iconst 0, 1) := by decide +kernel
theorem dX3_seek_94 : decode cX3_seek 94 = .ok (.bipush 63, 2) := by decide +kernel
theorem dX3_seek_96 : decode cX3_seek 96 = .ok (.invokestatic 128, 3) := by decide +kernel
theorem dX3_seek_99 : decode cX3_seek 99 = .ok (.aload_n 0, 1) := by decide +kernel
theorem dX3_seek_100 : decode cX3_seek 100 = .ok (.getfield 56, 3) := by decide +kernel
theorem dX3_seek_103 : decode cX3_seek 103 = .ok (.invokevirtual 134, 3) := by decide +kernel
theorem dX3_seek_106 : decode cX3_seek 106 = .ok (.iinc 1 1, 3) := by decide +kernel
theorem dX3_seek_109 : decode cX3_seek 109 = .ok (.goto (-86), 3) := by decide +kernel
theorem dX3_seek_112 : decode cX3_seek 112 = .ok (.aload_n 0, 1) := by decide +kernel
theorem dX3_seek_113 : decode cX3_seek 113 = .ok (.iconst 1, 1) := by decide +kernel
theorem dX3_seek_114 : decode cX3_seek 114 = .ok (.putfield 41, 3) := by decide +kernel
theorem dX3_seek_117 : decode cX3_seek 117 = .ok (.return_, 1) := by decide +kernel
theorem dX3_placesOff_0 : decode cX3_placesOff 0 = .ok (.iconst 0, 1) := by decide +kernel
theorem dX3_placesOff_1 : decode cX3_placesOff 1 = .ok (.istore_n 2, 1) := by decide +kernel
theorem dX3_placesOff_2 : decode cX3_placesOff 2 = .ok (.iconst 0, 1) := by decide +kernel
theorem dX3_placesOff_3 : decode cX3_placesOff 3 = .ok (.istore_n 3, 1) := by decide +kernel
theorem dX3_placesOff_4 : decode cX3_placesOff 4 = .ok (.iload_n 3, 1) := by decide +kernel
theorem dX3_placesOff_5 : decode cX3_placesOff 5 = .ok (.bipush 63, 2) := by decide +kernel
theorem dX3_placesOff_7 : decode cX3_placesOff 7 = .ok (.if_icmp .ge 35, 3) := by decide +kernel
theorem dX3_placesOff_10 : decode cX3_placesOff 10 = .ok (.iload_n 3, 1) := by decide +kernel
theorem dX3_placesOff_11 : decode cX3_placesOff 11 = .ok (.aload_n 1, 1) := by decide +kernel
theorem dX3_placesOff_12 : decode cX3_placesOff 12 = .ok (.arraylength, 1) := by decide +kernel
theorem dX3_placesOff_13 : decode cX3_placesOff 13 = .ok (.if_icmp .ge 29, 3) := by decide +kernel
theorem dX3_placesOff_16 : decode cX3_placesOff 16 = .ok (.iload_n 2, 1) := by decide +kernel
theorem dX3_placesOff_17 : decode cX3_placesOff 17 = .ok (.aload_n 1, 1) := by decide +kernel
theorem dX3_placesOff_18 : decode cX3_placesOff 18 = .ok (.iload_n 3, 1) := by decide +kernel
theorem dX3_placesOff_19 : decode cX3_placesOff 19 = .ok (.iaload, 1) := by decide +kernel
theorem dX3_placesOff_20 : decode cX3_placesOff 20 = .ok (.aload_n 0, 1) := by decide +kernel
theorem dX3_placesOff_21 : decode cX3_placesOff 21 = .ok (.getfield 18, 3) := by decide +kernel
theorem dX3_placesOff_24 : decode cX3_placesOff 24 = .ok (.iload_n 3, 1) := by decide +kernel
theorem dX3_placesOff_25 : decode cX3_placesOff 25 = .ok (.iaload, 1) := by decide +kernel
theorem dX3_placesOff_26 : decode cX3_placesOff 26 = .ok (.if_icmp .ne 7, 3) := by decide +kernel
theorem dX3_placesOff_29 : decode cX3_placesOff 29 = .ok (.iconst 0, 1) := by decide +kernel
theorem dX3_placesOff_30 : decode cX3_placesOff 30 = .ok (.goto 4, 3) := by decide +kernel
theorem dX3_placesOff_33 : decode cX3_placesOff 33 = .ok (.iconst 1, 1) := by decide +kernel
theorem dX3_placesOff_34 : decode cX3_placesOff 34 = .ok (.iadd, 1) := by decide +kernel
theorem dX3_placesOff_35 : decode cX3_placesOff 35 = .ok (.istore_n 2, 1) := by decide +kernel
theorem dX3_placesOff_36 : decode cX3_placesOff 36 = .ok (.iinc 3 1, 3) := by decide +kernel
theorem dX3_placesOff_39 : decode cX3_placesOff 39 = .ok (.goto (-35), 3) := by decide +kernel
theorem dX3_placesOff_42 : decode cX3_placesOff 42 = .ok (.iload_n 2, 1) := by decide +kernel
theorem dX3_placesOff_43 : decode cX3_placesOff 43 = .ok (.ireturn, 1) := by decide +kernel
theorem dX3_isAhead_0 : decode cX3_isAhead 0 = .ok (.iconst 0, 1) := by decide +kernel
theorem dX3_isAhead_1 : decode cX3_isAhead 1 = .ok (.istore_n 2, 1) := by decide +kernel
theorem dX3_isAhead_2 : decode cX3_isAhead 2 = .ok (.iload_n 2, 1) := by decide +kernel
theorem dX3_isAhead_3 : decode cX3_isAhead 3 = .ok (.bipush 63, 2) := by decide +kernel
theorem dX3_isAhead_5 : decode cX3_isAhead 5 = .ok (.if_icmp .ge 45, 3) := by decide +kernel
theorem dX3_isAhead_8 : decode cX3_isAhead 8 = .ok (.iload_n 2, 1) := by decide +kernel
theorem dX3_isAhead_9 : decode cX3_isAhead 9 = .ok (.aload_n 1, 1) := by decide +kernel
theorem dX3_isAhead_10 : decode cX3_isAhead 10 = .ok (.arraylength, 1) := by decide +kernel
theorem dX3_isAhead_11 : decode cX3_isAhead 11 = .ok (.if_icmp .ge 39, 3) := by decide +kernel
theorem dX3_isAhead_14 : decode cX3_isAhead 14 = .ok (.aload_n 1, 1) := by decide +kernel
theorem dX3_isAhead_15 : decode cX3_isAhead 15 = .ok (.iload_n 2, 1) := by decide +kernel
theorem dX3_isAhead_16 : decode cX3_isAhead 16 = .ok (.iaload, 1) := by decide +kernel
theorem dX3_isAhead_17 : decode cX3_isAhead 17 = .ok (.aload_n 0, 1) := by decide +kernel
theorem dX3_isAhead_18 : decode cX3_isAhead 18 = .ok (.getfield 38, 3) := by decide +kernel
theorem dX3_isAhead_21 : decode cX3_isAhead 21 = .ok (.iload_n 2, 1) := by decide +kernel
theorem dX3_isAhead_22 : decode cX3_isAhead 22 = .ok (.iaload, 1) := by decide +kernel
theorem dX3_isAhead_23 : decode cX3_isAhead 23 = .ok (.if_icmp .eq 21, 3) := by decide +kernel
theorem dX3_isAhead_26 : decode cX3_isAhead 26 = .ok (.aload_n 1, 1) := by decide +kernel
theorem dX3_isAhead_27 : decode cX3_isAhead 27 = .ok (.iload_n 2, 1) := by decide +kernel
theorem dX3_isAhead_28 : decode cX3_isAhead 28 = .ok (.iaload, 1) := by decide +kernel
theorem dX3_isAhead_29 : decode cX3_isAhead 29 = .ok (.aload_n 0, 1) := by decide +kernel
theorem dX3_isAhead_30 : decode cX3_isAhead 30 = .ok (.getfield 38, 3) := by decide +kernel
theorem dX3_isAhead_33 : decode cX3_isAhead 33 = .ok (.iload_n 2, 1) := by decide +kernel
theorem dX3_isAhead_34 : decode cX3_isAhead 34 = .ok (.iaload, 1) := by decide +kernel
theorem dX3_isAhead_35 : decode cX3_isAhead 35 = .ok (.if_icmp .ge 7, 3) := by decide +kernel
theorem dX3_isAhead_38 : decode cX3_isAhead 38 = .ok (.iconst 1, 1) := by decide +kernel
theorem dX3_isAhead_39 : decode cX3_isAhead 39 = .ok (.goto 4, 3) := by decide +kernel
theorem dX3_isAhead_42 : decode cX3_isAhead 42 = .ok (.iconst 0, 1) := by decide +kernel
theorem dX3_isAhead_43 : decode cX3_isAhead 43 = .ok (.ireturn, 1) := by decide +kernel
theorem dX3_isAhead_44 : decode cX3_isAhead 44 = .ok (.iinc 2 1, 3) := by decide +kernel
theorem dX3_isAhead_47 : decode cX3_isAhead 47 = .ok (.goto (-45), 3) := by decide +kernel
theorem dX3_isAhead_50 : decode cX3_isAhead 50 = .ok (.iconst 0, 1) := by decide +kernel
theorem dX3_isAhead_51 : decode cX3_isAhead 51 = .ok (.ireturn, 1) := by decide +kernel
theorem dX4_init_0 : decode cX4_init 0 = .ok (.aload_n 0, 1) := by decide +kernel
theorem dX4_init_1 : decode cX4_init 1 = .ok (.invokespecial 3, 3) := by decide +kernel
theorem dX4_init_4 : decode cX4_init 4 = .ok (.aload_n 0, 1) := by decide +kernel
theorem dX4_init_5 : decode cX4_init 5 = .ok (.iconst 1, 1) := by decide +kernel
theorem dX4_init_6 : decode cX4_init 6 = .ok (.putfield 9, 3) := by decide +kernel
theorem dX4_init_9 : decode cX4_init 9 = .ok (.aload_n 0, 1) := by decide +kernel
theorem dX4_init_10 : decode cX4_init 10 = .ok (.iconst 1, 1) := by decide +kernel
theorem dX4_init_11 : decode cX4_init 11 = .ok (.putfield 15, 3) := by decide +kernel
theorem dX4_init_14 : decode cX4_init 14 = .ok (.aload_n 0, 1) := by decide +kernel
theorem dX4_init_15 : decode cX4_init 15 = .ok (.bipush 63, 2) := by decide +kernel
theorem dX4_init_17 : decode cX4_init 17 = .ok (.newarray .int, 2) := by decide +kernel
theorem dX4_init_19 : decode cX4_init 19 = .ok (.putfield 18, 3) := by decide +kernel
theorem dX4_init_22 : decode cX4_init 22 = .ok (.return_, 1) := by decide +kernel
theorem dX4_become_0 : decode cX4_become 0 = .ok (.aload_n 0, 1) := by decide +kernel
theorem dX4_become_1 : decode cX4_become 1 = .ok (.iload_n 1, 1) := by decide +kernel
theorem dX4_become_2 : decode cX4_become 2 = .ok (.putfield 9, 3) := by decide +kernel
theorem dX4_become_5 : decode cX4_become 5 = .ok (.aload_n 0, 1) := by decide +kernel
theorem dX4_become_6 : decode cX4_become 6 = .ok (.iconst 0, 1) := by decide +kernel
theorem dX4_become_7 : decode cX4_become 7 = .ok (.putfield 15, 3) := by decide +kernel
theorem dX4_become_10 : decode cX4_become 10 = .ok (.aload_n 0, 1) := by decide +kernel
theorem dX4_become_11 : decode cX4_become 11 = .ok (.getfield 18, 3) := by decide +kernel
theorem dX4_become_14 : decode cX4_become 14 = .ok (.iconst (-1), 1) := by decide +kernel
theorem dX4_become_15 : decode cX4_become 15 = .ok (.invokestatic 22, 3) := by decide +kernel
theorem dX4_become_18 : decode cX4_become 18 = .ok (.iconst 0, 1) := by decide +kernel
theorem dX4_become_19 : decode cX4_become 19 = .ok (.istore_n 3, 1) := by decide +kernel
theorem dX4_become_20 : decode cX4_become 20 = .ok (.iload_n 3, 1) := by decide +kernel
theorem dX4_become_21 : decode cX4_become 21 = .ok (.aload_n 0, 1) := by decide +kernel
theorem dX4_become_22 : decode cX4_become 22 = .ok (.getfield 9, 3) := by decide +kernel
theorem dX4_become_25 : decode cX4_become 25 = .ok (.if_icmp .ge 34, 3) := by decide +kernel
theorem dX4_become_28 : decode cX4_become 28 = .ok (.aload_n 0, 1) := by decide +kernel
theorem dX4_become_29 : decode cX4_become 29 = .ok (.iload_n 3, 1) := by decide +kernel
theorem dX4_become_30 : decode cX4_become 30 = .ok (.invokevirtual 28, 3) := by decide +kernel
theorem dX4_become_33 : decode cX4_become 33 = .ok (.iconst (-1), 1) := by decide +kernel
theorem dX4_become_34 : decode cX4_become 34 = .ok (.if_icmp .ne 19, 3) := by decide +kernel
theorem dX4_become_37 : decode cX4_become 37 = .ok (.aload_n 0, 1) := by decide +kernel
theorem dX4_become_38 : decode cX4_become 38 = .ok (.iload_n 3, 1) := by decide +kernel
theorem dX4_become_39 : decode cX4_become 39 = .ok (.iload_n 2, 1) := by decide +kernel
theorem dX4_become_40 : decode cX4_become 40 = .ok (.invokevirtual 32, 3) := by decide +kernel
theorem dX4_become_43 : decode cX4_become 43 = .ok (.aload_n 0, 1) := by decide +kernel
theorem dX4_become_44 : decode cX4_become 44 = .ok (.dup, 1) := by decide +kernel
theorem dX4_become_45 : decode cX4_become 45 = .ok (.getfield 15, 3) := by decide +kernel
theorem dX4_become_48 : decode cX4_become 48 = .ok (.iconst 1, 1) := by decide +kernel
theorem dX4_become_49 : decode cX4_become 49 = .ok (.iadd, 1) := by decide +kernel
theorem dX4_become_50 : decode cX4_become 50 = .ok (.putfield 15, 3) := by decide +kernel
theorem dX4_become_53 : decode cX4_become 53 = .ok (.iinc 3 1, 3) := by decide +kernel
theorem dX4_become_56 : decode cX4_become 56 = .ok (.goto (-36), 3) := by decide +kernel
theorem dX4_become_59 : decode cX4_become 59 = .ok (.return_, 1) := by decide +kernel
theorem dX4_join_0 : decode cX4_join 0 = .ok (.iload_n 1, 1) := by decide +kernel
theorem dX4_join_1 : decode cX4_join 1 = .ok (.istore_n 3, 1) := by decide +kernel
theorem dX4_join_2 : decode cX4_join 2 = .ok (.iconst 0, 1) := by decide +kernel
theorem dX4_join_3 : decode cX4_join 3 = .ok (.istore 4, 2) := by decide +kernel
theorem dX4_join_5 : decode cX4_join 5 = .ok (.iload 4, 2) := by decide +kernel
theorem dX4_join_7 : decode cX4_join 7 = .ok (.aload_n 0, 1) := by decide +kernel
theorem dX4_join_8 : decode cX4_join 8 = .ok (.getfield 9, 3) := by decide +kernel
theorem dX4_join_11 : decode cX4_join 11 = .ok (.if_icmp .ge 32, 3) := by decide +kernel
theorem dX4_join_14 : decode cX4_join 14 = .ok (.aload_n 0, 1) := by decide +kernel
theorem dX4_join_15 : decode cX4_join 15 = .ok (.getfield 18, 3) := by decide +kernel
theorem dX4_join_18 : decode cX4_join 18 = .ok (.iload_n 3, 1) := by decide +kernel
theorem dX4_join_19 : decode cX4_join 19 = .ok (.aload_n 0, 1) := by decide +kernel
theorem dX4_join_20 : decode cX4_join 20 = .ok (.getfield 15, 3) := by decide +kernel
theorem dX4_join_23 : decode cX4_join 23 = .ok (.invokestatic 36, 3) := by decide +kernel
theorem dX4_join_26 : decode cX4_join 26 = .ok (.iload_n 3, 1) := by decide +kernel
theorem dX4_join_27 : decode cX4_join 27 = .ok (.iload_n 2, 1) := by decide +kernel
theorem dX4_join_28 : decode cX4_join 28 = .ok (.imul, 1) := by decide +kernel
theorem dX4_join_29 : decode cX4_join 29 = .ok (.aload_n 0, 1) := by decide +kernel
theorem dX4_join_30 : decode cX4_join 30 = .ok (.getfield 9, 3) := by decide +kernel
theorem dX4_join_33 : decode cX4_join 33 = .ok (.invokestatic 42, 3) := by decide +kernel
theorem dX4_join_36 : decode cX4_join 36 = .ok (.istore_n 3, 1) := by decide +kernel
theorem dX4_join_37 : decode cX4_join 37 = .ok (.iinc 4 1, 3) := by decide +kernel
theorem dX4_join_40 : decode cX4_join 40 = .ok (.goto (-35), 3) := by decide +kernel
theorem dX4_join_43 : decode cX4_join 43 = .ok (.return_, 1) := by decide +kernel
theorem dX4_part_0 : decode cX4_part 0 = .ok (.aload_n 0, 1) := by decide +kernel
theorem dX4_part_1 : decode cX4_part 1 = .ok (.getfield 18, 3) := by decide +kernel
theorem dX4_part_4 : decode cX4_part 4 = .ok (.iload_n 1, 1) := by decide +kernel
theorem dX4_part_5 : decode cX4_part 5 = .ok (.invokestatic 46, 3) := by decide +kernel
theorem dX4_part_8 : decode cX4_part 8 = .ok (.ireturn, 1) := by decide +kernel
theorem dX4_sizeOf_0 : decode cX4_sizeOf 0 = .ok (.iconst 0, 1) := by decide +kernel
theorem dX4_sizeOf_1 : decode cX4_sizeOf 1 = .ok (.istore_n 2, 1) := by decide +kernel
theorem dX4_sizeOf_2 : decode cX4_sizeOf 2 = .ok (.iconst 0, 1) := by decide +kernel
theorem dX4_sizeOf_3 : decode cX4_sizeOf 3 = .ok (.istore_n 3, 1) := by decide +kernel
theorem dX4_sizeOf_4 : decode cX4_sizeOf 4 = .ok (.iload_n 3, 1) := by decide +kernel
theorem dX4_sizeOf_5 : decode cX4_sizeOf 5 = .ok (.aload_n 0, 1) := by decide +kernel
theorem dX4_sizeOf_6 : decode cX4_sizeOf 6 = .ok (.getfield 9, 3) := by decide +kernel
theorem dX4_sizeOf_9 : decode cX4_sizeOf 9 = .ok (.if_icmp .ge 26, 3) := by decide +kernel
theorem dX4_sizeOf_12 : decode cX4_sizeOf 12 = .ok (.iload_n 2, 1) := by decide +kernel
theorem dX4_sizeOf_13 : decode cX4_sizeOf 13 = .ok (.aload_n 0, 1) := by decide +kernel
theorem dX4_sizeOf_14 : decode cX4_sizeOf 14 = .ok (.iload_n 3, 1) := by decide +kernel
theorem dX4_sizeOf_15 : decode cX4_sizeOf 15 = .ok (.invokevirtual 28, 3) := by decide +kernel
theorem dX4_sizeOf_18 : decode cX4_sizeOf 18 = .ok (.iload_n 1, 1) := by decide +kernel
theorem dX4_sizeOf_19 : decode cX4_sizeOf 19 = .ok (.if_icmp .ne 7, 3) := by decide +kernel
theorem dX4_sizeOf_22 : decode cX4_sizeOf 22 = .ok (.iconst 1, 1) := by decide +kernel
theorem dX4_sizeOf_23 : decode cX4_sizeOf 23 = .ok (.goto 4, 3) := by decide +kernel
theorem dX4_sizeOf_26 : decode cX4_sizeOf 26 = .ok (.iconst 0, 1) := by decide +kernel
theorem dX4_sizeOf_27 : decode cX4_sizeOf 27 = .ok (.iadd, 1) := by decide +kernel
theorem dX4_sizeOf_28 : decode cX4_sizeOf 28 = .ok (.istore_n 2, 1) := by decide +kernel
theorem dX4_sizeOf_29 : decode cX4_sizeOf 29 = .ok (.iinc 3 1, 3) := by decide +kernel
theorem dX4_sizeOf_32 : decode cX4_sizeOf 32 = .ok (.goto (-28), 3) := by decide +kernel
theorem dX4_sizeOf_35 : decode cX4_sizeOf 35 = .ok (.iload_n 2, 1) := by decide +kernel
theorem dX4_sizeOf_36 : decode cX4_sizeOf 36 = .ok (.ireturn, 1) := by decide +kernel
theorem dX4_member_0 : decode cX4_member 0 = .ok (.iconst 0, 1) := by decide +kernel
theorem dX4_member_1 : decode cX4_member 1 = .ok (.istore_n 3, 1) := by decide +kernel
theorem dX4_member_2 : decode cX4_member 2 = .ok (.iconst 0, 1) := by decide +kernel
theorem dX4_member_3 : decode cX4_member 3 = .ok (.istore 4, 2) := by decide +kernel
theorem dX4_member_5 : decode cX4_member 5 = .ok (.iload 4, 2) := by decide +kernel
theorem dX4_member_7 : decode cX4_member 7 = .ok (.aload_n 0, 1) := by decide +kernel
theorem dX4_member_8 : decode cX4_member 8 = .ok (.getfield 9, 3) := by decide +kernel
theorem dX4_member_11 : decode cX4_member 11 = .ok (.if_icmp .ge 30, 3) := by decide +kernel
theorem dX4_member_14 : decode cX4_member 14 = .ok (.aload_n 0, 1) := by decide +kernel
theorem dX4_member_15 : decode cX4_member 15 = .ok (.iload 4, 2) := by decide +kernel
theorem dX4_member_17 : decode cX4_member 17 = .ok (.invokevirtual 28, 3) := by decide +kernel
theorem dX4_member_20 : decode cX4_member 20 = .ok (.iload_n 1, 1) := by decide +kernel
theorem dX4_member_21 : decode cX4_member 21 = .ok (.if_icmp .ne 14, 3) := by decide +kernel
theorem dX4_member_24 : decode cX4_member 24 = .ok (.iload_n 3, 1) := by decide +kernel
theorem dX4_member_25 : decode cX4_member 25 = .ok (.iload_n 2, 1) := by decide +kernel
theorem dX4_member_26 : decode cX4_member 26 = .ok (.if_icmp .ne 6, 3) := by decide +kernel
theorem dX4_member_29 : decode cX4_member 29 = .ok (.iload 4, 2) := by decide +kernel
theorem dX4_member_31 : decode cX4_member 31 = .ok (.ireturn, 1) := by decide +kernel
theorem dX4_member_32 : decode cX4_member 32 = .ok (.iinc 3 1, 3) := by decide +kernel
theorem dX4_member_35 : decode cX4_member 35 = .ok (.iinc 4 1, 3) := by decide +kernel
theorem dX4_member_38 : decode cX4_member 38 = .ok (.goto (-33), 3) := by decide +kernel
theorem dX4_member_41 : decode cX4_member 41 = .ok (.iconst (-1), 1) := by decide +kernel
theorem dX4_member_42 : decode cX4_member 42 = .ok (.ireturn, 1) := by decide +kernel
theorem dX5_init_0 : decode cX5_init 0 = .ok (.aload_n 0, 1) := by decide +kernel
theorem dX5_init_1 : decode cX5_init 1 = .ok (.invokespecial 3, 3) := by decide +kernel
theorem dX5_init_4 : decode cX5_init 4 = .ok (.aload_n 0, 1) := by decide +kernel
theorem dX5_init_5 : decode cX5_init 5 = .ok (.iconst 0, 1) := by decide +kernel
theorem dX5_init_6 : decode cX5_init 6 = .ok (.putfield 9, 3) := by decide +kernel
theorem dX5_init_9 : decode cX5_init 9 = .ok (.aload_n 0, 1) := by decide +kernel
theorem dX5_init_10 : decode cX5_init 10 = .ok (.iconst (-1), 1) := by decide +kernel
theorem dX5_init_11 : decode cX5_init 11 = .ok (.putfield 15, 3) := by decide +kernel
theorem dX5_init_14 : decode cX5_init 14 = .ok (.aload_n 0, 1) := by decide +kernel
theorem dX5_init_15 : decode cX5_init 15 = .ok (.iconst 0, 1) := by decide +kernel
theorem dX5_init_16 : decode cX5_init 16 = .ok (.putfield 18, 3) := by decide +kernel
theorem dX5_init_19 : decode cX5_init 19 = .ok (.aload_n 0, 1) := by decide +kernel
theorem dX5_init_20 : decode cX5_init 20 = .ok (.iconst 0, 1) := by decide +kernel
theorem dX5_init_21 : decode cX5_init 21 = .ok (.putfield 22, 3) := by decide +kernel
theorem dX5_init_24 : decode cX5_init 24 = .ok (.aload_n 0, 1) := by decide +kernel
theorem dX5_init_25 : decode cX5_init 25 = .ok (.sipush 257, 3) := by decide +kernel
theorem dX5_init_28 : decode cX5_init 28 = .ok (.putfield 25, 3) := by decide +kernel
theorem dX5_init_31 : decode cX5_init 31 = .ok (.aload_n 0, 1) := by decide +kernel
theorem dX5_init_32 : decode cX5_init 32 = .ok (.iconst 0, 1) := by decide +kernel
theorem dX5_init_33 : decode cX5_init 33 = .ok (.putfield 28, 3) := by decide +kernel
theorem dX5_init_36 : decode cX5_init 36 = .ok (.aload_n 0, 1) := by decide +kernel
theorem dX5_init_37 : decode cX5_init 37 = .ok (.iconst 0, 1) := by decide +kernel
theorem dX5_init_38 : decode cX5_init 38 = .ok (.putfield 31, 3) := by decide +kernel
theorem dX5_init_41 : decode cX5_init 41 = .ok (.aload_n 0, 1) := by decide +kernel
theorem dX5_init_42 : decode cX5_init 42 = .ok (.iconst 0, 1) := by decide +kernel
theorem dX5_init_43 : decode cX5_init 43 = .ok (.putfield 34, 3) := by decide +kernel
theorem dX5_init_46 : decode cX5_init 46 = .ok (.aload_n 0, 1) := by decide +kernel
theorem dX5_init_47 : decode cX5_init 47 = .ok (.aload_n 1, 1) := by decide +kernel
theorem dX5_init_48 : decode cX5_init 48 = .ok (.putfield 37, 3) := by decide +kernel
theorem dX5_init_51 : decode cX5_init 51 = .ok (.aload_n 0, 1) := by decide +kernel
theorem dX5_init_52 : decode cX5_init 52 = .ok (.aload_n 2, 1) := by decide +kernel
theorem dX5_init_53 : decode cX5_init 53 = .ok (.putfield 41, 3) := by decide +kernel
theorem dX5_init_56 : decode cX5_init 56 = .ok (.aload_n 0, 1) := by decide +kernel
theorem dX5_init_57 : decode cX5_init 57 = .ok (.aload_n 3, 1) := by decide +kernel
theorem dX5_init_58 : decode cX5_init 58 = .ok (.putfield 45, 3) := by decide +kernel
theorem dX5_init_61 : decode cX5_init 61 = .ok (.return_, 1) := by decide +kernel
theorem dX5_read_0 : decode cX5_read 0 = .ok (.aload_n 0, 1) := by decide +kernel
theorem dX5_read_1 : decode cX5_read 1 = .ok (.iconst 0, 1) := by decide +kernel
theorem dX5_read_2 : decode cX5_read 2 = .ok (.putfield 9, 3) := by decide +kernel
theorem dX5_read_5 : decode cX5_read 5 = .ok (.aload_n 0, 1) := by decide +kernel
theorem dX5_read_6 : decode cX5_read 6 = .ok (.iconst (-1), 1) := by decide +kernel
theorem dX5_read_7 : decode cX5_read 7 = .ok (.putfield 15, 3) := by decide +kernel
theorem dX5_read_10 : decode cX5_read 10 = .ok (.aload_n 0, 1) := by decide +kernel
theorem dX5_read_11 : decode cX5_read 11 = .ok (.iconst 0, 1) := by decide +kernel
theorem dX5_read_12 : decode cX5_read 12 = .ok (.putfield 18, 3) := by decide +kernel
theorem dX5_read_15 : decode cX5_read 15 = .ok (.aload_n 0, 1) := by decide +kernel
theorem dX5_read_16 : decode cX5_read 16 = .ok (.iload_n 1, 1) := by decide +kernel
theorem dX5_read_17 : decode cX5_read 17 = .ok (.putfield 22, 3) := by decide +kernel
theorem dX5_read_20 : decode cX5_read 20 = .ok (.aload_n 0, 1) := by decide +kernel
theorem dX5_read_21 : decode cX5_read 21 = .ok (.iconst 0, 1) := by decide +kernel
theorem dX5_read_22 : decode cX5_read 22 = .ok (.putfield 34, 3) := by decide +kernel
theorem dX5_read_25 : decode cX5_read 25 = .ok (.aload_n 0, 1) := by decide +kernel
theorem dX5_read_26 : decode cX5_read 26 = .ok (.invokevirtual 49, 3) := by decide +kernel
theorem dX5_read_29 : decode cX5_read 29 = .ok (.aload_n 0, 1) := by decide +kernel
theorem dX5_read_30 : decode cX5_read 30 = .ok (.iconst 0, 1) := by decide +kernel
theorem dX5_read_31 : decode cX5_read 31 = .ok (.invokevirtual 52, 3) := by decide +kernel
theorem dX5_read_34 : decode cX5_read 34 = .ok (.istore_n 2, 1) := by decide +kernel
theorem dX5_read_35 : decode cX5_read 35 = .ok (.aload_n 0, 1) := by decide +kernel
theorem dX5_read_36 : decode cX5_read 36 = .ok (.getfield 25, 3) := by decide +kernel
theorem dX5_read_39 : decode cX5_read 39 = .ok (.sipush 257, 3) := by decide +kernel
theorem dX5_read_42 : decode cX5_read 42 = .ok (.if_icmp .eq 8, 3) := by decide +kernel
theorem dX5_read_45 : decode cX5_read 45 = .ok (.aload_n 0, 1) := by decide +kernel
theorem dX5_read_46 : decode cX5_read 46 = .ok (.iconst 1, 1) := by decide +kernel
theorem dX5_read_47 : decode cX5_read 47 = .ok (.invokevirtual 56, 3) := by decide +kernel
theorem dX5_read_50 : decode cX5_read 50 = .ok (.iload_n 2, 1) := by decide +kernel
theorem dX5_read_51 : decode cX5_read 51 = .ok (.ireturn, 1) := by decide +kernel
theorem dX5_fail_0 : decode cX5_fail 0 = .ok (.aload_n 0, 1) := by decide +kernel
theorem dX5_fail_1 : decode cX5_fail 1 = .ok (.getfield 9, 3) := by decide +kernel
theorem dX5_fail_4 : decode cX5_fail 4 = .ok (.ifCond .ne 16, 3) := by decide +kernel
theorem dX5_fail_7 : decode cX5_fail 7 = .ok (.aload_n 0, 1) := by decide +kernel
theorem dX5_fail_8 : decode cX5_fail 8 = .ok (.iload_n 1, 1) := by decide +kernel
theorem dX5_fail_9 : decode cX5_fail 9 = .ok (.putfield 9, 3) := by decide +kernel
theorem dX5_fail_12 : decode cX5_fail 12 = .ok (.aload_n 0, 1) := by decide +kernel
theorem dX5_fail_13 : decode cX5_fail 13 = .ok (.aload_n 0, 1) := by decide +kernel
theorem dX5_fail_14 : decode cX5_fail 14 = .ok (.getfield 28, 3) := by decide +kernel
theorem dX5_fail_17 : decode cX5_fail 17 = .ok (.putfield 15, 3) := by decide +kernel
theorem dX5_fail_20 : decode cX5_fail 20 = .ok (.return_, 1) := by decide +kernel
theorem dX5_byteAt_0 : decode cX5_byteAt 0 = .ok (.iload_n 1, 1) := by decide +kernel
theorem dX5_byteAt_1 : decode cX5_byteAt 1 = .ok (.aload_n 0, 1) := by decide +kernel
theorem dX5_byteAt_2 : decode cX5_byteAt 2 = .ok (.getfield 22, 3) := by decide +kernel
theorem dX5_byteAt_5 : decode cX5_byteAt 5 = .ok (.if_icmp .ge 17, 3) := by decide +kernel
theorem dX5_byteAt_8 : decode cX5_byteAt 8 = .ok (.aload_n 0, 1) := by decide +kernel
theorem dX5_byteAt_9 : decode cX5_byteAt 9 = .ok (.getfield 45, 3) := by decide +kernel
theorem dX5_byteAt_12 : decode cX5_byteAt 12 = .ok (.getfield 60, 3) := by decide +kernel
theorem dX5_byteAt_15 : decode cX5_byteAt 15 = .ok (.iload_n 1, 1) := by decide +kernel
theorem dX5_byteAt_16 : decode cX5_byteAt 16 = .ok (.invokestatic 65, 3) := by decide +kernel
theorem dX5_byteAt_19 : decode cX5_byteAt 19 = .ok (.goto 6, 3) := by decide +kernel
theorem dX5_byteAt_22 : decode cX5_byteAt 22 = .ok (.sipush 257, 3) := by decide +kernel
theorem dX5_byteAt_25 : decode cX5_byteAt 25 = .ok (.ireturn, 1) := by decide +kernel
theorem dX5_next_0 : decode cX5_next 0 = .ok (.aload_n 0, 1) := by decide +kernel
theorem dX5_next_1 : decode cX5_next 1 = .ok (.aload_n 0, 1) := by decide +kernel
theorem dX5_next_2 : decode cX5_next 2 = .ok (.getfield 34, 3) := by decide +kernel
theorem dX5_next_5 : decode cX5_next 5 = .ok (.putfield 28, 3) := by decide +kernel
theorem dX5_next_8 : decode cX5_next 8 = .ok (.aload_n 0, 1) := by decide +kernel
theorem dX5_next_9 : decode cX5_next 9 = .ok (.getfield 28, 3) := by decide +kernel
theorem dX5_next_12 : decode cX5_next 12 = .ok (.aload_n 0, 1) := by decide +kernel
theorem dX5_next_13 : decode cX5_next 13 = .ok (.getfield 22, 3) := by decide +kernel
theorem dX5_next_16 : decode cX5_next 16 = .ok (.if_icmp .ge 42, 3) := by decide +kernel
theorem dX5_next_19 : decode cX5_next 19 = .ok (.aload_n 0, 1) := by decide +kernel
theorem dX5_next_20 : decode cX5_next 20 = .ok (.aload_n 0, 1) := by decide +kernel
theorem dX5_next_21 : decode cX5_next 21 = .ok (.getfield 28, 3) := by decide +kernel
theorem dX5_next_24 : decode cX5_next 24 = .ok (.invokevirtual 71, 3) := by decide +kernel
theorem dX5_next_27 : decode cX5_next 27 = .ok (.bipush 32, 2) := by decide +kernel
theorem dX5_next_29 : decode cX5_next 29 = .ok (.if_icmp .eq 16, 3) := by decide +kernel
theorem dX5_next_32 : decode cX5_next 32 = .ok (.aload_n 0, 1) := by decide +kernel
theorem dX5_next_33 : decode cX5_next 33 = .ok (.aload_n 0, 1) := by decide +kernel
theorem dX5_next_34 : decode cX5_next 34 = .ok (.getfield 28, 3) := by decide +kernel
theorem dX5_next_37 : decode cX5_next 37 = .ok (.invokevirtual 71, 3) := by decide +kernel
theorem dX5_next_40 : decode cX5_next 40 = .ok (.bipush 10, 2) := by decide +kernel
theorem dX5_next_42 : decode cX5_next 42 = .ok (.if_icmp .ne 16, 3) := by decide +kernel
theorem dX5_next_45 : decode cX5_next 45 = .ok (.aload_n 0, 1) := by decide +kernel
theorem dX5_next_46 : decode cX5_next 46 = .ok (.dup, 1) := by decide +kernel
theorem dX5_next_47 : decode cX5_next 47 = .ok (.getfield 28, 3) := by decide +kernel
theorem dX5_next_50 : decode cX5_next 50 = .ok (.iconst 1, 1) := by decide +kernel
theorem dX5_next_51 : decode cX5_next 51 = .ok (.iadd, 1) := by decide +kernel
theorem dX5_next_52 : decode cX5_next 52 = .ok (.putfield 28, 3) := by decide +kernel
theorem dX5_next_55 : decode cX5_next 55 = .ok (.goto (-47), 3) := by decide +kernel
theorem dX5_next_58 : decode cX5_next 58 = .ok (.aload_n 0, 1) := by decide +kernel
theorem dX5_next_59 : decode cX5_next 59 = .ok (.aload_n 0, 1) := by decide +kernel
theorem dX5_next_60 : decode cX5_next 60 = .ok (.aload_n 0, 1) := by decide +kernel
theorem dX5_next_61 : decode cX5_next 61 = .ok (.getfield 28, 3) := by decide +kernel
theorem dX5_next_64 : decode cX5_next 64 = .ok (.invokevirtual 71, 3) := by decide +kernel
theorem dX5_next_67 : decode cX5_next 67 = .ok (.putfield 25, 3) := by decide +kernel
theorem dX5_next_70 : decode cX5_next 70 = .ok (.aload_n 0, 1) := by decide +kernel
theorem dX5_next_71 : decode cX5_next 71 = .ok (.aload_n 0, 1) := by decide +kernel
theorem dX5_next_72 : decode cX5_next 72 = .ok (.getfield 28, 3) := by decide +kernel
theorem dX5_next_75 : decode cX5_next 75 = .ok (.iconst 1, 1) := by decide +kernel
theorem dX5_next_76 : decode cX5_next 76 = .ok (.iadd, 1) := by decide +kernel
theorem dX5_next_77 : decode cX5_next 77 = .ok (.putfield 34, 3) := by decide +kernel
theorem dX5_next_80 : decode cX5_next 80 = .ok (.aload_n 0, 1) := by decide +kernel
theorem dX5_next_81 : decode cX5_next 81 = .ok (.getfield 25, 3) := by decide +kernel
theorem dX5_next_84 : decode cX5_next 84 = .ok (.invokestatic 74, 3) := by decide +kernel
theorem dX5_next_87 : decode cX5_next 87 = .ok (.ifCond .eq 7, 3) := by decide +kernel
theorem dX5_next_90 : decode cX5_next 90 = .ok (.aload_n 0, 1) := by decide +kernel
theorem dX5_next_91 : decode cX5_next 91 = .ok (.invokevirtual 78, 3) := by decide +kernel
theorem dX5_next_94 : decode cX5_next 94 = .ok (.return_, 1) := by decide +kernel
theorem dX5_isFigure_0 : decode cX5_isFigure 0 = .ok (.iload_n 0, 1) := by decide +kernel
theorem dX5_isFigure_1 : decode cX5_isFigure 1 = .ok (.bipush 48, 2) := by decide +kernel
theorem dX5_isFigure_3 : decode cX5_isFigure 3 = .ok (.if_icmp .lt 13, 3) := by decide +kernel
theorem dX5_isFigure_6 : decode cX5_isFigure 6 = .ok (.iload_n 0, 1) := by decide +kernel
theorem dX5_isFigure_7 : decode cX5_isFigure 7 = .ok (.bipush 57, 2) := by decide +kernel
theorem dX5_isFigure_9 : decode cX5_isFigure 9 = .ok (.if_icmp .gt 7, 3) := by decide +kernel
theorem dX5_isFigure_12 : decode cX5_isFigure 12 = .ok (.iconst 1, 1) := by decide +kernel
theorem dX5_isFigure_13 : decode cX5_isFigure 13 = .ok (.goto 4, 3) := by decide +kernel
theorem dX5_isFigure_16 : decode cX5_isFigure 16 = .ok (.iconst 0, 1) := by decide +kernel
theorem dX5_isFigure_17 : decode cX5_isFigure 17 = .ok (.ireturn, 1) := by decide +kernel
theorem dX5_takeFigures_0 : decode cX5_takeFigures 0 = .ok (.aload_n 0, 1) := by decide +kernel
theorem dX5_takeFigures_1 : decode cX5_takeFigures 1 = .ok (.sipush 256, 3) := by decide +kernel
theorem dX5_takeFigures_4 : decode cX5_takeFigures 4 = .ok (.putfield 25, 3) := by decide +kernel
theorem dX5_takeFigures_7 : decode cX5_takeFigures 7 = .ok (.aload_n 0, 1) := by decide +kernel
theorem dX5_takeFigures_8 : decode cX5_takeFigures 8 = .ok (.iconst 0, 1) := by decide +kernel
theorem dX5_takeFigures_9 : decode cX5_takeFigures 9 = .ok (.putfield 31, 3) := by decide +kernel
theorem dX5_takeFigures_12 : decode cX5_takeFigures 12 = .ok (.aload_n 0, 1) := by decide +kernel
theorem dX5_takeFigures_13 : decode cX5_takeFigures 13 = .ok (.aload_n 0, 1) := by decide +kernel
theorem dX5_takeFigures_14 : decode cX5_takeFigures 14 = .ok (.getfield 28, 3) := by decide +kernel
theorem dX5_takeFigures_17 : decode cX5_takeFigures 17 = .ok (.putfield 34, 3) := by decide +kernel
theorem dX5_takeFigures_20 : decode cX5_takeFigures 20 = .ok (.aload_n 0, 1) := by decide +kernel
theorem dX5_takeFigures_21 : decode cX5_takeFigures 21 = .ok (.getfield 34, 3) := by decide +kernel
theorem dX5_takeFigures_24 : decode cX5_takeFigures 24 = .ok (.aload_n 0, 1) := by decide +kernel
theorem dX5_takeFigures_25 : decode cX5_takeFigures 25 = .ok (.getfield 22, 3) := by decide +kernel
theorem dX5_takeFigures_28 : decode cX5_takeFigures 28 = .ok (.if_icmp .ge 59, 3) := by decide +kernel
theorem dX5_takeFigures_31 : decode cX5_takeFigures 31 = .ok (.aload_n 0, 1) := by decide +kernel
theorem dX5_takeFigures_32 : decode cX5_takeFigures 32 = .ok (.aload_n 0, 1) := by decide +kernel
theorem dX5_takeFigures_33 : decode cX5_takeFigures 33 = .ok (.getfield 34, 3) := by decide +kernel
theorem dX5_takeFigures_36 : decode cX5_takeFigures 36 = .ok (.invokevirtual 71, 3) := by decide +kernel
theorem dX5_takeFigures_39 : decode cX5_takeFigures 39 = .ok (.invokestatic 74, 3) := by decide +kernel
theorem dX5_takeFigures_42 : decode cX5_takeFigures 42 = .ok (.ifCond .eq 45, 3) := by decide +kernel
theorem dX5_takeFigures_45 : decode cX5_takeFigures 45 = .ok (.aload_n 0, 1) := by decide +kernel
theorem dX5_takeFigures_46 : decode cX5_takeFigures 46 = .ok (.aload_n 0, 1) := by decide +kernel
theorem dX5_takeFigures_47 : decode cX5_takeFigures 47 = .ok (.getfield 31, 3) := by decide +kernel
theorem dX5_takeFigures_50 : decode cX5_takeFigures 50 = .ok (.bipush 10, 2) := by decide +kernel
theorem dX5_takeFigures_52 : decode cX5_takeFigures 52 = .ok (.imul, 1) := by decide +kernel
theorem dX5_takeFigures_53 : decode cX5_takeFigures 53 = .ok (.aload_n 0, 1) := by decide +kernel
theorem dX5_takeFigures_54 : decode cX5_takeFigures 54 = .ok (.aload_n 0, 1) := by decide +kernel
theorem dX5_takeFigures_55 : decode cX5_takeFigures 55 = .ok (.getfield 34, 3) := by decide +kernel
theorem dX5_takeFigures_58 : decode cX5_takeFigures 58 = .ok (.invokevirtual 71, 3) := by decide +kernel
theorem dX5_takeFigures_61 : decode cX5_takeFigures 61 = .ok (.iadd, 1) := by decide +kernel
theorem dX5_takeFigures_62 : decode cX5_takeFigures 62 = .ok (.bipush 48, 2) := by decide +kernel
theorem dX5_takeFigures_64 : decode cX5_takeFigures 64 = .ok (.isub, 1) := by decide +kernel
theorem dX5_takeFigures_65 : decode cX5_takeFigures 65 = .ok (.sipush 10000, 3) := by decide +kernel
theorem dX5_takeFigures_68 : decode cX5_takeFigures 68 = .ok (.invokestatic 81, 3) := by decide +kernel
theorem dX5_takeFigures_71 : decode cX5_takeFigures 71 = .ok (.putfield 31, 3) := by decide +kernel
theorem dX5_takeFigures_74 : decode cX5_takeFigures 74 = .ok (.aload_n 0, 1) := by decide +kernel
theorem dX5_takeFigures_75 : decode cX5_takeFigures 75 = .ok (.dup, 1) := by decide +kernel
theorem dX5_takeFigures_76 : decode cX5_takeFigures 76 = .ok (.getfield 34, 3) := by decide +kernel
theorem dX5_takeFigures_79 : decode cX5_takeFigures 79 = .ok (.iconst 1, 1) := by decide +kernel
theorem dX5_takeFigures_80 : decode cX5_takeFigures 80 = .ok (.iadd, 1) := by decide +kernel
theorem dX5_takeFigures_81 : decode cX5_takeFigures 81 = .ok (.putfield 34, 3) := by decide +kernel
theorem dX5_takeFigures_84 : decode cX5_takeFigures 84 = .ok (.goto (-64), 3) := by decide +kernel
theorem dX5_takeFigures_87 : decode cX5_takeFigures 87 = .ok (.return_, 1) := by decide +kernel
theorem dX5_terms_0 : decode cX5_terms 0 = .ok (.aload_n 0, 1) := by decide +kernel
theorem dX5_terms_1 : decode cX5_terms 1 = .ok (.iload_n 1, 1) := by decide +kernel
theorem dX5_terms_2 : decode cX5_terms 2 = .ok (.invokevirtual 87, 3) := by decide +kernel
theorem dX5_terms_5 : decode cX5_terms 5 = .ok (.istore_n 2, 1) := by decide +kernel
theorem dX5_terms_6 : decode cX5_terms 6 = .ok (.iconst 0, 1) := by decide +kernel
theorem dX5_terms_7 : decode cX5_terms 7 = .ok (.istore_n 3, 1) := by decide +kernel
theorem dX5_terms_8 : decode cX5_terms 8 = .ok (.iload_n 3, 1) := by decide +kernel
theorem dX5_terms_9 : decode cX5_terms 9 = .ok (.aload_n 0, 1) := by decide +kernel
theorem dX5_terms_10 : decode cX5_terms 10 = .ok (.getfield 22, 3) := by decide +kernel
theorem dX5_terms_13 : decode cX5_terms 13 = .ok (.if_icmp .ge 90, 3) := by decide +kernel
theorem dX5_terms_16 : decode cX5_terms 16 = .ok (.aload_n 0, 1) := by decide +kernel
theorem dX5_terms_17 : decode cX5_terms 17 = .ok (.getfield 9, 3) := by decide +kernel
theorem dX5_terms_20 : decode cX5_terms 20 = .ok (.ifCond .ne 83, 3) := by decide +kernel
theorem dX5_terms_23 : decode cX5_terms 23 = .ok (.aload_n 0, 1) := by decide +kernel
theorem dX5_terms_24 : decode cX5_terms 24 = .ok (.getfield 25, 3) := by decide +kernel
theorem dX5_terms_27 : decode cX5_terms 27 = .ok (.bipush 43, 2) := by decide +kernel
theorem dX5_terms_29 : decode cX5_terms 29 = .ok (.if_icmp .eq 12, 3) := by decide +kernel
theorem dX5_terms_32 : decode cX5_terms 32 = .ok (.aload_n 0, 1) := by decide +kernel
theorem dX5_terms_33 : decode cX5_terms 33 = .ok (.getfield 25, 3) := by decide +kernel
theorem dX5_terms_36 : decode cX5_terms 36 = .ok (.bipush 45, 2) := by decide +kernel
theorem dX5_terms_38 : decode cX5_terms 38 = .ok (.if_icmp .ne 65, 3) := by decide +kernel
theorem dX5_terms_41 : decode cX5_terms 41 = .ok (.aload_n 0, 1) := by decide +kernel
theorem dX5_terms_42 : decode cX5_terms 42 = .ok (.getfield 25, 3) := by decide +kernel
theorem dX5_terms_45 : decode cX5_terms 45 = .ok (.bipush 45, 2) := by decide +kernel
theorem dX5_terms_47 : decode cX5_terms 47 = .ok (.if_icmp .ne 7, 3) := by decide +kernel
theorem dX5_terms_50 : decode cX5_terms 50 = .ok (.iconst 1, 1) := by decide +kernel
theorem dX5_terms_51 : decode cX5_terms 51 = .ok (.goto 4, 3) := by decide +kernel
theorem dX5_terms_54 : decode cX5_terms 54 = .ok (.iconst 0, 1) := by decide +kernel
theorem dX5_terms_55 : decode cX5_terms 55 = .ok (.istore 4, 2) := by decide +kernel
theorem dX5_terms_57 : decode cX5_terms 57 = .ok (.aload_n 0, 1) := by decide +kernel
theorem dX5_terms_58 : decode cX5_terms 58 = .ok (.invokevirtual 49, 3) := by decide +kernel
theorem dX5_terms_61 : decode cX5_terms 61 = .ok (.aload_n 0, 1) := by decide +kernel
theorem dX5_terms_62 : decode cX5_terms 62 = .ok (.iload_n 1, 1) := by decide +kernel
theorem dX5_terms_63 : decode cX5_terms 63 = .ok (.invokevirtual 87, 3) := by decide +kernel
theorem dX5_terms_66 : decode cX5_terms 66 = .ok (.istore 5, 2) := by decide +kernel
theorem dX5_terms_68 : decode cX5_terms 68 = .ok (.iload 4, 2) := by decide +kernel
theorem dX5_terms_70 : decode cX5_terms 70 = .ok (.ifCond .eq 16, 3) := by decide +kernel
theorem dX5_terms_73 : decode cX5_terms 73 = .ok (.aload_n 0, 1) := by decide +kernel
theorem dX5_terms_74 : decode cX5_terms 74 = .ok (.getfield 37, 3) := by decide +kernel
theorem dX5_terms_77 : decode cX5_terms 77 = .ok (.iload_n 2, 1) := by decide +kernel
theorem dX5_terms_78 : decode cX5_terms 78 = .ok (.iload 5, 2) := by decide +kernel
theorem dX5_terms_80 : decode cX5_terms 80 = .ok (.invokevirtual 90, 3) := by decide +kernel
theorem dX5_terms_83 : decode cX5_terms 83 = .ok (.goto 13, 3) := by decide +kernel
theorem dX5_terms_86 : decode cX5_terms 86 = .ok (.aload_n 0, 1) := by decide +kernel
theorem dX5_terms_87 : decode cX5_terms 87 = .ok (.getfield 37, 3) := by decide +kernel
theorem dX5_terms_90 : decode cX5_terms 90 = .ok (.iload_n 2, 1) := by decide +kernel
theorem dX5_terms_91 : decode cX5_terms 91 = .ok (.iload 5, 2) := by decide +kernel
theorem dX5_terms_93 : decode cX5_terms 93 = .ok (.invokevirtual 95, 3) := by decide +kernel
theorem dX5_terms_96 : decode cX5_terms 96 = .ok (.istore_n 2, 1) := by decide +kernel
theorem dX5_terms_97 : decode cX5_terms 97 = .ok (.iinc 3 1, 3) := by decide +kernel
theorem dX5_terms_100 : decode cX5_terms 100 = .ok (.goto (-92), 3) := by decide +kernel
theorem dX5_terms_103 : decode cX5_terms 103 = .ok (.iload_n 2, 1) := by decide +kernel
theorem dX5_terms_104 : decode cX5_terms 104 = .ok (.ireturn, 1) := by decide +kernel
theorem dX5_factors_0 : decode cX5_factors 0 = .ok (.aload_n 0, 1) := by decide +kernel
theorem dX5_factors_1 : decode cX5_factors 1 = .ok (.iload_n 1, 1) := by decide +kernel
theorem dX5_factors_2 : decode cX5_factors 2 = .ok (.invokevirtual 98, 3) := by decide +kernel
theorem dX5_factors_5 : decode cX5_factors 5 = .ok (.istore_n 2, 1) := by decide +kernel
theorem dX5_factors_6 : decode cX5_factors 6 = .ok (.iconst 0, 1) := by decide +kernel
theorem dX5_factors_7 : decode cX5_factors 7 = .ok (.istore_n 3, 1) := by decide +kernel
theorem dX5_factors_8 : decode cX5_factors 8 = .ok (.iload_n 3, 1) := by decide +kernel
theorem dX5_factors_9 : decode cX5_factors 9 = .ok (.aload_n 0, 1) := by decide +kernel
theorem dX5_factors_10 : decode cX5_factors 10 = .ok (.getfield 22, 3) := by decide +kernel
theorem dX5_factors_13 : decode cX5_factors 13 = .ok (.if_icmp .ge 43, 3) := by decide +kernel
theorem dX5_factors_16 : decode cX5_factors 16 = .ok (.aload_n 0, 1) := by decide +kernel
theorem dX5_factors_17 : decode cX5_factors 17 = .ok (.getfield 9, 3) := by decide +kernel
theorem dX5_factors_20 : decode cX5_factors 20 = .ok (.ifCond .ne 36, 3) := by decide +kernel
theorem dX5_factors_23 : decode cX5_factors 23 = .ok (.aload_n 0, 1) := by decide +kernel
theorem dX5_factors_24 : decode cX5_factors 24 = .ok (.getfield 25, 3) := by decide +kernel
theorem dX5_factors_27 : decode cX5_factors 27 = .ok (.bipush 42, 2) := by decide +kernel
theorem dX5_factors_29 : decode cX5_factors 29 = .ok (.if_icmp .ne 27, 3) := by decide +kernel
theorem dX5_factors_32 : decode cX5_factors 32 = .ok (.aload_n 0, 1) := by decide +kernel
theorem dX5_factors_33 : decode cX5_factors 33 = .ok (.invokevirtual 49, 3) := by decide +kernel
theorem dX5_factors_36 : decode cX5_factors 36 = .ok (.aload_n 0, 1) := by decide +kernel
theorem dX5_factors_37 : decode cX5_factors 37 = .ok (.getfield 37, 3) := by decide +kernel
theorem dX5_factors_40 : decode cX5_factors 40 = .ok (.iload_n 2, 1) := by decide +kernel
theorem dX5_factors_41 : decode cX5_factors 41 = .ok (.aload_n 0, 1) := by decide +kernel
theorem dX5_factors_42 : decode cX5_factors 42 = .ok (.iload_n 1, 1) := by decide +kernel
theorem dX5_factors_43 : decode cX5_factors 43 = .ok (.invokevirtual 98, 3) := by decide +kernel
theorem dX5_factors_46 : decode cX5_factors 46 = .ok (.invokevirtual 101, 3) := by decide +kernel
theorem dX5_factors_49 : decode cX5_factors 49 = .ok (.istore_n 2, 1) := by decide +kernel
theorem dX5_factors_50 : decode cX5_factors 50 = .ok (.iinc 3 1, 3) := by decide +kernel
theorem dX5_factors_53 : decode cX5_factors 53 = .ok (.goto (-45), 3) := by decide +kernel
theorem dX5_factors_56 : decode cX5_factors 56 = .ok (.iload_n 2, 1) := by decide +kernel
theorem dX5_factors_57 : decode cX5_factors 57 = .ok (.ireturn, 1) := by decide +kernel
theorem dX5_factor_0 : decode cX5_factor 0 = .ok (.aload_n 0, 1) := by decide +kernel
theorem dX5_factor_1 : decode cX5_factor 1 = .ok (.iload_n 1, 1) := by decide +kernel
theorem dX5_factor_2 : decode cX5_factor 2 = .ok (.invokevirtual 104, 3) := by decide +kernel
theorem dX5_factor_5 : decode cX5_factor 5 = .ok (.istore_n 2, 1) := by decide +kernel
theorem dX5_factor_6 : decode cX5_factor 6 = .ok (.aload_n 0, 1) := by decide +kernel
theorem dX5_factor_7 : decode cX5_factor 7 = .ok (.getfield 9, 3) := by decide +kernel
theorem dX5_factor_10 : decode cX5_factor 10 = .ok (.ifCond .ne 32, 3) := by decide +kernel
theorem dX5_factor_13 : decode cX5_factor 13 = .ok (.aload_n 0, 1) := by decide +kernel
theorem dX5_factor_14 : decode cX5_factor 14 = .ok (.getfield 25, 3) := by decide +kernel
theorem dX5_factor_17 : decode cX5_factor 17 = .ok (.bipush 94, 2) := by decide +kernel
theorem dX5_factor_19 : decode cX5_factor 19 = .ok (.if_icmp .ne 23, 3) := by decide +kernel
theorem dX5_factor_22 : decode cX5_factor 22 = .ok (.aload_n 0, 1) := by decide +kernel
theorem dX5_factor_23 : decode cX5_factor 23 = .ok (.invokevirtual 49, 3) := by decide +kernel
theorem dX5_factor_26 : decode cX5_factor 26 = .ok (.aload_n 0, 1) := by decide +kernel
theorem dX5_factor_27 : decode cX5_factor 27 = .ok (.getfield 37, 3) := by decide +kernel
theorem dX5_factor_30 : decode cX5_factor 30 = .ok (.iload_n 2, 1) := by decide +kernel
theorem dX5_factor_31 : decode cX5_factor 31 = .ok (.aload_n 0, 1) := by decide +kernel
theorem dX5_factor_32 : decode cX5_factor 32 = .ok (.sipush 9999, 3) := by decide +kernel
theorem dX5_factor_35 : decode cX5_factor 35 = .ok (.invokevirtual 107, 3) := by decide +kernel
theorem dX5_factor_38 : decode cX5_factor 38 = .ok (.invokevirtual 110, 3) := by decide +kernel
theorem dX5_factor_41 : decode cX5_factor 41 = .ok (.istore_n 2, 1) := by decide +kernel
theorem dX5_factor_42 : decode cX5_factor 42 = .ok (.iload_n 2, 1) := by decide +kernel
theorem dX5_factor_43 : decode cX5_factor 43 = .ok (.ireturn, 1) := by decide +kernel
theorem dX5_figures_0 : decode cX5_figures 0 = .ok (.aload_n 0, 1) := by decide +kernel
theorem dX5_figures_1 : decode cX5_figures 1 = .ok (.getfield 25, 3) := by decide +kernel
theorem dX5_figures_4 : decode cX5_figures 4 = .ok (.sipush 256, 3) := by decide +kernel
theorem dX5_figures_7 : decode cX5_figures 7 = .ok (.if_icmp .eq 10, 3) := by decide +kernel
theorem dX5_figures_10 : decode cX5_figures 10 = .ok (.aload_n 0, 1) := by decide +kernel
theorem dX5_figures_11 : decode cX5_figures 11 = .ok (.iconst 1, 1) := by decide +kernel
theorem dX5_figures_12 : decode cX5_figures 12 = .ok (.invokevirtual 56, 3) := by decide +kernel
theorem dX5_figures_15 : decode cX5_figures 15 = .ok (.iconst 0, 1) := by decide +kernel
theorem dX5_figures_16 : decode cX5_figures 16 = .ok (.ireturn, 1) := by decide +kernel
theorem dX5_figures_17 : decode cX5_figures 17 = .ok (.aload_n 0, 1) := by decide +kernel
theorem dX5_figures_18 : decode cX5_figures 18 = .ok (.getfield 31, 3) := by decide +kernel
theorem dX5_figures_21 : decode cX5_figures 21 = .ok (.iload_n 1, 1) := by decide +kernel
theorem dX5_figures_22 : decode cX5_figures 22 = .ok (.if_icmp .le 10, 3) := by decide +kernel
theorem dX5_figures_25 : decode cX5_figures 25 = .ok (.aload_n 0, 1) := by decide +kernel
theorem dX5_figures_26 : decode cX5_figures 26 = .ok (.iconst 2, 1) := by decide +kernel
theorem dX5_figures_27 : decode cX5_figures 27 = .ok (.invokevirtual 56, 3) := by decide +kernel
theorem dX5_figures_30 : decode cX5_figures 30 = .ok (.iconst 0, 1) := by decide +kernel
theorem dX5_figures_31 : decode cX5_figures 31 = .ok (.ireturn, 1) := by decide +kernel
theorem dX5_figures_32 : decode cX5_figures 32 = .ok (.aload_n 0, 1) := by decide +kernel
theorem dX5_figures_33 : decode cX5_figures 33 = .ok (.getfield 31, 3) := by decide +kernel
theorem dX5_figures_36 : decode cX5_figures 36 = .ok (.istore_n 2, 1) := by decide +kernel
theorem dX5_figures_37 : decode cX5_figures 37 = .ok (.aload_n 0, 1) := by decide +kernel
theorem dX5_figures_38 : decode cX5_figures 38 = .ok (.invokevirtual 49, 3) := by decide +kernel
theorem dX5_figures_41 : decode cX5_figures 41 = .ok (.iload_n 2, 1) := by decide +kernel
theorem dX5_figures_42 : decode cX5_figures 42 = .ok (.ireturn, 1) := by decide +kernel
theorem dX5_atom_0 : decode cX5_atom 0 = .ok (.aload_n 0, 1) := by decide +kernel
theorem dX5_atom_1 : decode cX5_atom 1 = .ok (.getfield 25, 3) := by decide +kernel
theorem dX5_atom_4 : decode cX5_atom 4 = .ok (.lookupswitch 180 #[(35, 156), (40, 174), (45, 174), (103, 122), (105, 174), (109, 174), (112, 134), (114, 174), (116, 110), (256, 92)], 92) := by decide +kernel
theorem dX5_atom_96 : decode cX5_atom 96 = .ok (.aload_n 0, 1) := by decide +kernel
theorem dX5_atom_97 : decode cX5_atom 97 = .ok (.sipush 9999, 3) := by decide +kernel
theorem dX5_atom_100 : decode cX5_atom 100 = .ok (.invokevirtual 107, 3) := by decide +kernel
theorem dX5_atom_103 : decode cX5_atom 103 = .ok (.aload_n 0, 1) := by decide +kernel
theorem dX5_atom_104 : decode cX5_atom 104 = .ok (.getfield 37, 3) := by decide +kernel
theorem dX5_atom_107 : decode cX5_atom 107 = .ok (.getfield 113, 3) := by decide +kernel
theorem dX5_atom_110 : decode cX5_atom 110 = .ok (.invokestatic 116, 3) := by decide +kernel
theorem dX5_atom_113 : decode cX5_atom 113 = .ok (.ireturn, 1) := by decide +kernel
theorem dX5_atom_114 : decode cX5_atom 114 = .ok (.aload_n 0, 1) := by decide +kernel
theorem dX5_atom_115 : decode cX5_atom 115 = .ok (.invokevirtual 49, 3) := by decide +kernel
theorem dX5_atom_118 : decode cX5_atom 118 = .ok (.aload_n 0, 1) := by decide +kernel
theorem dX5_atom_119 : decode cX5_atom 119 = .ok (.getfield 37, 3) := by decide +kernel
theorem dX5_atom_122 : decode cX5_atom 122 = .ok (.invokevirtual 119, 3) := by decide +kernel
theorem dX5_atom_125 : decode cX5_atom 125 = .ok (.ireturn, 1) := by decide +kernel
theorem dX5_atom_126 : decode cX5_atom 126 = .ok (.aload_n 0, 1) := by decide +kernel
theorem dX5_atom_127 : decode cX5_atom 127 = .ok (.invokevirtual 49, 3) := by decide +kernel
theorem dX5_atom_130 : decode cX5_atom 130 = .ok (.aload_n 0, 1) := by decide +kernel
theorem dX5_atom_131 : decode cX5_atom 131 = .ok (.getfield 37, 3) := by decide +kernel
theorem dX5_atom_134 : decode cX5_atom 134 = .ok (.getfield 123, 3) := by decide +kernel
theorem dX5_atom_137 : decode cX5_atom 137 = .ok (.ireturn, 1) := by decide +kernel
theorem dX5_atom_138 : decode cX5_atom 138 = .ok (.aload_n 0, 1) := by decide +kernel
theorem dX5_atom_139 : decode cX5_atom 139 = .ok (.invokevirtual 49, 3) := by decide +kernel
theorem dX5_atom_142 : decode cX5_atom 142 = .ok (.aload_n 0, 1) := by decide +kernel
theorem dX5_atom_143 : decode cX5_atom 143 = .ok (.getfield 37, 3) := by decide +kernel
theorem dX5_atom_146 : decode cX5_atom 146 = .ok (.getfield 126, 3) := by decide +kernel
theorem dX5_atom_149 : decode cX5_atom 149 = .ok (.aload_n 0, 1) := by decide +kernel
theorem dX5_atom_150 : decode cX5_atom 150 = .ok (.getfield 37, 3) := by decide +kernel
theorem dX5_atom_153 : decode cX5_atom 153 = .ok (.getfield 113, 3) := by decide +kernel
theorem dX5_atom_156 : decode cX5_atom 156 = .ok (.invokestatic 116, 3) := by decide +kernel
theorem dX5_atom_159 : decode cX5_atom 159 = .ok (.ireturn, 1) := by decide +kernel
theorem dX5_atom_160 : decode cX5_atom 160 = .ok (.aload_n 0, 1) := by decide +kernel
theorem dX5_atom_161 : decode cX5_atom 161 = .ok (.invokevirtual 49, 3) := by decide +kernel
theorem dX5_atom_164 : decode cX5_atom 164 = .ok (.aload_n 0, 1) := by decide +kernel
theorem dX5_atom_165 : decode cX5_atom 165 = .ok (.getfield 41, 3) := by decide +kernel
theorem dX5_atom_168 : decode cX5_atom 168 = .ok (.aload_n 0, 1) := by decide +kernel
theorem dX5_atom_169 : decode cX5_atom 169 = .ok (.bipush 7, 2) := by decide +kernel
theorem dX5_atom_171 : decode cX5_atom 171 = .ok (.invokevirtual 107, 3) := by decide +kernel
theorem dX5_atom_174 : decode cX5_atom 174 = .ok (.invokestatic 65, 3) := by decide +kernel
theorem dX5_atom_177 : decode cX5_atom 177 = .ok (.ireturn, 1) := by decide +kernel
theorem dX5_atom_178 : decode cX5_atom 178 = .ok (.aload_n 0, 1) := by decide +kernel
theorem dX5_atom_179 : decode cX5_atom 179 = .ok (.iload_n 1, 1) := by decide +kernel
theorem dX5_atom_180 : decode cX5_atom 180 = .ok (.invokevirtual 129, 3) := by decide +kernel
theorem dX5_atom_183 : decode cX5_atom 183 = .ok (.ireturn, 1) := by decide +kernel
theorem dX5_atom_184 : decode cX5_atom 184 = .ok (.aload_n 0, 1) := by decide +kernel
theorem dX5_atom_185 : decode cX5_atom 185 = .ok (.iconst 1, 1) := by decide +kernel
theorem dX5_atom_186 : decode cX5_atom 186 = .ok (.invokevirtual 56, 3) := by decide +kernel
theorem dX5_atom_189 : decode cX5_atom 189 = .ok (.iconst 0, 1) := by decide +kernel
theorem dX5_atom_190 : decode cX5_atom 190 = .ok (.ireturn, 1) := by decide +kernel
theorem dX5_opened_0 : decode cX5_opened 0 = .ok (.iload_n 1, 1) := by decide +kernel
theorem dX5_opened_1 : decode cX5_opened 1 = .ok (.bipush 8, 2) := by decide +kernel
theorem dX5_opened_3 : decode cX5_opened 3 = .ok (.if_icmp .lt 10, 3) := by decide +kernel
theorem dX5_opened_6 : decode cX5_opened 6 = .ok (.aload_n 0, 1) := by decide +kernel
theorem dX5_opened_7 : decode cX5_opened 7 = .ok (.iconst 3, 1) := by decide +kernel
theorem dX5_opened_8 : decode cX5_opened 8 = .ok (.invokevirtual 56, 3) := by decide +kernel
theorem dX5_opened_11 : decode cX5_opened 11 = .ok (.iconst 0, 1) := by decide +kernel
theorem dX5_opened_12 : decode cX5_opened 12 = .ok (.ireturn, 1) := by decide +kernel
theorem dX5_opened_13 : decode cX5_opened 13 = .ok (.aload_n 0, 1) := by decide +kernel
theorem dX5_opened_14 : decode cX5_opened 14 = .ok (.getfield 25, 3) := by decide +kernel
theorem dX5_opened_17 : decode cX5_opened 17 = .ok (.istore_n 2, 1) := by decide +kernel
theorem dX5_opened_18 : decode cX5_opened 18 = .ok (.aload_n 0, 1) := by decide +kernel
theorem dX5_opened_19 : decode cX5_opened 19 = .ok (.invokevirtual 49, 3) := by decide +kernel
theorem dX5_opened_22 : decode cX5_opened 22 = .ok (.iload_n 2, 1) := by decide +kernel
theorem dX5_opened_23 : decode cX5_opened 23 = .ok (.bipush 40, 2) := by decide +kernel
theorem dX5_opened_25 : decode cX5_opened 25 = .ok (.if_icmp .ne 45, 3) := by decide +kernel
theorem dX5_opened_28 : decode cX5_opened 28 = .ok (.aload_n 0, 1) := by decide +kernel
theorem dX5_opened_29 : decode cX5_opened 29 = .ok (.iload_n 1, 1) := by decide +kernel
theorem dX5_opened_30 : decode cX5_opened 30 = .ok (.iconst 1, 1) := by decide +kernel
theorem dX5_opened_31 : decode cX5_opened 31 = .ok (.iadd, 1) := by decide +kernel
theorem dX5_opened_32 : decode cX5_opened 32 = .ok (.invokevirtual 52, 3) := by decide +kernel
theorem dX5_opened_35 : decode cX5_opened 35 = .ok (.istore_n 3, 1) := by decide +kernel
theorem dX5_opened_36 : decode cX5_opened 36 = .ok (.aload_n 0, 1) := by decide +kernel
theorem dX5_opened_37 : decode cX5_opened 37 = .ok (.getfield 9, 3) := by decide +kernel
theorem dX5_opened_40 : decode cX5_opened 40 = .ok (.ifCond .ne 17, 3) := by decide +kernel
theorem dX5_opened_43 : decode cX5_opened 43 = .ok (.aload_n 0, 1) := by decide +kernel
theorem dX5_opened_44 : decode cX5_opened 44 = .ok (.getfield 25, 3) := by decide +kernel
theorem dX5_opened_47 : decode cX5_opened 47 = .ok (.bipush 41, 2) := by decide +kernel
theorem dX5_opened_49 : decode cX5_opened 49 = .ok (.if_icmp .eq 8, 3) := by decide +kernel
theorem dX5_opened_52 : decode cX5_opened 52 = .ok (.aload_n 0, 1) := by decide +kernel
theorem dX5_opened_53 : decode cX5_opened 53 = .ok (.iconst 1, 1) := by decide +kernel
theorem dX5_opened_54 : decode cX5_opened 54 = .ok (.invokevirtual 56, 3) := by decide +kernel
theorem dX5_opened_57 : decode cX5_opened 57 = .ok (.aload_n 0, 1) := by decide +kernel
theorem dX5_opened_58 : decode cX5_opened 58 = .ok (.getfield 9, 3) := by decide +kernel
theorem dX5_opened_61 : decode cX5_opened 61 = .ok (.ifCond .ne 7, 3) := by decide +kernel
theorem dX5_opened_64 : decode cX5_opened 64 = .ok (.aload_n 0, 1) := by decide +kernel
theorem dX5_opened_65 : decode cX5_opened 65 = .ok (.invokevirtual 49, 3) := by decide +kernel
theorem dX5_opened_68 : decode cX5_opened 68 = .ok (.iload_n 3, 1) := by decide +kernel
theorem dX5_opened_69 : decode cX5_opened 69 = .ok (.ireturn, 1) := by decide +kernel
theorem dX5_opened_70 : decode cX5_opened 70 = .ok (.aload_n 0, 1) := by decide +kernel
theorem dX5_opened_71 : decode cX5_opened 71 = .ok (.iload_n 2, 1) := by decide +kernel
theorem dX5_opened_72 : decode cX5_opened 72 = .ok (.aload_n 0, 1) := by decide +kernel
theorem dX5_opened_73 : decode cX5_opened 73 = .ok (.iload_n 1, 1) := by decide +kernel
theorem dX5_opened_74 : decode cX5_opened 74 = .ok (.iconst 1, 1) := by decide +kernel
theorem dX5_opened_75 : decode cX5_opened 75 = .ok (.iadd, 1) := by decide +kernel
theorem dX5_opened_76 : decode cX5_opened 76 = .ok (.invokevirtual 104, 3) := by decide +kernel
theorem dX5_opened_79 : decode cX5_opened 79 = .ok (.invokevirtual 132, 3) := by decide +kernel
theorem dX5_opened_82 : decode cX5_opened 82 = .ok (.ireturn, 1) := by decide +kernel
theorem dX5_changed_0 : decode cX5_changed 0 = .ok (.iload_n 1, 1) := by decide +kernel
theorem dX5_changed_1 : decode cX5_changed 1 = .ok (.bipush 45, 2) := by decide +kernel
theorem dX5_changed_3 : decode cX5_changed 3 = .ok (.if_icmp .ne 13, 3) := by decide +kernel
theorem dX5_changed_6 : decode cX5_changed 6 = .ok (.aload_n 0, 1) := by decide +kernel
theorem dX5_changed_7 : decode cX5_changed 7 = .ok (.getfield 37, 3) := by decide +kernel
theorem dX5_changed_10 : decode cX5_changed 10 = .ok (.iconst 0, 1) := by decide +kernel
theorem dX5_changed_11 : decode cX5_changed 11 = .ok (.iload_n 2, 1) := by decide +kernel
theorem dX5_changed_12 : decode cX5_changed 12 = .ok (.invokevirtual 90, 3) := by decide +kernel
theorem dX5_changed_15 : decode cX5_changed 15 = .ok (.ireturn, 1) := by decide +kernel
theorem dX5_changed_16 : decode cX5_changed 16 = .ok (.iload_n 1, 1) := by decide +kernel
theorem dX5_changed_17 : decode cX5_changed 17 = .ok (.bipush 109, 2) := by decide +kernel
theorem dX5_changed_19 : decode cX5_changed 19 = .ok (.if_icmp .ne 12, 3) := by decide +kernel
theorem dX5_changed_22 : decode cX5_changed 22 = .ok (.aload_n 0, 1) := by decide +kernel
theorem dX5_changed_23 : decode cX5_changed 23 = .ok (.getfield 37, 3) := by decide +kernel
theorem dX5_changed_26 : decode cX5_changed 26 = .ok (.iload_n 2, 1) := by decide +kernel
theorem dX5_changed_27 : decode cX5_changed 27 = .ok (.invokevirtual 135, 3) := by decide +kernel
theorem dX5_changed_30 : decode cX5_changed 30 = .ok (.ireturn, 1) := by decide +kernel
theorem dX5_changed_31 : decode cX5_changed 31 = .ok (.iload_n 1, 1) := by decide +kernel
theorem dX5_changed_32 : decode cX5_changed 32 = .ok (.bipush 114, 2) := by decide +kernel
theorem dX5_changed_34 : decode cX5_changed 34 = .ok (.if_icmp .ne 12, 3) := by decide +kernel
theorem dX5_changed_37 : decode cX5_changed 37 = .ok (.aload_n 0, 1) := by decide +kernel
theorem dX5_changed_38 : decode cX5_changed 38 = .ok (.getfield 37, 3) := by decide +kernel
theorem dX5_changed_41 : decode cX5_changed 41 = .ok (.iload_n 2, 1) := by decide +kernel
theorem dX5_changed_42 : decode cX5_changed 42 = .ok (.invokevirtual 138, 3) := by decide +kernel
theorem dX5_changed_45 : decode cX5_changed 45 = .ok (.ireturn, 1) := by decide +kernel
theorem dX5_changed_46 : decode cX5_changed 46 = .ok (.aload_n 0, 1) := by decide +kernel
theorem dX5_changed_47 : decode cX5_changed 47 = .ok (.getfield 37, 3) := by decide +kernel
theorem dX5_changed_50 : decode cX5_changed 50 = .ok (.iload_n 2, 1) := by decide +kernel
theorem dX5_changed_51 : decode cX5_changed 51 = .ok (.invokevirtual 141, 3) := by decide +kernel
theorem dX5_changed_54 : decode cX5_changed 54 = .ok (.ifCond .ne 10, 3) := by decide +kernel
theorem dX5_changed_57 : decode cX5_changed 57 = .ok (.aload_n 0, 1) := by decide +kernel
theorem dX5_changed_58 : decode cX5_changed 58 = .ok (.iconst 1, 1) := by decide +kernel
theorem dX5_changed_59 : decode cX5_changed 59 = .ok (.putfield 18, 3) := by decide +kernel
theorem dX5_changed_62 : decode cX5_changed 62 = .ok (.iconst 0, 1) := by decide +kernel
theorem dX5_changed_63 : decode cX5_changed 63 = .ok (.ireturn, 1) := by decide +kernel
theorem dX5_changed_64 : decode cX5_changed 64 = .ok (.aload_n 0, 1) := by decide +kernel
theorem dX5_changed_65 : decode cX5_changed 65 = .ok (.getfield 37, 3) := by decide +kernel
theorem dX5_changed_68 : decode cX5_changed 68 = .ok (.iload_n 2, 1) := by decide +kernel
theorem dX5_changed_69 : decode cX5_changed 69 = .ok (.invokevirtual 144, 3) := by decide +kernel
theorem dX5_changed_72 : decode cX5_changed 72 = .ok (.ireturn, 1) := by decide +kernel
theorem dX6_init_0 : decode cX6_init 0 = .ok (.aload_n 0, 1) := by decide +kernel
theorem dX6_init_1 : decode cX6_init 1 = .ok (.invokespecial 3, 3) := by decide +kernel
theorem dX6_init_4 : decode cX6_init 4 = .ok (.aload_n 0, 1) := by decide +kernel
theorem dX6_init_5 : decode cX6_init 5 = .ok (.iconst 0, 1) := by decide +kernel
theorem dX6_init_6 : decode cX6_init 6 = .ok (.putfield 9, 3) := by decide +kernel
theorem dX6_init_9 : decode cX6_init 9 = .ok (.aload_n 0, 1) := by decide +kernel
theorem dX6_init_10 : decode cX6_init 10 = .ok (.sipush 200, 3) := by decide +kernel
theorem dX6_init_13 : decode cX6_init 13 = .ok (.newarray .int, 2) := by decide +kernel
theorem dX6_init_15 : decode cX6_init 15 = .ok (.putfield 15, 3) := by decide +kernel
theorem dX6_init_18 : decode cX6_init 18 = .ok (.aload_n 0, 1) := by decide +kernel
theorem dX6_init_19 : decode cX6_init 19 = .ok (.bipush 6, 2) := by decide +kernel
theorem dX6_init_21 : decode cX6_init 21 = .ok (.newarray .int, 2) := by decide +kernel
theorem dX6_init_23 : decode cX6_init 23 = .ok (.putfield 19, 3) := by decide +kernel
theorem dX6_init_26 : decode cX6_init 26 = .ok (.return_, 1) := by decide +kernel
theorem dX6_write_0 : decode cX6_write 0 = .ok (.aload_n 0, 1) := by decide +kernel
theorem dX6_write_1 : decode cX6_write 1 = .ok (.iconst 0, 1) := by decide +kernel
theorem dX6_write_2 : decode cX6_write 2 = .ok (.putfield 9, 3) := by decide +kernel
theorem dX6_write_5 : decode cX6_write 5 = .ok (.aload_n 1, 1) := by decide +kernel
theorem dX6_write_6 : decode cX6_write 6 = .ok (.iload_n 2, 1) := by decide +kernel
theorem dX6_write_7 : decode cX6_write 7 = .ok (.aload_n 0, 1) := by decide +kernel
theorem dX6_write_8 : decode cX6_write 8 = .ok (.getfield 19, 3) := by decide +kernel
theorem dX6_write_11 : decode cX6_write 11 = .ok (.invokevirtual 22, 3) := by decide +kernel
theorem dX6_write_14 : decode cX6_write 14 = .ok (.iconst 5, 1) := by decide +kernel
theorem dX6_write_15 : decode cX6_write 15 = .ok (.istore_n 3, 1) := by decide +kernel
theorem dX6_write_16 : decode cX6_write 16 = .ok (.iload_n 3, 1) := by decide +kernel
theorem dX6_write_17 : decode cX6_write 17 = .ok (.ifCond .lt 29, 3) := by decide +kernel
theorem dX6_write_20 : decode cX6_write 20 = .ok (.aload_n 0, 1) := by decide +kernel
theorem dX6_write_21 : decode cX6_write 21 = .ok (.getfield 19, 3) := by decide +kernel
theorem dX6_write_24 : decode cX6_write 24 = .ok (.iload_n 3, 1) := by decide +kernel
theorem dX6_write_25 : decode cX6_write 25 = .ok (.iaload, 1) := by decide +kernel
theorem dX6_write_26 : decode cX6_write 26 = .ok (.ifCond .le 14, 3) := by decide +kernel
theorem dX6_write_29 : decode cX6_write 29 = .ok (.aload_n 0, 1) := by decide +kernel
theorem dX6_write_30 : decode cX6_write 30 = .ok (.aload_n 0, 1) := by decide +kernel
theorem dX6_write_31 : decode cX6_write 31 = .ok (.getfield 19, 3) := by decide +kernel
theorem dX6_write_34 : decode cX6_write 34 = .ok (.iload_n 3, 1) := by decide +kernel
theorem dX6_write_35 : decode cX6_write 35 = .ok (.iaload, 1) := by decide +kernel
theorem dX6_write_36 : decode cX6_write 36 = .ok (.iload_n 3, 1) := by decide +kernel
theorem dX6_write_37 : decode cX6_write 37 = .ok (.invokevirtual 28, 3) := by decide +kernel
theorem dX6_write_40 : decode cX6_write 40 = .ok (.iinc 3 (-1), 3) := by decide +kernel
theorem dX6_write_43 : decode cX6_write 43 = .ok (.goto (-27), 3) := by decide +kernel
theorem dX6_write_46 : decode cX6_write 46 = .ok (.aload_n 0, 1) := by decide +kernel
theorem dX6_write_47 : decode cX6_write 47 = .ok (.getfield 9, 3) := by decide +kernel
theorem dX6_write_50 : decode cX6_write 50 = .ok (.ifCond .ne 9, 3) := by decide +kernel
theorem dX6_write_53 : decode cX6_write 53 = .ok (.aload_n 0, 1) := by decide +kernel
theorem dX6_write_54 : decode cX6_write 54 = .ok (.bipush 48, 2) := by decide +kernel
theorem dX6_write_56 : decode cX6_write 56 = .ok (.invokevirtual 32, 3) := by decide +kernel
theorem dX6_write_59 : decode cX6_write 59 = .ok (.return_, 1) := by decide +kernel
theorem dX6_part_0 : decode cX6_part 0 = .ok (.aload_n 0, 1) := by decide +kernel
theorem dX6_part_1 : decode cX6_part 1 = .ok (.getfield 9, 3) := by decide +kernel
theorem dX6_part_4 : decode cX6_part 4 = .ok (.ifCond .le 9, 3) := by decide +kernel
theorem dX6_part_7 : decode cX6_part 7 = .ok (.aload_n 0, 1) := by decide +kernel
theorem dX6_part_8 : decode cX6_part 8 = .ok (.bipush 43, 2) := by decide +kernel
theorem dX6_part_10 : decode cX6_part 10 = .ok (.invokevirtual 32, 3) := by decide +kernel
theorem dX6_part_13 : decode cX6_part 13 = .ok (.iload_n 1, 1) := by decide +kernel
theorem dX6_part_14 : decode cX6_part 14 = .ok (.iconst 1, 1) := by decide +kernel
theorem dX6_part_15 : decode cX6_part 15 = .ok (.if_icmp .gt 7, 3) := by decide +kernel
theorem dX6_part_18 : decode cX6_part 18 = .ok (.iload_n 2, 1) := by decide +kernel
theorem dX6_part_19 : decode cX6_part 19 = .ok (.ifCond .ne 8, 3) := by decide +kernel
theorem dX6_part_22 : decode cX6_part 22 = .ok (.aload_n 0, 1) := by decide +kernel
theorem dX6_part_23 : decode cX6_part 23 = .ok (.iload_n 1, 1) := by decide +kernel
theorem dX6_part_24 : decode cX6_part 24 = .ok (.invokevirtual 36, 3) := by decide +kernel
theorem dX6_part_27 : decode cX6_part 27 = .ok (.iload_n 1, 1) := by decide +kernel
theorem dX6_part_28 : decode cX6_part 28 = .ok (.iconst 1, 1) := by decide +kernel
theorem dX6_part_29 : decode cX6_part 29 = .ok (.if_icmp .le 13, 3) := by decide +kernel
theorem dX6_part_32 : decode cX6_part 32 = .ok (.iload_n 2, 1) := by decide +kernel
theorem dX6_part_33 : decode cX6_part 33 = .ok (.ifCond .le 9, 3) := by decide +kernel
theorem dX6_part_36 : decode cX6_part 36 = .ok (.aload_n 0, 1) := by decide +kernel
theorem dX6_part_37 : decode cX6_part 37 = .ok (.bipush 42, 2) := by decide +kernel
theorem dX6_part_39 : decode cX6_part 39 = .ok (.invokevirtual 32, 3) := by decide +kernel
theorem dX6_part_42 : decode cX6_part 42 = .ok (.iload_n 2, 1) := by decide +kernel
theorem dX6_part_43 : decode cX6_part 43 = .ok (.ifCond .le 9, 3) := by decide +kernel
theorem dX6_part_46 : decode cX6_part 46 = .ok (.aload_n 0, 1) := by decide +kernel
theorem dX6_part_47 : decode cX6_part 47 = .ok (.bipush 116, 2) := by decide +kernel
theorem dX6_part_49 : decode cX6_part 49 = .ok (.invokevirtual 32, 3) := by decide +kernel
theorem dX6_part_52 : decode cX6_part 52 = .ok (.iload_n 2, 1) := by decide +kernel
theorem dX6_part_53 : decode cX6_part 53 = .ok (.iconst 1, 1) := by decide +kernel
theorem dX6_part_54 : decode cX6_part 54 = .ok (.if_icmp .le 14, 3) := by decide +kernel
theorem dX6_part_57 : decode cX6_part 57 = .ok (.aload_n 0, 1) := by decide +kernel
theorem dX6_part_58 : decode cX6_part 58 = .ok (.bipush 94, 2) := by decide +kernel
theorem dX6_part_60 : decode cX6_part 60 = .ok (.invokevirtual 32, 3) := by decide +kernel
theorem dX6_part_63 : decode cX6_part 63 = .ok (.aload_n 0, 1) := by decide +kernel
theorem dX6_part_64 : decode cX6_part 64 = .ok (.iload_n 2, 1) := by decide +kernel
theorem dX6_part_65 : decode cX6_part 65 = .ok (.invokevirtual 36, 3) := by decide +kernel
theorem dX6_part_68 : decode cX6_part 68 = .ok (.return_, 1) := by decide +kernel
theorem dX6_figures_0 : decode cX6_figures 0 = .ok (.sipush 1000, 3) := by decide +kernel
theorem dX6_figures_3 : decode cX6_figures 3 = .ok (.istore_n 2, 1) := by decide +kernel
theorem dX6_figures_4 : decode cX6_figures 4 = .ok (.iload_n 2, 1) := by decide +kernel
theorem dX6_figures_5 : decode cX6_figures 5 = .ok (.ifCond .le 29, 3) := by decide +kernel
theorem dX6_figures_8 : decode cX6_figures 8 = .ok (.iload_n 1, 1) := by decide +kernel
theorem dX6_figures_9 : decode cX6_figures 9 = .ok (.iload_n 2, 1) := by decide +kernel
theorem dX6_figures_10 : decode cX6_figures 10 = .ok (.if_icmp .lt 16, 3) := by decide +kernel
theorem dX6_figures_13 : decode cX6_figures 13 = .ok (.aload_n 0, 1) := by decide +kernel
theorem dX6_figures_14 : decode cX6_figures 14 = .ok (.bipush 48, 2) := by decide +kernel
theorem dX6_figures_16 : decode cX6_figures 16 = .ok (.iload_n 1, 1) := by decide +kernel
theorem dX6_figures_17 : decode cX6_figures 17 = .ok (.iload_n 2, 1) := by decide +kernel
theorem dX6_figures_18 : decode cX6_figures 18 = .ok (.idiv, 1) := by decide +kernel
theorem dX6_figures_19 : decode cX6_figures 19 = .ok (.bipush 10, 2) := by decide +kernel
theorem dX6_figures_21 : decode cX6_figures 21 = .ok (.irem, 1) := by decide +kernel
theorem dX6_figures_22 : decode cX6_figures 22 = .ok (.iadd, 1) := by decide +kernel
theorem dX6_figures_23 : decode cX6_figures 23 = .ok (.invokevirtual 32, 3) := by decide +kernel
theorem dX6_figures_26 : decode cX6_figures 26 = .ok (.iload_n 2, 1) := by decide +kernel
theorem dX6_figures_27 : decode cX6_figures 27 = .ok (.bipush 10, 2) := by decide +kernel
theorem dX6_figures_29 : decode cX6_figures 29 = .ok (.idiv, 1) := by decide +kernel
theorem dX6_figures_30 : decode cX6_figures 30 = .ok (.istore_n 2, 1) := by decide +kernel
theorem dX6_figures_31 : decode cX6_figures 31 = .ok (.goto (-27), 3) := by decide +kernel
theorem dX6_figures_34 : decode cX6_figures 34 = .ok (.return_, 1) := by decide +kernel
theorem dX6_append_0 : decode cX6_append 0 = .ok (.aload_n 0, 1) := by decide +kernel
theorem dX6_append_1 : decode cX6_append 1 = .ok (.getfield 15, 3) := by decide +kernel
theorem dX6_append_4 : decode cX6_append 4 = .ok (.aload_n 0, 1) := by decide +kernel
theorem dX6_append_5 : decode cX6_append 5 = .ok (.getfield 9, 3) := by decide +kernel
theorem dX6_append_8 : decode cX6_append 8 = .ok (.iload_n 1, 1) := by decide +kernel
theorem dX6_append_9 : decode cX6_append 9 = .ok (.invokestatic 39, 3) := by decide +kernel
theorem dX6_append_12 : decode cX6_append 12 = .ok (.aload_n 0, 1) := by decide +kernel
theorem dX6_append_13 : decode cX6_append 13 = .ok (.dup, 1) := by decide +kernel
theorem dX6_append_14 : decode cX6_append 14 = .ok (.getfield 9, 3) := by decide +kernel
theorem dX6_append_17 : decode cX6_append 17 = .ok (.iconst 1, 1) := by decide +kernel
theorem dX6_append_18 : decode cX6_append 18 = .ok (.iadd, 1) := by decide +kernel
theorem dX6_append_19 : decode cX6_append 19 = .ok (.putfield 9, 3) := by decide +kernel
theorem dX6_append_22 : decode cX6_append 22 = .ok (.return_, 1) := by decide +kernel
theorem dX7_at_0 : decode cX7_at 0 = .ok (.iload_n 1, 1) := by decide +kernel
theorem dX7_at_1 : decode cX7_at 1 = .ok (.ifCond .lt 15, 3) := by decide +kernel
theorem dX7_at_4 : decode cX7_at 4 = .ok (.iload_n 1, 1) := by decide +kernel
theorem dX7_at_5 : decode cX7_at 5 = .ok (.aload_n 0, 1) := by decide +kernel
theorem dX7_at_6 : decode cX7_at 6 = .ok (.arraylength, 1) := by decide +kernel
theorem dX7_at_7 : decode cX7_at 7 = .ok (.if_icmp .ge 9, 3) := by decide +kernel
theorem dX7_at_10 : decode cX7_at 10 = .ok (.aload_n 0, 1) := by decide +kernel
theorem dX7_at_11 : decode cX7_at 11 = .ok (.iload_n 1, 1) := by decide +kernel
theorem dX7_at_12 : decode cX7_at 12 = .ok (.iaload, 1) := by decide +kernel
theorem dX7_at_13 : decode cX7_at 13 = .ok (.goto 4, 3) := by decide +kernel
theorem dX7_at_16 : decode cX7_at 16 = .ok (.iconst 0, 1) := by decide +kernel
theorem dX7_at_17 : decode cX7_at 17 = .ok (.ireturn, 1) := by decide +kernel
theorem dX7_set_0 : decode cX7_set 0 = .ok (.iload_n 1, 1) := by decide +kernel
theorem dX7_set_1 : decode cX7_set 1 = .ok (.ifCond .lt 13, 3) := by decide +kernel
theorem dX7_set_4 : decode cX7_set 4 = .ok (.iload_n 1, 1) := by decide +kernel
theorem dX7_set_5 : decode cX7_set 5 = .ok (.aload_n 0, 1) := by decide +kernel
theorem dX7_set_6 : decode cX7_set 6 = .ok (.arraylength, 1) := by decide +kernel
theorem dX7_set_7 : decode cX7_set 7 = .ok (.if_icmp .ge 7, 3) := by decide +kernel
theorem dX7_set_10 : decode cX7_set 10 = .ok (.aload_n 0, 1) := by decide +kernel
theorem dX7_set_11 : decode cX7_set 11 = .ok (.iload_n 1, 1) := by decide +kernel
theorem dX7_set_12 : decode cX7_set 12 = .ok (.iload_n 2, 1) := by decide +kernel
theorem dX7_set_13 : decode cX7_set 13 = .ok (.iastore, 1) := by decide +kernel
theorem dX7_set_14 : decode cX7_set 14 = .ok (.return_, 1) := by decide +kernel
theorem dX7_add_0 : decode cX7_add 0 = .ok (.iload_n 1, 1) := by decide +kernel
theorem dX7_add_1 : decode cX7_add 1 = .ok (.ifCond .lt 16, 3) := by decide +kernel
theorem dX7_add_4 : decode cX7_add 4 = .ok (.iload_n 1, 1) := by decide +kernel
theorem dX7_add_5 : decode cX7_add 5 = .ok (.aload_n 0, 1) := by decide +kernel
theorem dX7_add_6 : decode cX7_add 6 = .ok (.arraylength, 1) := by decide +kernel
theorem dX7_add_7 : decode cX7_add 7 = .ok (.if_icmp .ge 10, 3) := by decide +kernel
theorem dX7_add_10 : decode cX7_add 10 = .ok (.aload_n 0, 1) := by decide +kernel
theorem dX7_add_11 : decode cX7_add 11 = .ok (.iload_n 1, 1) := by decide +kernel
theorem dX7_add_12 : decode cX7_add 12 = .ok (.dup2, 1) := by decide +kernel
theorem dX7_add_13 : decode cX7_add 13 = .ok (.iaload, 1) := by decide +kernel
theorem dX7_add_14 : decode cX7_add 14 = .ok (.iload_n 2, 1) := by decide +kernel
theorem dX7_add_15 : decode cX7_add 15 = .ok (.iadd, 1) := by decide +kernel
theorem dX7_add_16 : decode cX7_add 16 = .ok (.iastore, 1) := by decide +kernel
theorem dX7_add_17 : decode cX7_add 17 = .ok (.return_, 1) := by decide +kernel
theorem dX7_quotient_0 : decode cX7_quotient 0 = .ok (.iload_n 1, 1) := by decide +kernel
theorem dX7_quotient_1 : decode cX7_quotient 1 = .ok (.ifCond .le 9, 3) := by decide +kernel
theorem dX7_quotient_4 : decode cX7_quotient 4 = .ok (.iload_n 0, 1) := by decide +kernel
theorem dX7_quotient_5 : decode cX7_quotient 5 = .ok (.iload_n 1, 1) := by decide +kernel
theorem dX7_quotient_6 : decode cX7_quotient 6 = .ok (.idiv, 1) := by decide +kernel
theorem dX7_quotient_7 : decode cX7_quotient 7 = .ok (.goto 4, 3) := by decide +kernel
theorem dX7_quotient_10 : decode cX7_quotient 10 = .ok (.iconst 0, 1) := by decide +kernel
theorem dX7_quotient_11 : decode cX7_quotient 11 = .ok (.ireturn, 1) := by decide +kernel
theorem dX7_remainder_0 : decode cX7_remainder 0 = .ok (.iload_n 1, 1) := by decide +kernel
theorem dX7_remainder_1 : decode cX7_remainder 1 = .ok (.ifCond .le 9, 3) := by decide +kernel
theorem dX7_remainder_4 : decode cX7_remainder 4 = .ok (.iload_n 0, 1) := by decide +kernel
theorem dX7_remainder_5 : decode cX7_remainder 5 = .ok (.iload_n 1, 1) := by decide +kernel
theorem dX7_remainder_6 : decode cX7_remainder 6 = .ok (.irem, 1) := by decide +kernel
theorem dX7_remainder_7 : decode cX7_remainder 7 = .ok (.goto 4, 3) := by decide +kernel
theorem dX7_remainder_10 : decode cX7_remainder 10 = .ok (.iconst 0, 1) := by decide +kernel
theorem dX7_remainder_11 : decode cX7_remainder 11 = .ok (.ireturn, 1) := by decide +kernel
theorem dX7_raise_0 : decode cX7_raise 0 = .ok (.iconst 1, 1) := by decide +kernel
theorem dX7_raise_1 : decode cX7_raise 1 = .ok (.istore_n 2, 1) := by decide +kernel
theorem dX7_raise_2 : decode cX7_raise 2 = .ok (.iconst 0, 1) := by decide +kernel
theorem dX7_raise_3 : decode cX7_raise 3 = .ok (.istore_n 3, 1) := by decide +kernel
theorem dX7_raise_4 : decode cX7_raise 4 = .ok (.iload_n 3, 1) := by decide +kernel
theorem dX7_raise_5 : decode cX7_raise 5 = .ok (.iload_n 1, 1) := by decide +kernel
theorem dX7_raise_6 : decode cX7_raise 6 = .ok (.if_icmp .ge 13, 3) := by decide +kernel
theorem dX7_raise_9 : decode cX7_raise 9 = .ok (.iload_n 2, 1) := by decide +kernel
theorem dX7_raise_10 : decode cX7_raise 10 = .ok (.iload_n 0, 1) := by decide +kernel
theorem dX7_raise_11 : decode cX7_raise 11 = .ok (.imul, 1) := by decide +kernel
theorem dX7_raise_12 : decode cX7_raise 12 = .ok (.istore_n 2, 1) := by decide +kernel
theorem dX7_raise_13 : decode cX7_raise 13 = .ok (.iinc 3 1, 3) := by decide +kernel
theorem dX7_raise_16 : decode cX7_raise 16 = .ok (.goto (-12), 3) := by decide +kernel
theorem dX7_raise_19 : decode cX7_raise 19 = .ok (.iload_n 2, 1) := by decide +kernel
theorem dX7_raise_20 : decode cX7_raise 20 = .ok (.ireturn, 1) := by decide +kernel
theorem dX7_common_0 : decode cX7_common 0 = .ok (.iload_n 1, 1) := by decide +kernel
theorem dX7_common_1 : decode cX7_common 1 = .ok (.istore_n 2, 1) := by decide +kernel
theorem dX7_common_2 : decode cX7_common 2 = .ok (.iload_n 2, 1) := by decide +kernel
theorem dX7_common_3 : decode cX7_common 3 = .ok (.iconst 1, 1) := by decide +kernel
theorem dX7_common_4 : decode cX7_common 4 = .ok (.if_icmp .le 23, 3) := by decide +kernel
theorem dX7_common_7 : decode cX7_common 7 = .ok (.iload_n 0, 1) := by decide +kernel
theorem dX7_common_8 : decode cX7_common 8 = .ok (.iload_n 2, 1) := by decide +kernel
theorem dX7_common_9 : decode cX7_common 9 = .ok (.irem, 1) := by decide +kernel
theorem dX7_common_10 : decode cX7_common 10 = .ok (.ifCond .ne 11, 3) := by decide +kernel
theorem dX7_common_13 : decode cX7_common 13 = .ok (.iload_n 1, 1) := by decide +kernel
theorem dX7_common_14 : decode cX7_common 14 = .ok (.iload_n 2, 1) := by decide +kernel
theorem dX7_common_15 : decode cX7_common 15 = .ok (.irem, 1) := by decide +kernel
theorem dX7_common_16 : decode cX7_common 16 = .ok (.ifCond .ne 5, 3) := by decide +kernel
theorem dX7_common_19 : decode cX7_common 19 = .ok (.iload_n 2, 1) := by decide +kernel
theorem dX7_common_20 : decode cX7_common 20 = .ok (.ireturn, 1) := by decide +kernel
theorem dX7_common_21 : decode cX7_common 21 = .ok (.iinc 2 (-1), 3) := by decide +kernel
theorem dX7_common_24 : decode cX7_common 24 = .ok (.goto (-22), 3) := by decide +kernel
theorem dX7_common_27 : decode cX7_common 27 = .ok (.iconst 1, 1) := by decide +kernel
theorem dX7_common_28 : decode cX7_common 28 = .ok (.ireturn, 1) := by decide +kernel
theorem dX7_mix_0 : decode cX7_mix 0 = .ok (.iload_n 3, 1) := by decide +kernel
theorem dX7_mix_1 : decode cX7_mix 1 = .ok (.iconst 2, 1) := by decide +kernel
theorem dX7_mix_2 : decode cX7_mix 2 = .ok (.if_icmp .ge 5, 3) := by decide +kernel
theorem dX7_mix_5 : decode cX7_mix 5 = .ok (.iconst 0, 1) := by decide +kernel
theorem dX7_mix_6 : decode cX7_mix 6 = .ok (.ireturn, 1) := by decide +kernel
theorem dX7_mix_7 : decode cX7_mix 7 = .ok (.iconst 0, 1) := by decide +kernel
theorem dX7_mix_8 : decode cX7_mix 8 = .ok (.istore 4, 2) := by decide +kernel
theorem dX7_mix_10 : decode cX7_mix 10 = .ok (.iconst 1, 1) := by decide +kernel
theorem dX7_mix_11 : decode cX7_mix 11 = .ok (.istore 5, 2) := by decide +kernel
theorem dX7_mix_13 : decode cX7_mix 13 = .ok (.iload_n 0, 1) := by decide +kernel
theorem dX7_mix_14 : decode cX7_mix 14 = .ok (.istore 6, 2) := by decide +kernel
theorem dX7_mix_16 : decode cX7_mix 16 = .ok (.iload_n 1, 1) := by decide +kernel
theorem dX7_mix_17 : decode cX7_mix 17 = .ok (.istore 7, 2) := by decide +kernel
theorem dX7_mix_19 : decode cX7_mix 19 = .ok (.iload 6, 2) := by decide +kernel
theorem dX7_mix_21 : decode cX7_mix 21 = .ok (.ifCond .gt 8, 3) := by decide +kernel
theorem dX7_mix_24 : decode cX7_mix 24 = .ok (.iload 7, 2) := by decide +kernel
theorem dX7_mix_26 : decode cX7_mix 26 = .ok (.ifCond .le 45, 3) := by decide +kernel
theorem dX7_mix_29 : decode cX7_mix 29 = .ok (.iload 4, 2) := by decide +kernel
theorem dX7_mix_31 : decode cX7_mix 31 = .ok (.iload 5, 2) := by decide +kernel
theorem dX7_mix_33 : decode cX7_mix 33 = .ok (.iload 6, 2) := by decide +kernel
theorem dX7_mix_35 : decode cX7_mix 35 = .ok (.iload_n 3, 1) := by decide +kernel
theorem dX7_mix_36 : decode cX7_mix 36 = .ok (.irem, 1) := by decide +kernel
theorem dX7_mix_37 : decode cX7_mix 37 = .ok (.iload_n 2, 1) := by decide +kernel
theorem dX7_mix_38 : decode cX7_mix 38 = .ok (.iload 7, 2) := by decide +kernel
theorem dX7_mix_40 : decode cX7_mix 40 = .ok (.iload_n 3, 1) := by decide +kernel
theorem dX7_mix_41 : decode cX7_mix 41 = .ok (.irem, 1) := by decide +kernel
theorem dX7_mix_42 : decode cX7_mix 42 = .ok (.imul, 1) := by decide +kernel
theorem dX7_mix_43 : decode cX7_mix 43 = .ok (.iadd, 1) := by decide +kernel
theorem dX7_mix_44 : decode cX7_mix 44 = .ok (.iload_n 3, 1) := by decide +kernel
theorem dX7_mix_45 : decode cX7_mix 45 = .ok (.irem, 1) := by decide +kernel
theorem dX7_mix_46 : decode cX7_mix 46 = .ok (.imul, 1) := by decide +kernel
theorem dX7_mix_47 : decode cX7_mix 47 = .ok (.iadd, 1) := by decide +kernel
theorem dX7_mix_48 : decode cX7_mix 48 = .ok (.istore 4, 2) := by decide +kernel
theorem dX7_mix_50 : decode cX7_mix 50 = .ok (.iload 5, 2) := by decide +kernel
theorem dX7_mix_52 : decode cX7_mix 52 = .ok (.iload_n 3, 1) := by decide +kernel
theorem dX7_mix_53 : decode cX7_mix 53 = .ok (.imul, 1) := by decide +kernel
theorem dX7_mix_54 : decode cX7_mix 54 = .ok (.istore 5, 2) := by decide +kernel
theorem dX7_mix_56 : decode cX7_mix 56 = .ok (.iload 6, 2) := by decide +kernel
theorem dX7_mix_58 : decode cX7_mix 58 = .ok (.iload_n 3, 1) := by decide +kernel
theorem dX7_mix_59 : decode cX7_mix 59 = .ok (.idiv, 1) := by decide +kernel
theorem dX7_mix_60 : decode cX7_mix 60 = .ok (.istore 6, 2) := by decide +kernel
theorem dX7_mix_62 : decode cX7_mix 62 = .ok (.iload 7, 2) := by decide +kernel
theorem dX7_mix_64 : decode cX7_mix 64 = .ok (.iload_n 3, 1) := by decide +kernel
theorem dX7_mix_65 : decode cX7_mix 65 = .ok (.idiv, 1) := by decide +kernel
theorem dX7_mix_66 : decode cX7_mix 66 = .ok (.istore 7, 2) := by decide +kernel
theorem dX7_mix_68 : decode cX7_mix 68 = .ok (.goto (-49), 3) := by decide +kernel
theorem dX7_mix_71 : decode cX7_mix 71 = .ok (.iload 4, 2) := by decide +kernel
theorem dX7_mix_73 : decode cX7_mix 73 = .ok (.ireturn, 1) := by decide +kernel
theorem dX8_init_0 : decode cX8_init 0 = .ok (.aload_n 0, 1) := by decide +kernel
theorem dX8_init_1 : decode cX8_init 1 = .ok (.invokespecial 3, 3) := by decide +kernel
theorem dX8_init_4 : decode cX8_init 4 = .ok (.aload_n 0, 1) := by decide +kernel
theorem dX8_init_5 : decode cX8_init 5 = .ok (.iconst 0, 1) := by decide +kernel
theorem dX8_init_6 : decode cX8_init 6 = .ok (.putfield 9, 3) := by decide +kernel
theorem dX8_init_9 : decode cX8_init 9 = .ok (.aload_n 0, 1) := by decide +kernel
theorem dX8_init_10 : decode cX8_init 10 = .ok (.sipush 200, 3) := by decide +kernel
theorem dX8_init_13 : decode cX8_init 13 = .ok (.newarray .int, 2) := by decide +kernel
theorem dX8_init_15 : decode cX8_init 15 = .ok (.putfield 15, 3) := by decide +kernel
theorem dX8_init_18 : decode cX8_init 18 = .ok (.return_, 1) := by decide +kernel
theorem dX8_append_0 : decode cX8_append 0 = .ok (.bipush 24, 2) := by decide +kernel
theorem dX8_append_2 : decode cX8_append 2 = .ok (.istore_n 2, 1) := by decide +kernel
theorem dX8_append_3 : decode cX8_append 3 = .ok (.iload_n 2, 1) := by decide +kernel
theorem dX8_append_4 : decode cX8_append 4 = .ok (.ifCond .lt 37, 3) := by decide +kernel
theorem dX8_append_7 : decode cX8_append 7 = .ok (.aload_n 0, 1) := by decide +kernel
theorem dX8_append_8 : decode cX8_append 8 = .ok (.getfield 15, 3) := by decide +kernel
theorem dX8_append_11 : decode cX8_append 11 = .ok (.aload_n 0, 1) := by decide +kernel
theorem dX8_append_12 : decode cX8_append 12 = .ok (.getfield 9, 3) := by decide +kernel
theorem dX8_append_15 : decode cX8_append 15 = .ok (.iload_n 1, 1) := by decide +kernel
theorem dX8_append_16 : decode cX8_append 16 = .ok (.iload_n 2, 1) := by decide +kernel
theorem dX8_append_17 : decode cX8_append 17 = .ok (.ishr, 1) := by decide +kernel
theorem dX8_append_18 : decode cX8_append 18 = .ok (.sipush 255, 3) := by decide +kernel
theorem dX8_append_21 : decode cX8_append 21 = .ok (.iand, 1) := by decide +kernel
theorem dX8_append_22 : decode cX8_append 22 = .ok (.invokestatic 19, 3) := by decide +kernel
theorem dX8_append_25 : decode cX8_append 25 = .ok (.aload_n 0, 1) := by decide +kernel
theorem dX8_append_26 : decode cX8_append 26 = .ok (.dup, 1) := by decide +kernel
theorem dX8_append_27 : decode cX8_append 27 = .ok (.getfield 9, 3) := by decide +kernel
theorem dX8_append_30 : decode cX8_append 30 = .ok (.iconst 1, 1) := by decide +kernel
theorem dX8_append_31 : decode cX8_append 31 = .ok (.iadd, 1) := by decide +kernel
theorem dX8_append_32 : decode cX8_append 32 = .ok (.putfield 9, 3) := by decide +kernel
theorem dX8_append_35 : decode cX8_append 35 = .ok (.iinc 2 (-8), 3) := by decide +kernel
theorem dX8_append_38 : decode cX8_append 38 = .ok (.goto (-35), 3) := by decide +kernel
theorem dX8_append_41 : decode cX8_append 41 = .ok (.return_, 1) := by decide +kernel
theorem dX8_isBelow_0 : decode cX8_isBelow 0 = .ok (.iconst 0, 1) := by decide +kernel
theorem dX8_isBelow_1 : decode cX8_isBelow 1 = .ok (.istore_n 3, 1) := by decide +kernel
theorem dX8_isBelow_2 : decode cX8_isBelow 2 = .ok (.iload_n 3, 1) := by decide +kernel
theorem dX8_isBelow_3 : decode cX8_isBelow 3 = .ok (.iload_n 1, 1) := by decide +kernel
theorem dX8_isBelow_4 : decode cX8_isBelow 4 = .ok (.if_icmp .ge 23, 3) := by decide +kernel
theorem dX8_isBelow_7 : decode cX8_isBelow 7 = .ok (.aload_n 0, 1) := by decide +kernel
theorem dX8_isBelow_8 : decode cX8_isBelow 8 = .ok (.getfield 15, 3) := by decide +kernel
theorem dX8_isBelow_11 : decode cX8_isBelow 11 = .ok (.iload_n 3, 1) := by decide +kernel
theorem dX8_isBelow_12 : decode cX8_isBelow 12 = .ok (.invokestatic 25, 3) := by decide +kernel
theorem dX8_isBelow_15 : decode cX8_isBelow 15 = .ok (.iload_n 2, 1) := by decide +kernel
theorem dX8_isBelow_16 : decode cX8_isBelow 16 = .ok (.if_icmp .lt 5, 3) := by decide +kernel
theorem dX8_isBelow_19 : decode cX8_isBelow 19 = .ok (.iconst 0, 1) := by decide +kernel
theorem dX8_isBelow_20 : decode cX8_isBelow 20 = .ok (.ireturn, 1) := by decide +kernel
theorem dX8_isBelow_21 : decode cX8_isBelow 21 = .ok (.iinc 3 1, 3) := by decide +kernel
theorem dX8_isBelow_24 : decode cX8_isBelow 24 = .ok (.goto (-22), 3) := by decide +kernel
theorem dX8_isBelow_27 : decode cX8_isBelow 27 = .ok (.iconst 1, 1) := by decide +kernel
theorem dX8_isBelow_28 : decode cX8_isBelow 28 = .ok (.ireturn, 1) := by decide +kernel
theorem dX9_init_0 : decode cX9_init 0 = .ok (.aload_n 0, 1) := by decide +kernel
theorem dX9_init_1 : decode cX9_init 1 = .ok (.invokespecial 3, 3) := by decide +kernel
theorem dX9_init_4 : decode cX9_init 4 = .ok (.aload_n 0, 1) := by decide +kernel
theorem dX9_init_5 : decode cX9_init 5 = .ok (.bipush 63, 2) := by decide +kernel
theorem dX9_init_7 : decode cX9_init 7 = .ok (.newarray .int, 2) := by decide +kernel
theorem dX9_init_9 : decode cX9_init 9 = .ok (.putfield 9, 3) := by decide +kernel
theorem dX9_init_12 : decode cX9_init 12 = .ok (.aload_n 0, 1) := by decide +kernel
theorem dX9_init_13 : decode cX9_init 13 = .ok (.bipush 63, 2) := by decide +kernel
theorem dX9_init_15 : decode cX9_init 15 = .ok (.newarray .int, 2) := by decide +kernel
theorem dX9_init_17 : decode cX9_init 17 = .ok (.putfield 15, 3) := by decide +kernel
theorem dX9_init_20 : decode cX9_init 20 = .ok (.aload_n 0, 1) := by decide +kernel
theorem dX9_init_21 : decode cX9_init 21 = .ok (.aload_n 1, 1) := by decide +kernel
theorem dX9_init_22 : decode cX9_init 22 = .ok (.putfield 18, 3) := by decide +kernel
theorem dX9_init_25 : decode cX9_init 25 = .ok (.return_, 1) := by decide +kernel
theorem dX9_start_0 : decode cX9_start 0 = .ok (.aload_n 0, 1) := by decide +kernel
theorem dX9_start_1 : decode cX9_start 1 = .ok (.getfield 9, 3) := by decide +kernel
theorem dX9_start_4 : decode cX9_start 4 = .ok (.iconst 0, 1) := by decide +kernel
theorem dX9_start_5 : decode cX9_start 5 = .ok (.invokestatic 22, 3) := by decide +kernel
theorem dX9_start_8 : decode cX9_start 8 = .ok (.aload_n 0, 1) := by decide +kernel
theorem dX9_start_9 : decode cX9_start 9 = .ok (.getfield 15, 3) := by decide +kernel
theorem dX9_start_12 : decode cX9_start 12 = .ok (.iconst 0, 1) := by decide +kernel
theorem dX9_start_13 : decode cX9_start 13 = .ok (.invokestatic 22, 3) := by decide +kernel
theorem dX9_start_16 : decode cX9_start 16 = .ok (.return_, 1) := by decide +kernel
theorem dX9_step_0 : decode cX9_step 0 = .ok (.iconst 0, 1) := by decide +kernel
theorem dX9_step_1 : decode cX9_step 1 = .ok (.istore_n 1, 1) := by decide +kernel
theorem dX9_step_2 : decode cX9_step 2 = .ok (.iload_n 1, 1) := by decide +kernel
theorem dX9_step_3 : decode cX9_step 3 = .ok (.aload_n 0, 1) := by decide +kernel
theorem dX9_step_4 : decode cX9_step 4 = .ok (.getfield 18, 3) := by decide +kernel
theorem dX9_step_7 : decode cX9_step 7 = .ok (.getfield 28, 3) := by decide +kernel
theorem dX9_step_10 : decode cX9_step 10 = .ok (.if_icmp .ge 60, 3) := by decide +kernel
theorem dX9_step_13 : decode cX9_step 13 = .ok (.iload_n 1, 1) := by decide +kernel
theorem dX9_step_14 : decode cX9_step 14 = .ok (.aload_n 0, 1) := by decide +kernel
theorem dX9_step_15 : decode cX9_step 15 = .ok (.getfield 15, 3) := by decide +kernel
theorem dX9_step_18 : decode cX9_step 18 = .ok (.arraylength, 1) := by decide +kernel
theorem dX9_step_19 : decode cX9_step 19 = .ok (.if_icmp .ge 51, 3) := by decide +kernel
theorem dX9_step_22 : decode cX9_step 22 = .ok (.aload_n 0, 1) := by decide +kernel
theorem dX9_step_23 : decode cX9_step 23 = .ok (.iload_n 1, 1) := by decide +kernel
theorem dX9_step_24 : decode cX9_step 24 = .ok (.invokevirtual 34, 3) := by decide +kernel
theorem dX9_step_27 : decode cX9_step 27 = .ok (.aload_n 0, 1) := by decide +kernel
theorem dX9_step_28 : decode cX9_step 28 = .ok (.getfield 15, 3) := by decide +kernel
theorem dX9_step_31 : decode cX9_step 31 = .ok (.iload_n 1, 1) := by decide +kernel
theorem dX9_step_32 : decode cX9_step 32 = .ok (.dup2, 1) := by decide +kernel
theorem dX9_step_33 : decode cX9_step 33 = .ok (.iaload, 1) := by decide +kernel
theorem dX9_step_34 : decode cX9_step 34 = .ok (.iconst 1, 1) := by decide +kernel
theorem dX9_step_35 : decode cX9_step 35 = .ok (.iadd, 1) := by decide +kernel
theorem dX9_step_36 : decode cX9_step 36 = .ok (.iastore, 1) := by decide +kernel
theorem dX9_step_37 : decode cX9_step 37 = .ok (.aload_n 0, 1) := by decide +kernel
theorem dX9_step_38 : decode cX9_step 38 = .ok (.getfield 15, 3) := by decide +kernel
theorem dX9_step_41 : decode cX9_step 41 = .ok (.iload_n 1, 1) := by decide +kernel
theorem dX9_step_42 : decode cX9_step 42 = .ok (.iaload, 1) := by decide +kernel
theorem dX9_step_43 : decode cX9_step 43 = .ok (.aload_n 0, 1) := by decide +kernel
theorem dX9_step_44 : decode cX9_step 44 = .ok (.getfield 18, 3) := by decide +kernel
theorem dX9_step_47 : decode cX9_step 47 = .ok (.getfield 38, 3) := by decide +kernel
theorem dX9_step_50 : decode cX9_step 50 = .ok (.getfield 42, 3) := by decide +kernel
theorem dX9_step_53 : decode cX9_step 53 = .ok (.if_icmp .ge 4, 3) := by decide +kernel
theorem dX9_step_56 : decode cX9_step 56 = .ok (.return_, 1) := by decide +kernel
theorem dX9_step_57 : decode cX9_step 57 = .ok (.aload_n 0, 1) := by decide +kernel
theorem dX9_step_58 : decode cX9_step 58 = .ok (.getfield 15, 3) := by decide +kernel
theorem dX9_step_61 : decode cX9_step 61 = .ok (.iload_n 1, 1) := by decide +kernel
theorem dX9_step_62 : decode cX9_step 62 = .ok (.iconst 0, 1) := by decide +kernel
theorem dX9_step_63 : decode cX9_step 63 = .ok (.iastore, 1) := by decide +kernel
theorem dX9_step_64 : decode cX9_step 64 = .ok (.iinc 1 1, 3) := by decide +kernel
theorem dX9_step_67 : decode cX9_step 67 = .ok (.goto (-65), 3) := by decide +kernel
theorem dX9_step_70 : decode cX9_step 70 = .ok (.return_, 1) := by decide +kernel
theorem dX9_addMaker_0 : decode cX9_addMaker 0 = .ok (.aload_n 0, 1) := by decide +kernel
theorem dX9_addMaker_1 : decode cX9_addMaker 1 = .ok (.getfield 18, 3) := by decide +kernel
theorem dX9_addMaker_4 : decode cX9_addMaker 4 = .ok (.getfield 38, 3) := by decide +kernel
theorem dX9_addMaker_7 : decode cX9_addMaker 7 = .ok (.getfield 42, 3) := by decide +kernel
theorem dX9_addMaker_10 : decode cX9_addMaker 10 = .ok (.istore_n 2, 1) := by decide +kernel
theorem dX9_addMaker_11 : decode cX9_addMaker 11 = .ok (.iconst 0, 1) := by decide +kernel
theorem dX9_addMaker_12 : decode cX9_addMaker 12 = .ok (.istore_n 3, 1) := by decide +kernel
theorem dX9_addMaker_13 : decode cX9_addMaker 13 = .ok (.iload_n 3, 1) := by decide +kernel
theorem dX9_addMaker_14 : decode cX9_addMaker 14 = .ok (.aload_n 0, 1) := by decide +kernel
theorem dX9_addMaker_15 : decode cX9_addMaker 15 = .ok (.getfield 18, 3) := by decide +kernel
theorem dX9_addMaker_18 : decode cX9_addMaker 18 = .ok (.getfield 47, 3) := by decide +kernel
theorem dX9_addMaker_21 : decode cX9_addMaker 21 = .ok (.if_icmp .gt 65, 3) := by decide +kernel
theorem dX9_addMaker_24 : decode cX9_addMaker 24 = .ok (.iload_n 1, 1) := by decide +kernel
theorem dX9_addMaker_25 : decode cX9_addMaker 25 = .ok (.iload_n 3, 1) := by decide +kernel
theorem dX9_addMaker_26 : decode cX9_addMaker 26 = .ok (.iadd, 1) := by decide +kernel
theorem dX9_addMaker_27 : decode cX9_addMaker 27 = .ok (.aload_n 0, 1) := by decide +kernel
theorem dX9_addMaker_28 : decode cX9_addMaker 28 = .ok (.getfield 9, 3) := by decide +kernel
theorem dX9_addMaker_31 : decode cX9_addMaker 31 = .ok (.arraylength, 1) := by decide +kernel
theorem dX9_addMaker_32 : decode cX9_addMaker 32 = .ok (.if_icmp .ge 54, 3) := by decide +kernel
theorem dX9_addMaker_35 : decode cX9_addMaker 35 = .ok (.aload_n 0, 1) := by decide +kernel
theorem dX9_addMaker_36 : decode cX9_addMaker 36 = .ok (.getfield 9, 3) := by decide +kernel
theorem dX9_addMaker_39 : decode cX9_addMaker 39 = .ok (.iload_n 1, 1) := by decide +kernel
theorem dX9_addMaker_40 : decode cX9_addMaker 40 = .ok (.iload_n 3, 1) := by decide +kernel
theorem dX9_addMaker_41 : decode cX9_addMaker 41 = .ok (.iadd, 1) := by decide +kernel
theorem dX9_addMaker_42 : decode cX9_addMaker 42 = .ok (.iaload, 1) := by decide +kernel
theorem dX9_addMaker_43 : decode cX9_addMaker 43 = .ok (.aload_n 0, 1) := by decide +kernel
theorem dX9_addMaker_44 : decode cX9_addMaker 44 = .ok (.getfield 18, 3) := by decide +kernel
theorem dX9_addMaker_47 : decode cX9_addMaker 47 = .ok (.getfield 50, 3) := by decide +kernel
theorem dX9_addMaker_50 : decode cX9_addMaker 50 = .ok (.iload_n 3, 1) := by decide +kernel
theorem dX9_addMaker_51 : decode cX9_addMaker 51 = .ok (.invokestatic 53, 3) := by decide +kernel
theorem dX9_addMaker_54 : decode cX9_addMaker 54 = .ok (.iadd, 1) := by decide +kernel
theorem dX9_addMaker_55 : decode cX9_addMaker 55 = .ok (.istore 4, 2) := by decide +kernel
theorem dX9_addMaker_57 : decode cX9_addMaker 57 = .ok (.aload_n 0, 1) := by decide +kernel
theorem dX9_addMaker_58 : decode cX9_addMaker 58 = .ok (.getfield 9, 3) := by decide +kernel
theorem dX9_addMaker_61 : decode cX9_addMaker 61 = .ok (.iload_n 1, 1) := by decide +kernel
theorem dX9_addMaker_62 : decode cX9_addMaker 62 = .ok (.iload_n 3, 1) := by decide +kernel
theorem dX9_addMaker_63 : decode cX9_addMaker 63 = .ok (.iadd, 1) := by decide +kernel
theorem dX9_addMaker_64 : decode cX9_addMaker 64 = .ok (.iload 4, 2) := by decide +kernel
theorem dX9_addMaker_66 : decode cX9_addMaker 66 = .ok (.iload_n 2, 1) := by decide +kernel
theorem dX9_addMaker_67 : decode cX9_addMaker 67 = .ok (.if_icmp .ge 8, 3) := by decide +kernel
theorem dX9_addMaker_70 : decode cX9_addMaker 70 = .ok (.iload 4, 2) := by decide +kernel
theorem dX9_addMaker_72 : decode cX9_addMaker 72 = .ok (.goto 7, 3) := by decide +kernel
theorem dX9_addMaker_75 : decode cX9_addMaker 75 = .ok (.iload 4, 2) := by decide +kernel
theorem dX9_addMaker_77 : decode cX9_addMaker 77 = .ok (.iload_n 2, 1) := by decide +kernel
theorem dX9_addMaker_78 : decode cX9_addMaker 78 = .ok (.isub, 1) := by decide +kernel
theorem dX9_addMaker_79 : decode cX9_addMaker 79 = .ok (.iastore, 1) := by decide +kernel
theorem dX9_addMaker_80 : decode cX9_addMaker 80 = .ok (.iinc 3 1, 3) := by decide +kernel
theorem dX9_addMaker_83 : decode cX9_addMaker 83 = .ok (.goto (-70), 3) := by decide +kernel
theorem dX9_addMaker_86 : decode cX9_addMaker 86 = .ok (.return_, 1) := by decide +kernel
theorem dX10_init_0 : decode cX10_init 0 = .ok (.aload_n 0, 1) := by decide +kernel
theorem dX10_init_1 : decode cX10_init 1 = .ok (.invokespecial 3, 3) := by decide +kernel
theorem dX10_init_4 : decode cX10_init 4 = .ok (.aload_n 0, 1) := by decide +kernel
theorem dX10_init_5 : decode cX10_init 5 = .ok (.iconst 0, 1) := by decide +kernel
theorem dX10_init_6 : decode cX10_init 6 = .ok (.putfield 9, 3) := by decide +kernel
theorem dX10_init_9 : decode cX10_init 9 = .ok (.aload_n 0, 1) := by decide +kernel
theorem dX10_init_10 : decode cX10_init 10 = .ok (.bipush 64, 2) := by decide +kernel
theorem dX10_init_12 : decode cX10_init 12 = .ok (.newarray .int, 2) := by decide +kernel
theorem dX10_init_14 : decode cX10_init 14 = .ok (.putfield 15, 3) := by decide +kernel
theorem dX10_init_17 : decode cX10_init 17 = .ok (.aload_n 0, 1) := by decide +kernel
theorem dX10_init_18 : decode cX10_init 18 = .ok (.sipush 7201, 3) := by decide +kernel
theorem dX10_init_21 : decode cX10_init 21 = .ok (.newarray .int, 2) := by decide +kernel
theorem dX10_init_23 : decode cX10_init 23 = .ok (.putfield 19, 3) := by decide +kernel
theorem dX10_init_26 : decode cX10_init 26 = .ok (.aload_n 0, 1) := by decide +kernel
theorem dX10_init_27 : decode cX10_init 27 = .ok (.aload_n 1, 1) := by decide +kernel
theorem dX10_init_28 : decode cX10_init 28 = .ok (.putfield 22, 3) := by decide +kernel
theorem dX10_init_31 : decode cX10_init 31 = .ok (.aload_n 0, 1) := by decide +kernel
theorem dX10_init_32 : decode cX10_init 32 = .ok (.new 26, 3) := by decide +kernel
theorem dX10_init_35 : decode cX10_init 35 = .ok (.dup, 1) := by decide +kernel
theorem dX10_init_36 : decode cX10_init 36 = .ok (.aload_n 1, 1) := by decide +kernel
theorem dX10_init_37 : decode cX10_init 37 = .ok (.invokespecial 28, 3) := by decide +kernel
theorem dX10_init_40 : decode cX10_init 40 = .ok (.putfield 31, 3) := by decide +kernel
theorem dX10_init_43 : decode cX10_init 43 = .ok (.return_, 1) := by decide +kernel
theorem dX10_weigh_0 : decode cX10_weigh 0 = .ok (.aload_n 0, 1) := by decide +kernel
theorem dX10_weigh_1 : decode cX10_weigh 1 = .ok (.getfield 9, 3) := by decide +kernel
theorem dX10_weigh_4 : decode cX10_weigh 4 = .ok (.ifCond .eq 4, 3) := by decide +kernel
theorem dX10_weigh_7 : decode cX10_weigh 7 = .ok (.return_, 1) := by decide +kernel
theorem dX10_weigh_8 : decode cX10_weigh 8 = .ok (.aload_n 0, 1) := by decide +kernel
theorem dX10_weigh_9 : decode cX10_weigh 9 = .ok (.getfield 15, 3) := by decide +kernel
theorem dX10_weigh_12 : decode cX10_weigh 12 = .ok (.iconst 0, 1) := by decide +kernel
theorem dX10_weigh_13 : decode cX10_weigh 13 = .ok (.invokestatic 35, 3) := by decide +kernel
theorem dX10_weigh_16 : decode cX10_weigh 16 = .ok (.aload_n 0, 1) := by decide +kernel
theorem dX10_weigh_17 : decode cX10_weigh 17 = .ok (.getfield 19, 3) := by decide +kernel
theorem dX10_weigh_20 : decode cX10_weigh 20 = .ok (.iconst 0, 1) := by decide +kernel
theorem dX10_weigh_21 : decode cX10_weigh 21 = .ok (.invokestatic 35, 3) := by decide +kernel
theorem dX10_weigh_24 : decode cX10_weigh 24 = .ok (.aload_n 0, 1) := by decide +kernel
theorem dX10_weigh_25 : decode cX10_weigh 25 = .ok (.getfield 31, 3) := by decide +kernel
theorem dX10_weigh_28 : decode cX10_weigh 28 = .ok (.invokevirtual 41, 3) := by decide +kernel
theorem dX10_weigh_31 : decode cX10_weigh 31 = .ok (.iconst 0, 1) := by decide +kernel
theorem dX10_weigh_32 : decode cX10_weigh 32 = .ok (.istore_n 1, 1) := by decide +kernel
theorem dX10_weigh_33 : decode cX10_weigh 33 = .ok (.iload_n 1, 1) := by decide +kernel
theorem dX10_weigh_34 : decode cX10_weigh 34 = .ok (.aload_n 0, 1) := by decide +kernel
theorem dX10_weigh_35 : decode cX10_weigh 35 = .ok (.getfield 22, 3) := by decide +kernel
theorem dX10_weigh_38 : decode cX10_weigh 38 = .ok (.getfield 44, 3) := by decide +kernel
theorem dX10_weigh_41 : decode cX10_weigh 41 = .ok (.if_icmp .ge 27, 3) := by decide +kernel
theorem dX10_weigh_44 : decode cX10_weigh 44 = .ok (.aload_n 0, 1) := by decide +kernel
theorem dX10_weigh_45 : decode cX10_weigh 45 = .ok (.aload_n 0, 1) := by decide +kernel
theorem dX10_weigh_46 : decode cX10_weigh 46 = .ok (.getfield 31, 3) := by decide +kernel
theorem dX10_weigh_49 : decode cX10_weigh 49 = .ok (.getfield 50, 3) := by decide +kernel
theorem dX10_weigh_52 : decode cX10_weigh 52 = .ok (.invokevirtual 53, 3) := by decide +kernel
theorem dX10_weigh_55 : decode cX10_weigh 55 = .ok (.aload_n 0, 1) := by decide +kernel
theorem dX10_weigh_56 : decode cX10_weigh 56 = .ok (.getfield 31, 3) := by decide +kernel
theorem dX10_weigh_59 : decode cX10_weigh 59 = .ok (.invokevirtual 57, 3) := by decide +kernel
theorem dX10_weigh_62 : decode cX10_weigh 62 = .ok (.iinc 1 1, 3) := by decide +kernel
theorem dX10_weigh_65 : decode cX10_weigh 65 = .ok (.goto (-32), 3) := by decide +kernel
theorem dX10_weigh_68 : decode cX10_weigh 68 = .ok (.aload_n 0, 1) := by decide +kernel
theorem dX10_weigh_69 : decode cX10_weigh 69 = .ok (.iconst 1, 1) := by decide +kernel
theorem dX10_weigh_70 : decode cX10_weigh 70 = .ok (.putfield 9, 3) := by decide +kernel
theorem dX10_weigh_73 : decode cX10_weigh 73 = .ok (.return_, 1) := by decide +kernel
theorem dX10_weighOne_0 : decode cX10_weighOne 0 = .ok (.aload_n 0, 1) := by decide +kernel
theorem dX10_weighOne_1 : decode cX10_weighOne 1 = .ok (.getfield 22, 3) := by decide +kernel
theorem dX10_weighOne_4 : decode cX10_weighOne 4 = .ok (.getfield 60, 3) := by decide +kernel
theorem dX10_weighOne_7 : decode cX10_weighOne 7 = .ok (.getfield 64, 3) := by decide +kernel
theorem dX10_weighOne_10 : decode cX10_weighOne 10 = .ok (.istore_n 2, 1) := by decide +kernel
theorem dX10_weighOne_11 : decode cX10_weighOne 11 = .ok (.iconst 0, 1) := by decide +kernel
theorem dX10_weighOne_12 : decode cX10_weighOne 12 = .ok (.istore_n 3, 1) := by decide +kernel
theorem dX10_weighOne_13 : decode cX10_weighOne 13 = .ok (.iconst 0, 1) := by decide +kernel
theorem dX10_weighOne_14 : decode cX10_weighOne 14 = .ok (.istore 4, 2) := by decide +kernel
theorem dX10_weighOne_16 : decode cX10_weighOne 16 = .ok (.iconst 0, 1) := by decide +kernel
theorem dX10_weighOne_17 : decode cX10_weighOne 17 = .ok (.istore 5, 2) := by decide +kernel
theorem dX10_weighOne_19 : decode cX10_weighOne 19 = .ok (.iload 5, 2) := by decide +kernel
theorem dX10_weighOne_21 : decode cX10_weighOne 21 = .ok (.aload_n 1, 1) := by decide +kernel
theorem dX10_weighOne_22 : decode cX10_weighOne 22 = .ok (.arraylength, 1) := by decide +kernel
theorem dX10_weighOne_23 : decode cX10_weighOne 23 = .ok (.if_icmp .ge 46, 3) := by decide +kernel
theorem dX10_weighOne_26 : decode cX10_weighOne 26 = .ok (.aload_n 1, 1) := by decide +kernel
theorem dX10_weighOne_27 : decode cX10_weighOne 27 = .ok (.iload 5, 2) := by decide +kernel
theorem dX10_weighOne_29 : decode cX10_weighOne 29 = .ok (.iaload, 1) := by decide +kernel
theorem dX10_weighOne_30 : decode cX10_weighOne 30 = .ok (.istore 6, 2) := by decide +kernel
theorem dX10_weighOne_32 : decode cX10_weighOne 32 = .ok (.iload 6, 2) := by decide +kernel
theorem dX10_weighOne_34 : decode cX10_weighOne 34 = .ok (.ifCond .le 29, 3) := by decide +kernel
theorem dX10_weighOne_37 : decode cX10_weighOne 37 = .ok (.iinc 3 1, 3) := by decide +kernel
theorem dX10_weighOne_40 : decode cX10_weighOne 40 = .ok (.iload 4, 2) := by decide +kernel
theorem dX10_weighOne_42 : decode cX10_weighOne 42 = .ok (.iload 6, 2) := by decide +kernel
theorem dX10_weighOne_44 : decode cX10_weighOne 44 = .ok (.iload_n 2, 1) := by decide +kernel
theorem dX10_weighOne_45 : decode cX10_weighOne 45 = .ok (.iload 6, 2) := by decide +kernel
theorem dX10_weighOne_47 : decode cX10_weighOne 47 = .ok (.isub, 1) := by decide +kernel
theorem dX10_weighOne_48 : decode cX10_weighOne 48 = .ok (.if_icmp .ge 8, 3) := by decide +kernel
theorem dX10_weighOne_51 : decode cX10_weighOne 51 = .ok (.iload 6, 2) := by decide +kernel
theorem dX10_weighOne_53 : decode cX10_weighOne 53 = .ok (.goto 7, 3) := by decide +kernel
theorem dX10_weighOne_56 : decode cX10_weighOne 56 = .ok (.iload_n 2, 1) := by decide +kernel
theorem dX10_weighOne_57 : decode cX10_weighOne 57 = .ok (.iload 6, 2) := by decide +kernel
theorem dX10_weighOne_59 : decode cX10_weighOne 59 = .ok (.isub, 1) := by decide +kernel
theorem dX10_weighOne_60 : decode cX10_weighOne 60 = .ok (.iadd, 1) := by decide +kernel
theorem dX10_weighOne_61 : decode cX10_weighOne 61 = .ok (.istore 4, 2) := by decide +kernel
theorem dX10_weighOne_63 : decode cX10_weighOne 63 = .ok (.iinc 5 1, 3) := by decide +kernel
theorem dX10_weighOne_66 : decode cX10_weighOne 66 = .ok (.goto (-47), 3) := by decide +kernel
theorem dX10_weighOne_69 : decode cX10_weighOne 69 = .ok (.aload_n 0, 1) := by decide +kernel
theorem dX10_weighOne_70 : decode cX10_weighOne 70 = .ok (.getfield 15, 3) := by decide +kernel
theorem dX10_weighOne_73 : decode cX10_weighOne 73 = .ok (.iload_n 3, 1) := by decide +kernel
theorem dX10_weighOne_74 : decode cX10_weighOne 74 = .ok (.iconst 1, 1) := by decide +kernel
theorem dX10_weighOne_75 : decode cX10_weighOne 75 = .ok (.invokestatic 69, 3) := by decide +kernel
theorem dX10_weighOne_78 : decode cX10_weighOne 78 = .ok (.aload_n 0, 1) := by decide +kernel
theorem dX10_weighOne_79 : decode cX10_weighOne 79 = .ok (.getfield 19, 3) := by decide +kernel
theorem dX10_weighOne_82 : decode cX10_weighOne 82 = .ok (.iload 4, 2) := by decide +kernel
theorem dX10_weighOne_84 : decode cX10_weighOne 84 = .ok (.iconst 1, 1) := by decide +kernel
theorem dX10_weighOne_85 : decode cX10_weighOne 85 = .ok (.invokestatic 69, 3) := by decide +kernel
theorem dX10_weighOne_88 : decode cX10_weighOne 88 = .ok (.return_, 1) := by decide +kernel
theorem dX10_least_0 : decode cX10_least 0 = .ok (.iconst 1, 1) := by decide +kernel
theorem dX10_least_1 : decode cX10_least 1 = .ok (.istore_n 1, 1) := by decide +kernel
theorem dX10_least_2 : decode cX10_least 2 = .ok (.iload_n 1, 1) := by decide +kernel
theorem dX10_least_3 : decode cX10_least 3 = .ok (.aload_n 0, 1) := by decide +kernel
theorem dX10_least_4 : decode cX10_least 4 = .ok (.arraylength, 1) := by decide +kernel
theorem dX10_least_5 : decode cX10_least 5 = .ok (.if_icmp .ge 17, 3) := by decide +kernel
theorem dX10_least_8 : decode cX10_least 8 = .ok (.aload_n 0, 1) := by decide +kernel
theorem dX10_least_9 : decode cX10_least 9 = .ok (.iload_n 1, 1) := by decide +kernel
theorem dX10_least_10 : decode cX10_least 10 = .ok (.iaload, 1) := by decide +kernel
theorem dX10_least_11 : decode cX10_least 11 = .ok (.ifCond .le 5, 3) := by decide +kernel
theorem dX10_least_14 : decode cX10_least 14 = .ok (.iload_n 1, 1) := by decide +kernel
theorem dX10_least_15 : decode cX10_least 15 = .ok (.ireturn, 1) := by decide +kernel
theorem dX10_least_16 : decode cX10_least 16 = .ok (.iinc 1 1, 3) := by decide +kernel
theorem dX10_least_19 : decode cX10_least 19 = .ok (.goto (-17), 3) := by decide +kernel
theorem dX10_least_22 : decode cX10_least 22 = .ok (.iconst (-1), 1) := by decide +kernel
theorem dX10_least_23 : decode cX10_least 23 = .ok (.ireturn, 1) := by decide +kernel
theorem dX11_init_0 : decode cX11_init 0 = .ok (.aload_n 0, 1) := by decide +kernel
theorem dX11_init_1 : decode cX11_init 1 = .ok (.invokespecial 1, 3) := by decide +kernel
theorem dX11_init_4 : decode cX11_init 4 = .ok (.aload_n 0, 1) := by decide +kernel
theorem dX11_init_5 : decode cX11_init 5 = .ok (.new 7, 3) := by decide +kernel
theorem dX11_init_8 : decode cX11_init 8 = .ok (.dup, 1) := by decide +kernel
theorem dX11_init_9 : decode cX11_init 9 = .ok (.invokespecial 9, 3) := by decide +kernel
theorem dX11_init_12 : decode cX11_init 12 = .ok (.putfield 10, 3) := by decide +kernel
theorem dX11_init_15 : decode cX11_init 15 = .ok (.aload_n 0, 1) := by decide +kernel
theorem dX11_init_16 : decode cX11_init 16 = .ok (.bipush 8, 2) := by decide +kernel
theorem dX11_init_18 : decode cX11_init 18 = .ok (.newarray .int, 2) := by decide +kernel
theorem dX11_init_20 : decode cX11_init 20 = .ok (.putfield 16, 3) := by decide +kernel
theorem dX11_init_23 : decode cX11_init 23 = .ok (.aload_n 0, 1) := by decide +kernel
theorem dX11_init_24 : decode cX11_init 24 = .ok (.sipush 4096, 3) := by decide +kernel
theorem dX11_init_27 : decode cX11_init 27 = .ok (.newarray .int, 2) := by decide +kernel
theorem dX11_init_29 : decode cX11_init 29 = .ok (.putfield 20, 3) := by decide +kernel
theorem dX11_init_32 : decode cX11_init 32 = .ok (.aload_n 0, 1) := by decide +kernel
theorem dX11_init_33 : decode cX11_init 33 = .ok (.new 23, 3) := by decide +kernel
theorem dX11_init_36 : decode cX11_init 36 = .ok (.dup, 1) := by decide +kernel
theorem dX11_init_37 : decode cX11_init 37 = .ok (.invokespecial 25, 3) := by decide +kernel
theorem dX11_init_40 : decode cX11_init 40 = .ok (.putfield 26, 3) := by decide +kernel
theorem dX11_init_43 : decode cX11_init 43 = .ok (.aload_n 0, 1) := by decide +kernel
theorem dX11_init_44 : decode cX11_init 44 = .ok (.new 30, 3) := by decide +kernel
theorem dX11_init_47 : decode cX11_init 47 = .ok (.dup, 1) := by decide +kernel
theorem dX11_init_48 : decode cX11_init 48 = .ok (.invokespecial 32, 3) := by decide +kernel
theorem dX11_init_51 : decode cX11_init 51 = .ok (.putfield 33, 3) := by decide +kernel
theorem dX11_init_54 : decode cX11_init 54 = .ok (.aload_n 0, 1) := by decide +kernel
theorem dX11_init_55 : decode cX11_init 55 = .ok (.new 37, 3) := by decide +kernel
theorem dX11_init_58 : decode cX11_init 58 = .ok (.dup, 1) := by decide +kernel
theorem dX11_init_59 : decode cX11_init 59 = .ok (.invokespecial 39, 3) := by decide +kernel
theorem dX11_init_62 : decode cX11_init 62 = .ok (.putfield 40, 3) := by decide +kernel
theorem dX11_init_65 : decode cX11_init 65 = .ok (.aload_n 0, 1) := by decide +kernel
theorem dX11_init_66 : decode cX11_init 66 = .ok (.new 44, 3) := by decide +kernel
theorem dX11_init_69 : decode cX11_init 69 = .ok (.dup, 1) := by decide +kernel
theorem dX11_init_70 : decode cX11_init 70 = .ok (.aload_n 0, 1) := by decide +kernel
theorem dX11_init_71 : decode cX11_init 71 = .ok (.getfield 10, 3) := by decide +kernel
theorem dX11_init_74 : decode cX11_init 74 = .ok (.aload_n 0, 1) := by decide +kernel
theorem dX11_init_75 : decode cX11_init 75 = .ok (.getfield 16, 3) := by decide +kernel
theorem dX11_init_78 : decode cX11_init 78 = .ok (.aload_n 0, 1) := by decide +kernel
theorem dX11_init_79 : decode cX11_init 79 = .ok (.getfield 26, 3) := by decide +kernel
theorem dX11_init_82 : decode cX11_init 82 = .ok (.invokespecial 46, 3) := by decide +kernel
theorem dX11_init_85 : decode cX11_init 85 = .ok (.putfield 49, 3) := by decide +kernel
theorem dX11_init_88 : decode cX11_init 88 = .ok (.aload_n 0, 1) := by decide +kernel
theorem dX11_init_89 : decode cX11_init 89 = .ok (.new 53, 3) := by decide +kernel
theorem dX11_init_92 : decode cX11_init 92 = .ok (.dup, 1) := by decide +kernel
theorem dX11_init_93 : decode cX11_init 93 = .ok (.aload_n 0, 1) := by decide +kernel
theorem dX11_init_94 : decode cX11_init 94 = .ok (.getfield 10, 3) := by decide +kernel
theorem dX11_init_97 : decode cX11_init 97 = .ok (.invokespecial 55, 3) := by decide +kernel
theorem dX11_init_100 : decode cX11_init 100 = .ok (.putfield 58, 3) := by decide +kernel
theorem dX11_init_103 : decode cX11_init 103 = .ok (.aload_n 0, 1) := by decide +kernel
theorem dX11_init_104 : decode cX11_init 104 = .ok (.new 62, 3) := by decide +kernel
theorem dX11_init_107 : decode cX11_init 107 = .ok (.dup, 1) := by decide +kernel
theorem dX11_init_108 : decode cX11_init 108 = .ok (.aload_n 0, 1) := by decide +kernel
theorem dX11_init_109 : decode cX11_init 109 = .ok (.getfield 58, 3) := by decide +kernel
theorem dX11_init_112 : decode cX11_init 112 = .ok (.invokespecial 64, 3) := by decide +kernel
theorem dX11_init_115 : decode cX11_init 115 = .ok (.putfield 67, 3) := by decide +kernel
theorem dX11_init_118 : decode cX11_init 118 = .ok (.aload_n 0, 1) := by decide +kernel
theorem dX11_init_119 : decode cX11_init 119 = .ok (.new 71, 3) := by decide +kernel
theorem dX11_init_122 : decode cX11_init 122 = .ok (.dup, 1) := by decide +kernel
theorem dX11_init_123 : decode cX11_init 123 = .ok (.aload_n 0, 1) := by decide +kernel
theorem dX11_init_124 : decode cX11_init 124 = .ok (.getfield 58, 3) := by decide +kernel
theorem dX11_init_127 : decode cX11_init 127 = .ok (.invokespecial 73, 3) := by decide +kernel
theorem dX11_init_130 : decode cX11_init 130 = .ok (.putfield 74, 3) := by decide +kernel
theorem dX11_init_133 : decode cX11_init 133 = .ok (.aload_n 0, 1) := by decide +kernel
theorem dX11_init_134 : decode cX11_init 134 = .ok (.getfield 10, 3) := by decide +kernel
theorem dX11_init_137 : decode cX11_init 137 = .ok (.iconst 2, 1) := by decide +kernel
theorem dX11_init_138 : decode cX11_init 138 = .ok (.iconst 1, 1) := by decide +kernel
theorem dX11_init_139 : decode cX11_init 139 = .ok (.iconst 1, 1) := by decide +kernel
theorem dX11_init_140 : decode cX11_init 140 = .ok (.invokevirtual 78, 3) := by decide +kernel
theorem dX11_init_143 : decode cX11_init 143 = .ok (.pop, 1) := by decide +kernel
theorem dX11_init_144 : decode cX11_init 144 = .ok (.aload_n 0, 1) := by decide +kernel
theorem dX11_init_145 : decode cX11_init 145 = .ok (.invokevirtual 82, 3) := by decide +kernel
theorem dX11_init_148 : decode cX11_init 148 = .ok (.return_, 1) := by decide +kernel
theorem dX11_ring_0 : decode cX11_ring 0 = .ok (.aload_n 0, 1) := by decide +kernel
theorem dX11_ring_1 : decode cX11_ring 1 = .ok (.getfield 10, 3) := by decide +kernel
theorem dX11_ring_4 : decode cX11_ring 4 = .ok (.iload_n 1, 1) := by decide +kernel
theorem dX11_ring_5 : decode cX11_ring 5 = .ok (.iload_n 2, 1) := by decide +kernel
theorem dX11_ring_6 : decode cX11_ring 6 = .ok (.iload_n 3, 1) := by decide +kernel
theorem dX11_ring_7 : decode cX11_ring 7 = .ok (.invokevirtual 78, 3) := by decide +kernel
theorem dX11_ring_10 : decode cX11_ring 10 = .ok (.ifCond .ne 5, 3) := by decide +kernel
theorem dX11_ring_13 : decode cX11_ring 13 = .ok (.iconst (-1), 1) := by decide +kernel
theorem dX11_ring_14 : decode cX11_ring 14 = .ok (.ireturn, 1) := by decide +kernel
theorem dX11_ring_15 : decode cX11_ring 15 = .ok (.aload_n 0, 1) := by decide +kernel
theorem dX11_ring_16 : decode cX11_ring 16 = .ok (.invokevirtual 82, 3) := by decide +kernel
theorem dX11_ring_19 : decode cX11_ring 19 = .ok (.aload_n 0, 1) := by decide +kernel
theorem dX11_ring_20 : decode cX11_ring 20 = .ok (.getfield 10, 3) := by decide +kernel
theorem dX11_ring_23 : decode cX11_ring 23 = .ok (.getfield 85, 3) := by decide +kernel
theorem dX11_ring_26 : decode cX11_ring 26 = .ok (.ireturn, 1) := by decide +kernel
theorem dX11_feed_0 : decode cX11_feed 0 = .ok (.aload_n 0, 1) := by decide +kernel
theorem dX11_feed_1 : decode cX11_feed 1 = .ok (.getfield 26, 3) := by decide +kernel
theorem dX11_feed_4 : decode cX11_feed 4 = .ok (.getfield 89, 3) := by decide +kernel
theorem dX11_feed_7 : decode cX11_feed 7 = .ok (.bipush 20, 2) := by decide +kernel
theorem dX11_feed_9 : decode cX11_feed 9 = .ok (.iadd, 1) := by decide +kernel
theorem dX11_feed_10 : decode cX11_feed 10 = .ok (.sipush 200, 3) := by decide +kernel
theorem dX11_feed_13 : decode cX11_feed 13 = .ok (.if_icmp .le 5, 3) := by decide +kernel
theorem dX11_feed_16 : decode cX11_feed 16 = .ok (.iconst (-1), 1) := by decide +kernel
theorem dX11_feed_17 : decode cX11_feed 17 = .ok (.ireturn, 1) := by decide +kernel
theorem dX11_feed_18 : decode cX11_feed 18 = .ok (.aload_n 0, 1) := by decide +kernel
theorem dX11_feed_19 : decode cX11_feed 19 = .ok (.getfield 26, 3) := by decide +kernel
theorem dX11_feed_22 : decode cX11_feed 22 = .ok (.iload_n 1, 1) := by decide +kernel
theorem dX11_feed_23 : decode cX11_feed 23 = .ok (.invokevirtual 92, 3) := by decide +kernel
theorem dX11_feed_26 : decode cX11_feed 26 = .ok (.aload_n 0, 1) := by decide +kernel
theorem dX11_feed_27 : decode cX11_feed 27 = .ok (.getfield 26, 3) := by decide +kernel
theorem dX11_feed_30 : decode cX11_feed 30 = .ok (.iload_n 2, 1) := by decide +kernel
theorem dX11_feed_31 : decode cX11_feed 31 = .ok (.invokevirtual 92, 3) := by decide +kernel
theorem dX11_feed_34 : decode cX11_feed 34 = .ok (.aload_n 0, 1) := by decide +kernel
theorem dX11_feed_35 : decode cX11_feed 35 = .ok (.getfield 26, 3) := by decide +kernel
theorem dX11_feed_38 : decode cX11_feed 38 = .ok (.iload_n 3, 1) := by decide +kernel
theorem dX11_feed_39 : decode cX11_feed 39 = .ok (.invokevirtual 92, 3) := by decide +kernel
theorem dX11_feed_42 : decode cX11_feed 42 = .ok (.aload_n 0, 1) := by decide +kernel
theorem dX11_feed_43 : decode cX11_feed 43 = .ok (.getfield 26, 3) := by decide +kernel
theorem dX11_feed_46 : decode cX11_feed 46 = .ok (.iload 4, 2) := by decide +kernel
theorem dX11_feed_48 : decode cX11_feed 48 = .ok (.invokevirtual 92, 3) := by decide +kernel
theorem dX11_feed_51 : decode cX11_feed 51 = .ok (.aload_n 0, 1) := by decide +kernel
theorem dX11_feed_52 : decode cX11_feed 52 = .ok (.getfield 26, 3) := by decide +kernel
theorem dX11_feed_55 : decode cX11_feed 55 = .ok (.iload 5, 2) := by decide +kernel
theorem dX11_feed_57 : decode cX11_feed 57 = .ok (.invokevirtual 92, 3) := by decide +kernel
theorem dX11_feed_60 : decode cX11_feed 60 = .ok (.aload_n 0, 1) := by decide +kernel
theorem dX11_feed_61 : decode cX11_feed 61 = .ok (.getfield 26, 3) := by decide +kernel
theorem dX11_feed_64 : decode cX11_feed 64 = .ok (.getfield 89, 3) := by decide +kernel
theorem dX11_feed_67 : decode cX11_feed 67 = .ok (.ireturn, 1) := by decide +kernel
theorem dX11_tell_0 : decode cX11_tell 0 = .ok (.iload_n 1, 1) := by decide +kernel
theorem dX11_tell_1 : decode cX11_tell 1 = .ok (.ifCond .lt 24, 3) := by decide +kernel
theorem dX11_tell_4 : decode cX11_tell 4 = .ok (.iload_n 1, 1) := by decide +kernel
theorem dX11_tell_5 : decode cX11_tell 5 = .ok (.bipush 8, 2) := by decide +kernel
theorem dX11_tell_7 : decode cX11_tell 7 = .ok (.if_icmp .ge 18, 3) := by decide +kernel
theorem dX11_tell_10 : decode cX11_tell 10 = .ok (.iload_n 2, 1) := by decide +kernel
theorem dX11_tell_11 : decode cX11_tell 11 = .ok (.ifCond .lt 14, 3) := by decide +kernel
theorem dX11_tell_14 : decode cX11_tell 14 = .ok (.iload_n 2, 1) := by decide +kernel
theorem dX11_tell_15 : decode cX11_tell 15 = .ok (.aload_n 0, 1) := by decide +kernel
theorem dX11_tell_16 : decode cX11_tell 16 = .ok (.getfield 26, 3) := by decide +kernel
theorem dX11_tell_19 : decode cX11_tell 19 = .ok (.getfield 89, 3) := by decide +kernel
theorem dX11_tell_22 : decode cX11_tell 22 = .ok (.if_icmp .le 11, 3) := by decide +kernel
theorem dX11_tell_25 : decode cX11_tell 25 = .ok (.new 96, 3) := by decide +kernel
theorem dX11_tell_28 : decode cX11_tell 28 = .ok (.dup, 1) := by decide +kernel
theorem dX11_tell_29 : decode cX11_tell 29 = .ok (.invokespecial 98, 3) := by decide +kernel
theorem dX11_tell_32 : decode cX11_tell 32 = .ok (.athrow, 1) := by decide +kernel
theorem dX11_tell_33 : decode cX11_tell 33 = .ok (.aload_n 0, 1) := by decide +kernel
theorem dX11_tell_34 : decode cX11_tell 34 = .ok (.getfield 49, 3) := by decide +kernel
theorem dX11_tell_37 : decode cX11_tell 37 = .ok (.iload_n 2, 1) := by decide +kernel
theorem dX11_tell_38 : decode cX11_tell 38 = .ok (.invokevirtual 99, 3) := by decide +kernel
theorem dX11_tell_41 : decode cX11_tell 41 = .ok (.istore_n 3, 1) := by decide +kernel
theorem dX11_tell_42 : decode cX11_tell 42 = .ok (.aload_n 0, 1) := by decide +kernel
theorem dX11_tell_43 : decode cX11_tell 43 = .ok (.getfield 26, 3) := by decide +kernel
theorem dX11_tell_46 : decode cX11_tell 46 = .ok (.iconst 0, 1) := by decide +kernel
theorem dX11_tell_47 : decode cX11_tell 47 = .ok (.putfield 89, 3) := by decide +kernel
theorem dX11_tell_50 : decode cX11_tell 50 = .ok (.aload_n 0, 1) := by decide +kernel
theorem dX11_tell_51 : decode cX11_tell 51 = .ok (.getfield 49, 3) := by decide +kernel
theorem dX11_tell_54 : decode cX11_tell 54 = .ok (.getfield 103, 3) := by decide +kernel
theorem dX11_tell_57 : decode cX11_tell 57 = .ok (.ifCond .le 14, 3) := by decide +kernel
theorem dX11_tell_60 : decode cX11_tell 60 = .ok (.bipush (-10), 2) := by decide +kernel
theorem dX11_tell_62 : decode cX11_tell 62 = .ok (.aload_n 0, 1) := by decide +kernel
theorem dX11_tell_63 : decode cX11_tell 63 = .ok (.getfield 49, 3) := by decide +kernel
theorem dX11_tell_66 : decode cX11_tell 66 = .ok (.getfield 103, 3) := by decide +kernel
theorem dX11_tell_69 : decode cX11_tell 69 = .ok (.isub, 1) := by decide +kernel
theorem dX11_tell_70 : decode cX11_tell 70 = .ok (.ireturn, 1) := by decide +kernel
theorem dX11_tell_71 : decode cX11_tell 71 = .ok (.aload_n 0, 1) := by decide +kernel
theorem dX11_tell_72 : decode cX11_tell 72 = .ok (.getfield 49, 3) := by decide +kernel
theorem dX11_tell_75 : decode cX11_tell 75 = .ok (.getfield 106, 3) := by decide +kernel
theorem dX11_tell_78 : decode cX11_tell 78 = .ok (.ifCond .eq 6, 3) := by decide +kernel
theorem dX11_tell_81 : decode cX11_tell 81 = .ok (.bipush (-2), 2) := by decide +kernel
theorem dX11_tell_83 : decode cX11_tell 83 = .ok (.ireturn, 1) := by decide +kernel
theorem dX11_tell_84 : decode cX11_tell 84 = .ok (.aload_n 0, 1) := by decide +kernel
theorem dX11_tell_85 : decode cX11_tell 85 = .ok (.getfield 16, 3) := by decide +kernel
theorem dX11_tell_88 : decode cX11_tell 88 = .ok (.iload_n 1, 1) := by decide +kernel
theorem dX11_tell_89 : decode cX11_tell 89 = .ok (.iload_n 3, 1) := by decide +kernel
theorem dX11_tell_90 : decode cX11_tell 90 = .ok (.iastore, 1) := by decide +kernel
theorem dX11_tell_91 : decode cX11_tell 91 = .ok (.iload_n 3, 1) := by decide +kernel
theorem dX11_tell_92 : decode cX11_tell 92 = .ok (.ireturn, 1) := by decide +kernel
theorem dX11_fault_0 : decode cX11_fault 0 = .ok (.aload_n 0, 1) := by decide +kernel
theorem dX11_fault_1 : decode cX11_fault 1 = .ok (.getfield 49, 3) := by decide +kernel
theorem dX11_fault_4 : decode cX11_fault 4 = .ok (.getfield 110, 3) := by decide +kernel
theorem dX11_fault_7 : decode cX11_fault 7 = .ok (.ireturn, 1) := by decide +kernel
theorem dX11_put_0 : decode cX11_put 0 = .ok (.iload_n 1, 1) := by decide +kernel
theorem dX11_put_1 : decode cX11_put 1 = .ok (.ifCond .lt 24, 3) := by decide +kernel
theorem dX11_put_4 : decode cX11_put 4 = .ok (.iload_n 1, 1) := by decide +kernel
theorem dX11_put_5 : decode cX11_put 5 = .ok (.bipush 8, 2) := by decide +kernel
theorem dX11_put_7 : decode cX11_put 7 = .ok (.if_icmp .ge 18, 3) := by decide +kernel
theorem dX11_put_10 : decode cX11_put 10 = .ok (.aload_n 0, 1) := by decide +kernel
theorem dX11_put_11 : decode cX11_put 11 = .ok (.getfield 10, 3) := by decide +kernel
theorem dX11_put_14 : decode cX11_put 14 = .ok (.iload_n 2, 1) := by decide +kernel
theorem dX11_put_15 : decode cX11_put 15 = .ok (.invokevirtual 113, 3) := by decide +kernel
theorem dX11_put_18 : decode cX11_put 18 = .ok (.ifCond .eq 7, 3) := by decide +kernel
theorem dX11_put_21 : decode cX11_put 21 = .ok (.iconst 1, 1) := by decide +kernel
theorem dX11_put_22 : decode cX11_put 22 = .ok (.goto 4, 3) := by decide +kernel
theorem dX11_put_25 : decode cX11_put 25 = .ok (.iconst 0, 1) := by decide +kernel
theorem dX11_put_26 : decode cX11_put 26 = .ok (.invokestatic 117, 3) := by decide +kernel
theorem dX11_put_29 : decode cX11_put 29 = .ok (.aload_n 0, 1) := by decide +kernel
theorem dX11_put_30 : decode cX11_put 30 = .ok (.getfield 16, 3) := by decide +kernel
theorem dX11_put_33 : decode cX11_put 33 = .ok (.iload_n 1, 1) := by decide +kernel
theorem dX11_put_34 : decode cX11_put 34 = .ok (.invokestatic 121, 3) := by decide +kernel
theorem dX11_put_37 : decode cX11_put 37 = .ok (.istore_n 3, 1) := by decide +kernel
theorem dX11_put_38 : decode cX11_put 38 = .ok (.aload_n 0, 1) := by decide +kernel
theorem dX11_put_39 : decode cX11_put 39 = .ok (.getfield 16, 3) := by decide +kernel
theorem dX11_put_42 : decode cX11_put 42 = .ok (.iload_n 1, 1) := by decide +kernel
theorem dX11_put_43 : decode cX11_put 43 = .ok (.iload_n 2, 1) := by decide +kernel
theorem dX11_put_44 : decode cX11_put 44 = .ok (.invokestatic 127, 3) := by decide +kernel
theorem dX11_put_47 : decode cX11_put 47 = .ok (.iload_n 3, 1) := by decide +kernel
theorem dX11_put_48 : decode cX11_put 48 = .ok (.ireturn, 1) := by decide +kernel
theorem dX11_count_0 : decode cX11_count 0 = .ok (.iload_n 1, 1) := by decide +kernel
theorem dX11_count_1 : decode cX11_count 1 = .ok (.tableswitch 192 0 12 #[67, 75, 83, 91, 99, 107, 115, 141, 149, 157, 165, 173, 184], 67) := by decide +kernel
theorem dX11_count_68 : decode cX11_count 68 = .ok (.aload_n 0, 1) := by decide +kernel
theorem dX11_count_69 : decode cX11_count 69 = .ok (.getfield 10, 3) := by decide +kernel
theorem dX11_count_72 : decode cX11_count 72 = .ok (.getfield 131, 3) := by decide +kernel
theorem dX11_count_75 : decode cX11_count 75 = .ok (.ireturn, 1) := by decide +kernel
theorem dX11_count_76 : decode cX11_count 76 = .ok (.aload_n 0, 1) := by decide +kernel
theorem dX11_count_77 : decode cX11_count 77 = .ok (.getfield 10, 3) := by decide +kernel
theorem dX11_count_80 : decode cX11_count 80 = .ok (.getfield 134, 3) := by decide +kernel
theorem dX11_count_83 : decode cX11_count 83 = .ok (.ireturn, 1) := by decide +kernel
theorem dX11_count_84 : decode cX11_count 84 = .ok (.aload_n 0, 1) := by decide +kernel
theorem dX11_count_85 : decode cX11_count 85 = .ok (.getfield 10, 3) := by decide +kernel
theorem dX11_count_88 : decode cX11_count 88 = .ok (.getfield 137, 3) := by decide +kernel
theorem dX11_count_91 : decode cX11_count 91 = .ok (.ireturn, 1) := by decide +kernel
theorem dX11_count_92 : decode cX11_count 92 = .ok (.aload_n 0, 1) := by decide +kernel
theorem dX11_count_93 : decode cX11_count 93 = .ok (.getfield 10, 3) := by decide +kernel
theorem dX11_count_96 : decode cX11_count 96 = .ok (.getfield 140, 3) := by decide +kernel
theorem dX11_count_99 : decode cX11_count 99 = .ok (.ireturn, 1) := by decide +kernel
theorem dX11_count_100 : decode cX11_count 100 = .ok (.aload_n 0, 1) := by decide +kernel
theorem dX11_count_101 : decode cX11_count 101 = .ok (.getfield 10, 3) := by decide +kernel
theorem dX11_count_104 : decode cX11_count 104 = .ok (.getfield 143, 3) := by decide +kernel
theorem dX11_count_107 : decode cX11_count 107 = .ok (.ireturn, 1) := by decide +kernel
theorem dX11_count_108 : decode cX11_count 108 = .ok (.aload_n 0, 1) := by decide +kernel
theorem dX11_count_109 : decode cX11_count 109 = .ok (.getfield 10, 3) := by decide +kernel
theorem dX11_count_112 : decode cX11_count 112 = .ok (.getfield 85, 3) := by decide +kernel
theorem dX11_count_115 : decode cX11_count 115 = .ok (.ireturn, 1) := by decide +kernel
theorem dX11_count_116 : decode cX11_count 116 = .ok (.aload_n 0, 1) := by decide +kernel
theorem dX11_count_117 : decode cX11_count 117 = .ok (.getfield 10, 3) := by decide +kernel
theorem dX11_count_120 : decode cX11_count 120 = .ok (.getfield 85, 3) := by decide +kernel
theorem dX11_count_123 : decode cX11_count 123 = .ok (.aload_n 0, 1) := by decide +kernel
theorem dX11_count_124 : decode cX11_count 124 = .ok (.getfield 10, 3) := by decide +kernel
theorem dX11_count_127 : decode cX11_count 127 = .ok (.getfield 85, 3) := by decide +kernel
theorem dX11_count_130 : decode cX11_count 130 = .ok (.aload_n 0, 1) := by decide +kernel
theorem dX11_count_131 : decode cX11_count 131 = .ok (.getfield 10, 3) := by decide +kernel
theorem dX11_count_134 : decode cX11_count 134 = .ok (.getfield 143, 3) := by decide +kernel
theorem dX11_count_137 : decode cX11_count 137 = .ok (.invokestatic 146, 3) := by decide +kernel
theorem dX11_count_140 : decode cX11_count 140 = .ok (.isub, 1) := by decide +kernel
theorem dX11_count_141 : decode cX11_count 141 = .ok (.ireturn, 1) := by decide +kernel
theorem dX11_count_142 : decode cX11_count 142 = .ok (.aload_n 0, 1) := by decide +kernel
theorem dX11_count_143 : decode cX11_count 143 = .ok (.getfield 10, 3) := by decide +kernel
theorem dX11_count_146 : decode cX11_count 146 = .ok (.getfield 150, 3) := by decide +kernel
theorem dX11_count_149 : decode cX11_count 149 = .ok (.ireturn, 1) := by decide +kernel
theorem dX11_count_150 : decode cX11_count 150 = .ok (.aload_n 0, 1) := by decide +kernel
theorem dX11_count_151 : decode cX11_count 151 = .ok (.getfield 58, 3) := by decide +kernel
theorem dX11_count_154 : decode cX11_count 154 = .ok (.getfield 153, 3) := by decide +kernel
theorem dX11_count_157 : decode cX11_count 157 = .ok (.ireturn, 1) := by decide +kernel
theorem dX11_count_158 : decode cX11_count 158 = .ok (.aload_n 0, 1) := by decide +kernel
theorem dX11_count_159 : decode cX11_count 159 = .ok (.getfield 58, 3) := by decide +kernel
theorem dX11_count_162 : decode cX11_count 162 = .ok (.getfield 156, 3) := by decide +kernel
theorem dX11_count_165 : decode cX11_count 165 = .ok (.ireturn, 1) := by decide +kernel
theorem dX11_count_166 : decode cX11_count 166 = .ok (.aload_n 0, 1) := by decide +kernel
theorem dX11_count_167 : decode cX11_count 167 = .ok (.getfield 26, 3) := by decide +kernel
theorem dX11_count_170 : decode cX11_count 170 = .ok (.getfield 89, 3) := by decide +kernel
theorem dX11_count_173 : decode cX11_count 173 = .ok (.ireturn, 1) := by decide +kernel
theorem dX11_count_174 : decode cX11_count 174 = .ok (.aload_n 0, 1) := by decide +kernel
theorem dX11_count_175 : decode cX11_count 175 = .ok (.getfield 10, 3) := by decide +kernel
theorem dX11_count_178 : decode cX11_count 178 = .ok (.getfield 137, 3) := by decide +kernel
theorem dX11_count_181 : decode cX11_count 181 = .ok (.invokestatic 159, 3) := by decide +kernel
theorem dX11_count_184 : decode cX11_count 184 = .ok (.ireturn, 1) := by decide +kernel
theorem dX11_count_185 : decode cX11_count 185 = .ok (.aload_n 0, 1) := by decide +kernel
theorem dX11_count_186 : decode cX11_count 186 = .ok (.getfield 10, 3) := by decide +kernel
theorem dX11_count_189 : decode cX11_count 189 = .ok (.invokevirtual 162, 3) := by decide +kernel
theorem dX11_count_192 : decode cX11_count 192 = .ok (.ireturn, 1) := by decide +kernel
theorem dX11_count_193 : decode cX11_count 193 = .ok (.new 166, 3) := by decide +kernel
theorem dX11_count_196 : decode cX11_count 196 = .ok (.dup, 1) := by decide +kernel
theorem dX11_count_197 : decode cX11_count 197 = .ok (.invokespecial 168, 3) := by decide +kernel
theorem dX11_count_200 : decode cX11_count 200 = .ok (.athrow, 1) := by decide +kernel
theorem dX11_modulus_0 : decode cX11_modulus 0 = .ok (.iload_n 1, 1) := by decide +kernel
theorem dX11_modulus_1 : decode cX11_modulus 1 = .ok (.ifCond .lt 18, 3) := by decide +kernel
theorem dX11_modulus_4 : decode cX11_modulus 4 = .ok (.iload_n 1, 1) := by decide +kernel
theorem dX11_modulus_5 : decode cX11_modulus 5 = .ok (.aload_n 0, 1) := by decide +kernel
theorem dX11_modulus_6 : decode cX11_modulus 6 = .ok (.getfield 10, 3) := by decide +kernel
theorem dX11_modulus_9 : decode cX11_modulus 9 = .ok (.getfield 137, 3) := by decide +kernel
theorem dX11_modulus_12 : decode cX11_modulus 12 = .ok (.if_icmp .gt 7, 3) := by decide +kernel
theorem dX11_modulus_15 : decode cX11_modulus 15 = .ok (.iconst 1, 1) := by decide +kernel
theorem dX11_modulus_16 : decode cX11_modulus 16 = .ok (.goto 4, 3) := by decide +kernel
theorem dX11_modulus_19 : decode cX11_modulus 19 = .ok (.iconst 0, 1) := by decide +kernel
theorem dX11_modulus_20 : decode cX11_modulus 20 = .ok (.invokestatic 117, 3) := by decide +kernel
theorem dX11_modulus_23 : decode cX11_modulus 23 = .ok (.aload_n 0, 1) := by decide +kernel
theorem dX11_modulus_24 : decode cX11_modulus 24 = .ok (.getfield 10, 3) := by decide +kernel
theorem dX11_modulus_27 : decode cX11_modulus 27 = .ok (.getfield 169, 3) := by decide +kernel
theorem dX11_modulus_30 : decode cX11_modulus 30 = .ok (.iload_n 1, 1) := by decide +kernel
theorem dX11_modulus_31 : decode cX11_modulus 31 = .ok (.invokestatic 121, 3) := by decide +kernel
theorem dX11_modulus_34 : decode cX11_modulus 34 = .ok (.ireturn, 1) := by decide +kernel
theorem dX11_element_0 : decode cX11_element 0 = .ok (.aload_n 0, 1) := by decide +kernel
theorem dX11_element_1 : decode cX11_element 1 = .ok (.getfield 10, 3) := by decide +kernel
theorem dX11_element_4 : decode cX11_element 4 = .ok (.iload_n 2, 1) := by decide +kernel
theorem dX11_element_5 : decode cX11_element 5 = .ok (.invokevirtual 113, 3) := by decide +kernel
theorem dX11_element_8 : decode cX11_element 8 = .ok (.ifCond .eq 18, 3) := by decide +kernel
theorem dX11_element_11 : decode cX11_element 11 = .ok (.aload_n 0, 1) := by decide +kernel
theorem dX11_element_12 : decode cX11_element 12 = .ok (.getfield 10, 3) := by decide +kernel
theorem dX11_element_15 : decode cX11_element 15 = .ok (.iload_n 3, 1) := by decide +kernel
theorem dX11_element_16 : decode cX11_element 16 = .ok (.invokevirtual 113, 3) := by decide +kernel
theorem dX11_element_19 : decode cX11_element 19 = .ok (.ifCond .eq 7, 3) := by decide +kernel
theorem dX11_element_22 : decode cX11_element 22 = .ok (.iconst 1, 1) := by decide +kernel
theorem dX11_element_23 : decode cX11_element 23 = .ok (.goto 4, 3) := by decide +kernel
theorem dX11_element_26 : decode cX11_element 26 = .ok (.iconst 0, 1) := by decide +kernel
theorem dX11_element_27 : decode cX11_element 27 = .ok (.invokestatic 117, 3) := by decide +kernel
theorem dX11_element_30 : decode cX11_element 30 = .ok (.iload_n 1, 1) := by decide +kernel
theorem dX11_element_31 : decode cX11_element 31 = .ok (.tableswitch 87 0 3 #[29, 39, 49, 59], 29) := by decide +kernel
theorem dX11_element_60 : decode cX11_element 60 = .ok (.aload_n 0, 1) := by decide +kernel
theorem dX11_element_61 : decode cX11_element 61 = .ok (.getfield 10, 3) := by decide +kernel
theorem dX11_element_64 : decode cX11_element 64 = .ok (.iload_n 2, 1) := by decide +kernel
