/-! the decode rows that the walks use, told of the code as their methods name it -/
theorem eX0_isPrime_0 : decode mX0_isPrime.2.1 0 = .ok (.iconst 1, 1) := dX0_isPrime_0
theorem eX0_isPrime_1 : decode mX0_isPrime.2.1 1 = .ok (.istore_n 3, 1) := dX0_isPrime_1
theorem eX0_isPrime_2 : decode mX0_isPrime.2.1 2 = .ok (.iconst 2, 1) := dX0_isPrime_2
theorem eX0_isPrime_3 : decode mX0_isPrime.2.1 3 = .ok (.iload_n 3, 1) := dX0_isPrime_3
theorem eX0_isPrime_4 : decode mX0_isPrime.2.1 4 = .ok (.imul, 1) := dX0_isPrime_4
theorem eX0_isPrime_5 : decode mX0_isPrime.2.1 5 = .ok (.iload_n 1, 1) := dX0_isPrime_5
theorem eX0_isPrime_6 : decode mX0_isPrime.2.1 6 = .ok (.if_icmp .gt 49, 3) := dX0_isPrime_6
theorem eX0_isPrime_9 : decode mX0_isPrime.2.1 9 = .ok (.iload_n 2, 1) := dX0_isPrime_9
theorem eX0_isPrime_10 : decode mX0_isPrime.2.1 10 = .ok (.iload_n 3, 1) := dX0_isPrime_10
theorem eX0_isPrime_11 : decode mX0_isPrime.2.1 11 = .ok (.invokestatic 7, 3) := dX0_isPrime_11
theorem eX0_isPrime_14 : decode mX0_isPrime.2.1 14 = .ok (.istore 4, 2) := dX0_isPrime_14
theorem eX0_isPrime_16 : decode mX0_isPrime.2.1 16 = .ok (.iload 4, 2) := dX0_isPrime_16
theorem eX0_isPrime_18 : decode mX0_isPrime.2.1 18 = .ok (.istore 5, 2) := dX0_isPrime_18
theorem eX0_isPrime_20 : decode mX0_isPrime.2.1 20 = .ok (.iload 5, 2) := dX0_isPrime_20
theorem eX0_isPrime_22 : decode mX0_isPrime.2.1 22 = .ok (.iconst 2, 1) := dX0_isPrime_22
theorem eX0_isPrime_23 : decode mX0_isPrime.2.1 23 = .ok (.iload 4, 2) := dX0_isPrime_23
theorem eX0_isPrime_25 : decode mX0_isPrime.2.1 25 = .ok (.imul, 1) := dX0_isPrime_25
theorem eX0_isPrime_26 : decode mX0_isPrime.2.1 26 = .ok (.if_icmp .ge 23, 3) := dX0_isPrime_26
theorem eX0_isPrime_29 : decode mX0_isPrime.2.1 29 = .ok (.iload_n 0, 1) := dX0_isPrime_29
theorem eX0_isPrime_30 : decode mX0_isPrime.2.1 30 = .ok (.iload_n 1, 1) := dX0_isPrime_30
theorem eX0_isPrime_31 : decode mX0_isPrime.2.1 31 = .ok (.iload 5, 2) := dX0_isPrime_31
theorem eX0_isPrime_33 : decode mX0_isPrime.2.1 33 = .ok (.iload_n 3, 1) := dX0_isPrime_33
theorem eX0_isPrime_34 : decode mX0_isPrime.2.1 34 = .ok (.iload_n 2, 1) := dX0_isPrime_34
theorem eX0_isPrime_35 : decode mX0_isPrime.2.1 35 = .ok (.invokestatic 19, 3) := dX0_isPrime_35
theorem eX0_isPrime_38 : decode mX0_isPrime.2.1 38 = .ok (.ifCond .ne 5, 3) := dX0_isPrime_38
theorem eX0_isPrime_41 : decode mX0_isPrime.2.1 41 = .ok (.iconst 0, 1) := dX0_isPrime_41
theorem eX0_isPrime_42 : decode mX0_isPrime.2.1 42 = .ok (.ireturn, 1) := dX0_isPrime_42
theorem eX0_isPrime_43 : decode mX0_isPrime.2.1 43 = .ok (.iinc 5 1, 3) := dX0_isPrime_43
theorem eX0_isPrime_46 : decode mX0_isPrime.2.1 46 = .ok (.goto (-26), 3) := dX0_isPrime_46
theorem eX0_isPrime_49 : decode mX0_isPrime.2.1 49 = .ok (.iinc 3 1, 3) := dX0_isPrime_49
theorem eX0_isPrime_52 : decode mX0_isPrime.2.1 52 = .ok (.goto (-50), 3) := dX0_isPrime_52
theorem eX0_isPrime_55 : decode mX0_isPrime.2.1 55 = .ok (.iconst 1, 1) := dX0_isPrime_55
theorem eX0_isPrime_56 : decode mX0_isPrime.2.1 56 = .ok (.ireturn, 1) := dX0_isPrime_56
theorem eX0_leastPrime_0 : decode mX0_leastPrime.2.1 0 = .ok (.iload_n 0, 1) := dX0_leastPrime_0
theorem eX0_leastPrime_1 : decode mX0_leastPrime.2.1 1 = .ok (.iload_n 1, 1) := dX0_leastPrime_1
theorem eX0_leastPrime_2 : decode mX0_leastPrime.2.1 2 = .ok (.invokestatic 7, 3) := dX0_leastPrime_2
theorem eX0_leastPrime_5 : decode mX0_leastPrime.2.1 5 = .ok (.istore_n 2, 1) := dX0_leastPrime_5
theorem eX0_leastPrime_6 : decode mX0_leastPrime.2.1 6 = .ok (.iload_n 2, 1) := dX0_leastPrime_6
theorem eX0_leastPrime_7 : decode mX0_leastPrime.2.1 7 = .ok (.istore_n 3, 1) := dX0_leastPrime_7
theorem eX0_leastPrime_8 : decode mX0_leastPrime.2.1 8 = .ok (.iload_n 3, 1) := dX0_leastPrime_8
theorem eX0_leastPrime_9 : decode mX0_leastPrime.2.1 9 = .ok (.iconst 2, 1) := dX0_leastPrime_9
theorem eX0_leastPrime_10 : decode mX0_leastPrime.2.1 10 = .ok (.iload_n 2, 1) := dX0_leastPrime_10
theorem eX0_leastPrime_11 : decode mX0_leastPrime.2.1 11 = .ok (.imul, 1) := dX0_leastPrime_11
theorem eX0_leastPrime_12 : decode mX0_leastPrime.2.1 12 = .ok (.if_icmp .ge 20, 3) := dX0_leastPrime_12
theorem eX0_leastPrime_15 : decode mX0_leastPrime.2.1 15 = .ok (.iload_n 3, 1) := dX0_leastPrime_15
theorem eX0_leastPrime_16 : decode mX0_leastPrime.2.1 16 = .ok (.iload_n 1, 1) := dX0_leastPrime_16
theorem eX0_leastPrime_17 : decode mX0_leastPrime.2.1 17 = .ok (.iload_n 0, 1) := dX0_leastPrime_17
theorem eX0_leastPrime_18 : decode mX0_leastPrime.2.1 18 = .ok (.invokestatic 13, 3) := dX0_leastPrime_18
theorem eX0_leastPrime_21 : decode mX0_leastPrime.2.1 21 = .ok (.ifCond .eq 5, 3) := dX0_leastPrime_21
theorem eX0_leastPrime_24 : decode mX0_leastPrime.2.1 24 = .ok (.iload_n 3, 1) := dX0_leastPrime_24
theorem eX0_leastPrime_25 : decode mX0_leastPrime.2.1 25 = .ok (.ireturn, 1) := dX0_leastPrime_25
theorem eX0_leastPrime_26 : decode mX0_leastPrime.2.1 26 = .ok (.iinc 3 1, 3) := dX0_leastPrime_26
theorem eX0_leastPrime_29 : decode mX0_leastPrime.2.1 29 = .ok (.goto (-21), 3) := dX0_leastPrime_29
theorem eX0_leastPrime_32 : decode mX0_leastPrime.2.1 32 = .ok (.iload_n 2, 1) := dX0_leastPrime_32
theorem eX0_leastPrime_33 : decode mX0_leastPrime.2.1 33 = .ok (.ireturn, 1) := dX0_leastPrime_33
theorem eX0_leftBy_0 : decode mX0_leftBy.2.1 0 = .ok (.iload_n 0, 1) := dX0_leftBy_0
theorem eX0_leftBy_1 : decode mX0_leftBy.2.1 1 = .ok (.istore 5, 2) := dX0_leftBy_1
theorem eX0_leftBy_3 : decode mX0_leftBy.2.1 3 = .ok (.iload_n 1, 1) := dX0_leftBy_3
theorem eX0_leftBy_4 : decode mX0_leftBy.2.1 4 = .ok (.iload_n 3, 1) := dX0_leftBy_4
theorem eX0_leftBy_5 : decode mX0_leftBy.2.1 5 = .ok (.isub, 1) := dX0_leftBy_5
theorem eX0_leftBy_6 : decode mX0_leftBy.2.1 6 = .ok (.istore 6, 2) := dX0_leftBy_6
theorem eX0_leftBy_8 : decode mX0_leftBy.2.1 8 = .ok (.iload 6, 2) := dX0_leftBy_8
theorem eX0_leftBy_10 : decode mX0_leftBy.2.1 10 = .ok (.ifCond .lt 52, 3) := dX0_leftBy_10
theorem eX0_leftBy_13 : decode mX0_leftBy.2.1 13 = .ok (.iload 4, 2) := dX0_leftBy_13
theorem eX0_leftBy_15 : decode mX0_leftBy.2.1 15 = .ok (.iload 6, 2) := dX0_leftBy_15
theorem eX0_leftBy_17 : decode mX0_leftBy.2.1 17 = .ok (.invokestatic 7, 3) := dX0_leftBy_17
theorem eX0_leftBy_20 : decode mX0_leftBy.2.1 20 = .ok (.istore 7, 2) := dX0_leftBy_20
theorem eX0_leftBy_22 : decode mX0_leftBy.2.1 22 = .ok (.iload 5, 2) := dX0_leftBy_22
theorem eX0_leftBy_24 : decode mX0_leftBy.2.1 24 = .ok (.iload 4, 2) := dX0_leftBy_24
theorem eX0_leftBy_26 : decode mX0_leftBy.2.1 26 = .ok (.iload_n 3, 1) := dX0_leftBy_26
theorem eX0_leftBy_27 : decode mX0_leftBy.2.1 27 = .ok (.iload 6, 2) := dX0_leftBy_27
theorem eX0_leftBy_29 : decode mX0_leftBy.2.1 29 = .ok (.iadd, 1) := dX0_leftBy_29
theorem eX0_leftBy_30 : decode mX0_leftBy.2.1 30 = .ok (.invokestatic 7, 3) := dX0_leftBy_30
theorem eX0_leftBy_33 : decode mX0_leftBy.2.1 33 = .ok (.invokestatic 23, 3) := dX0_leftBy_33
theorem eX0_leftBy_36 : decode mX0_leftBy.2.1 36 = .ok (.istore 8, 2) := dX0_leftBy_36
theorem eX0_leftBy_38 : decode mX0_leftBy.2.1 38 = .ok (.iload 5, 2) := dX0_leftBy_38
theorem eX0_leftBy_40 : decode mX0_leftBy.2.1 40 = .ok (.iload_n 2, 1) := dX0_leftBy_40
theorem eX0_leftBy_41 : decode mX0_leftBy.2.1 41 = .ok (.iload 7, 2) := dX0_leftBy_41
theorem eX0_leftBy_43 : decode mX0_leftBy.2.1 43 = .ok (.imul, 1) := dX0_leftBy_43
theorem eX0_leftBy_44 : decode mX0_leftBy.2.1 44 = .ok (.iload 4, 2) := dX0_leftBy_44
theorem eX0_leftBy_46 : decode mX0_leftBy.2.1 46 = .ok (.iload 8, 2) := dX0_leftBy_46
theorem eX0_leftBy_48 : decode mX0_leftBy.2.1 48 = .ok (.isub, 1) := dX0_leftBy_48
theorem eX0_leftBy_49 : decode mX0_leftBy.2.1 49 = .ok (.iload 4, 2) := dX0_leftBy_49
theorem eX0_leftBy_51 : decode mX0_leftBy.2.1 51 = .ok (.invokestatic 26, 3) := dX0_leftBy_51
theorem eX0_leftBy_54 : decode mX0_leftBy.2.1 54 = .ok (.istore 5, 2) := dX0_leftBy_54
theorem eX0_leftBy_56 : decode mX0_leftBy.2.1 56 = .ok (.iinc 6 (-1), 3) := dX0_leftBy_56
theorem eX0_leftBy_59 : decode mX0_leftBy.2.1 59 = .ok (.goto (-51), 3) := dX0_leftBy_59
theorem eX0_leftBy_62 : decode mX0_leftBy.2.1 62 = .ok (.iload 5, 2) := dX0_leftBy_62
theorem eX0_leftBy_64 : decode mX0_leftBy.2.1 64 = .ok (.ireturn, 1) := dX0_leftBy_64
theorem eX1_become_0 : decode mX1_become.2.1 0 = .ok (.aload_n 0, 1) := dX1_become_0
theorem eX1_become_1 : decode mX1_become.2.1 1 = .ok (.aload_n 1, 1) := dX1_become_1
theorem eX1_become_2 : decode mX1_become.2.1 2 = .ok (.getfield 35, 3) := dX1_become_2
theorem eX1_become_5 : decode mX1_become.2.1 5 = .ok (.putfield 9, 3) := dX1_become_5
theorem eX1_become_8 : decode mX1_become.2.1 8 = .ok (.aload_n 0, 1) := dX1_become_8
theorem eX1_become_9 : decode mX1_become.2.1 9 = .ok (.iconst 0, 1) := dX1_become_9
theorem eX1_become_10 : decode mX1_become.2.1 10 = .ok (.putfield 15, 3) := dX1_become_10
theorem eX1_become_13 : decode mX1_become.2.1 13 = .ok (.aload_n 0, 1) := dX1_become_13
theorem eX1_become_14 : decode mX1_become.2.1 14 = .ok (.getfield 24, 3) := dX1_become_14
theorem eX1_become_17 : decode mX1_become.2.1 17 = .ok (.iconst 0, 1) := dX1_become_17
theorem eX1_become_18 : decode mX1_become.2.1 18 = .ok (.invokestatic 38, 3) := dX1_become_18
theorem eX1_become_21 : decode mX1_become.2.1 21 = .ok (.aload_n 0, 1) := dX1_become_21
theorem eX1_become_22 : decode mX1_become.2.1 22 = .ok (.getfield 28, 3) := dX1_become_22
theorem eX1_become_25 : decode mX1_become.2.1 25 = .ok (.iconst 0, 1) := dX1_become_25
theorem eX1_become_26 : decode mX1_become.2.1 26 = .ok (.invokestatic 38, 3) := dX1_become_26
theorem eX1_become_29 : decode mX1_become.2.1 29 = .ok (.aload_n 0, 1) := dX1_become_29
theorem eX1_become_30 : decode mX1_become.2.1 30 = .ok (.getfield 24, 3) := dX1_become_30
theorem eX1_become_33 : decode mX1_become.2.1 33 = .ok (.iconst 0, 1) := dX1_become_33
theorem eX1_become_34 : decode mX1_become.2.1 34 = .ok (.iconst 1, 1) := dX1_become_34
theorem eX1_become_35 : decode mX1_become.2.1 35 = .ok (.iastore, 1) := dX1_become_35
theorem eX1_become_36 : decode mX1_become.2.1 36 = .ok (.aload_n 0, 1) := dX1_become_36
theorem eX1_become_37 : decode mX1_become.2.1 37 = .ok (.getfield 28, 3) := dX1_become_37
theorem eX1_become_40 : decode mX1_become.2.1 40 = .ok (.iconst 0, 1) := dX1_become_40
theorem eX1_become_41 : decode mX1_become.2.1 41 = .ok (.iconst 1, 1) := dX1_become_41
theorem eX1_become_42 : decode mX1_become.2.1 42 = .ok (.iastore, 1) := dX1_become_42
theorem eX1_become_43 : decode mX1_become.2.1 43 = .ok (.aload_n 0, 1) := dX1_become_43
theorem eX1_become_44 : decode mX1_become.2.1 44 = .ok (.getfield 31, 3) := dX1_become_44
theorem eX1_become_47 : decode mX1_become.2.1 47 = .ok (.getfield 44, 3) := dX1_become_47
theorem eX1_become_50 : decode mX1_become.2.1 50 = .ok (.iconst 1, 1) := dX1_become_50
theorem eX1_become_51 : decode mX1_become.2.1 51 = .ok (.isub, 1) := dX1_become_51
theorem eX1_become_52 : decode mX1_become.2.1 52 = .ok (.aload_n 0, 1) := dX1_become_52
theorem eX1_become_53 : decode mX1_become.2.1 53 = .ok (.getfield 9, 3) := dX1_become_53
theorem eX1_become_56 : decode mX1_become.2.1 56 = .ok (.invokestatic 49, 3) := dX1_become_56
theorem eX1_become_59 : decode mX1_become.2.1 59 = .ok (.istore_n 3, 1) := dX1_become_59
theorem eX1_become_60 : decode mX1_become.2.1 60 = .ok (.iconst 0, 1) := dX1_become_60
theorem eX1_become_61 : decode mX1_become.2.1 61 = .ok (.istore 4, 2) := dX1_become_61
theorem eX1_become_63 : decode mX1_become.2.1 63 = .ok (.iload 4, 2) := dX1_become_63
theorem eX1_become_65 : decode mX1_become.2.1 65 = .ok (.aload_n 0, 1) := dX1_become_65
theorem eX1_become_66 : decode mX1_become.2.1 66 = .ok (.getfield 9, 3) := dX1_become_66
theorem eX1_become_69 : decode mX1_become.2.1 69 = .ok (.if_icmp .ge 100, 3) := dX1_become_69
theorem eX1_become_72 : decode mX1_become.2.1 72 = .ok (.aload_n 0, 1) := dX1_become_72
theorem eX1_become_73 : decode mX1_become.2.1 73 = .ok (.getfield 31, 3) := dX1_become_73
theorem eX1_become_76 : decode mX1_become.2.1 76 = .ok (.getfield 55, 3) := dX1_become_76
theorem eX1_become_79 : decode mX1_become.2.1 79 = .ok (.iload 4, 2) := dX1_become_79
theorem eX1_become_81 : decode mX1_become.2.1 81 = .ok (.iload_n 3, 1) := dX1_become_81
theorem eX1_become_82 : decode mX1_become.2.1 82 = .ok (.imul, 1) := dX1_become_82
theorem eX1_become_83 : decode mX1_become.2.1 83 = .ok (.invokestatic 58, 3) := dX1_become_83
theorem eX1_become_86 : decode mX1_become.2.1 86 = .ok (.istore 5, 2) := dX1_become_86
theorem eX1_become_88 : decode mX1_become.2.1 88 = .ok (.aload_n 1, 1) := dX1_become_88
theorem eX1_become_89 : decode mX1_become.2.1 89 = .ok (.iload 4, 2) := dX1_become_89
theorem eX1_become_91 : decode mX1_become.2.1 91 = .ok (.invokevirtual 62, 3) := dX1_become_91
theorem eX1_become_94 : decode mX1_become.2.1 94 = .ok (.istore 6, 2) := dX1_become_94
theorem eX1_become_96 : decode mX1_become.2.1 96 = .ok (.iload 6, 2) := dX1_become_96
theorem eX1_become_98 : decode mX1_become.2.1 98 = .ok (.bipush 30, 2) := dX1_become_98
theorem eX1_become_100 : decode mX1_become.2.1 100 = .ok (.if_icmp .gt 43, 3) := dX1_become_100
theorem eX1_become_103 : decode mX1_become.2.1 103 = .ok (.iload_n 2, 1) := dX1_become_103
theorem eX1_become_104 : decode mX1_become.2.1 104 = .ok (.iload 6, 2) := dX1_become_104
theorem eX1_become_106 : decode mX1_become.2.1 106 = .ok (.ishr, 1) := dX1_become_106
theorem eX1_become_107 : decode mX1_become.2.1 107 = .ok (.iconst 1, 1) := dX1_become_107
theorem eX1_become_108 : decode mX1_become.2.1 108 = .ok (.iand, 1) := dX1_become_108
theorem eX1_become_109 : decode mX1_become.2.1 109 = .ok (.iconst 1, 1) := dX1_become_109
theorem eX1_become_110 : decode mX1_become.2.1 110 = .ok (.if_icmp .ne 33, 3) := dX1_become_110
theorem eX1_become_113 : decode mX1_become.2.1 113 = .ok (.aload_n 0, 1) := dX1_become_113
theorem eX1_become_114 : decode mX1_become.2.1 114 = .ok (.getfield 31, 3) := dX1_become_114
theorem eX1_become_117 : decode mX1_become.2.1 117 = .ok (.aload_n 0, 1) := dX1_become_117
theorem eX1_become_118 : decode mX1_become.2.1 118 = .ok (.getfield 24, 3) := dX1_become_118
theorem eX1_become_121 : decode mX1_become.2.1 121 = .ok (.aload_n 0, 1) := dX1_become_121
theorem eX1_become_122 : decode mX1_become.2.1 122 = .ok (.getfield 15, 3) := dX1_become_122
theorem eX1_become_125 : decode mX1_become.2.1 125 = .ok (.iload 5, 2) := dX1_become_125
theorem eX1_become_127 : decode mX1_become.2.1 127 = .ok (.invokevirtual 66, 3) := dX1_become_127
theorem eX1_become_130 : decode mX1_become.2.1 130 = .ok (.aload_n 0, 1) := dX1_become_130
theorem eX1_become_131 : decode mX1_become.2.1 131 = .ok (.dup, 1) := dX1_become_131
theorem eX1_become_132 : decode mX1_become.2.1 132 = .ok (.getfield 15, 3) := dX1_become_132
theorem eX1_become_135 : decode mX1_become.2.1 135 = .ok (.iconst 1, 1) := dX1_become_135
theorem eX1_become_136 : decode mX1_become.2.1 136 = .ok (.iadd, 1) := dX1_become_136
theorem eX1_become_137 : decode mX1_become.2.1 137 = .ok (.putfield 15, 3) := dX1_become_137
theorem eX1_become_140 : decode mX1_become.2.1 140 = .ok (.goto 23, 3) := dX1_become_140
theorem eX1_become_143 : decode mX1_become.2.1 143 = .ok (.aload_n 0, 1) := dX1_become_143
theorem eX1_become_144 : decode mX1_become.2.1 144 = .ok (.getfield 31, 3) := dX1_become_144
theorem eX1_become_147 : decode mX1_become.2.1 147 = .ok (.aload_n 0, 1) := dX1_become_147
theorem eX1_become_148 : decode mX1_become.2.1 148 = .ok (.getfield 28, 3) := dX1_become_148
theorem eX1_become_151 : decode mX1_become.2.1 151 = .ok (.iload 4, 2) := dX1_become_151
theorem eX1_become_153 : decode mX1_become.2.1 153 = .ok (.aload_n 0, 1) := dX1_become_153
theorem eX1_become_154 : decode mX1_become.2.1 154 = .ok (.getfield 15, 3) := dX1_become_154
theorem eX1_become_157 : decode mX1_become.2.1 157 = .ok (.isub, 1) := dX1_become_157
theorem eX1_become_158 : decode mX1_become.2.1 158 = .ok (.iload 5, 2) := dX1_become_158
theorem eX1_become_160 : decode mX1_become.2.1 160 = .ok (.invokevirtual 66, 3) := dX1_become_160
theorem eX1_become_163 : decode mX1_become.2.1 163 = .ok (.iinc 4 1, 3) := dX1_become_163
theorem eX1_become_166 : decode mX1_become.2.1 166 = .ok (.goto (-103), 3) := dX1_become_166
theorem eX1_become_169 : decode mX1_become.2.1 169 = .ok (.aload_n 0, 1) := dX1_become_169
theorem eX1_become_170 : decode mX1_become.2.1 170 = .ok (.aload_n 0, 1) := dX1_become_170
theorem eX1_become_171 : decode mX1_become.2.1 171 = .ok (.getfield 9, 3) := dX1_become_171
theorem eX1_become_174 : decode mX1_become.2.1 174 = .ok (.aload_n 0, 1) := dX1_become_174
theorem eX1_become_175 : decode mX1_become.2.1 175 = .ok (.getfield 15, 3) := dX1_become_175
theorem eX1_become_178 : decode mX1_become.2.1 178 = .ok (.isub, 1) := dX1_become_178
theorem eX1_become_179 : decode mX1_become.2.1 179 = .ok (.putfield 18, 3) := dX1_become_179
theorem eX1_become_182 : decode mX1_become.2.1 182 = .ok (.aload_n 0, 1) := dX1_become_182
theorem eX1_become_183 : decode mX1_become.2.1 183 = .ok (.aload_n 0, 1) := dX1_become_183
theorem eX1_become_184 : decode mX1_become.2.1 184 = .ok (.invokevirtual 70, 3) := dX1_become_184
theorem eX1_become_187 : decode mX1_become.2.1 187 = .ok (.putfield 21, 3) := dX1_become_187
theorem eX1_become_190 : decode mX1_become.2.1 190 = .ok (.return_, 1) := dX1_become_190
theorem eX1_init_0 : decode mX1_init.2.1 0 = .ok (.aload_n 0, 1) := dX1_init_0
theorem eX1_init_1 : decode mX1_init.2.1 1 = .ok (.invokespecial 3, 3) := dX1_init_1
theorem eX1_init_4 : decode mX1_init.2.1 4 = .ok (.aload_n 0, 1) := dX1_init_4
theorem eX1_init_5 : decode mX1_init.2.1 5 = .ok (.iconst 1, 1) := dX1_init_5
theorem eX1_init_6 : decode mX1_init.2.1 6 = .ok (.putfield 9, 3) := dX1_init_6
theorem eX1_init_9 : decode mX1_init.2.1 9 = .ok (.aload_n 0, 1) := dX1_init_9
theorem eX1_init_10 : decode mX1_init.2.1 10 = .ok (.iconst 0, 1) := dX1_init_10
theorem eX1_init_11 : decode mX1_init.2.1 11 = .ok (.putfield 15, 3) := dX1_init_11
theorem eX1_init_14 : decode mX1_init.2.1 14 = .ok (.aload_n 0, 1) := dX1_init_14
theorem eX1_init_15 : decode mX1_init.2.1 15 = .ok (.iconst 1, 1) := dX1_init_15
theorem eX1_init_16 : decode mX1_init.2.1 16 = .ok (.putfield 18, 3) := dX1_init_16
theorem eX1_init_19 : decode mX1_init.2.1 19 = .ok (.aload_n 0, 1) := dX1_init_19
theorem eX1_init_20 : decode mX1_init.2.1 20 = .ok (.iconst 2, 1) := dX1_init_20
theorem eX1_init_21 : decode mX1_init.2.1 21 = .ok (.putfield 21, 3) := dX1_init_21
theorem eX1_init_24 : decode mX1_init.2.1 24 = .ok (.aload_n 0, 1) := dX1_init_24
theorem eX1_init_25 : decode mX1_init.2.1 25 = .ok (.bipush 64, 2) := dX1_init_25
theorem eX1_init_27 : decode mX1_init.2.1 27 = .ok (.newarray .int, 2) := dX1_init_27
theorem eX1_init_29 : decode mX1_init.2.1 29 = .ok (.putfield 24, 3) := dX1_init_29
theorem eX1_init_32 : decode mX1_init.2.1 32 = .ok (.aload_n 0, 1) := dX1_init_32
theorem eX1_init_33 : decode mX1_init.2.1 33 = .ok (.bipush 64, 2) := dX1_init_33
theorem eX1_init_35 : decode mX1_init.2.1 35 = .ok (.newarray .int, 2) := dX1_init_35
theorem eX1_init_37 : decode mX1_init.2.1 37 = .ok (.putfield 28, 3) := dX1_init_37
theorem eX1_init_40 : decode mX1_init.2.1 40 = .ok (.aload_n 0, 1) := dX1_init_40
theorem eX1_init_41 : decode mX1_init.2.1 41 = .ok (.aload_n 1, 1) := dX1_init_41
theorem eX1_init_42 : decode mX1_init.2.1 42 = .ok (.putfield 31, 3) := dX1_init_42
theorem eX1_init_45 : decode mX1_init.2.1 45 = .ok (.return_, 1) := dX1_init_45
theorem eX1_smallWords_0 : decode mX1_smallWords.2.1 0 = .ok (.iconst 1, 1) := dX1_smallWords_0
theorem eX1_smallWords_1 : decode mX1_smallWords.2.1 1 = .ok (.istore_n 1, 1) := dX1_smallWords_1
theorem eX1_smallWords_2 : decode mX1_smallWords.2.1 2 = .ok (.iconst 0, 1) := dX1_smallWords_2
theorem eX1_smallWords_3 : decode mX1_smallWords.2.1 3 = .ok (.istore_n 2, 1) := dX1_smallWords_3
theorem eX1_smallWords_4 : decode mX1_smallWords.2.1 4 = .ok (.iload_n 2, 1) := dX1_smallWords_4
theorem eX1_smallWords_5 : decode mX1_smallWords.2.1 5 = .ok (.aload_n 0, 1) := dX1_smallWords_5
theorem eX1_smallWords_6 : decode mX1_smallWords.2.1 6 = .ok (.getfield 18, 3) := dX1_smallWords_6
theorem eX1_smallWords_9 : decode mX1_smallWords.2.1 9 = .ok (.if_icmp .ge 25, 3) := dX1_smallWords_9
theorem eX1_smallWords_12 : decode mX1_smallWords.2.1 12 = .ok (.iload_n 1, 1) := dX1_smallWords_12
theorem eX1_smallWords_13 : decode mX1_smallWords.2.1 13 = .ok (.ldc 74, 2) := dX1_smallWords_13
theorem eX1_smallWords_15 : decode mX1_smallWords.2.1 15 = .ok (.if_icmp .gt 19, 3) := dX1_smallWords_15
theorem eX1_smallWords_18 : decode mX1_smallWords.2.1 18 = .ok (.iload_n 1, 1) := dX1_smallWords_18
theorem eX1_smallWords_19 : decode mX1_smallWords.2.1 19 = .ok (.aload_n 0, 1) := dX1_smallWords_19
theorem eX1_smallWords_20 : decode mX1_smallWords.2.1 20 = .ok (.getfield 31, 3) := dX1_smallWords_20
theorem eX1_smallWords_23 : decode mX1_smallWords.2.1 23 = .ok (.getfield 75, 3) := dX1_smallWords_23
theorem eX1_smallWords_26 : decode mX1_smallWords.2.1 26 = .ok (.imul, 1) := dX1_smallWords_26
theorem eX1_smallWords_27 : decode mX1_smallWords.2.1 27 = .ok (.istore_n 1, 1) := dX1_smallWords_27
theorem eX1_smallWords_28 : decode mX1_smallWords.2.1 28 = .ok (.iinc 2 1, 3) := dX1_smallWords_28
theorem eX1_smallWords_31 : decode mX1_smallWords.2.1 31 = .ok (.goto (-27), 3) := dX1_smallWords_31
theorem eX1_smallWords_34 : decode mX1_smallWords.2.1 34 = .ok (.iload_n 1, 1) := dX1_smallWords_34
theorem eX1_smallWords_35 : decode mX1_smallWords.2.1 35 = .ok (.ldc 74, 2) := dX1_smallWords_35
theorem eX1_smallWords_37 : decode mX1_smallWords.2.1 37 = .ok (.if_icmp .gt 7, 3) := dX1_smallWords_37
theorem eX1_smallWords_40 : decode mX1_smallWords.2.1 40 = .ok (.iload_n 1, 1) := dX1_smallWords_40
theorem eX1_smallWords_41 : decode mX1_smallWords.2.1 41 = .ok (.goto 4, 3) := dX1_smallWords_41
theorem eX1_smallWords_44 : decode mX1_smallWords.2.1 44 = .ok (.iconst 0, 1) := dX1_smallWords_44
theorem eX1_smallWords_45 : decode mX1_smallWords.2.1 45 = .ok (.ireturn, 1) := dX1_smallWords_45
theorem eX2_become_0 : decode mX2_become.2.1 0 = .ok (.iload_n 1, 1) := dX2_become_0
theorem eX2_become_1 : decode mX2_become.2.1 1 = .ok (.iload_n 2, 1) := dX2_become_1
theorem eX2_become_2 : decode mX2_become.2.1 2 = .ok (.iload_n 3, 1) := dX2_become_2
theorem eX2_become_3 : decode mX2_become.2.1 3 = .ok (.invokestatic 60, 3) := dX2_become_3
theorem eX2_become_6 : decode mX2_become.2.1 6 = .ok (.ifCond .ne 5, 3) := dX2_become_6
theorem eX2_become_11 : decode mX2_become.2.1 11 = .ok (.aload_n 0, 1) := dX2_become_11
theorem eX2_become_12 : decode mX2_become.2.1 12 = .ok (.iload_n 1, 1) := dX2_become_12
theorem eX2_become_13 : decode mX2_become.2.1 13 = .ok (.putfield 9, 3) := dX2_become_13
theorem eX2_become_16 : decode mX2_become.2.1 16 = .ok (.aload_n 0, 1) := dX2_become_16
theorem eX2_become_17 : decode mX2_become.2.1 17 = .ok (.iload_n 2, 1) := dX2_become_17
theorem eX2_become_18 : decode mX2_become.2.1 18 = .ok (.putfield 15, 3) := dX2_become_18
theorem eX2_become_21 : decode mX2_become.2.1 21 = .ok (.aload_n 0, 1) := dX2_become_21
theorem eX2_become_22 : decode mX2_become.2.1 22 = .ok (.iload_n 3, 1) := dX2_become_22
theorem eX2_become_23 : decode mX2_become.2.1 23 = .ok (.putfield 18, 3) := dX2_become_23
theorem eX2_become_26 : decode mX2_become.2.1 26 = .ok (.aload_n 0, 1) := dX2_become_26
theorem eX2_become_27 : decode mX2_become.2.1 27 = .ok (.aload_n 0, 1) := dX2_become_27
theorem eX2_become_28 : decode mX2_become.2.1 28 = .ok (.getfield 9, 3) := dX2_become_28
theorem eX2_become_31 : decode mX2_become.2.1 31 = .ok (.aload_n 0, 1) := dX2_become_31
theorem eX2_become_32 : decode mX2_become.2.1 32 = .ok (.getfield 15, 3) := dX2_become_32
theorem eX2_become_35 : decode mX2_become.2.1 35 = .ok (.invokestatic 64, 3) := dX2_become_35
theorem eX2_become_38 : decode mX2_become.2.1 38 = .ok (.putfield 21, 3) := dX2_become_38
theorem eX2_become_41 : decode mX2_become.2.1 41 = .ok (.aload_n 0, 1) := dX2_become_41
theorem eX2_become_42 : decode mX2_become.2.1 42 = .ok (.aload_n 0, 1) := dX2_become_42
theorem eX2_become_43 : decode mX2_become.2.1 43 = .ok (.getfield 9, 3) := dX2_become_43
theorem eX2_become_46 : decode mX2_become.2.1 46 = .ok (.aload_n 0, 1) := dX2_become_46
theorem eX2_become_47 : decode mX2_become.2.1 47 = .ok (.getfield 18, 3) := dX2_become_47
theorem eX2_become_50 : decode mX2_become.2.1 50 = .ok (.invokestatic 64, 3) := dX2_become_50
theorem eX2_become_53 : decode mX2_become.2.1 53 = .ok (.putfield 24, 3) := dX2_become_53
theorem eX2_become_56 : decode mX2_become.2.1 56 = .ok (.aload_n 0, 1) := dX2_become_56
theorem eX2_become_57 : decode mX2_become.2.1 57 = .ok (.aload_n 0, 1) := dX2_become_57
theorem eX2_become_58 : decode mX2_become.2.1 58 = .ok (.getfield 24, 3) := dX2_become_58
theorem eX2_become_61 : decode mX2_become.2.1 61 = .ok (.aload_n 0, 1) := dX2_become_61
theorem eX2_become_62 : decode mX2_become.2.1 62 = .ok (.getfield 15, 3) := dX2_become_62
theorem eX2_become_65 : decode mX2_become.2.1 65 = .ok (.invokestatic 64, 3) := dX2_become_65
theorem eX2_become_68 : decode mX2_become.2.1 68 = .ok (.putfield 27, 3) := dX2_become_68
theorem eX2_become_71 : decode mX2_become.2.1 71 = .ok (.aload_n 0, 1) := dX2_become_71
theorem eX2_become_72 : decode mX2_become.2.1 72 = .ok (.invokevirtual 70, 3) := dX2_become_72
theorem eX2_become_75 : decode mX2_become.2.1 75 = .ok (.aload_n 0, 1) := dX2_become_75
theorem eX2_become_76 : decode mX2_become.2.1 76 = .ok (.invokevirtual 73, 3) := dX2_become_76
theorem eX2_become_79 : decode mX2_become.2.1 79 = .ok (.aload_n 0, 1) := dX2_become_79
theorem eX2_become_80 : decode mX2_become.2.1 80 = .ok (.invokevirtual 76, 3) := dX2_become_80
theorem eX2_become_83 : decode mX2_become.2.1 83 = .ok (.aload_n 0, 1) := dX2_become_83
theorem eX2_become_84 : decode mX2_become.2.1 84 = .ok (.invokevirtual 79, 3) := dX2_become_84
theorem eX2_become_87 : decode mX2_become.2.1 87 = .ok (.iconst 1, 1) := dX2_become_87
theorem eX2_become_88 : decode mX2_become.2.1 88 = .ok (.ireturn, 1) := dX2_become_88
theorem eX2_byP_0 : decode mX2_byP.2.1 0 = .ok (.iconst 0, 1) := dX2_byP_0
theorem eX2_byP_1 : decode mX2_byP.2.1 1 = .ok (.istore_n 2, 1) := dX2_byP_1
theorem eX2_byP_2 : decode mX2_byP.2.1 2 = .ok (.iconst 1, 1) := dX2_byP_2
theorem eX2_byP_3 : decode mX2_byP.2.1 3 = .ok (.istore_n 3, 1) := dX2_byP_3
theorem eX2_byP_4 : decode mX2_byP.2.1 4 = .ok (.iload_n 1, 1) := dX2_byP_4
theorem eX2_byP_5 : decode mX2_byP.2.1 5 = .ok (.istore 4, 2) := dX2_byP_5
theorem eX2_byP_7 : decode mX2_byP.2.1 7 = .ok (.iconst 0, 1) := dX2_byP_7
theorem eX2_byP_8 : decode mX2_byP.2.1 8 = .ok (.istore 5, 2) := dX2_byP_8
theorem eX2_byP_10 : decode mX2_byP.2.1 10 = .ok (.iload 5, 2) := dX2_byP_10
theorem eX2_byP_12 : decode mX2_byP.2.1 12 = .ok (.aload_n 0, 1) := dX2_byP_12
theorem eX2_byP_13 : decode mX2_byP.2.1 13 = .ok (.getfield 18, 3) := dX2_byP_13
theorem eX2_byP_16 : decode mX2_byP.2.1 16 = .ok (.if_icmp .ge 48, 3) := dX2_byP_16
theorem eX2_byP_19 : decode mX2_byP.2.1 19 = .ok (.iload_n 2, 1) := dX2_byP_19
theorem eX2_byP_20 : decode mX2_byP.2.1 20 = .ok (.iload_n 3, 1) := dX2_byP_20
theorem eX2_byP_21 : decode mX2_byP.2.1 21 = .ok (.iload 4, 2) := dX2_byP_21
theorem eX2_byP_23 : decode mX2_byP.2.1 23 = .ok (.aload_n 0, 1) := dX2_byP_23
theorem eX2_byP_24 : decode mX2_byP.2.1 24 = .ok (.getfield 21, 3) := dX2_byP_24
theorem eX2_byP_27 : decode mX2_byP.2.1 27 = .ok (.invokestatic 87, 3) := dX2_byP_27
theorem eX2_byP_30 : decode mX2_byP.2.1 30 = .ok (.aload_n 0, 1) := dX2_byP_30
theorem eX2_byP_31 : decode mX2_byP.2.1 31 = .ok (.getfield 9, 3) := dX2_byP_31
theorem eX2_byP_34 : decode mX2_byP.2.1 34 = .ok (.invokestatic 94, 3) := dX2_byP_34
theorem eX2_byP_37 : decode mX2_byP.2.1 37 = .ok (.imul, 1) := dX2_byP_37
theorem eX2_byP_38 : decode mX2_byP.2.1 38 = .ok (.iadd, 1) := dX2_byP_38
theorem eX2_byP_39 : decode mX2_byP.2.1 39 = .ok (.istore_n 2, 1) := dX2_byP_39
theorem eX2_byP_40 : decode mX2_byP.2.1 40 = .ok (.iload 4, 2) := dX2_byP_40
theorem eX2_byP_42 : decode mX2_byP.2.1 42 = .ok (.aload_n 0, 1) := dX2_byP_42
theorem eX2_byP_43 : decode mX2_byP.2.1 43 = .ok (.getfield 21, 3) := dX2_byP_43
theorem eX2_byP_46 : decode mX2_byP.2.1 46 = .ok (.invokestatic 94, 3) := dX2_byP_46
theorem eX2_byP_49 : decode mX2_byP.2.1 49 = .ok (.istore 4, 2) := dX2_byP_49
theorem eX2_byP_51 : decode mX2_byP.2.1 51 = .ok (.iload_n 3, 1) := dX2_byP_51
theorem eX2_byP_52 : decode mX2_byP.2.1 52 = .ok (.aload_n 0, 1) := dX2_byP_52
theorem eX2_byP_53 : decode mX2_byP.2.1 53 = .ok (.getfield 21, 3) := dX2_byP_53
theorem eX2_byP_56 : decode mX2_byP.2.1 56 = .ok (.imul, 1) := dX2_byP_56
theorem eX2_byP_57 : decode mX2_byP.2.1 57 = .ok (.istore_n 3, 1) := dX2_byP_57
theorem eX2_byP_58 : decode mX2_byP.2.1 58 = .ok (.iinc 5 1, 3) := dX2_byP_58
theorem eX2_byP_61 : decode mX2_byP.2.1 61 = .ok (.goto (-51), 3) := dX2_byP_61
theorem eX2_byP_64 : decode mX2_byP.2.1 64 = .ok (.iload_n 2, 1) := dX2_byP_64
theorem eX2_byP_65 : decode mX2_byP.2.1 65 = .ok (.ireturn, 1) := dX2_byP_65
theorem eX2_commonOrder_0 : decode mX2_commonOrder.2.1 0 = .ok (.iconst 1, 1) := dX2_commonOrder_0
theorem eX2_commonOrder_1 : decode mX2_commonOrder.2.1 1 = .ok (.istore_n 1, 1) := dX2_commonOrder_1
theorem eX2_commonOrder_2 : decode mX2_commonOrder.2.1 2 = .ok (.iconst 0, 1) := dX2_commonOrder_2
theorem eX2_commonOrder_3 : decode mX2_commonOrder.2.1 3 = .ok (.istore_n 2, 1) := dX2_commonOrder_3
theorem eX2_commonOrder_4 : decode mX2_commonOrder.2.1 4 = .ok (.iload_n 2, 1) := dX2_commonOrder_4
theorem eX2_commonOrder_5 : decode mX2_commonOrder.2.1 5 = .ok (.aload_n 0, 1) := dX2_commonOrder_5
theorem eX2_commonOrder_6 : decode mX2_commonOrder.2.1 6 = .ok (.getfield 27, 3) := dX2_commonOrder_6
theorem eX2_commonOrder_9 : decode mX2_commonOrder.2.1 9 = .ok (.if_icmp .ge 27, 3) := dX2_commonOrder_9
theorem eX2_commonOrder_12 : decode mX2_commonOrder.2.1 12 = .ok (.aload_n 0, 1) := dX2_commonOrder_12
theorem eX2_commonOrder_13 : decode mX2_commonOrder.2.1 13 = .ok (.iload_n 2, 1) := dX2_commonOrder_13
theorem eX2_commonOrder_14 : decode mX2_commonOrder.2.1 14 = .ok (.invokevirtual 157, 3) := dX2_commonOrder_14
theorem eX2_commonOrder_17 : decode mX2_commonOrder.2.1 17 = .ok (.ifCond .ne 13, 3) := dX2_commonOrder_17
theorem eX2_commonOrder_20 : decode mX2_commonOrder.2.1 20 = .ok (.iload_n 1, 1) := dX2_commonOrder_20
theorem eX2_commonOrder_21 : decode mX2_commonOrder.2.1 21 = .ok (.aload_n 0, 1) := dX2_commonOrder_21
theorem eX2_commonOrder_22 : decode mX2_commonOrder.2.1 22 = .ok (.iload_n 2, 1) := dX2_commonOrder_22
theorem eX2_commonOrder_23 : decode mX2_commonOrder.2.1 23 = .ok (.invokevirtual 186, 3) := dX2_commonOrder_23
theorem eX2_commonOrder_26 : decode mX2_commonOrder.2.1 26 = .ok (.invokestatic 189, 3) := dX2_commonOrder_26
theorem eX2_commonOrder_29 : decode mX2_commonOrder.2.1 29 = .ok (.istore_n 1, 1) := dX2_commonOrder_29
theorem eX2_commonOrder_30 : decode mX2_commonOrder.2.1 30 = .ok (.iinc 2 1, 3) := dX2_commonOrder_30
theorem eX2_commonOrder_33 : decode mX2_commonOrder.2.1 33 = .ok (.goto (-29), 3) := dX2_commonOrder_33
theorem eX2_commonOrder_36 : decode mX2_commonOrder.2.1 36 = .ok (.aload_n 0, 1) := dX2_commonOrder_36
theorem eX2_commonOrder_37 : decode mX2_commonOrder.2.1 37 = .ok (.getfield 24, 3) := dX2_commonOrder_37
theorem eX2_commonOrder_40 : decode mX2_commonOrder.2.1 40 = .ok (.iconst 1, 1) := dX2_commonOrder_40
theorem eX2_commonOrder_41 : decode mX2_commonOrder.2.1 41 = .ok (.isub, 1) := dX2_commonOrder_41
theorem eX2_commonOrder_42 : decode mX2_commonOrder.2.1 42 = .ok (.iload_n 1, 1) := dX2_commonOrder_42
theorem eX2_commonOrder_43 : decode mX2_commonOrder.2.1 43 = .ok (.imul, 1) := dX2_commonOrder_43
theorem eX2_commonOrder_44 : decode mX2_commonOrder.2.1 44 = .ok (.ireturn, 1) := dX2_commonOrder_44
theorem eX2_digitLog_0 : decode mX2_digitLog.2.1 0 = .ok (.iload_n 1, 1) := dX2_digitLog_0
theorem eX2_digitLog_1 : decode mX2_digitLog.2.1 1 = .ok (.istore_n 3, 1) := dX2_digitLog_1
theorem eX2_digitLog_2 : decode mX2_digitLog.2.1 2 = .ok (.iconst 0, 1) := dX2_digitLog_2
theorem eX2_digitLog_3 : decode mX2_digitLog.2.1 3 = .ok (.istore 4, 2) := dX2_digitLog_3
theorem eX2_digitLog_5 : decode mX2_digitLog.2.1 5 = .ok (.iload 4, 2) := dX2_digitLog_5
theorem eX2_digitLog_7 : decode mX2_digitLog.2.1 7 = .ok (.iload_n 2, 1) := dX2_digitLog_7
theorem eX2_digitLog_8 : decode mX2_digitLog.2.1 8 = .ok (.if_icmp .ge 24, 3) := dX2_digitLog_8
theorem eX2_digitLog_11 : decode mX2_digitLog.2.1 11 = .ok (.aload_n 0, 1) := dX2_digitLog_11
theorem eX2_digitLog_12 : decode mX2_digitLog.2.1 12 = .ok (.aload_n 0, 1) := dX2_digitLog_12
theorem eX2_digitLog_13 : decode mX2_digitLog.2.1 13 = .ok (.iload_n 3, 1) := dX2_digitLog_13
theorem eX2_digitLog_14 : decode mX2_digitLog.2.1 14 = .ok (.aload_n 0, 1) := dX2_digitLog_14
theorem eX2_digitLog_15 : decode mX2_digitLog.2.1 15 = .ok (.iload_n 3, 1) := dX2_digitLog_15
theorem eX2_digitLog_16 : decode mX2_digitLog.2.1 16 = .ok (.invokevirtual 161, 3) := dX2_digitLog_16
theorem eX2_digitLog_19 : decode mX2_digitLog.2.1 19 = .ok (.invokevirtual 146, 3) := dX2_digitLog_19
theorem eX2_digitLog_22 : decode mX2_digitLog.2.1 22 = .ok (.invokevirtual 164, 3) := dX2_digitLog_22
theorem eX2_digitLog_25 : decode mX2_digitLog.2.1 25 = .ok (.istore_n 3, 1) := dX2_digitLog_25
theorem eX2_digitLog_26 : decode mX2_digitLog.2.1 26 = .ok (.iinc 4 1, 3) := dX2_digitLog_26
theorem eX2_digitLog_29 : decode mX2_digitLog.2.1 29 = .ok (.goto (-24), 3) := dX2_digitLog_29
theorem eX2_digitLog_32 : decode mX2_digitLog.2.1 32 = .ok (.aload_n 0, 1) := dX2_digitLog_32
theorem eX2_digitLog_33 : decode mX2_digitLog.2.1 33 = .ok (.iload_n 3, 1) := dX2_digitLog_33
theorem eX2_digitLog_34 : decode mX2_digitLog.2.1 34 = .ok (.invokevirtual 157, 3) := dX2_digitLog_34
theorem eX2_digitLog_37 : decode mX2_digitLog.2.1 37 = .ok (.ireturn, 1) := dX2_digitLog_37
theorem eX2_exists_0 : decode mX2_exists.2.1 0 = .ok (.iload_n 0, 1) := dX2_exists_0
theorem eX2_exists_1 : decode mX2_exists.2.1 1 = .ok (.iconst 2, 1) := dX2_exists_1
theorem eX2_exists_2 : decode mX2_exists.2.1 2 = .ok (.if_icmp .eq 19, 3) := dX2_exists_2
theorem eX2_exists_5 : decode mX2_exists.2.1 5 = .ok (.iload_n 0, 1) := dX2_exists_5
theorem eX2_exists_6 : decode mX2_exists.2.1 6 = .ok (.iconst 3, 1) := dX2_exists_6
theorem eX2_exists_7 : decode mX2_exists.2.1 7 = .ok (.if_icmp .eq 14, 3) := dX2_exists_7
theorem eX2_exists_10 : decode mX2_exists.2.1 10 = .ok (.iload_n 0, 1) := dX2_exists_10
theorem eX2_exists_11 : decode mX2_exists.2.1 11 = .ok (.iconst 5, 1) := dX2_exists_11
theorem eX2_exists_12 : decode mX2_exists.2.1 12 = .ok (.if_icmp .eq 9, 3) := dX2_exists_12
theorem eX2_exists_15 : decode mX2_exists.2.1 15 = .ok (.iload_n 0, 1) := dX2_exists_15
theorem eX2_exists_16 : decode mX2_exists.2.1 16 = .ok (.bipush 7, 2) := dX2_exists_16
theorem eX2_exists_18 : decode mX2_exists.2.1 18 = .ok (.if_icmp .ne 28, 3) := dX2_exists_18
theorem eX2_exists_21 : decode mX2_exists.2.1 21 = .ok (.iload_n 1, 1) := dX2_exists_21
theorem eX2_exists_22 : decode mX2_exists.2.1 22 = .ok (.iconst 1, 1) := dX2_exists_22
theorem eX2_exists_23 : decode mX2_exists.2.1 23 = .ok (.if_icmp .lt 23, 3) := dX2_exists_23
theorem eX2_exists_26 : decode mX2_exists.2.1 26 = .ok (.iload_n 1, 1) := dX2_exists_26
theorem eX2_exists_27 : decode mX2_exists.2.1 27 = .ok (.iconst 4, 1) := dX2_exists_27
theorem eX2_exists_28 : decode mX2_exists.2.1 28 = .ok (.if_icmp .gt 18, 3) := dX2_exists_28
theorem eX2_exists_31 : decode mX2_exists.2.1 31 = .ok (.iload_n 2, 1) := dX2_exists_31
theorem eX2_exists_32 : decode mX2_exists.2.1 32 = .ok (.iconst 1, 1) := dX2_exists_32
theorem eX2_exists_33 : decode mX2_exists.2.1 33 = .ok (.if_icmp .lt 13, 3) := dX2_exists_33
theorem eX2_exists_36 : decode mX2_exists.2.1 36 = .ok (.iload_n 2, 1) := dX2_exists_36
theorem eX2_exists_37 : decode mX2_exists.2.1 37 = .ok (.bipush 6, 2) := dX2_exists_37
theorem eX2_exists_39 : decode mX2_exists.2.1 39 = .ok (.if_icmp .gt 7, 3) := dX2_exists_39
theorem eX2_exists_42 : decode mX2_exists.2.1 42 = .ok (.iconst 1, 1) := dX2_exists_42
theorem eX2_exists_43 : decode mX2_exists.2.1 43 = .ok (.goto 4, 3) := dX2_exists_43
theorem eX2_exists_46 : decode mX2_exists.2.1 46 = .ok (.iconst 0, 1) := dX2_exists_46
theorem eX2_exists_47 : decode mX2_exists.2.1 47 = .ok (.istore_n 3, 1) := dX2_exists_47
theorem eX2_exists_48 : decode mX2_exists.2.1 48 = .ok (.iconst 1, 1) := dX2_exists_48
theorem eX2_exists_49 : decode mX2_exists.2.1 49 = .ok (.istore 4, 2) := dX2_exists_49
theorem eX2_exists_51 : decode mX2_exists.2.1 51 = .ok (.iconst 0, 1) := dX2_exists_51
theorem eX2_exists_52 : decode mX2_exists.2.1 52 = .ok (.istore 5, 2) := dX2_exists_52
theorem eX2_exists_54 : decode mX2_exists.2.1 54 = .ok (.iload_n 3, 1) := dX2_exists_54
theorem eX2_exists_55 : decode mX2_exists.2.1 55 = .ok (.ifCond .eq 31, 3) := dX2_exists_55
theorem eX2_exists_58 : decode mX2_exists.2.1 58 = .ok (.iload 5, 2) := dX2_exists_58
theorem eX2_exists_60 : decode mX2_exists.2.1 60 = .ok (.iload_n 1, 1) := dX2_exists_60
theorem eX2_exists_61 : decode mX2_exists.2.1 61 = .ok (.iload_n 2, 1) := dX2_exists_61
theorem eX2_exists_62 : decode mX2_exists.2.1 62 = .ok (.imul, 1) := dX2_exists_62
theorem eX2_exists_63 : decode mX2_exists.2.1 63 = .ok (.if_icmp .ge 23, 3) := dX2_exists_63
theorem eX2_exists_66 : decode mX2_exists.2.1 66 = .ok (.iload 4, 2) := dX2_exists_66
theorem eX2_exists_68 : decode mX2_exists.2.1 68 = .ok (.sipush 4096, 3) := dX2_exists_68
theorem eX2_exists_71 : decode mX2_exists.2.1 71 = .ok (.if_icmp .gt 15, 3) := dX2_exists_71
theorem eX2_exists_74 : decode mX2_exists.2.1 74 = .ok (.iload 4, 2) := dX2_exists_74
theorem eX2_exists_76 : decode mX2_exists.2.1 76 = .ok (.iload_n 0, 1) := dX2_exists_76
theorem eX2_exists_77 : decode mX2_exists.2.1 77 = .ok (.imul, 1) := dX2_exists_77
theorem eX2_exists_78 : decode mX2_exists.2.1 78 = .ok (.istore 4, 2) := dX2_exists_78
theorem eX2_exists_80 : decode mX2_exists.2.1 80 = .ok (.iinc 5 1, 3) := dX2_exists_80
theorem eX2_exists_83 : decode mX2_exists.2.1 83 = .ok (.goto (-29), 3) := dX2_exists_83
theorem eX2_exists_86 : decode mX2_exists.2.1 86 = .ok (.iload_n 3, 1) := dX2_exists_86
theorem eX2_exists_87 : decode mX2_exists.2.1 87 = .ok (.ifCond .eq 15, 3) := dX2_exists_87
theorem eX2_exists_90 : decode mX2_exists.2.1 90 = .ok (.iload 4, 2) := dX2_exists_90
theorem eX2_exists_92 : decode mX2_exists.2.1 92 = .ok (.sipush 4096, 3) := dX2_exists_92
theorem eX2_exists_95 : decode mX2_exists.2.1 95 = .ok (.if_icmp .gt 7, 3) := dX2_exists_95
theorem eX2_exists_98 : decode mX2_exists.2.1 98 = .ok (.iconst 1, 1) := dX2_exists_98
theorem eX2_exists_99 : decode mX2_exists.2.1 99 = .ok (.goto 4, 3) := dX2_exists_99
theorem eX2_exists_102 : decode mX2_exists.2.1 102 = .ok (.iconst 0, 1) := dX2_exists_102
theorem eX2_exists_103 : decode mX2_exists.2.1 103 = .ok (.ireturn, 1) := dX2_exists_103
theorem eX2_fillImages_0 : decode mX2_fillImages.2.1 0 = .ok (.iconst 0, 1) := dX2_fillImages_0
theorem eX2_fillImages_1 : decode mX2_fillImages.2.1 1 = .ok (.istore_n 1, 1) := dX2_fillImages_1
theorem eX2_fillImages_2 : decode mX2_fillImages.2.1 2 = .ok (.iload_n 1, 1) := dX2_fillImages_2
theorem eX2_fillImages_3 : decode mX2_fillImages.2.1 3 = .ok (.aload_n 0, 1) := dX2_fillImages_3
theorem eX2_fillImages_4 : decode mX2_fillImages.2.1 4 = .ok (.getfield 18, 3) := dX2_fillImages_4
theorem eX2_fillImages_7 : decode mX2_fillImages.2.1 7 = .ok (.if_icmp .ge 42, 3) := dX2_fillImages_7
theorem eX2_fillImages_10 : decode mX2_fillImages.2.1 10 = .ok (.iload_n 1, 1) := dX2_fillImages_10
theorem eX2_fillImages_11 : decode mX2_fillImages.2.1 11 = .ok (.aload_n 0, 1) := dX2_fillImages_11
theorem eX2_fillImages_12 : decode mX2_fillImages.2.1 12 = .ok (.getfield 45, 3) := dX2_fillImages_12
theorem eX2_fillImages_15 : decode mX2_fillImages.2.1 15 = .ok (.arraylength, 1) := dX2_fillImages_15
theorem eX2_fillImages_16 : decode mX2_fillImages.2.1 16 = .ok (.if_icmp .ge 33, 3) := dX2_fillImages_16
theorem eX2_fillImages_19 : decode mX2_fillImages.2.1 19 = .ok (.aload_n 0, 1) := dX2_fillImages_19
theorem eX2_fillImages_20 : decode mX2_fillImages.2.1 20 = .ok (.aload_n 0, 1) := dX2_fillImages_20
theorem eX2_fillImages_21 : decode mX2_fillImages.2.1 21 = .ok (.aload_n 0, 1) := dX2_fillImages_21
theorem eX2_fillImages_22 : decode mX2_fillImages.2.1 22 = .ok (.invokevirtual 103, 3) := dX2_fillImages_22
theorem eX2_fillImages_25 : decode mX2_fillImages.2.1 25 = .ok (.aload_n 0, 1) := dX2_fillImages_25
theorem eX2_fillImages_26 : decode mX2_fillImages.2.1 26 = .ok (.getfield 9, 3) := dX2_fillImages_26
theorem eX2_fillImages_29 : decode mX2_fillImages.2.1 29 = .ok (.iload_n 1, 1) := dX2_fillImages_29
theorem eX2_fillImages_30 : decode mX2_fillImages.2.1 30 = .ok (.imul, 1) := dX2_fillImages_30
theorem eX2_fillImages_31 : decode mX2_fillImages.2.1 31 = .ok (.invokevirtual 110, 3) := dX2_fillImages_31
theorem eX2_fillImages_34 : decode mX2_fillImages.2.1 34 = .ok (.aload_n 0, 1) := dX2_fillImages_34
theorem eX2_fillImages_35 : decode mX2_fillImages.2.1 35 = .ok (.getfield 45, 3) := dX2_fillImages_35
theorem eX2_fillImages_38 : decode mX2_fillImages.2.1 38 = .ok (.iload_n 1, 1) := dX2_fillImages_38
theorem eX2_fillImages_39 : decode mX2_fillImages.2.1 39 = .ok (.aaload, 1) := dX2_fillImages_39
theorem eX2_fillImages_40 : decode mX2_fillImages.2.1 40 = .ok (.invokevirtual 120, 3) := dX2_fillImages_40
theorem eX2_fillImages_43 : decode mX2_fillImages.2.1 43 = .ok (.iinc 1 1, 3) := dX2_fillImages_43
theorem eX2_fillImages_46 : decode mX2_fillImages.2.1 46 = .ok (.goto (-44), 3) := dX2_fillImages_46
theorem eX2_fillImages_49 : decode mX2_fillImages.2.1 49 = .ok (.return_, 1) := dX2_fillImages_49
theorem eX2_fillLogs_0 : decode mX2_fillLogs.2.1 0 = .ok (.aload_n 0, 1) := dX2_fillLogs_0
theorem eX2_fillLogs_1 : decode mX2_fillLogs.2.1 1 = .ok (.getfield 40, 3) := dX2_fillLogs_1
theorem eX2_fillLogs_4 : decode mX2_fillLogs.2.1 4 = .ok (.iconst (-1), 1) := dX2_fillLogs_4
theorem eX2_fillLogs_5 : decode mX2_fillLogs.2.1 5 = .ok (.invokestatic 97, 3) := dX2_fillLogs_5
theorem eX2_fillLogs_8 : decode mX2_fillLogs.2.1 8 = .ok (.iconst 1, 1) := dX2_fillLogs_8
theorem eX2_fillLogs_9 : decode mX2_fillLogs.2.1 9 = .ok (.istore_n 1, 1) := dX2_fillLogs_9
theorem eX2_fillLogs_10 : decode mX2_fillLogs.2.1 10 = .ok (.iconst 0, 1) := dX2_fillLogs_10
theorem eX2_fillLogs_11 : decode mX2_fillLogs.2.1 11 = .ok (.istore_n 2, 1) := dX2_fillLogs_11
theorem eX2_fillLogs_12 : decode mX2_fillLogs.2.1 12 = .ok (.iload_n 2, 1) := dX2_fillLogs_12
theorem eX2_fillLogs_13 : decode mX2_fillLogs.2.1 13 = .ok (.aload_n 0, 1) := dX2_fillLogs_13
theorem eX2_fillLogs_14 : decode mX2_fillLogs.2.1 14 = .ok (.getfield 24, 3) := dX2_fillLogs_14
theorem eX2_fillLogs_17 : decode mX2_fillLogs.2.1 17 = .ok (.iconst 1, 1) := dX2_fillLogs_17
theorem eX2_fillLogs_18 : decode mX2_fillLogs.2.1 18 = .ok (.isub, 1) := dX2_fillLogs_18
theorem eX2_fillLogs_19 : decode mX2_fillLogs.2.1 19 = .ok (.if_icmp .ge 49, 3) := dX2_fillLogs_19
theorem eX2_fillLogs_22 : decode mX2_fillLogs.2.1 22 = .ok (.aload_n 0, 1) := dX2_fillLogs_22
theorem eX2_fillLogs_23 : decode mX2_fillLogs.2.1 23 = .ok (.getfield 37, 3) := dX2_fillLogs_23
theorem eX2_fillLogs_26 : decode mX2_fillLogs.2.1 26 = .ok (.iload_n 2, 1) := dX2_fillLogs_26
theorem eX2_fillLogs_27 : decode mX2_fillLogs.2.1 27 = .ok (.iload_n 1, 1) := dX2_fillLogs_27
theorem eX2_fillLogs_28 : decode mX2_fillLogs.2.1 28 = .ok (.invokestatic 90, 3) := dX2_fillLogs_28
theorem eX2_fillLogs_31 : decode mX2_fillLogs.2.1 31 = .ok (.aload_n 0, 1) := dX2_fillLogs_31
theorem eX2_fillLogs_32 : decode mX2_fillLogs.2.1 32 = .ok (.getfield 40, 3) := dX2_fillLogs_32
theorem eX2_fillLogs_35 : decode mX2_fillLogs.2.1 35 = .ok (.aload_n 0, 1) := dX2_fillLogs_35
theorem eX2_fillLogs_36 : decode mX2_fillLogs.2.1 36 = .ok (.iload_n 1, 1) := dX2_fillLogs_36
theorem eX2_fillLogs_37 : decode mX2_fillLogs.2.1 37 = .ok (.aload_n 0, 1) := dX2_fillLogs_37
theorem eX2_fillLogs_38 : decode mX2_fillLogs.2.1 38 = .ok (.getfield 21, 3) := dX2_fillLogs_38
theorem eX2_fillLogs_41 : decode mX2_fillLogs.2.1 41 = .ok (.aload_n 0, 1) := dX2_fillLogs_41
theorem eX2_fillLogs_42 : decode mX2_fillLogs.2.1 42 = .ok (.getfield 9, 3) := dX2_fillLogs_42
theorem eX2_fillLogs_45 : decode mX2_fillLogs.2.1 45 = .ok (.invokevirtual 124, 3) := dX2_fillLogs_45
theorem eX2_fillLogs_48 : decode mX2_fillLogs.2.1 48 = .ok (.iload_n 2, 1) := dX2_fillLogs_48
theorem eX2_fillLogs_49 : decode mX2_fillLogs.2.1 49 = .ok (.invokestatic 90, 3) := dX2_fillLogs_49
theorem eX2_fillLogs_52 : decode mX2_fillLogs.2.1 52 = .ok (.aload_n 0, 1) := dX2_fillLogs_52
theorem eX2_fillLogs_53 : decode mX2_fillLogs.2.1 53 = .ok (.iload_n 1, 1) := dX2_fillLogs_53
theorem eX2_fillLogs_54 : decode mX2_fillLogs.2.1 54 = .ok (.aload_n 0, 1) := dX2_fillLogs_54
theorem eX2_fillLogs_55 : decode mX2_fillLogs.2.1 55 = .ok (.getfield 30, 3) := dX2_fillLogs_55
theorem eX2_fillLogs_58 : decode mX2_fillLogs.2.1 58 = .ok (.invokevirtual 132, 3) := dX2_fillLogs_58
theorem eX2_fillLogs_61 : decode mX2_fillLogs.2.1 61 = .ok (.istore_n 1, 1) := dX2_fillLogs_61
theorem eX2_fillLogs_62 : decode mX2_fillLogs.2.1 62 = .ok (.iinc 2 1, 3) := dX2_fillLogs_62
theorem eX2_fillLogs_65 : decode mX2_fillLogs.2.1 65 = .ok (.goto (-53), 3) := dX2_fillLogs_65
theorem eX2_fillLogs_68 : decode mX2_fillLogs.2.1 68 = .ok (.return_, 1) := dX2_fillLogs_68
theorem eX2_findGenerator_0 : decode mX2_findGenerator.2.1 0 = .ok (.aload_n 0, 1) := dX2_findGenerator_0
theorem eX2_findGenerator_1 : decode mX2_findGenerator.2.1 1 = .ok (.iconst 0, 1) := dX2_findGenerator_1
theorem eX2_findGenerator_2 : decode mX2_findGenerator.2.1 2 = .ok (.putfield 30, 3) := dX2_findGenerator_2
theorem eX2_findGenerator_5 : decode mX2_findGenerator.2.1 5 = .ok (.aload_n 0, 1) := dX2_findGenerator_5
theorem eX2_findGenerator_6 : decode mX2_findGenerator.2.1 6 = .ok (.invokevirtual 107, 3) := dX2_findGenerator_6
theorem eX2_findGenerator_9 : decode mX2_findGenerator.2.1 9 = .ok (.istore_n 1, 1) := dX2_findGenerator_9
theorem eX2_findGenerator_10 : decode mX2_findGenerator.2.1 10 = .ok (.iconst 1, 1) := dX2_findGenerator_10
theorem eX2_findGenerator_11 : decode mX2_findGenerator.2.1 11 = .ok (.istore_n 2, 1) := dX2_findGenerator_11
theorem eX2_findGenerator_12 : decode mX2_findGenerator.2.1 12 = .ok (.iload_n 2, 1) := dX2_findGenerator_12
theorem eX2_findGenerator_13 : decode mX2_findGenerator.2.1 13 = .ok (.aload_n 0, 1) := dX2_findGenerator_13
theorem eX2_findGenerator_14 : decode mX2_findGenerator.2.1 14 = .ok (.getfield 24, 3) := dX2_findGenerator_14
theorem eX2_findGenerator_17 : decode mX2_findGenerator.2.1 17 = .ok (.if_icmp .ge 56, 3) := dX2_findGenerator_17
theorem eX2_findGenerator_20 : decode mX2_findGenerator.2.1 20 = .ok (.aload_n 0, 1) := dX2_findGenerator_20
theorem eX2_findGenerator_21 : decode mX2_findGenerator.2.1 21 = .ok (.aload_n 0, 1) := dX2_findGenerator_21
theorem eX2_findGenerator_22 : decode mX2_findGenerator.2.1 22 = .ok (.iload_n 2, 1) := dX2_findGenerator_22
theorem eX2_findGenerator_23 : decode mX2_findGenerator.2.1 23 = .ok (.aload_n 0, 1) := dX2_findGenerator_23
theorem eX2_findGenerator_24 : decode mX2_findGenerator.2.1 24 = .ok (.getfield 9, 3) := dX2_findGenerator_24
theorem eX2_findGenerator_27 : decode mX2_findGenerator.2.1 27 = .ok (.aload_n 0, 1) := dX2_findGenerator_27
theorem eX2_findGenerator_28 : decode mX2_findGenerator.2.1 28 = .ok (.getfield 21, 3) := dX2_findGenerator_28
theorem eX2_findGenerator_31 : decode mX2_findGenerator.2.1 31 = .ok (.invokevirtual 124, 3) := dX2_findGenerator_31
theorem eX2_findGenerator_34 : decode mX2_findGenerator.2.1 34 = .ok (.iload_n 1, 1) := dX2_findGenerator_34
theorem eX2_findGenerator_35 : decode mX2_findGenerator.2.1 35 = .ok (.invokevirtual 110, 3) := dX2_findGenerator_35
theorem eX2_findGenerator_38 : decode mX2_findGenerator.2.1 38 = .ok (.istore_n 3, 1) := dX2_findGenerator_38
theorem eX2_findGenerator_39 : decode mX2_findGenerator.2.1 39 = .ok (.aload_n 0, 1) := dX2_findGenerator_39
theorem eX2_findGenerator_40 : decode mX2_findGenerator.2.1 40 = .ok (.getfield 30, 3) := dX2_findGenerator_40
theorem eX2_findGenerator_43 : decode mX2_findGenerator.2.1 43 = .ok (.ifCond .eq 11, 3) := dX2_findGenerator_43
theorem eX2_findGenerator_46 : decode mX2_findGenerator.2.1 46 = .ok (.iload_n 3, 1) := dX2_findGenerator_46
theorem eX2_findGenerator_47 : decode mX2_findGenerator.2.1 47 = .ok (.aload_n 0, 1) := dX2_findGenerator_47
theorem eX2_findGenerator_48 : decode mX2_findGenerator.2.1 48 = .ok (.getfield 30, 3) := dX2_findGenerator_48
theorem eX2_findGenerator_51 : decode mX2_findGenerator.2.1 51 = .ok (.if_icmp .ge 16, 3) := dX2_findGenerator_51
theorem eX2_findGenerator_54 : decode mX2_findGenerator.2.1 54 = .ok (.aload_n 0, 1) := dX2_findGenerator_54
theorem eX2_findGenerator_55 : decode mX2_findGenerator.2.1 55 = .ok (.iload_n 3, 1) := dX2_findGenerator_55
theorem eX2_findGenerator_56 : decode mX2_findGenerator.2.1 56 = .ok (.invokevirtual 128, 3) := dX2_findGenerator_56
theorem eX2_findGenerator_59 : decode mX2_findGenerator.2.1 59 = .ok (.ifCond .eq 8, 3) := dX2_findGenerator_59
theorem eX2_findGenerator_62 : decode mX2_findGenerator.2.1 62 = .ok (.aload_n 0, 1) := dX2_findGenerator_62
theorem eX2_findGenerator_63 : decode mX2_findGenerator.2.1 63 = .ok (.iload_n 3, 1) := dX2_findGenerator_63
theorem eX2_findGenerator_64 : decode mX2_findGenerator.2.1 64 = .ok (.putfield 30, 3) := dX2_findGenerator_64
theorem eX2_findGenerator_67 : decode mX2_findGenerator.2.1 67 = .ok (.iinc 2 1, 3) := dX2_findGenerator_67
theorem eX2_findGenerator_70 : decode mX2_findGenerator.2.1 70 = .ok (.goto (-58), 3) := dX2_findGenerator_70
theorem eX2_findGenerator_73 : decode mX2_findGenerator.2.1 73 = .ok (.return_, 1) := dX2_findGenerator_73
theorem eX2_gather_0 : decode mX2_gather.2.1 0 = .ok (.aload_n 0, 1) := dX2_gather_0
theorem eX2_gather_1 : decode mX2_gather.2.1 1 = .ok (.getfield 21, 3) := dX2_gather_1
theorem eX2_gather_4 : decode mX2_gather.2.1 4 = .ok (.iconst 2, 1) := dX2_gather_4
theorem eX2_gather_5 : decode mX2_gather.2.1 5 = .ok (.if_icmp .ge 5, 3) := dX2_gather_5
theorem eX2_gather_10 : decode mX2_gather.2.1 10 = .ok (.iconst 0, 1) := dX2_gather_10
theorem eX2_gather_11 : decode mX2_gather.2.1 11 = .ok (.istore_n 2, 1) := dX2_gather_11
theorem eX2_gather_12 : decode mX2_gather.2.1 12 = .ok (.aload_n 0, 1) := dX2_gather_12
theorem eX2_gather_13 : decode mX2_gather.2.1 13 = .ok (.getfield 18, 3) := dX2_gather_13
theorem eX2_gather_16 : decode mX2_gather.2.1 16 = .ok (.aload_n 1, 1) := dX2_gather_16
theorem eX2_gather_17 : decode mX2_gather.2.1 17 = .ok (.arraylength, 1) := dX2_gather_17
theorem eX2_gather_18 : decode mX2_gather.2.1 18 = .ok (.invokestatic 152, 3) := dX2_gather_18
theorem eX2_gather_21 : decode mX2_gather.2.1 21 = .ok (.iconst 1, 1) := dX2_gather_21
theorem eX2_gather_22 : decode mX2_gather.2.1 22 = .ok (.isub, 1) := dX2_gather_22
theorem eX2_gather_23 : decode mX2_gather.2.1 23 = .ok (.istore_n 3, 1) := dX2_gather_23
theorem eX2_gather_24 : decode mX2_gather.2.1 24 = .ok (.iload_n 3, 1) := dX2_gather_24
theorem eX2_gather_25 : decode mX2_gather.2.1 25 = .ok (.ifCond .lt 25, 3) := dX2_gather_25
theorem eX2_gather_28 : decode mX2_gather.2.1 28 = .ok (.iload_n 2, 1) := dX2_gather_28
theorem eX2_gather_29 : decode mX2_gather.2.1 29 = .ok (.aload_n 0, 1) := dX2_gather_29
theorem eX2_gather_30 : decode mX2_gather.2.1 30 = .ok (.getfield 21, 3) := dX2_gather_30
theorem eX2_gather_33 : decode mX2_gather.2.1 33 = .ok (.imul, 1) := dX2_gather_33
theorem eX2_gather_34 : decode mX2_gather.2.1 34 = .ok (.aload_n 1, 1) := dX2_gather_34
theorem eX2_gather_35 : decode mX2_gather.2.1 35 = .ok (.iload_n 3, 1) := dX2_gather_35
theorem eX2_gather_36 : decode mX2_gather.2.1 36 = .ok (.iaload, 1) := dX2_gather_36
theorem eX2_gather_37 : decode mX2_gather.2.1 37 = .ok (.aload_n 0, 1) := dX2_gather_37
theorem eX2_gather_38 : decode mX2_gather.2.1 38 = .ok (.getfield 21, 3) := dX2_gather_38
theorem eX2_gather_41 : decode mX2_gather.2.1 41 = .ok (.irem, 1) := dX2_gather_41
theorem eX2_gather_42 : decode mX2_gather.2.1 42 = .ok (.iadd, 1) := dX2_gather_42
theorem eX2_gather_43 : decode mX2_gather.2.1 43 = .ok (.istore_n 2, 1) := dX2_gather_43
theorem eX2_gather_44 : decode mX2_gather.2.1 44 = .ok (.iinc 3 (-1), 3) := dX2_gather_44
theorem eX2_gather_47 : decode mX2_gather.2.1 47 = .ok (.goto (-23), 3) := dX2_gather_47
theorem eX2_gather_50 : decode mX2_gather.2.1 50 = .ok (.iload_n 2, 1) := dX2_gather_50
theorem eX2_gather_51 : decode mX2_gather.2.1 51 = .ok (.ireturn, 1) := dX2_gather_51
theorem eX2_grow_0 : decode mX2_grow.2.1 0 = .ok (.iload_n 2, 1) := dX2_grow_0
theorem eX2_grow_1 : decode mX2_grow.2.1 1 = .ok (.iconst 1, 1) := dX2_grow_1
theorem eX2_grow_2 : decode mX2_grow.2.1 2 = .ok (.iadd, 1) := dX2_grow_2
theorem eX2_grow_3 : decode mX2_grow.2.1 3 = .ok (.istore 4, 2) := dX2_grow_3
theorem eX2_grow_5 : decode mX2_grow.2.1 5 = .ok (.iload 4, 2) := dX2_grow_5
theorem eX2_grow_7 : decode mX2_grow.2.1 7 = .ok (.ifCond .lt 42, 3) := dX2_grow_7
theorem eX2_grow_10 : decode mX2_grow.2.1 10 = .ok (.aload_n 1, 1) := dX2_grow_10
theorem eX2_grow_11 : decode mX2_grow.2.1 11 = .ok (.iload 4, 2) := dX2_grow_11
theorem eX2_grow_13 : decode mX2_grow.2.1 13 = .ok (.iconst 1, 1) := dX2_grow_13
theorem eX2_grow_14 : decode mX2_grow.2.1 14 = .ok (.isub, 1) := dX2_grow_14
theorem eX2_grow_15 : decode mX2_grow.2.1 15 = .ok (.invokestatic 116, 3) := dX2_grow_15
theorem eX2_grow_18 : decode mX2_grow.2.1 18 = .ok (.istore 5, 2) := dX2_grow_18
theorem eX2_grow_20 : decode mX2_grow.2.1 20 = .ok (.aload_n 1, 1) := dX2_grow_20
theorem eX2_grow_21 : decode mX2_grow.2.1 21 = .ok (.iload 4, 2) := dX2_grow_21
theorem eX2_grow_23 : decode mX2_grow.2.1 23 = .ok (.aload_n 0, 1) := dX2_grow_23
theorem eX2_grow_24 : decode mX2_grow.2.1 24 = .ok (.iload 5, 2) := dX2_grow_24
theorem eX2_grow_26 : decode mX2_grow.2.1 26 = .ok (.aload_n 0, 1) := dX2_grow_26
theorem eX2_grow_27 : decode mX2_grow.2.1 27 = .ok (.iload_n 3, 1) := dX2_grow_27
theorem eX2_grow_28 : decode mX2_grow.2.1 28 = .ok (.aload_n 1, 1) := dX2_grow_28
theorem eX2_grow_29 : decode mX2_grow.2.1 29 = .ok (.iload 4, 2) := dX2_grow_29
theorem eX2_grow_31 : decode mX2_grow.2.1 31 = .ok (.invokestatic 116, 3) := dX2_grow_31
theorem eX2_grow_34 : decode mX2_grow.2.1 34 = .ok (.invokevirtual 132, 3) := dX2_grow_34
theorem eX2_grow_37 : decode mX2_grow.2.1 37 = .ok (.invokevirtual 146, 3) := dX2_grow_37
theorem eX2_grow_40 : decode mX2_grow.2.1 40 = .ok (.invokestatic 90, 3) := dX2_grow_40
theorem eX2_grow_43 : decode mX2_grow.2.1 43 = .ok (.iinc 4 (-1), 3) := dX2_grow_43
theorem eX2_grow_46 : decode mX2_grow.2.1 46 = .ok (.goto (-41), 3) := dX2_grow_46
theorem eX2_grow_49 : decode mX2_grow.2.1 49 = .ok (.return_, 1) := dX2_grow_49
theorem eX2_has_0 : decode mX2_has.2.1 0 = .ok (.iload_n 1, 1) := dX2_has_0
theorem eX2_has_1 : decode mX2_has.2.1 1 = .ok (.ifCond .lt 15, 3) := dX2_has_1
theorem eX2_has_4 : decode mX2_has.2.1 4 = .ok (.iload_n 1, 1) := dX2_has_4
theorem eX2_has_5 : decode mX2_has.2.1 5 = .ok (.aload_n 0, 1) := dX2_has_5
theorem eX2_has_6 : decode mX2_has.2.1 6 = .ok (.getfield 27, 3) := dX2_has_6
theorem eX2_has_9 : decode mX2_has.2.1 9 = .ok (.if_icmp .ge 7, 3) := dX2_has_9
theorem eX2_has_12 : decode mX2_has.2.1 12 = .ok (.iconst 1, 1) := dX2_has_12
theorem eX2_has_13 : decode mX2_has.2.1 13 = .ok (.goto 4, 3) := dX2_has_13
theorem eX2_has_16 : decode mX2_has.2.1 16 = .ok (.iconst 0, 1) := dX2_has_16
theorem eX2_has_17 : decode mX2_has.2.1 17 = .ok (.ireturn, 1) := dX2_has_17
theorem eX2_hasRootsOfOne_0 : decode mX2_hasRootsOfOne.2.1 0 = .ok (.iload_n 1, 1) := dX2_hasRootsOfOne_0
theorem eX2_hasRootsOfOne_1 : decode mX2_hasRootsOfOne.2.1 1 = .ok (.iconst 1, 1) := dX2_hasRootsOfOne_1
theorem eX2_hasRootsOfOne_2 : decode mX2_hasRootsOfOne.2.1 2 = .ok (.if_icmp .lt 26, 3) := dX2_hasRootsOfOne_2
theorem eX2_hasRootsOfOne_5 : decode mX2_hasRootsOfOne.2.1 5 = .ok (.iload_n 1, 1) := dX2_hasRootsOfOne_5
theorem eX2_hasRootsOfOne_6 : decode mX2_hasRootsOfOne.2.1 6 = .ok (.bipush 63, 2) := dX2_hasRootsOfOne_6
theorem eX2_hasRootsOfOne_8 : decode mX2_hasRootsOfOne.2.1 8 = .ok (.if_icmp .gt 20, 3) := dX2_hasRootsOfOne_8
theorem eX2_hasRootsOfOne_11 : decode mX2_hasRootsOfOne.2.1 11 = .ok (.aload_n 0, 1) := dX2_hasRootsOfOne_11
theorem eX2_hasRootsOfOne_12 : decode mX2_hasRootsOfOne.2.1 12 = .ok (.getfield 24, 3) := dX2_hasRootsOfOne_12
theorem eX2_hasRootsOfOne_15 : decode mX2_hasRootsOfOne.2.1 15 = .ok (.iconst 1, 1) := dX2_hasRootsOfOne_15
theorem eX2_hasRootsOfOne_16 : decode mX2_hasRootsOfOne.2.1 16 = .ok (.isub, 1) := dX2_hasRootsOfOne_16
theorem eX2_hasRootsOfOne_17 : decode mX2_hasRootsOfOne.2.1 17 = .ok (.iload_n 1, 1) := dX2_hasRootsOfOne_17
theorem eX2_hasRootsOfOne_18 : decode mX2_hasRootsOfOne.2.1 18 = .ok (.invokestatic 87, 3) := dX2_hasRootsOfOne_18
theorem eX2_hasRootsOfOne_21 : decode mX2_hasRootsOfOne.2.1 21 = .ok (.ifCond .ne 7, 3) := dX2_hasRootsOfOne_21
theorem eX2_hasRootsOfOne_24 : decode mX2_hasRootsOfOne.2.1 24 = .ok (.iconst 1, 1) := dX2_hasRootsOfOne_24
theorem eX2_hasRootsOfOne_25 : decode mX2_hasRootsOfOne.2.1 25 = .ok (.goto 4, 3) := dX2_hasRootsOfOne_25
theorem eX2_hasRootsOfOne_28 : decode mX2_hasRootsOfOne.2.1 28 = .ok (.iconst 0, 1) := dX2_hasRootsOfOne_28
theorem eX2_hasRootsOfOne_29 : decode mX2_hasRootsOfOne.2.1 29 = .ok (.ireturn, 1) := dX2_hasRootsOfOne_29
theorem eX2_init_0 : decode mX2_init.2.1 0 = .ok (.aload_n 0, 1) := dX2_init_0
theorem eX2_init_1 : decode mX2_init.2.1 1 = .ok (.invokespecial 3, 3) := dX2_init_1
theorem eX2_init_4 : decode mX2_init.2.1 4 = .ok (.aload_n 0, 1) := dX2_init_4
theorem eX2_init_5 : decode mX2_init.2.1 5 = .ok (.iconst 2, 1) := dX2_init_5
theorem eX2_init_6 : decode mX2_init.2.1 6 = .ok (.putfield 9, 3) := dX2_init_6
theorem eX2_init_9 : decode mX2_init.2.1 9 = .ok (.aload_n 0, 1) := dX2_init_9
theorem eX2_init_10 : decode mX2_init.2.1 10 = .ok (.iconst 1, 1) := dX2_init_10
theorem eX2_init_11 : decode mX2_init.2.1 11 = .ok (.putfield 15, 3) := dX2_init_11
theorem eX2_init_14 : decode mX2_init.2.1 14 = .ok (.aload_n 0, 1) := dX2_init_14
theorem eX2_init_15 : decode mX2_init.2.1 15 = .ok (.iconst 1, 1) := dX2_init_15
theorem eX2_init_16 : decode mX2_init.2.1 16 = .ok (.putfield 18, 3) := dX2_init_16
theorem eX2_init_19 : decode mX2_init.2.1 19 = .ok (.aload_n 0, 1) := dX2_init_19
theorem eX2_init_20 : decode mX2_init.2.1 20 = .ok (.iconst 2, 1) := dX2_init_20
theorem eX2_init_21 : decode mX2_init.2.1 21 = .ok (.putfield 21, 3) := dX2_init_21
theorem eX2_init_24 : decode mX2_init.2.1 24 = .ok (.aload_n 0, 1) := dX2_init_24
theorem eX2_init_25 : decode mX2_init.2.1 25 = .ok (.iconst 2, 1) := dX2_init_25
theorem eX2_init_26 : decode mX2_init.2.1 26 = .ok (.putfield 24, 3) := dX2_init_26
theorem eX2_init_29 : decode mX2_init.2.1 29 = .ok (.aload_n 0, 1) := dX2_init_29
theorem eX2_init_30 : decode mX2_init.2.1 30 = .ok (.iconst 2, 1) := dX2_init_30
theorem eX2_init_31 : decode mX2_init.2.1 31 = .ok (.putfield 27, 3) := dX2_init_31
theorem eX2_init_34 : decode mX2_init.2.1 34 = .ok (.aload_n 0, 1) := dX2_init_34
theorem eX2_init_35 : decode mX2_init.2.1 35 = .ok (.iconst 1, 1) := dX2_init_35
theorem eX2_init_36 : decode mX2_init.2.1 36 = .ok (.putfield 30, 3) := dX2_init_36
theorem eX2_init_39 : decode mX2_init.2.1 39 = .ok (.aload_n 0, 1) := dX2_init_39
theorem eX2_init_40 : decode mX2_init.2.1 40 = .ok (.bipush 7, 2) := dX2_init_40
theorem eX2_init_42 : decode mX2_init.2.1 42 = .ok (.newarray .int, 2) := dX2_init_42
theorem eX2_init_44 : decode mX2_init.2.1 44 = .ok (.putfield 33, 3) := dX2_init_44
theorem eX2_init_47 : decode mX2_init.2.1 47 = .ok (.aload_n 0, 1) := dX2_init_47
theorem eX2_init_48 : decode mX2_init.2.1 48 = .ok (.sipush 3125, 3) := dX2_init_48
theorem eX2_init_51 : decode mX2_init.2.1 51 = .ok (.newarray .int, 2) := dX2_init_51
theorem eX2_init_53 : decode mX2_init.2.1 53 = .ok (.putfield 37, 3) := dX2_init_53
theorem eX2_init_56 : decode mX2_init.2.1 56 = .ok (.aload_n 0, 1) := dX2_init_56
theorem eX2_init_57 : decode mX2_init.2.1 57 = .ok (.sipush 3125, 3) := dX2_init_57
theorem eX2_init_60 : decode mX2_init.2.1 60 = .ok (.newarray .int, 2) := dX2_init_60
theorem eX2_init_62 : decode mX2_init.2.1 62 = .ok (.putfield 40, 3) := dX2_init_62
theorem eX2_init_65 : decode mX2_init.2.1 65 = .ok (.aload_n 0, 1) := dX2_init_65
theorem eX2_init_66 : decode mX2_init.2.1 66 = .ok (.bipush 6, 2) := dX2_init_66
theorem eX2_init_68 : decode mX2_init.2.1 68 = .ok (.bipush 6, 2) := dX2_init_68
theorem eX2_init_70 : decode mX2_init.2.1 70 = .ok (.multianewarray 43 2, 4) := dX2_init_70
theorem eX2_init_74 : decode mX2_init.2.1 74 = .ok (.putfield 45, 3) := dX2_init_74
theorem eX2_init_77 : decode mX2_init.2.1 77 = .ok (.aload_n 0, 1) := dX2_init_77
theorem eX2_init_78 : decode mX2_init.2.1 78 = .ok (.bipush 6, 2) := dX2_init_78
theorem eX2_init_80 : decode mX2_init.2.1 80 = .ok (.newarray .int, 2) := dX2_init_80
theorem eX2_init_82 : decode mX2_init.2.1 82 = .ok (.putfield 48, 3) := dX2_init_82
theorem eX2_init_85 : decode mX2_init.2.1 85 = .ok (.aload_n 0, 1) := dX2_init_85
theorem eX2_init_86 : decode mX2_init.2.1 86 = .ok (.bipush 6, 2) := dX2_init_86
theorem eX2_init_88 : decode mX2_init.2.1 88 = .ok (.newarray .int, 2) := dX2_init_88
theorem eX2_init_90 : decode mX2_init.2.1 90 = .ok (.putfield 51, 3) := dX2_init_90
theorem eX2_init_93 : decode mX2_init.2.1 93 = .ok (.aload_n 0, 1) := dX2_init_93
theorem eX2_init_94 : decode mX2_init.2.1 94 = .ok (.bipush 12, 2) := dX2_init_94
theorem eX2_init_96 : decode mX2_init.2.1 96 = .ok (.newarray .int, 2) := dX2_init_96
theorem eX2_init_98 : decode mX2_init.2.1 98 = .ok (.putfield 54, 3) := dX2_init_98
theorem eX2_init_101 : decode mX2_init.2.1 101 = .ok (.aload_n 0, 1) := dX2_init_101
theorem eX2_init_102 : decode mX2_init.2.1 102 = .ok (.bipush 7, 2) := dX2_init_102
theorem eX2_init_104 : decode mX2_init.2.1 104 = .ok (.newarray .int, 2) := dX2_init_104
theorem eX2_init_106 : decode mX2_init.2.1 106 = .ok (.putfield 57, 3) := dX2_init_106
theorem eX2_init_109 : decode mX2_init.2.1 109 = .ok (.return_, 1) := dX2_init_109
theorem eX2_inverse_0 : decode mX2_inverse.2.1 0 = .ok (.aload_n 0, 1) := dX2_inverse_0
theorem eX2_inverse_1 : decode mX2_inverse.2.1 1 = .ok (.iload_n 1, 1) := dX2_inverse_1
theorem eX2_inverse_2 : decode mX2_inverse.2.1 2 = .ok (.aload_n 0, 1) := dX2_inverse_2
theorem eX2_inverse_3 : decode mX2_inverse.2.1 3 = .ok (.getfield 24, 3) := dX2_inverse_3
theorem eX2_inverse_6 : decode mX2_inverse.2.1 6 = .ok (.iconst 1, 1) := dX2_inverse_6
theorem eX2_inverse_7 : decode mX2_inverse.2.1 7 = .ok (.isub, 1) := dX2_inverse_7
theorem eX2_inverse_8 : decode mX2_inverse.2.1 8 = .ok (.aload_n 0, 1) := dX2_inverse_8
theorem eX2_inverse_9 : decode mX2_inverse.2.1 9 = .ok (.getfield 9, 3) := dX2_inverse_9
theorem eX2_inverse_12 : decode mX2_inverse.2.1 12 = .ok (.aload_n 0, 1) := dX2_inverse_12
theorem eX2_inverse_13 : decode mX2_inverse.2.1 13 = .ok (.getfield 15, 3) := dX2_inverse_13
theorem eX2_inverse_16 : decode mX2_inverse.2.1 16 = .ok (.iconst 1, 1) := dX2_inverse_16
theorem eX2_inverse_17 : decode mX2_inverse.2.1 17 = .ok (.isub, 1) := dX2_inverse_17
theorem eX2_inverse_18 : decode mX2_inverse.2.1 18 = .ok (.invokestatic 64, 3) := dX2_inverse_18
theorem eX2_inverse_21 : decode mX2_inverse.2.1 21 = .ok (.imul, 1) := dX2_inverse_21
theorem eX2_inverse_22 : decode mX2_inverse.2.1 22 = .ok (.iconst 1, 1) := dX2_inverse_22
theorem eX2_inverse_23 : decode mX2_inverse.2.1 23 = .ok (.isub, 1) := dX2_inverse_23
theorem eX2_inverse_24 : decode mX2_inverse.2.1 24 = .ok (.invokevirtual 110, 3) := dX2_inverse_24
theorem eX2_inverse_27 : decode mX2_inverse.2.1 27 = .ok (.ireturn, 1) := dX2_inverse_27
theorem eX2_isUnit_0 : decode mX2_isUnit.2.1 0 = .ok (.aload_n 0, 1) := dX2_isUnit_0
theorem eX2_isUnit_1 : decode mX2_isUnit.2.1 1 = .ok (.iload_n 1, 1) := dX2_isUnit_1
theorem eX2_isUnit_2 : decode mX2_isUnit.2.1 2 = .ok (.invokevirtual 157, 3) := dX2_isUnit_2
theorem eX2_isUnit_5 : decode mX2_isUnit.2.1 5 = .ok (.iconst (-1), 1) := dX2_isUnit_5
theorem eX2_isUnit_6 : decode mX2_isUnit.2.1 6 = .ok (.if_icmp .eq 7, 3) := dX2_isUnit_6
theorem eX2_isUnit_9 : decode mX2_isUnit.2.1 9 = .ok (.iconst 1, 1) := dX2_isUnit_9
theorem eX2_isUnit_10 : decode mX2_isUnit.2.1 10 = .ok (.goto 4, 3) := dX2_isUnit_10
theorem eX2_isUnit_13 : decode mX2_isUnit.2.1 13 = .ok (.iconst 0, 1) := dX2_isUnit_13
theorem eX2_isUnit_14 : decode mX2_isUnit.2.1 14 = .ok (.ireturn, 1) := dX2_isUnit_14
theorem eX2_isWithin_0 : decode mX2_isWithin.2.1 0 = .ok (.iload_n 1, 1) := dX2_isWithin_0
theorem eX2_isWithin_1 : decode mX2_isWithin.2.1 1 = .ok (.istore_n 3, 1) := dX2_isWithin_1
theorem eX2_isWithin_2 : decode mX2_isWithin.2.1 2 = .ok (.iconst 0, 1) := dX2_isWithin_2
theorem eX2_isWithin_3 : decode mX2_isWithin.2.1 3 = .ok (.istore 4, 2) := dX2_isWithin_3
theorem eX2_isWithin_5 : decode mX2_isWithin.2.1 5 = .ok (.iload 4, 2) := dX2_isWithin_5
theorem eX2_isWithin_7 : decode mX2_isWithin.2.1 7 = .ok (.iload_n 2, 1) := dX2_isWithin_7
theorem eX2_isWithin_8 : decode mX2_isWithin.2.1 8 = .ok (.if_icmp .ge 15, 3) := dX2_isWithin_8
theorem eX2_isWithin_11 : decode mX2_isWithin.2.1 11 = .ok (.aload_n 0, 1) := dX2_isWithin_11
theorem eX2_isWithin_12 : decode mX2_isWithin.2.1 12 = .ok (.iload_n 3, 1) := dX2_isWithin_12
theorem eX2_isWithin_13 : decode mX2_isWithin.2.1 13 = .ok (.invokevirtual 170, 3) := dX2_isWithin_13
theorem eX2_isWithin_16 : decode mX2_isWithin.2.1 16 = .ok (.istore_n 3, 1) := dX2_isWithin_16
theorem eX2_isWithin_17 : decode mX2_isWithin.2.1 17 = .ok (.iinc 4 1, 3) := dX2_isWithin_17
theorem eX2_isWithin_20 : decode mX2_isWithin.2.1 20 = .ok (.goto (-15), 3) := dX2_isWithin_20
theorem eX2_isWithin_23 : decode mX2_isWithin.2.1 23 = .ok (.iload_n 3, 1) := dX2_isWithin_23
theorem eX2_isWithin_24 : decode mX2_isWithin.2.1 24 = .ok (.iload_n 1, 1) := dX2_isWithin_24
theorem eX2_isWithin_25 : decode mX2_isWithin.2.1 25 = .ok (.if_icmp .ne 7, 3) := dX2_isWithin_25
theorem eX2_isWithin_28 : decode mX2_isWithin.2.1 28 = .ok (.iconst 1, 1) := dX2_isWithin_28
theorem eX2_isWithin_29 : decode mX2_isWithin.2.1 29 = .ok (.goto 4, 3) := dX2_isWithin_29
theorem eX2_isWithin_32 : decode mX2_isWithin.2.1 32 = .ok (.iconst 0, 1) := dX2_isWithin_32
theorem eX2_isWithin_33 : decode mX2_isWithin.2.1 33 = .ok (.ireturn, 1) := dX2_isWithin_33
theorem eX2_leastWithin_0 : decode mX2_leastWithin.2.1 0 = .ok (.iconst 1, 1) := dX2_leastWithin_0
theorem eX2_leastWithin_1 : decode mX2_leastWithin.2.1 1 = .ok (.istore_n 2, 1) := dX2_leastWithin_1
theorem eX2_leastWithin_2 : decode mX2_leastWithin.2.1 2 = .ok (.iload_n 2, 1) := dX2_leastWithin_2
theorem eX2_leastWithin_3 : decode mX2_leastWithin.2.1 3 = .ok (.aload_n 0, 1) := dX2_leastWithin_3
theorem eX2_leastWithin_4 : decode mX2_leastWithin.2.1 4 = .ok (.getfield 18, 3) := dX2_leastWithin_4
theorem eX2_leastWithin_7 : decode mX2_leastWithin.2.1 7 = .ok (.if_icmp .ge 31, 3) := dX2_leastWithin_7
theorem eX2_leastWithin_10 : decode mX2_leastWithin.2.1 10 = .ok (.aload_n 0, 1) := dX2_leastWithin_10
theorem eX2_leastWithin_11 : decode mX2_leastWithin.2.1 11 = .ok (.getfield 18, 3) := dX2_leastWithin_11
theorem eX2_leastWithin_14 : decode mX2_leastWithin.2.1 14 = .ok (.iload_n 2, 1) := dX2_leastWithin_14
theorem eX2_leastWithin_15 : decode mX2_leastWithin.2.1 15 = .ok (.invokestatic 87, 3) := dX2_leastWithin_15
theorem eX2_leastWithin_18 : decode mX2_leastWithin.2.1 18 = .ok (.ifCond .ne 14, 3) := dX2_leastWithin_18
theorem eX2_leastWithin_21 : decode mX2_leastWithin.2.1 21 = .ok (.aload_n 0, 1) := dX2_leastWithin_21
theorem eX2_leastWithin_22 : decode mX2_leastWithin.2.1 22 = .ok (.iload_n 1, 1) := dX2_leastWithin_22
theorem eX2_leastWithin_23 : decode mX2_leastWithin.2.1 23 = .ok (.iload_n 2, 1) := dX2_leastWithin_23
theorem eX2_leastWithin_24 : decode mX2_leastWithin.2.1 24 = .ok (.invokevirtual 173, 3) := dX2_leastWithin_24
theorem eX2_leastWithin_27 : decode mX2_leastWithin.2.1 27 = .ok (.ifCond .eq 5, 3) := dX2_leastWithin_27
theorem eX2_leastWithin_30 : decode mX2_leastWithin.2.1 30 = .ok (.iload_n 2, 1) := dX2_leastWithin_30
theorem eX2_leastWithin_31 : decode mX2_leastWithin.2.1 31 = .ok (.ireturn, 1) := dX2_leastWithin_31
theorem eX2_leastWithin_32 : decode mX2_leastWithin.2.1 32 = .ok (.iinc 2 1, 3) := dX2_leastWithin_32
theorem eX2_leastWithin_35 : decode mX2_leastWithin.2.1 35 = .ok (.goto (-33), 3) := dX2_leastWithin_35
theorem eX2_leastWithin_38 : decode mX2_leastWithin.2.1 38 = .ok (.aload_n 0, 1) := dX2_leastWithin_38
theorem eX2_leastWithin_39 : decode mX2_leastWithin.2.1 39 = .ok (.getfield 18, 3) := dX2_leastWithin_39
theorem eX2_leastWithin_42 : decode mX2_leastWithin.2.1 42 = .ok (.ireturn, 1) := dX2_leastWithin_42
theorem eX2_level_0 : decode mX2_level.2.1 0 = .ok (.iload_n 1, 1) := dX2_level_0
theorem eX2_level_1 : decode mX2_level.2.1 1 = .ok (.istore_n 2, 1) := dX2_level_1
theorem eX2_level_2 : decode mX2_level.2.1 2 = .ok (.iconst 0, 1) := dX2_level_2
theorem eX2_level_3 : decode mX2_level.2.1 3 = .ok (.istore_n 3, 1) := dX2_level_3
theorem eX2_level_4 : decode mX2_level.2.1 4 = .ok (.iload_n 3, 1) := dX2_level_4
theorem eX2_level_5 : decode mX2_level.2.1 5 = .ok (.aload_n 0, 1) := dX2_level_5
theorem eX2_level_6 : decode mX2_level.2.1 6 = .ok (.getfield 15, 3) := dX2_level_6
theorem eX2_level_9 : decode mX2_level.2.1 9 = .ok (.if_icmp .ge 25, 3) := dX2_level_9
theorem eX2_level_12 : decode mX2_level.2.1 12 = .ok (.aload_n 0, 1) := dX2_level_12
theorem eX2_level_13 : decode mX2_level.2.1 13 = .ok (.iload_n 2, 1) := dX2_level_13
theorem eX2_level_14 : decode mX2_level.2.1 14 = .ok (.invokevirtual 167, 3) := dX2_level_14
theorem eX2_level_17 : decode mX2_level.2.1 17 = .ok (.ifCond .eq 5, 3) := dX2_level_17
theorem eX2_level_20 : decode mX2_level.2.1 20 = .ok (.iload_n 3, 1) := dX2_level_20
theorem eX2_level_21 : decode mX2_level.2.1 21 = .ok (.ireturn, 1) := dX2_level_21
theorem eX2_level_22 : decode mX2_level.2.1 22 = .ok (.aload_n 0, 1) := dX2_level_22
theorem eX2_level_23 : decode mX2_level.2.1 23 = .ok (.iload_n 2, 1) := dX2_level_23
theorem eX2_level_24 : decode mX2_level.2.1 24 = .ok (.invokevirtual 164, 3) := dX2_level_24
theorem eX2_level_27 : decode mX2_level.2.1 27 = .ok (.istore_n 2, 1) := dX2_level_27
theorem eX2_level_28 : decode mX2_level.2.1 28 = .ok (.iinc 3 1, 3) := dX2_level_28
theorem eX2_level_31 : decode mX2_level.2.1 31 = .ok (.goto (-27), 3) := dX2_level_31
theorem eX2_level_34 : decode mX2_level.2.1 34 = .ok (.aload_n 0, 1) := dX2_level_34
theorem eX2_level_35 : decode mX2_level.2.1 35 = .ok (.getfield 15, 3) := dX2_level_35
theorem eX2_level_38 : decode mX2_level.2.1 38 = .ok (.ireturn, 1) := dX2_level_38
theorem eX2_liftModulus_0 : decode mX2_liftModulus.2.1 0 = .ok (.aload_n 0, 1) := dX2_liftModulus_0
theorem eX2_liftModulus_1 : decode mX2_liftModulus.2.1 1 = .ok (.getfield 9, 3) := dX2_liftModulus_1
theorem eX2_liftModulus_4 : decode mX2_liftModulus.2.1 4 = .ok (.aload_n 0, 1) := dX2_liftModulus_4
theorem eX2_liftModulus_5 : decode mX2_liftModulus.2.1 5 = .ok (.getfield 18, 3) := dX2_liftModulus_5
theorem eX2_liftModulus_8 : decode mX2_liftModulus.2.1 8 = .ok (.invokestatic 82, 3) := dX2_liftModulus_8
theorem eX2_liftModulus_11 : decode mX2_liftModulus.2.1 11 = .ok (.istore_n 1, 1) := dX2_liftModulus_11
theorem eX2_liftModulus_12 : decode mX2_liftModulus.2.1 12 = .ok (.iconst 0, 1) := dX2_liftModulus_12
theorem eX2_liftModulus_13 : decode mX2_liftModulus.2.1 13 = .ok (.istore_n 2, 1) := dX2_liftModulus_13
theorem eX2_liftModulus_14 : decode mX2_liftModulus.2.1 14 = .ok (.iload_n 2, 1) := dX2_liftModulus_14
theorem eX2_liftModulus_15 : decode mX2_liftModulus.2.1 15 = .ok (.aload_n 0, 1) := dX2_liftModulus_15
theorem eX2_liftModulus_16 : decode mX2_liftModulus.2.1 16 = .ok (.getfield 18, 3) := dX2_liftModulus_16
theorem eX2_liftModulus_19 : decode mX2_liftModulus.2.1 19 = .ok (.if_icmp .gt 34, 3) := dX2_liftModulus_19
theorem eX2_liftModulus_22 : decode mX2_liftModulus.2.1 22 = .ok (.aload_n 0, 1) := dX2_liftModulus_22
theorem eX2_liftModulus_23 : decode mX2_liftModulus.2.1 23 = .ok (.getfield 33, 3) := dX2_liftModulus_23
theorem eX2_liftModulus_26 : decode mX2_liftModulus.2.1 26 = .ok (.iload_n 2, 1) := dX2_liftModulus_26
theorem eX2_liftModulus_27 : decode mX2_liftModulus.2.1 27 = .ok (.iload_n 1, 1) := dX2_liftModulus_27
theorem eX2_liftModulus_28 : decode mX2_liftModulus.2.1 28 = .ok (.aload_n 0, 1) := dX2_liftModulus_28
theorem eX2_liftModulus_29 : decode mX2_liftModulus.2.1 29 = .ok (.getfield 9, 3) := dX2_liftModulus_29
theorem eX2_liftModulus_32 : decode mX2_liftModulus.2.1 32 = .ok (.invokestatic 87, 3) := dX2_liftModulus_32
theorem eX2_liftModulus_35 : decode mX2_liftModulus.2.1 35 = .ok (.invokestatic 90, 3) := dX2_liftModulus_35
theorem eX2_liftModulus_38 : decode mX2_liftModulus.2.1 38 = .ok (.iload_n 1, 1) := dX2_liftModulus_38
theorem eX2_liftModulus_39 : decode mX2_liftModulus.2.1 39 = .ok (.aload_n 0, 1) := dX2_liftModulus_39
theorem eX2_liftModulus_40 : decode mX2_liftModulus.2.1 40 = .ok (.getfield 9, 3) := dX2_liftModulus_40
theorem eX2_liftModulus_43 : decode mX2_liftModulus.2.1 43 = .ok (.invokestatic 94, 3) := dX2_liftModulus_43
theorem eX2_liftModulus_46 : decode mX2_liftModulus.2.1 46 = .ok (.istore_n 1, 1) := dX2_liftModulus_46
theorem eX2_liftModulus_47 : decode mX2_liftModulus.2.1 47 = .ok (.iinc 2 1, 3) := dX2_liftModulus_47
theorem eX2_liftModulus_50 : decode mX2_liftModulus.2.1 50 = .ok (.goto (-36), 3) := dX2_liftModulus_50
theorem eX2_liftModulus_53 : decode mX2_liftModulus.2.1 53 = .ok (.aload_n 0, 1) := dX2_liftModulus_53
theorem eX2_liftModulus_54 : decode mX2_liftModulus.2.1 54 = .ok (.getfield 57, 3) := dX2_liftModulus_54
theorem eX2_liftModulus_57 : decode mX2_liftModulus.2.1 57 = .ok (.iconst 0, 1) := dX2_liftModulus_57
theorem eX2_liftModulus_58 : decode mX2_liftModulus.2.1 58 = .ok (.invokestatic 97, 3) := dX2_liftModulus_58
theorem eX2_liftModulus_61 : decode mX2_liftModulus.2.1 61 = .ok (.aload_n 0, 1) := dX2_liftModulus_61
theorem eX2_liftModulus_62 : decode mX2_liftModulus.2.1 62 = .ok (.getfield 57, 3) := dX2_liftModulus_62
theorem eX2_liftModulus_65 : decode mX2_liftModulus.2.1 65 = .ok (.iconst 0, 1) := dX2_liftModulus_65
theorem eX2_liftModulus_66 : decode mX2_liftModulus.2.1 66 = .ok (.iconst 1, 1) := dX2_liftModulus_66
theorem eX2_liftModulus_67 : decode mX2_liftModulus.2.1 67 = .ok (.iastore, 1) := dX2_liftModulus_67
theorem eX2_liftModulus_68 : decode mX2_liftModulus.2.1 68 = .ok (.aload_n 0, 1) := dX2_liftModulus_68
theorem eX2_liftModulus_69 : decode mX2_liftModulus.2.1 69 = .ok (.aload_n 0, 1) := dX2_liftModulus_69
theorem eX2_liftModulus_70 : decode mX2_liftModulus.2.1 70 = .ok (.invokevirtual 103, 3) := dX2_liftModulus_70
theorem eX2_liftModulus_73 : decode mX2_liftModulus.2.1 73 = .ok (.aload_n 0, 1) := dX2_liftModulus_73
theorem eX2_liftModulus_74 : decode mX2_liftModulus.2.1 74 = .ok (.invokevirtual 107, 3) := dX2_liftModulus_74
theorem eX2_liftModulus_77 : decode mX2_liftModulus.2.1 77 = .ok (.invokevirtual 110, 3) := dX2_liftModulus_77
theorem eX2_liftModulus_80 : decode mX2_liftModulus.2.1 80 = .ok (.istore_n 2, 1) := dX2_liftModulus_80
theorem eX2_liftModulus_81 : decode mX2_liftModulus.2.1 81 = .ok (.iconst 0, 1) := dX2_liftModulus_81
theorem eX2_liftModulus_82 : decode mX2_liftModulus.2.1 82 = .ok (.istore_n 3, 1) := dX2_liftModulus_82
theorem eX2_liftModulus_83 : decode mX2_liftModulus.2.1 83 = .ok (.iload_n 3, 1) := dX2_liftModulus_83
theorem eX2_liftModulus_84 : decode mX2_liftModulus.2.1 84 = .ok (.aload_n 0, 1) := dX2_liftModulus_84
theorem eX2_liftModulus_85 : decode mX2_liftModulus.2.1 85 = .ok (.getfield 18, 3) := dX2_liftModulus_85
theorem eX2_liftModulus_88 : decode mX2_liftModulus.2.1 88 = .ok (.if_icmp .ge 29, 3) := dX2_liftModulus_88
theorem eX2_liftModulus_91 : decode mX2_liftModulus.2.1 91 = .ok (.aload_n 0, 1) := dX2_liftModulus_91
theorem eX2_liftModulus_92 : decode mX2_liftModulus.2.1 92 = .ok (.aload_n 0, 1) := dX2_liftModulus_92
theorem eX2_liftModulus_93 : decode mX2_liftModulus.2.1 93 = .ok (.getfield 57, 3) := dX2_liftModulus_93
theorem eX2_liftModulus_96 : decode mX2_liftModulus.2.1 96 = .ok (.iload_n 3, 1) := dX2_liftModulus_96
theorem eX2_liftModulus_97 : decode mX2_liftModulus.2.1 97 = .ok (.iload_n 2, 1) := dX2_liftModulus_97
theorem eX2_liftModulus_98 : decode mX2_liftModulus.2.1 98 = .ok (.invokevirtual 113, 3) := dX2_liftModulus_98
theorem eX2_liftModulus_101 : decode mX2_liftModulus.2.1 101 = .ok (.aload_n 0, 1) := dX2_liftModulus_101
theorem eX2_liftModulus_102 : decode mX2_liftModulus.2.1 102 = .ok (.iload_n 2, 1) := dX2_liftModulus_102
theorem eX2_liftModulus_103 : decode mX2_liftModulus.2.1 103 = .ok (.aload_n 0, 1) := dX2_liftModulus_103
theorem eX2_liftModulus_104 : decode mX2_liftModulus.2.1 104 = .ok (.getfield 9, 3) := dX2_liftModulus_104
theorem eX2_liftModulus_107 : decode mX2_liftModulus.2.1 107 = .ok (.invokevirtual 110, 3) := dX2_liftModulus_107
theorem eX2_liftModulus_110 : decode mX2_liftModulus.2.1 110 = .ok (.istore_n 2, 1) := dX2_liftModulus_110
theorem eX2_liftModulus_111 : decode mX2_liftModulus.2.1 111 = .ok (.iinc 3 1, 3) := dX2_liftModulus_111
theorem eX2_liftModulus_114 : decode mX2_liftModulus.2.1 114 = .ok (.goto (-31), 3) := dX2_liftModulus_114
theorem eX2_liftModulus_117 : decode mX2_liftModulus.2.1 117 = .ok (.iconst 0, 1) := dX2_liftModulus_117
theorem eX2_liftModulus_118 : decode mX2_liftModulus.2.1 118 = .ok (.istore_n 3, 1) := dX2_liftModulus_118
theorem eX2_liftModulus_119 : decode mX2_liftModulus.2.1 119 = .ok (.iload_n 3, 1) := dX2_liftModulus_119
theorem eX2_liftModulus_120 : decode mX2_liftModulus.2.1 120 = .ok (.aload_n 0, 1) := dX2_liftModulus_120
theorem eX2_liftModulus_121 : decode mX2_liftModulus.2.1 121 = .ok (.getfield 18, 3) := dX2_liftModulus_121
theorem eX2_liftModulus_124 : decode mX2_liftModulus.2.1 124 = .ok (.if_icmp .gt 25, 3) := dX2_liftModulus_124
theorem eX2_liftModulus_127 : decode mX2_liftModulus.2.1 127 = .ok (.aload_n 0, 1) := dX2_liftModulus_127
theorem eX2_liftModulus_128 : decode mX2_liftModulus.2.1 128 = .ok (.getfield 33, 3) := dX2_liftModulus_128
theorem eX2_liftModulus_131 : decode mX2_liftModulus.2.1 131 = .ok (.iload_n 3, 1) := dX2_liftModulus_131
theorem eX2_liftModulus_132 : decode mX2_liftModulus.2.1 132 = .ok (.aload_n 0, 1) := dX2_liftModulus_132
theorem eX2_liftModulus_133 : decode mX2_liftModulus.2.1 133 = .ok (.getfield 57, 3) := dX2_liftModulus_133
theorem eX2_liftModulus_136 : decode mX2_liftModulus.2.1 136 = .ok (.iload_n 3, 1) := dX2_liftModulus_136
theorem eX2_liftModulus_137 : decode mX2_liftModulus.2.1 137 = .ok (.invokestatic 116, 3) := dX2_liftModulus_137
theorem eX2_liftModulus_140 : decode mX2_liftModulus.2.1 140 = .ok (.invokestatic 90, 3) := dX2_liftModulus_140
theorem eX2_liftModulus_143 : decode mX2_liftModulus.2.1 143 = .ok (.iinc 3 1, 3) := dX2_liftModulus_143
theorem eX2_liftModulus_146 : decode mX2_liftModulus.2.1 146 = .ok (.goto (-27), 3) := dX2_liftModulus_146
theorem eX2_liftModulus_149 : decode mX2_liftModulus.2.1 149 = .ok (.return_, 1) := dX2_liftModulus_149
theorem eX2_makesAllRoots_0 : decode mX2_makesAllRoots.2.1 0 = .ok (.iload_n 1, 1) := dX2_makesAllRoots_0
theorem eX2_makesAllRoots_1 : decode mX2_makesAllRoots.2.1 1 = .ok (.istore_n 2, 1) := dX2_makesAllRoots_1
theorem eX2_makesAllRoots_2 : decode mX2_makesAllRoots.2.1 2 = .ok (.iconst 1, 1) := dX2_makesAllRoots_2
theorem eX2_makesAllRoots_3 : decode mX2_makesAllRoots.2.1 3 = .ok (.istore_n 3, 1) := dX2_makesAllRoots_3
theorem eX2_makesAllRoots_4 : decode mX2_makesAllRoots.2.1 4 = .ok (.iload_n 3, 1) := dX2_makesAllRoots_4
theorem eX2_makesAllRoots_5 : decode mX2_makesAllRoots.2.1 5 = .ok (.aload_n 0, 1) := dX2_makesAllRoots_5
theorem eX2_makesAllRoots_6 : decode mX2_makesAllRoots.2.1 6 = .ok (.getfield 24, 3) := dX2_makesAllRoots_6
theorem eX2_makesAllRoots_9 : decode mX2_makesAllRoots.2.1 9 = .ok (.iconst 1, 1) := dX2_makesAllRoots_9
theorem eX2_makesAllRoots_10 : decode mX2_makesAllRoots.2.1 10 = .ok (.isub, 1) := dX2_makesAllRoots_10
theorem eX2_makesAllRoots_11 : decode mX2_makesAllRoots.2.1 11 = .ok (.if_icmp .ge 23, 3) := dX2_makesAllRoots_11
theorem eX2_makesAllRoots_14 : decode mX2_makesAllRoots.2.1 14 = .ok (.iload_n 2, 1) := dX2_makesAllRoots_14
theorem eX2_makesAllRoots_15 : decode mX2_makesAllRoots.2.1 15 = .ok (.iconst 1, 1) := dX2_makesAllRoots_15
theorem eX2_makesAllRoots_16 : decode mX2_makesAllRoots.2.1 16 = .ok (.if_icmp .ne 5, 3) := dX2_makesAllRoots_16
theorem eX2_makesAllRoots_19 : decode mX2_makesAllRoots.2.1 19 = .ok (.iconst 0, 1) := dX2_makesAllRoots_19
theorem eX2_makesAllRoots_20 : decode mX2_makesAllRoots.2.1 20 = .ok (.ireturn, 1) := dX2_makesAllRoots_20
theorem eX2_makesAllRoots_21 : decode mX2_makesAllRoots.2.1 21 = .ok (.aload_n 0, 1) := dX2_makesAllRoots_21
theorem eX2_makesAllRoots_22 : decode mX2_makesAllRoots.2.1 22 = .ok (.iload_n 2, 1) := dX2_makesAllRoots_22
theorem eX2_makesAllRoots_23 : decode mX2_makesAllRoots.2.1 23 = .ok (.iload_n 1, 1) := dX2_makesAllRoots_23
theorem eX2_makesAllRoots_24 : decode mX2_makesAllRoots.2.1 24 = .ok (.invokevirtual 132, 3) := dX2_makesAllRoots_24
theorem eX2_makesAllRoots_27 : decode mX2_makesAllRoots.2.1 27 = .ok (.istore_n 2, 1) := dX2_makesAllRoots_27
theorem eX2_makesAllRoots_28 : decode mX2_makesAllRoots.2.1 28 = .ok (.iinc 3 1, 3) := dX2_makesAllRoots_28
theorem eX2_makesAllRoots_31 : decode mX2_makesAllRoots.2.1 31 = .ok (.goto (-27), 3) := dX2_makesAllRoots_31
theorem eX2_makesAllRoots_34 : decode mX2_makesAllRoots.2.1 34 = .ok (.iconst 1, 1) := dX2_makesAllRoots_34
theorem eX2_makesAllRoots_35 : decode mX2_makesAllRoots.2.1 35 = .ok (.ireturn, 1) := dX2_makesAllRoots_35
theorem eX2_minus_0 : decode mX2_minus.2.1 0 = .ok (.iload_n 1, 1) := dX2_minus_0
theorem eX2_minus_1 : decode mX2_minus.2.1 1 = .ok (.iload_n 2, 1) := dX2_minus_1
theorem eX2_minus_2 : decode mX2_minus.2.1 2 = .ok (.aload_n 0, 1) := dX2_minus_2
theorem eX2_minus_3 : decode mX2_minus.2.1 3 = .ok (.getfield 21, 3) := dX2_minus_3
theorem eX2_minus_6 : decode mX2_minus.2.1 6 = .ok (.iconst 1, 1) := dX2_minus_6
theorem eX2_minus_7 : decode mX2_minus.2.1 7 = .ok (.isub, 1) := dX2_minus_7
theorem eX2_minus_8 : decode mX2_minus.2.1 8 = .ok (.aload_n 0, 1) := dX2_minus_8
theorem eX2_minus_9 : decode mX2_minus.2.1 9 = .ok (.getfield 21, 3) := dX2_minus_9
theorem eX2_minus_12 : decode mX2_minus.2.1 12 = .ok (.invokestatic 135, 3) := dX2_minus_12
theorem eX2_minus_15 : decode mX2_minus.2.1 15 = .ok (.ireturn, 1) := dX2_minus_15
theorem eX2_moved_0 : decode mX2_moved.2.1 0 = .ok (.aload_n 0, 1) := dX2_moved_0
theorem eX2_moved_1 : decode mX2_moved.2.1 1 = .ok (.iload_n 1, 1) := dX2_moved_1
theorem eX2_moved_2 : decode mX2_moved.2.1 2 = .ok (.aload_n 0, 1) := dX2_moved_2
theorem eX2_moved_3 : decode mX2_moved.2.1 3 = .ok (.getfield 48, 3) := dX2_moved_3
theorem eX2_moved_6 : decode mX2_moved.2.1 6 = .ok (.invokevirtual 120, 3) := dX2_moved_6
theorem eX2_moved_9 : decode mX2_moved.2.1 9 = .ok (.aload_n 0, 1) := dX2_moved_9
theorem eX2_moved_10 : decode mX2_moved.2.1 10 = .ok (.getfield 54, 3) := dX2_moved_10
theorem eX2_moved_13 : decode mX2_moved.2.1 13 = .ok (.iconst 0, 1) := dX2_moved_13
theorem eX2_moved_14 : decode mX2_moved.2.1 14 = .ok (.invokestatic 97, 3) := dX2_moved_14
theorem eX2_moved_17 : decode mX2_moved.2.1 17 = .ok (.iconst 0, 1) := dX2_moved_17
theorem eX2_moved_18 : decode mX2_moved.2.1 18 = .ok (.istore_n 2, 1) := dX2_moved_18
theorem eX2_moved_19 : decode mX2_moved.2.1 19 = .ok (.iload_n 2, 1) := dX2_moved_19
theorem eX2_moved_20 : decode mX2_moved.2.1 20 = .ok (.bipush 6, 2) := dX2_moved_20
theorem eX2_moved_22 : decode mX2_moved.2.1 22 = .ok (.if_icmp .ge 47, 3) := dX2_moved_22
theorem eX2_moved_25 : decode mX2_moved.2.1 25 = .ok (.iconst 0, 1) := dX2_moved_25
theorem eX2_moved_26 : decode mX2_moved.2.1 26 = .ok (.istore_n 3, 1) := dX2_moved_26
theorem eX2_moved_27 : decode mX2_moved.2.1 27 = .ok (.iload_n 3, 1) := dX2_moved_27
theorem eX2_moved_28 : decode mX2_moved.2.1 28 = .ok (.bipush 6, 2) := dX2_moved_28
theorem eX2_moved_30 : decode mX2_moved.2.1 30 = .ok (.if_icmp .ge 33, 3) := dX2_moved_30
theorem eX2_moved_33 : decode mX2_moved.2.1 33 = .ok (.aload_n 0, 1) := dX2_moved_33
theorem eX2_moved_34 : decode mX2_moved.2.1 34 = .ok (.getfield 54, 3) := dX2_moved_34
theorem eX2_moved_37 : decode mX2_moved.2.1 37 = .ok (.iload_n 3, 1) := dX2_moved_37
theorem eX2_moved_38 : decode mX2_moved.2.1 38 = .ok (.dup2, 1) := dX2_moved_38
theorem eX2_moved_39 : decode mX2_moved.2.1 39 = .ok (.iaload, 1) := dX2_moved_39
theorem eX2_moved_40 : decode mX2_moved.2.1 40 = .ok (.aload_n 0, 1) := dX2_moved_40
theorem eX2_moved_41 : decode mX2_moved.2.1 41 = .ok (.getfield 48, 3) := dX2_moved_41
theorem eX2_moved_44 : decode mX2_moved.2.1 44 = .ok (.iload_n 2, 1) := dX2_moved_44
theorem eX2_moved_45 : decode mX2_moved.2.1 45 = .ok (.iaload, 1) := dX2_moved_45
theorem eX2_moved_46 : decode mX2_moved.2.1 46 = .ok (.aload_n 0, 1) := dX2_moved_46
theorem eX2_moved_47 : decode mX2_moved.2.1 47 = .ok (.getfield 45, 3) := dX2_moved_47
theorem eX2_moved_50 : decode mX2_moved.2.1 50 = .ok (.iload_n 2, 1) := dX2_moved_50
theorem eX2_moved_51 : decode mX2_moved.2.1 51 = .ok (.aaload, 1) := dX2_moved_51
theorem eX2_moved_52 : decode mX2_moved.2.1 52 = .ok (.iload_n 3, 1) := dX2_moved_52
theorem eX2_moved_53 : decode mX2_moved.2.1 53 = .ok (.iaload, 1) := dX2_moved_53
theorem eX2_moved_54 : decode mX2_moved.2.1 54 = .ok (.imul, 1) := dX2_moved_54
theorem eX2_moved_55 : decode mX2_moved.2.1 55 = .ok (.iadd, 1) := dX2_moved_55
theorem eX2_moved_56 : decode mX2_moved.2.1 56 = .ok (.iastore, 1) := dX2_moved_56
theorem eX2_moved_57 : decode mX2_moved.2.1 57 = .ok (.iinc 3 1, 3) := dX2_moved_57
theorem eX2_moved_60 : decode mX2_moved.2.1 60 = .ok (.goto (-33), 3) := dX2_moved_60
theorem eX2_moved_63 : decode mX2_moved.2.1 63 = .ok (.iinc 2 1, 3) := dX2_moved_63
theorem eX2_moved_66 : decode mX2_moved.2.1 66 = .ok (.goto (-47), 3) := dX2_moved_66
theorem eX2_moved_69 : decode mX2_moved.2.1 69 = .ok (.aload_n 0, 1) := dX2_moved_69
theorem eX2_moved_70 : decode mX2_moved.2.1 70 = .ok (.aload_n 0, 1) := dX2_moved_70
theorem eX2_moved_71 : decode mX2_moved.2.1 71 = .ok (.getfield 54, 3) := dX2_moved_71
theorem eX2_moved_74 : decode mX2_moved.2.1 74 = .ok (.invokevirtual 142, 3) := dX2_moved_74
theorem eX2_moved_77 : decode mX2_moved.2.1 77 = .ok (.ireturn, 1) := dX2_moved_77
theorem eX2_norm_0 : decode mX2_norm.2.1 0 = .ok (.iconst 1, 1) := dX2_norm_0
theorem eX2_norm_1 : decode mX2_norm.2.1 1 = .ok (.istore_n 2, 1) := dX2_norm_1
theorem eX2_norm_2 : decode mX2_norm.2.1 2 = .ok (.iload_n 1, 1) := dX2_norm_2
theorem eX2_norm_3 : decode mX2_norm.2.1 3 = .ok (.istore_n 3, 1) := dX2_norm_3
theorem eX2_norm_4 : decode mX2_norm.2.1 4 = .ok (.iconst 0, 1) := dX2_norm_4
theorem eX2_norm_5 : decode mX2_norm.2.1 5 = .ok (.istore 4, 2) := dX2_norm_5
theorem eX2_norm_7 : decode mX2_norm.2.1 7 = .ok (.iload 4, 2) := dX2_norm_7
theorem eX2_norm_9 : decode mX2_norm.2.1 9 = .ok (.aload_n 0, 1) := dX2_norm_9
theorem eX2_norm_10 : decode mX2_norm.2.1 10 = .ok (.getfield 18, 3) := dX2_norm_10
theorem eX2_norm_13 : decode mX2_norm.2.1 13 = .ok (.if_icmp .ge 22, 3) := dX2_norm_13
theorem eX2_norm_16 : decode mX2_norm.2.1 16 = .ok (.aload_n 0, 1) := dX2_norm_16
theorem eX2_norm_17 : decode mX2_norm.2.1 17 = .ok (.iload_n 2, 1) := dX2_norm_17
theorem eX2_norm_18 : decode mX2_norm.2.1 18 = .ok (.iload_n 3, 1) := dX2_norm_18
theorem eX2_norm_19 : decode mX2_norm.2.1 19 = .ok (.invokevirtual 132, 3) := dX2_norm_19
theorem eX2_norm_22 : decode mX2_norm.2.1 22 = .ok (.istore_n 2, 1) := dX2_norm_22
theorem eX2_norm_23 : decode mX2_norm.2.1 23 = .ok (.aload_n 0, 1) := dX2_norm_23
theorem eX2_norm_24 : decode mX2_norm.2.1 24 = .ok (.iload_n 3, 1) := dX2_norm_24
theorem eX2_norm_25 : decode mX2_norm.2.1 25 = .ok (.invokevirtual 170, 3) := dX2_norm_25
theorem eX2_norm_28 : decode mX2_norm.2.1 28 = .ok (.istore_n 3, 1) := dX2_norm_28
theorem eX2_norm_29 : decode mX2_norm.2.1 29 = .ok (.iinc 4 1, 3) := dX2_norm_29
theorem eX2_norm_32 : decode mX2_norm.2.1 32 = .ok (.goto (-25), 3) := dX2_norm_32
theorem eX2_norm_35 : decode mX2_norm.2.1 35 = .ok (.iload_n 2, 1) := dX2_norm_35
theorem eX2_norm_36 : decode mX2_norm.2.1 36 = .ok (.ireturn, 1) := dX2_norm_36
theorem eX2_oneBelow_0 : decode mX2_oneBelow.2.1 0 = .ok (.aload_n 0, 1) := dX2_oneBelow_0
theorem eX2_oneBelow_1 : decode mX2_oneBelow.2.1 1 = .ok (.iload_n 1, 1) := dX2_oneBelow_1
theorem eX2_oneBelow_2 : decode mX2_oneBelow.2.1 2 = .ok (.aload_n 0, 1) := dX2_oneBelow_2
theorem eX2_oneBelow_3 : decode mX2_oneBelow.2.1 3 = .ok (.aload_n 0, 1) := dX2_oneBelow_3
theorem eX2_oneBelow_4 : decode mX2_oneBelow.2.1 4 = .ok (.iload_n 1, 1) := dX2_oneBelow_4
theorem eX2_oneBelow_5 : decode mX2_oneBelow.2.1 5 = .ok (.invokevirtual 161, 3) := dX2_oneBelow_5
theorem eX2_oneBelow_8 : decode mX2_oneBelow.2.1 8 = .ok (.invokevirtual 177, 3) := dX2_oneBelow_8
theorem eX2_oneBelow_11 : decode mX2_oneBelow.2.1 11 = .ok (.invokevirtual 132, 3) := dX2_oneBelow_11
theorem eX2_oneBelow_14 : decode mX2_oneBelow.2.1 14 = .ok (.ireturn, 1) := dX2_oneBelow_14
theorem eX2_order_0 : decode mX2_order.2.1 0 = .ok (.aload_n 0, 1) := dX2_order_0
theorem eX2_order_1 : decode mX2_order.2.1 1 = .ok (.getfield 24, 3) := dX2_order_1
theorem eX2_order_4 : decode mX2_order.2.1 4 = .ok (.iconst 1, 1) := dX2_order_4
theorem eX2_order_5 : decode mX2_order.2.1 5 = .ok (.isub, 1) := dX2_order_5
theorem eX2_order_6 : decode mX2_order.2.1 6 = .ok (.aload_n 0, 1) := dX2_order_6
theorem eX2_order_7 : decode mX2_order.2.1 7 = .ok (.iload_n 1, 1) := dX2_order_7
theorem eX2_order_8 : decode mX2_order.2.1 8 = .ok (.invokevirtual 157, 3) := dX2_order_8
theorem eX2_order_11 : decode mX2_order.2.1 11 = .ok (.aload_n 0, 1) := dX2_order_11
theorem eX2_order_12 : decode mX2_order.2.1 12 = .ok (.getfield 24, 3) := dX2_order_12
theorem eX2_order_15 : decode mX2_order.2.1 15 = .ok (.iconst 1, 1) := dX2_order_15
theorem eX2_order_16 : decode mX2_order.2.1 16 = .ok (.isub, 1) := dX2_order_16
theorem eX2_order_17 : decode mX2_order.2.1 17 = .ok (.invokestatic 180, 3) := dX2_order_17
theorem eX2_order_20 : decode mX2_order.2.1 20 = .ok (.invokestatic 94, 3) := dX2_order_20
theorem eX2_order_23 : decode mX2_order.2.1 23 = .ok (.istore_n 2, 1) := dX2_order_23
theorem eX2_order_24 : decode mX2_order.2.1 24 = .ok (.iload_n 2, 1) := dX2_order_24
theorem eX2_order_25 : decode mX2_order.2.1 25 = .ok (.aload_n 0, 1) := dX2_order_25
theorem eX2_order_26 : decode mX2_order.2.1 26 = .ok (.aload_n 0, 1) := dX2_order_26
theorem eX2_order_27 : decode mX2_order.2.1 27 = .ok (.iload_n 1, 1) := dX2_order_27
theorem eX2_order_28 : decode mX2_order.2.1 28 = .ok (.invokevirtual 183, 3) := dX2_order_28
theorem eX2_order_31 : decode mX2_order.2.1 31 = .ok (.invokevirtual 186, 3) := dX2_order_31
theorem eX2_order_34 : decode mX2_order.2.1 34 = .ok (.imul, 1) := dX2_order_34
theorem eX2_order_35 : decode mX2_order.2.1 35 = .ok (.ireturn, 1) := dX2_order_35
theorem eX2_orderOneBelow_0 : decode mX2_orderOneBelow.2.1 0 = .ok (.iconst 1, 1) := dX2_orderOneBelow_0
theorem eX2_orderOneBelow_1 : decode mX2_orderOneBelow.2.1 1 = .ok (.istore_n 2, 1) := dX2_orderOneBelow_1
theorem eX2_orderOneBelow_2 : decode mX2_orderOneBelow.2.1 2 = .ok (.iload_n 1, 1) := dX2_orderOneBelow_2
theorem eX2_orderOneBelow_3 : decode mX2_orderOneBelow.2.1 3 = .ok (.istore_n 3, 1) := dX2_orderOneBelow_3
theorem eX2_orderOneBelow_4 : decode mX2_orderOneBelow.2.1 4 = .ok (.iconst 1, 1) := dX2_orderOneBelow_4
theorem eX2_orderOneBelow_5 : decode mX2_orderOneBelow.2.1 5 = .ok (.istore 4, 2) := dX2_orderOneBelow_5
theorem eX2_orderOneBelow_7 : decode mX2_orderOneBelow.2.1 7 = .ok (.iload 4, 2) := dX2_orderOneBelow_7
theorem eX2_orderOneBelow_9 : decode mX2_orderOneBelow.2.1 9 = .ok (.aload_n 0, 1) := dX2_orderOneBelow_9
theorem eX2_orderOneBelow_10 : decode mX2_orderOneBelow.2.1 10 = .ok (.getfield 15, 3) := dX2_orderOneBelow_10
theorem eX2_orderOneBelow_13 : decode mX2_orderOneBelow.2.1 13 = .ok (.if_icmp .ge 31, 3) := dX2_orderOneBelow_13
theorem eX2_orderOneBelow_16 : decode mX2_orderOneBelow.2.1 16 = .ok (.iload_n 3, 1) := dX2_orderOneBelow_16
theorem eX2_orderOneBelow_17 : decode mX2_orderOneBelow.2.1 17 = .ok (.iconst 1, 1) := dX2_orderOneBelow_17
theorem eX2_orderOneBelow_18 : decode mX2_orderOneBelow.2.1 18 = .ok (.if_icmp .eq 26, 3) := dX2_orderOneBelow_18
theorem eX2_orderOneBelow_21 : decode mX2_orderOneBelow.2.1 21 = .ok (.aload_n 0, 1) := dX2_orderOneBelow_21
theorem eX2_orderOneBelow_22 : decode mX2_orderOneBelow.2.1 22 = .ok (.iload_n 3, 1) := dX2_orderOneBelow_22
theorem eX2_orderOneBelow_23 : decode mX2_orderOneBelow.2.1 23 = .ok (.aload_n 0, 1) := dX2_orderOneBelow_23
theorem eX2_orderOneBelow_24 : decode mX2_orderOneBelow.2.1 24 = .ok (.getfield 9, 3) := dX2_orderOneBelow_24
theorem eX2_orderOneBelow_27 : decode mX2_orderOneBelow.2.1 27 = .ok (.invokevirtual 110, 3) := dX2_orderOneBelow_27
theorem eX2_orderOneBelow_30 : decode mX2_orderOneBelow.2.1 30 = .ok (.istore_n 3, 1) := dX2_orderOneBelow_30
theorem eX2_orderOneBelow_31 : decode mX2_orderOneBelow.2.1 31 = .ok (.iload_n 2, 1) := dX2_orderOneBelow_31
theorem eX2_orderOneBelow_32 : decode mX2_orderOneBelow.2.1 32 = .ok (.aload_n 0, 1) := dX2_orderOneBelow_32
theorem eX2_orderOneBelow_33 : decode mX2_orderOneBelow.2.1 33 = .ok (.getfield 9, 3) := dX2_orderOneBelow_33
theorem eX2_orderOneBelow_36 : decode mX2_orderOneBelow.2.1 36 = .ok (.imul, 1) := dX2_orderOneBelow_36
theorem eX2_orderOneBelow_37 : decode mX2_orderOneBelow.2.1 37 = .ok (.istore_n 2, 1) := dX2_orderOneBelow_37
theorem eX2_orderOneBelow_38 : decode mX2_orderOneBelow.2.1 38 = .ok (.iinc 4 1, 3) := dX2_orderOneBelow_38
theorem eX2_orderOneBelow_41 : decode mX2_orderOneBelow.2.1 41 = .ok (.goto (-34), 3) := dX2_orderOneBelow_41
theorem eX2_orderOneBelow_44 : decode mX2_orderOneBelow.2.1 44 = .ok (.iload_n 2, 1) := dX2_orderOneBelow_44
theorem eX2_orderOneBelow_45 : decode mX2_orderOneBelow.2.1 45 = .ok (.ireturn, 1) := dX2_orderOneBelow_45
theorem eX2_plus_0 : decode mX2_plus.2.1 0 = .ok (.iload_n 1, 1) := dX2_plus_0
theorem eX2_plus_1 : decode mX2_plus.2.1 1 = .ok (.iload_n 2, 1) := dX2_plus_1
theorem eX2_plus_2 : decode mX2_plus.2.1 2 = .ok (.iconst 1, 1) := dX2_plus_2
theorem eX2_plus_3 : decode mX2_plus.2.1 3 = .ok (.aload_n 0, 1) := dX2_plus_3
theorem eX2_plus_4 : decode mX2_plus.2.1 4 = .ok (.getfield 21, 3) := dX2_plus_4
theorem eX2_plus_7 : decode mX2_plus.2.1 7 = .ok (.invokestatic 135, 3) := dX2_plus_7
theorem eX2_plus_10 : decode mX2_plus.2.1 10 = .ok (.ireturn, 1) := dX2_plus_10
theorem eX2_power_0 : decode mX2_power.2.1 0 = .ok (.iconst 1, 1) := dX2_power_0
theorem eX2_power_1 : decode mX2_power.2.1 1 = .ok (.istore_n 3, 1) := dX2_power_1
theorem eX2_power_2 : decode mX2_power.2.1 2 = .ok (.iload_n 1, 1) := dX2_power_2
theorem eX2_power_3 : decode mX2_power.2.1 3 = .ok (.istore 4, 2) := dX2_power_3
theorem eX2_power_5 : decode mX2_power.2.1 5 = .ok (.iload_n 2, 1) := dX2_power_5
theorem eX2_power_6 : decode mX2_power.2.1 6 = .ok (.istore 5, 2) := dX2_power_6
theorem eX2_power_8 : decode mX2_power.2.1 8 = .ok (.iload 5, 2) := dX2_power_8
theorem eX2_power_10 : decode mX2_power.2.1 10 = .ok (.ifCond .le 49, 3) := dX2_power_10
theorem eX2_power_13 : decode mX2_power.2.1 13 = .ok (.iload 5, 2) := dX2_power_13
theorem eX2_power_15 : decode mX2_power.2.1 15 = .ok (.iconst 1, 1) := dX2_power_15
theorem eX2_power_16 : decode mX2_power.2.1 16 = .ok (.iand, 1) := dX2_power_16
theorem eX2_power_17 : decode mX2_power.2.1 17 = .ok (.iconst 1, 1) := dX2_power_17
theorem eX2_power_18 : decode mX2_power.2.1 18 = .ok (.if_icmp .ne 11, 3) := dX2_power_18
theorem eX2_power_21 : decode mX2_power.2.1 21 = .ok (.aload_n 0, 1) := dX2_power_21
theorem eX2_power_22 : decode mX2_power.2.1 22 = .ok (.iload_n 3, 1) := dX2_power_22
theorem eX2_power_23 : decode mX2_power.2.1 23 = .ok (.iload 4, 2) := dX2_power_23
theorem eX2_power_25 : decode mX2_power.2.1 25 = .ok (.invokevirtual 132, 3) := dX2_power_25
theorem eX2_power_28 : decode mX2_power.2.1 28 = .ok (.istore_n 3, 1) := dX2_power_28
theorem eX2_power_29 : decode mX2_power.2.1 29 = .ok (.iload 5, 2) := dX2_power_29
theorem eX2_power_31 : decode mX2_power.2.1 31 = .ok (.iconst 1, 1) := dX2_power_31
theorem eX2_power_32 : decode mX2_power.2.1 32 = .ok (.if_icmp .le 14, 3) := dX2_power_32
theorem eX2_power_35 : decode mX2_power.2.1 35 = .ok (.aload_n 0, 1) := dX2_power_35
theorem eX2_power_36 : decode mX2_power.2.1 36 = .ok (.iload 4, 2) := dX2_power_36
theorem eX2_power_38 : decode mX2_power.2.1 38 = .ok (.iload 4, 2) := dX2_power_38
theorem eX2_power_40 : decode mX2_power.2.1 40 = .ok (.invokevirtual 132, 3) := dX2_power_40
theorem eX2_power_43 : decode mX2_power.2.1 43 = .ok (.goto 5, 3) := dX2_power_43
theorem eX2_power_46 : decode mX2_power.2.1 46 = .ok (.iload 4, 2) := dX2_power_46
theorem eX2_power_48 : decode mX2_power.2.1 48 = .ok (.istore 4, 2) := dX2_power_48
theorem eX2_power_50 : decode mX2_power.2.1 50 = .ok (.iload 5, 2) := dX2_power_50
theorem eX2_power_52 : decode mX2_power.2.1 52 = .ok (.iconst 1, 1) := dX2_power_52
theorem eX2_power_53 : decode mX2_power.2.1 53 = .ok (.ishr, 1) := dX2_power_53
theorem eX2_power_54 : decode mX2_power.2.1 54 = .ok (.istore 5, 2) := dX2_power_54
theorem eX2_power_56 : decode mX2_power.2.1 56 = .ok (.goto (-48), 3) := dX2_power_56
theorem eX2_power_59 : decode mX2_power.2.1 59 = .ok (.iload_n 3, 1) := dX2_power_59
theorem eX2_power_60 : decode mX2_power.2.1 60 = .ok (.ireturn, 1) := dX2_power_60
theorem eX2_rebase_0 : decode mX2_rebase.2.1 0 = .ok (.iconst 0, 1) := dX2_rebase_0
theorem eX2_rebase_1 : decode mX2_rebase.2.1 1 = .ok (.istore 4, 2) := dX2_rebase_1
theorem eX2_rebase_3 : decode mX2_rebase.2.1 3 = .ok (.iconst 1, 1) := dX2_rebase_3
theorem eX2_rebase_4 : decode mX2_rebase.2.1 4 = .ok (.istore 5, 2) := dX2_rebase_4
theorem eX2_rebase_6 : decode mX2_rebase.2.1 6 = .ok (.iload_n 1, 1) := dX2_rebase_6
theorem eX2_rebase_7 : decode mX2_rebase.2.1 7 = .ok (.istore 6, 2) := dX2_rebase_7
theorem eX2_rebase_9 : decode mX2_rebase.2.1 9 = .ok (.iconst 0, 1) := dX2_rebase_9
theorem eX2_rebase_10 : decode mX2_rebase.2.1 10 = .ok (.istore 7, 2) := dX2_rebase_10
theorem eX2_rebase_12 : decode mX2_rebase.2.1 12 = .ok (.iload 7, 2) := dX2_rebase_12
theorem eX2_rebase_14 : decode mX2_rebase.2.1 14 = .ok (.aload_n 0, 1) := dX2_rebase_14
theorem eX2_rebase_15 : decode mX2_rebase.2.1 15 = .ok (.getfield 18, 3) := dX2_rebase_15
theorem eX2_rebase_18 : decode mX2_rebase.2.1 18 = .ok (.if_icmp .ge 44, 3) := dX2_rebase_18
theorem eX2_rebase_21 : decode mX2_rebase.2.1 21 = .ok (.iload 4, 2) := dX2_rebase_21
theorem eX2_rebase_23 : decode mX2_rebase.2.1 23 = .ok (.iload 5, 2) := dX2_rebase_23
theorem eX2_rebase_25 : decode mX2_rebase.2.1 25 = .ok (.iload 6, 2) := dX2_rebase_25
theorem eX2_rebase_27 : decode mX2_rebase.2.1 27 = .ok (.iload_n 2, 1) := dX2_rebase_27
theorem eX2_rebase_28 : decode mX2_rebase.2.1 28 = .ok (.invokestatic 87, 3) := dX2_rebase_28
theorem eX2_rebase_31 : decode mX2_rebase.2.1 31 = .ok (.aload_n 0, 1) := dX2_rebase_31
theorem eX2_rebase_32 : decode mX2_rebase.2.1 32 = .ok (.getfield 9, 3) := dX2_rebase_32
theorem eX2_rebase_35 : decode mX2_rebase.2.1 35 = .ok (.invokestatic 87, 3) := dX2_rebase_35
theorem eX2_rebase_38 : decode mX2_rebase.2.1 38 = .ok (.imul, 1) := dX2_rebase_38
theorem eX2_rebase_39 : decode mX2_rebase.2.1 39 = .ok (.iadd, 1) := dX2_rebase_39
theorem eX2_rebase_40 : decode mX2_rebase.2.1 40 = .ok (.istore 4, 2) := dX2_rebase_40
theorem eX2_rebase_42 : decode mX2_rebase.2.1 42 = .ok (.iload 6, 2) := dX2_rebase_42
theorem eX2_rebase_44 : decode mX2_rebase.2.1 44 = .ok (.iload_n 2, 1) := dX2_rebase_44
theorem eX2_rebase_45 : decode mX2_rebase.2.1 45 = .ok (.invokestatic 94, 3) := dX2_rebase_45
theorem eX2_rebase_48 : decode mX2_rebase.2.1 48 = .ok (.istore 6, 2) := dX2_rebase_48
theorem eX2_rebase_50 : decode mX2_rebase.2.1 50 = .ok (.iload 5, 2) := dX2_rebase_50
theorem eX2_rebase_52 : decode mX2_rebase.2.1 52 = .ok (.iload_n 3, 1) := dX2_rebase_52
theorem eX2_rebase_53 : decode mX2_rebase.2.1 53 = .ok (.imul, 1) := dX2_rebase_53
theorem eX2_rebase_54 : decode mX2_rebase.2.1 54 = .ok (.istore 5, 2) := dX2_rebase_54
theorem eX2_rebase_56 : decode mX2_rebase.2.1 56 = .ok (.iinc 7 1, 3) := dX2_rebase_56
theorem eX2_rebase_59 : decode mX2_rebase.2.1 59 = .ok (.goto (-47), 3) := dX2_rebase_59
theorem eX2_rebase_62 : decode mX2_rebase.2.1 62 = .ok (.iload 4, 2) := dX2_rebase_62
theorem eX2_rebase_64 : decode mX2_rebase.2.1 64 = .ok (.ireturn, 1) := dX2_rebase_64
theorem eX2_rootLog_0 : decode mX2_rootLog.2.1 0 = .ok (.aload_n 0, 1) := dX2_rootLog_0
theorem eX2_rootLog_1 : decode mX2_rootLog.2.1 1 = .ok (.getfield 40, 3) := dX2_rootLog_1
theorem eX2_rootLog_4 : decode mX2_rootLog.2.1 4 = .ok (.aload_n 0, 1) := dX2_rootLog_4
theorem eX2_rootLog_5 : decode mX2_rootLog.2.1 5 = .ok (.iload_n 1, 1) := dX2_rootLog_5
theorem eX2_rootLog_6 : decode mX2_rootLog.2.1 6 = .ok (.aload_n 0, 1) := dX2_rootLog_6
theorem eX2_rootLog_7 : decode mX2_rootLog.2.1 7 = .ok (.getfield 21, 3) := dX2_rootLog_7
theorem eX2_rootLog_10 : decode mX2_rootLog.2.1 10 = .ok (.aload_n 0, 1) := dX2_rootLog_10
theorem eX2_rootLog_11 : decode mX2_rootLog.2.1 11 = .ok (.getfield 9, 3) := dX2_rootLog_11
theorem eX2_rootLog_14 : decode mX2_rootLog.2.1 14 = .ok (.invokevirtual 124, 3) := dX2_rootLog_14
theorem eX2_rootLog_17 : decode mX2_rootLog.2.1 17 = .ok (.invokestatic 116, 3) := dX2_rootLog_17
theorem eX2_rootLog_20 : decode mX2_rootLog.2.1 20 = .ok (.ireturn, 1) := dX2_rootLog_20
theorem eX2_rootOf_0 : decode mX2_rootOf.2.1 0 = .ok (.aload_n 0, 1) := dX2_rootOf_0
theorem eX2_rootOf_1 : decode mX2_rootOf.2.1 1 = .ok (.iload_n 1, 1) := dX2_rootOf_1
theorem eX2_rootOf_2 : decode mX2_rootOf.2.1 2 = .ok (.invokevirtual 157, 3) := dX2_rootOf_2
theorem eX2_rootOf_5 : decode mX2_rootOf.2.1 5 = .ok (.istore_n 2, 1) := dX2_rootOf_5
theorem eX2_rootOf_6 : decode mX2_rootOf.2.1 6 = .ok (.iload_n 2, 1) := dX2_rootOf_6
theorem eX2_rootOf_7 : decode mX2_rootOf.2.1 7 = .ok (.iconst (-1), 1) := dX2_rootOf_7
theorem eX2_rootOf_8 : decode mX2_rootOf.2.1 8 = .ok (.if_icmp .ne 7, 3) := dX2_rootOf_8
theorem eX2_rootOf_11 : decode mX2_rootOf.2.1 11 = .ok (.iconst 0, 1) := dX2_rootOf_11
theorem eX2_rootOf_12 : decode mX2_rootOf.2.1 12 = .ok (.goto 11, 3) := dX2_rootOf_12
theorem eX2_rootOf_15 : decode mX2_rootOf.2.1 15 = .ok (.aload_n 0, 1) := dX2_rootOf_15
theorem eX2_rootOf_16 : decode mX2_rootOf.2.1 16 = .ok (.getfield 37, 3) := dX2_rootOf_16
theorem eX2_rootOf_19 : decode mX2_rootOf.2.1 19 = .ok (.iload_n 2, 1) := dX2_rootOf_19
theorem eX2_rootOf_20 : decode mX2_rootOf.2.1 20 = .ok (.invokestatic 116, 3) := dX2_rootOf_20
theorem eX2_rootOf_23 : decode mX2_rootOf.2.1 23 = .ok (.ireturn, 1) := dX2_rootOf_23
theorem eX2_spread_0 : decode mX2_spread.2.1 0 = .ok (.aload_n 0, 1) := dX2_spread_0
theorem eX2_spread_1 : decode mX2_spread.2.1 1 = .ok (.getfield 21, 3) := dX2_spread_1
theorem eX2_spread_4 : decode mX2_spread.2.1 4 = .ok (.iconst 2, 1) := dX2_spread_4
theorem eX2_spread_5 : decode mX2_spread.2.1 5 = .ok (.if_icmp .ge 4, 3) := dX2_spread_5
theorem eX2_spread_9 : decode mX2_spread.2.1 9 = .ok (.iload_n 1, 1) := dX2_spread_9
theorem eX2_spread_10 : decode mX2_spread.2.1 10 = .ok (.istore_n 3, 1) := dX2_spread_10
theorem eX2_spread_11 : decode mX2_spread.2.1 11 = .ok (.iconst 0, 1) := dX2_spread_11
theorem eX2_spread_12 : decode mX2_spread.2.1 12 = .ok (.istore 4, 2) := dX2_spread_12
theorem eX2_spread_14 : decode mX2_spread.2.1 14 = .ok (.iload 4, 2) := dX2_spread_14
theorem eX2_spread_16 : decode mX2_spread.2.1 16 = .ok (.aload_n 2, 1) := dX2_spread_16
theorem eX2_spread_17 : decode mX2_spread.2.1 17 = .ok (.arraylength, 1) := dX2_spread_17
theorem eX2_spread_18 : decode mX2_spread.2.1 18 = .ok (.if_icmp .ge 26, 3) := dX2_spread_18
theorem eX2_spread_21 : decode mX2_spread.2.1 21 = .ok (.aload_n 2, 1) := dX2_spread_21
theorem eX2_spread_22 : decode mX2_spread.2.1 22 = .ok (.iload 4, 2) := dX2_spread_22
theorem eX2_spread_24 : decode mX2_spread.2.1 24 = .ok (.iload_n 3, 1) := dX2_spread_24
theorem eX2_spread_25 : decode mX2_spread.2.1 25 = .ok (.aload_n 0, 1) := dX2_spread_25
theorem eX2_spread_26 : decode mX2_spread.2.1 26 = .ok (.getfield 21, 3) := dX2_spread_26
theorem eX2_spread_29 : decode mX2_spread.2.1 29 = .ok (.irem, 1) := dX2_spread_29
theorem eX2_spread_30 : decode mX2_spread.2.1 30 = .ok (.iastore, 1) := dX2_spread_30
theorem eX2_spread_31 : decode mX2_spread.2.1 31 = .ok (.iload_n 3, 1) := dX2_spread_31
theorem eX2_spread_32 : decode mX2_spread.2.1 32 = .ok (.aload_n 0, 1) := dX2_spread_32
theorem eX2_spread_33 : decode mX2_spread.2.1 33 = .ok (.getfield 21, 3) := dX2_spread_33
theorem eX2_spread_36 : decode mX2_spread.2.1 36 = .ok (.idiv, 1) := dX2_spread_36
theorem eX2_spread_37 : decode mX2_spread.2.1 37 = .ok (.istore_n 3, 1) := dX2_spread_37
theorem eX2_spread_38 : decode mX2_spread.2.1 38 = .ok (.iinc 4 1, 3) := dX2_spread_38
theorem eX2_spread_41 : decode mX2_spread.2.1 41 = .ok (.goto (-27), 3) := dX2_spread_41
theorem eX2_spread_44 : decode mX2_spread.2.1 44 = .ok (.return_, 1) := dX2_spread_44
theorem eX2_t_0 : decode mX2_t.2.1 0 = .ok (.aload_n 0, 1) := dX2_t_0
theorem eX2_t_1 : decode mX2_t.2.1 1 = .ok (.getfield 18, 3) := dX2_t_1
theorem eX2_t_4 : decode mX2_t.2.1 4 = .ok (.iconst 1, 1) := dX2_t_4
theorem eX2_t_5 : decode mX2_t.2.1 5 = .ok (.if_icmp .ne 7, 3) := dX2_t_5
theorem eX2_t_8 : decode mX2_t.2.1 8 = .ok (.iconst 0, 1) := dX2_t_8
theorem eX2_t_9 : decode mX2_t.2.1 9 = .ok (.goto 7, 3) := dX2_t_9
theorem eX2_t_12 : decode mX2_t.2.1 12 = .ok (.aload_n 0, 1) := dX2_t_12
theorem eX2_t_13 : decode mX2_t.2.1 13 = .ok (.getfield 21, 3) := dX2_t_13
theorem eX2_t_16 : decode mX2_t.2.1 16 = .ok (.ireturn, 1) := dX2_t_16
theorem eX2_times_0 : decode mX2_times.2.1 0 = .ok (.aload_n 0, 1) := dX2_times_0
theorem eX2_times_1 : decode mX2_times.2.1 1 = .ok (.iload_n 1, 1) := dX2_times_1
theorem eX2_times_2 : decode mX2_times.2.1 2 = .ok (.aload_n 0, 1) := dX2_times_2
theorem eX2_times_3 : decode mX2_times.2.1 3 = .ok (.getfield 48, 3) := dX2_times_3
theorem eX2_times_6 : decode mX2_times.2.1 6 = .ok (.invokevirtual 120, 3) := dX2_times_6
theorem eX2_times_9 : decode mX2_times.2.1 9 = .ok (.aload_n 0, 1) := dX2_times_9
theorem eX2_times_10 : decode mX2_times.2.1 10 = .ok (.iload_n 2, 1) := dX2_times_10
theorem eX2_times_11 : decode mX2_times.2.1 11 = .ok (.aload_n 0, 1) := dX2_times_11
theorem eX2_times_12 : decode mX2_times.2.1 12 = .ok (.getfield 51, 3) := dX2_times_12
theorem eX2_times_15 : decode mX2_times.2.1 15 = .ok (.invokevirtual 120, 3) := dX2_times_15
theorem eX2_times_18 : decode mX2_times.2.1 18 = .ok (.aload_n 0, 1) := dX2_times_18
theorem eX2_times_19 : decode mX2_times.2.1 19 = .ok (.getfield 54, 3) := dX2_times_19
theorem eX2_times_22 : decode mX2_times.2.1 22 = .ok (.iconst 0, 1) := dX2_times_22
theorem eX2_times_23 : decode mX2_times.2.1 23 = .ok (.invokestatic 97, 3) := dX2_times_23
theorem eX2_times_26 : decode mX2_times.2.1 26 = .ok (.iconst 0, 1) := dX2_times_26
theorem eX2_times_27 : decode mX2_times.2.1 27 = .ok (.istore_n 3, 1) := dX2_times_27
theorem eX2_times_28 : decode mX2_times.2.1 28 = .ok (.iload_n 3, 1) := dX2_times_28
theorem eX2_times_29 : decode mX2_times.2.1 29 = .ok (.bipush 6, 2) := dX2_times_29
theorem eX2_times_31 : decode mX2_times.2.1 31 = .ok (.if_icmp .ge 51, 3) := dX2_times_31
theorem eX2_times_34 : decode mX2_times.2.1 34 = .ok (.iconst 0, 1) := dX2_times_34
theorem eX2_times_35 : decode mX2_times.2.1 35 = .ok (.istore 4, 2) := dX2_times_35
theorem eX2_times_37 : decode mX2_times.2.1 37 = .ok (.iload 4, 2) := dX2_times_37
theorem eX2_times_39 : decode mX2_times.2.1 39 = .ok (.bipush 6, 2) := dX2_times_39
theorem eX2_times_41 : decode mX2_times.2.1 41 = .ok (.if_icmp .ge 35, 3) := dX2_times_41
theorem eX2_times_44 : decode mX2_times.2.1 44 = .ok (.aload_n 0, 1) := dX2_times_44
theorem eX2_times_45 : decode mX2_times.2.1 45 = .ok (.getfield 54, 3) := dX2_times_45
theorem eX2_times_48 : decode mX2_times.2.1 48 = .ok (.iload_n 3, 1) := dX2_times_48
theorem eX2_times_49 : decode mX2_times.2.1 49 = .ok (.iload 4, 2) := dX2_times_49
theorem eX2_times_51 : decode mX2_times.2.1 51 = .ok (.iadd, 1) := dX2_times_51
theorem eX2_times_52 : decode mX2_times.2.1 52 = .ok (.dup2, 1) := dX2_times_52
theorem eX2_times_53 : decode mX2_times.2.1 53 = .ok (.iaload, 1) := dX2_times_53
theorem eX2_times_54 : decode mX2_times.2.1 54 = .ok (.aload_n 0, 1) := dX2_times_54
theorem eX2_times_55 : decode mX2_times.2.1 55 = .ok (.getfield 48, 3) := dX2_times_55
theorem eX2_times_58 : decode mX2_times.2.1 58 = .ok (.iload_n 3, 1) := dX2_times_58
theorem eX2_times_59 : decode mX2_times.2.1 59 = .ok (.iaload, 1) := dX2_times_59
theorem eX2_times_60 : decode mX2_times.2.1 60 = .ok (.aload_n 0, 1) := dX2_times_60
theorem eX2_times_61 : decode mX2_times.2.1 61 = .ok (.getfield 51, 3) := dX2_times_61
theorem eX2_times_64 : decode mX2_times.2.1 64 = .ok (.iload 4, 2) := dX2_times_64
theorem eX2_times_66 : decode mX2_times.2.1 66 = .ok (.iaload, 1) := dX2_times_66
theorem eX2_times_67 : decode mX2_times.2.1 67 = .ok (.imul, 1) := dX2_times_67
theorem eX2_times_68 : decode mX2_times.2.1 68 = .ok (.iadd, 1) := dX2_times_68
theorem eX2_times_69 : decode mX2_times.2.1 69 = .ok (.iastore, 1) := dX2_times_69
theorem eX2_times_70 : decode mX2_times.2.1 70 = .ok (.iinc 4 1, 3) := dX2_times_70
theorem eX2_times_73 : decode mX2_times.2.1 73 = .ok (.goto (-36), 3) := dX2_times_73
theorem eX2_times_76 : decode mX2_times.2.1 76 = .ok (.iinc 3 1, 3) := dX2_times_76
theorem eX2_times_79 : decode mX2_times.2.1 79 = .ok (.goto (-51), 3) := dX2_times_79
theorem eX2_times_82 : decode mX2_times.2.1 82 = .ok (.iconst 2, 1) := dX2_times_82
theorem eX2_times_83 : decode mX2_times.2.1 83 = .ok (.aload_n 0, 1) := dX2_times_83
theorem eX2_times_84 : decode mX2_times.2.1 84 = .ok (.getfield 18, 3) := dX2_times_84
theorem eX2_times_87 : decode mX2_times.2.1 87 = .ok (.imul, 1) := dX2_times_87
theorem eX2_times_88 : decode mX2_times.2.1 88 = .ok (.iconst 2, 1) := dX2_times_88
theorem eX2_times_89 : decode mX2_times.2.1 89 = .ok (.isub, 1) := dX2_times_89
theorem eX2_times_90 : decode mX2_times.2.1 90 = .ok (.istore_n 3, 1) := dX2_times_90
theorem eX2_times_91 : decode mX2_times.2.1 91 = .ok (.iload_n 3, 1) := dX2_times_91
theorem eX2_times_92 : decode mX2_times.2.1 92 = .ok (.aload_n 0, 1) := dX2_times_92
theorem eX2_times_93 : decode mX2_times.2.1 93 = .ok (.getfield 18, 3) := dX2_times_93
theorem eX2_times_96 : decode mX2_times.2.1 96 = .ok (.if_icmp .lt 77, 3) := dX2_times_96
theorem eX2_times_99 : decode mX2_times.2.1 99 = .ok (.aload_n 0, 1) := dX2_times_99
theorem eX2_times_100 : decode mX2_times.2.1 100 = .ok (.getfield 54, 3) := dX2_times_100
theorem eX2_times_103 : decode mX2_times.2.1 103 = .ok (.iload_n 3, 1) := dX2_times_103
theorem eX2_times_104 : decode mX2_times.2.1 104 = .ok (.invokestatic 116, 3) := dX2_times_104
theorem eX2_times_107 : decode mX2_times.2.1 107 = .ok (.aload_n 0, 1) := dX2_times_107
theorem eX2_times_108 : decode mX2_times.2.1 108 = .ok (.getfield 21, 3) := dX2_times_108
theorem eX2_times_111 : decode mX2_times.2.1 111 = .ok (.invokestatic 87, 3) := dX2_times_111
theorem eX2_times_114 : decode mX2_times.2.1 114 = .ok (.istore 4, 2) := dX2_times_114
theorem eX2_times_116 : decode mX2_times.2.1 116 = .ok (.iconst 0, 1) := dX2_times_116
theorem eX2_times_117 : decode mX2_times.2.1 117 = .ok (.istore 5, 2) := dX2_times_117
theorem eX2_times_119 : decode mX2_times.2.1 119 = .ok (.iload 5, 2) := dX2_times_119
theorem eX2_times_121 : decode mX2_times.2.1 121 = .ok (.aload_n 0, 1) := dX2_times_121
theorem eX2_times_122 : decode mX2_times.2.1 122 = .ok (.getfield 18, 3) := dX2_times_122
theorem eX2_times_125 : decode mX2_times.2.1 125 = .ok (.if_icmp .ge 42, 3) := dX2_times_125
theorem eX2_times_128 : decode mX2_times.2.1 128 = .ok (.aload_n 0, 1) := dX2_times_128
theorem eX2_times_129 : decode mX2_times.2.1 129 = .ok (.getfield 54, 3) := dX2_times_129
theorem eX2_times_132 : decode mX2_times.2.1 132 = .ok (.iload_n 3, 1) := dX2_times_132
theorem eX2_times_133 : decode mX2_times.2.1 133 = .ok (.aload_n 0, 1) := dX2_times_133
theorem eX2_times_134 : decode mX2_times.2.1 134 = .ok (.getfield 18, 3) := dX2_times_134
theorem eX2_times_137 : decode mX2_times.2.1 137 = .ok (.isub, 1) := dX2_times_137
theorem eX2_times_138 : decode mX2_times.2.1 138 = .ok (.iload 5, 2) := dX2_times_138
theorem eX2_times_140 : decode mX2_times.2.1 140 = .ok (.iadd, 1) := dX2_times_140
theorem eX2_times_141 : decode mX2_times.2.1 141 = .ok (.iload 4, 2) := dX2_times_141
theorem eX2_times_143 : decode mX2_times.2.1 143 = .ok (.aload_n 0, 1) := dX2_times_143
theorem eX2_times_144 : decode mX2_times.2.1 144 = .ok (.getfield 21, 3) := dX2_times_144
theorem eX2_times_147 : decode mX2_times.2.1 147 = .ok (.aload_n 0, 1) := dX2_times_147
theorem eX2_times_148 : decode mX2_times.2.1 148 = .ok (.getfield 33, 3) := dX2_times_148
theorem eX2_times_151 : decode mX2_times.2.1 151 = .ok (.iload 5, 2) := dX2_times_151
theorem eX2_times_153 : decode mX2_times.2.1 153 = .ok (.invokestatic 116, 3) := dX2_times_153
theorem eX2_times_156 : decode mX2_times.2.1 156 = .ok (.isub, 1) := dX2_times_156
theorem eX2_times_157 : decode mX2_times.2.1 157 = .ok (.imul, 1) := dX2_times_157
theorem eX2_times_158 : decode mX2_times.2.1 158 = .ok (.invokestatic 139, 3) := dX2_times_158
theorem eX2_times_161 : decode mX2_times.2.1 161 = .ok (.iinc 5 1, 3) := dX2_times_161
theorem eX2_times_164 : decode mX2_times.2.1 164 = .ok (.goto (-45), 3) := dX2_times_164
theorem eX2_times_167 : decode mX2_times.2.1 167 = .ok (.iinc 3 (-1), 3) := dX2_times_167
theorem eX2_times_170 : decode mX2_times.2.1 170 = .ok (.goto (-79), 3) := dX2_times_170
theorem eX2_times_173 : decode mX2_times.2.1 173 = .ok (.aload_n 0, 1) := dX2_times_173
theorem eX2_times_174 : decode mX2_times.2.1 174 = .ok (.aload_n 0, 1) := dX2_times_174
theorem eX2_times_175 : decode mX2_times.2.1 175 = .ok (.getfield 54, 3) := dX2_times_175
theorem eX2_times_178 : decode mX2_times.2.1 178 = .ok (.invokevirtual 142, 3) := dX2_times_178
theorem eX2_times_181 : decode mX2_times.2.1 181 = .ok (.ireturn, 1) := dX2_times_181
theorem eX2_toRoot_0 : decode mX2_toRoot.2.1 0 = .ok (.aload_n 0, 1) := dX2_toRoot_0
theorem eX2_toRoot_1 : decode mX2_toRoot.2.1 1 = .ok (.getfield 24, 3) := dX2_toRoot_1
theorem eX2_toRoot_4 : decode mX2_toRoot.2.1 4 = .ok (.aload_n 0, 1) := dX2_toRoot_4
theorem eX2_toRoot_5 : decode mX2_toRoot.2.1 5 = .ok (.getfield 15, 3) := dX2_toRoot_5
theorem eX2_toRoot_8 : decode mX2_toRoot.2.1 8 = .ok (.iconst 1, 1) := dX2_toRoot_8
theorem eX2_toRoot_9 : decode mX2_toRoot.2.1 9 = .ok (.isub, 1) := dX2_toRoot_9
theorem eX2_toRoot_10 : decode mX2_toRoot.2.1 10 = .ok (.invokestatic 64, 3) := dX2_toRoot_10
theorem eX2_toRoot_13 : decode mX2_toRoot.2.1 13 = .ok (.ireturn, 1) := dX2_toRoot_13
theorem eX2_trace_0 : decode mX2_trace.2.1 0 = .ok (.iconst 0, 1) := dX2_trace_0
theorem eX2_trace_1 : decode mX2_trace.2.1 1 = .ok (.istore_n 2, 1) := dX2_trace_1
theorem eX2_trace_2 : decode mX2_trace.2.1 2 = .ok (.iload_n 1, 1) := dX2_trace_2
theorem eX2_trace_3 : decode mX2_trace.2.1 3 = .ok (.istore_n 3, 1) := dX2_trace_3
theorem eX2_trace_4 : decode mX2_trace.2.1 4 = .ok (.iconst 0, 1) := dX2_trace_4
theorem eX2_trace_5 : decode mX2_trace.2.1 5 = .ok (.istore 4, 2) := dX2_trace_5
theorem eX2_trace_7 : decode mX2_trace.2.1 7 = .ok (.iload 4, 2) := dX2_trace_7
theorem eX2_trace_9 : decode mX2_trace.2.1 9 = .ok (.aload_n 0, 1) := dX2_trace_9
theorem eX2_trace_10 : decode mX2_trace.2.1 10 = .ok (.getfield 18, 3) := dX2_trace_10
theorem eX2_trace_13 : decode mX2_trace.2.1 13 = .ok (.if_icmp .ge 22, 3) := dX2_trace_13
theorem eX2_trace_16 : decode mX2_trace.2.1 16 = .ok (.aload_n 0, 1) := dX2_trace_16
theorem eX2_trace_17 : decode mX2_trace.2.1 17 = .ok (.iload_n 2, 1) := dX2_trace_17
theorem eX2_trace_18 : decode mX2_trace.2.1 18 = .ok (.iload_n 3, 1) := dX2_trace_18
theorem eX2_trace_19 : decode mX2_trace.2.1 19 = .ok (.invokevirtual 149, 3) := dX2_trace_19
theorem eX2_trace_22 : decode mX2_trace.2.1 22 = .ok (.istore_n 2, 1) := dX2_trace_22
theorem eX2_trace_23 : decode mX2_trace.2.1 23 = .ok (.aload_n 0, 1) := dX2_trace_23
theorem eX2_trace_24 : decode mX2_trace.2.1 24 = .ok (.iload_n 3, 1) := dX2_trace_24
theorem eX2_trace_25 : decode mX2_trace.2.1 25 = .ok (.invokevirtual 170, 3) := dX2_trace_25
theorem eX2_trace_28 : decode mX2_trace.2.1 28 = .ok (.istore_n 3, 1) := dX2_trace_28
theorem eX2_trace_29 : decode mX2_trace.2.1 29 = .ok (.iinc 4 1, 3) := dX2_trace_29
theorem eX2_trace_32 : decode mX2_trace.2.1 32 = .ok (.goto (-25), 3) := dX2_trace_32
theorem eX2_trace_35 : decode mX2_trace.2.1 35 = .ok (.iload_n 2, 1) := dX2_trace_35
theorem eX2_trace_36 : decode mX2_trace.2.1 36 = .ok (.ireturn, 1) := dX2_trace_36
theorem eX2_withDigit_0 : decode mX2_withDigit.2.1 0 = .ok (.iload_n 3, 1) := dX2_withDigit_0
theorem eX2_withDigit_1 : decode mX2_withDigit.2.1 1 = .ok (.iconst (-1), 1) := dX2_withDigit_1
theorem eX2_withDigit_2 : decode mX2_withDigit.2.1 2 = .ok (.if_icmp .ne 5, 3) := dX2_withDigit_2
theorem eX2_withDigit_5 : decode mX2_withDigit.2.1 5 = .ok (.iload_n 1, 1) := dX2_withDigit_5
theorem eX2_withDigit_6 : decode mX2_withDigit.2.1 6 = .ok (.ireturn, 1) := dX2_withDigit_6
theorem eX2_withDigit_7 : decode mX2_withDigit.2.1 7 = .ok (.iload_n 1, 1) := dX2_withDigit_7
theorem eX2_withDigit_8 : decode mX2_withDigit.2.1 8 = .ok (.aload_n 0, 1) := dX2_withDigit_8
theorem eX2_withDigit_9 : decode mX2_withDigit.2.1 9 = .ok (.getfield 37, 3) := dX2_withDigit_9
theorem eX2_withDigit_12 : decode mX2_withDigit.2.1 12 = .ok (.iload_n 3, 1) := dX2_withDigit_12
theorem eX2_withDigit_13 : decode mX2_withDigit.2.1 13 = .ok (.invokestatic 116, 3) := dX2_withDigit_13
theorem eX2_withDigit_16 : decode mX2_withDigit.2.1 16 = .ok (.aload_n 0, 1) := dX2_withDigit_16
theorem eX2_withDigit_17 : decode mX2_withDigit.2.1 17 = .ok (.getfield 9, 3) := dX2_withDigit_17
theorem eX2_withDigit_20 : decode mX2_withDigit.2.1 20 = .ok (.iload_n 2, 1) := dX2_withDigit_20
theorem eX2_withDigit_21 : decode mX2_withDigit.2.1 21 = .ok (.invokestatic 64, 3) := dX2_withDigit_21
theorem eX2_withDigit_24 : decode mX2_withDigit.2.1 24 = .ok (.aload_n 0, 1) := dX2_withDigit_24
theorem eX2_withDigit_25 : decode mX2_withDigit.2.1 25 = .ok (.getfield 21, 3) := dX2_withDigit_25
theorem eX2_withDigit_28 : decode mX2_withDigit.2.1 28 = .ok (.invokestatic 135, 3) := dX2_withDigit_28
theorem eX2_withDigit_31 : decode mX2_withDigit.2.1 31 = .ok (.ireturn, 1) := dX2_withDigit_31
theorem eX3_init_0 : decode mX3_init.2.1 0 = .ok (.aload_n 0, 1) := dX3_init_0
theorem eX3_init_1 : decode mX3_init.2.1 1 = .ok (.invokespecial 3, 3) := dX3_init_1
theorem eX3_init_4 : decode mX3_init.2.1 4 = .ok (.aload_n 0, 1) := dX3_init_4
theorem eX3_init_5 : decode mX3_init.2.1 5 = .ok (.iconst 0, 1) := dX3_init_5
theorem eX3_init_6 : decode mX3_init.2.1 6 = .ok (.putfield 9, 3) := dX3_init_6
theorem eX3_init_9 : decode mX3_init.2.1 9 = .ok (.aload_n 0, 1) := dX3_init_9
theorem eX3_init_10 : decode mX3_init.2.1 10 = .ok (.iconst 0, 1) := dX3_init_10
theorem eX3_init_11 : decode mX3_init.2.1 11 = .ok (.putfield 15, 3) := dX3_init_11
theorem eX3_init_14 : decode mX3_init.2.1 14 = .ok (.aload_n 0, 1) := dX3_init_14
theorem eX3_init_15 : decode mX3_init.2.1 15 = .ok (.bipush 63, 2) := dX3_init_15
theorem eX3_init_17 : decode mX3_init.2.1 17 = .ok (.newarray .int, 2) := dX3_init_17
theorem eX3_init_19 : decode mX3_init.2.1 19 = .ok (.putfield 18, 3) := dX3_init_19
theorem eX3_init_22 : decode mX3_init.2.1 22 = .ok (.aload_n 0, 1) := dX3_init_22
theorem eX3_init_23 : decode mX3_init.2.1 23 = .ok (.bipush 63, 2) := dX3_init_23
theorem eX3_init_25 : decode mX3_init.2.1 25 = .ok (.newarray .int, 2) := dX3_init_25
theorem eX3_init_27 : decode mX3_init.2.1 27 = .ok (.putfield 22, 3) := dX3_init_27
theorem eX3_init_30 : decode mX3_init.2.1 30 = .ok (.aload_n 0, 1) := dX3_init_30
theorem eX3_init_31 : decode mX3_init.2.1 31 = .ok (.iconst 0, 1) := dX3_init_31
theorem eX3_init_32 : decode mX3_init.2.1 32 = .ok (.putfield 25, 3) := dX3_init_32
theorem eX3_init_35 : decode mX3_init.2.1 35 = .ok (.aload_n 0, 1) := dX3_init_35
theorem eX3_init_36 : decode mX3_init.2.1 36 = .ok (.iconst (-1), 1) := dX3_init_36
theorem eX3_init_37 : decode mX3_init.2.1 37 = .ok (.putfield 29, 3) := dX3_init_37
theorem eX3_init_40 : decode mX3_init.2.1 40 = .ok (.aload_n 0, 1) := dX3_init_40
theorem eX3_init_41 : decode mX3_init.2.1 41 = .ok (.iconst (-1), 1) := dX3_init_41
theorem eX3_init_42 : decode mX3_init.2.1 42 = .ok (.putfield 32, 3) := dX3_init_42
theorem eX3_init_45 : decode mX3_init.2.1 45 = .ok (.aload_n 0, 1) := dX3_init_45
theorem eX3_init_46 : decode mX3_init.2.1 46 = .ok (.iconst 0, 1) := dX3_init_46
theorem eX3_init_47 : decode mX3_init.2.1 47 = .ok (.putfield 35, 3) := dX3_init_47
theorem eX3_init_50 : decode mX3_init.2.1 50 = .ok (.aload_n 0, 1) := dX3_init_50
theorem eX3_init_51 : decode mX3_init.2.1 51 = .ok (.bipush 63, 2) := dX3_init_51
theorem eX3_init_53 : decode mX3_init.2.1 53 = .ok (.newarray .int, 2) := dX3_init_53
theorem eX3_init_55 : decode mX3_init.2.1 55 = .ok (.putfield 38, 3) := dX3_init_55
theorem eX3_init_58 : decode mX3_init.2.1 58 = .ok (.aload_n 0, 1) := dX3_init_58
theorem eX3_init_59 : decode mX3_init.2.1 59 = .ok (.iconst 0, 1) := dX3_init_59
theorem eX3_init_60 : decode mX3_init.2.1 60 = .ok (.putfield 41, 3) := dX3_init_60
theorem eX3_init_63 : decode mX3_init.2.1 63 = .ok (.aload_n 0, 1) := dX3_init_63
theorem eX3_init_64 : decode mX3_init.2.1 64 = .ok (.bipush 63, 2) := dX3_init_64
theorem eX3_init_66 : decode mX3_init.2.1 66 = .ok (.newarray .int, 2) := dX3_init_66
theorem eX3_init_68 : decode mX3_init.2.1 68 = .ok (.putfield 44, 3) := dX3_init_68
theorem eX3_init_71 : decode mX3_init.2.1 71 = .ok (.aload_n 0, 1) := dX3_init_71
theorem eX3_init_72 : decode mX3_init.2.1 72 = .ok (.aload_n 1, 1) := dX3_init_72
theorem eX3_init_73 : decode mX3_init.2.1 73 = .ok (.putfield 47, 3) := dX3_init_73
theorem eX3_init_76 : decode mX3_init.2.1 76 = .ok (.aload_n 0, 1) := dX3_init_76
theorem eX3_init_77 : decode mX3_init.2.1 77 = .ok (.new 51, 3) := dX3_init_77
theorem eX3_init_80 : decode mX3_init.2.1 80 = .ok (.dup, 1) := dX3_init_80
theorem eX3_init_81 : decode mX3_init.2.1 81 = .ok (.aload_n 1, 1) := dX3_init_81
theorem eX3_init_82 : decode mX3_init.2.1 82 = .ok (.invokespecial 53, 3) := dX3_init_82
theorem eX3_init_85 : decode mX3_init.2.1 85 = .ok (.putfield 56, 3) := dX3_init_85
theorem eX3_init_88 : decode mX3_init.2.1 88 = .ok (.return_, 1) := dX3_init_88
theorem eX4_become_0 : decode mX4_become.2.1 0 = .ok (.aload_n 0, 1) := dX4_become_0
theorem eX4_become_1 : decode mX4_become.2.1 1 = .ok (.iload_n 1, 1) := dX4_become_1
theorem eX4_become_2 : decode mX4_become.2.1 2 = .ok (.putfield 9, 3) := dX4_become_2
theorem eX4_become_5 : decode mX4_become.2.1 5 = .ok (.aload_n 0, 1) := dX4_become_5
theorem eX4_become_6 : decode mX4_become.2.1 6 = .ok (.iconst 0, 1) := dX4_become_6
theorem eX4_become_7 : decode mX4_become.2.1 7 = .ok (.putfield 15, 3) := dX4_become_7
theorem eX4_become_10 : decode mX4_become.2.1 10 = .ok (.aload_n 0, 1) := dX4_become_10
theorem eX4_become_11 : decode mX4_become.2.1 11 = .ok (.getfield 18, 3) := dX4_become_11
theorem eX4_become_14 : decode mX4_become.2.1 14 = .ok (.iconst (-1), 1) := dX4_become_14
theorem eX4_become_15 : decode mX4_become.2.1 15 = .ok (.invokestatic 22, 3) := dX4_become_15
theorem eX4_become_18 : decode mX4_become.2.1 18 = .ok (.iconst 0, 1) := dX4_become_18
theorem eX4_become_19 : decode mX4_become.2.1 19 = .ok (.istore_n 3, 1) := dX4_become_19
theorem eX4_become_20 : decode mX4_become.2.1 20 = .ok (.iload_n 3, 1) := dX4_become_20
theorem eX4_become_21 : decode mX4_become.2.1 21 = .ok (.aload_n 0, 1) := dX4_become_21
theorem eX4_become_22 : decode mX4_become.2.1 22 = .ok (.getfield 9, 3) := dX4_become_22
theorem eX4_become_25 : decode mX4_become.2.1 25 = .ok (.if_icmp .ge 34, 3) := dX4_become_25
theorem eX4_become_28 : decode mX4_become.2.1 28 = .ok (.aload_n 0, 1) := dX4_become_28
theorem eX4_become_29 : decode mX4_become.2.1 29 = .ok (.iload_n 3, 1) := dX4_become_29
theorem eX4_become_30 : decode mX4_become.2.1 30 = .ok (.invokevirtual 28, 3) := dX4_become_30
theorem eX4_become_33 : decode mX4_become.2.1 33 = .ok (.iconst (-1), 1) := dX4_become_33
theorem eX4_become_34 : decode mX4_become.2.1 34 = .ok (.if_icmp .ne 19, 3) := dX4_become_34
theorem eX4_become_37 : decode mX4_become.2.1 37 = .ok (.aload_n 0, 1) := dX4_become_37
theorem eX4_become_38 : decode mX4_become.2.1 38 = .ok (.iload_n 3, 1) := dX4_become_38
theorem eX4_become_39 : decode mX4_become.2.1 39 = .ok (.iload_n 2, 1) := dX4_become_39
theorem eX4_become_40 : decode mX4_become.2.1 40 = .ok (.invokevirtual 32, 3) := dX4_become_40
theorem eX4_become_43 : decode mX4_become.2.1 43 = .ok (.aload_n 0, 1) := dX4_become_43
theorem eX4_become_44 : decode mX4_become.2.1 44 = .ok (.dup, 1) := dX4_become_44
theorem eX4_become_45 : decode mX4_become.2.1 45 = .ok (.getfield 15, 3) := dX4_become_45
theorem eX4_become_48 : decode mX4_become.2.1 48 = .ok (.iconst 1, 1) := dX4_become_48
theorem eX4_become_49 : decode mX4_become.2.1 49 = .ok (.iadd, 1) := dX4_become_49
theorem eX4_become_50 : decode mX4_become.2.1 50 = .ok (.putfield 15, 3) := dX4_become_50
theorem eX4_become_53 : decode mX4_become.2.1 53 = .ok (.iinc 3 1, 3) := dX4_become_53
theorem eX4_become_56 : decode mX4_become.2.1 56 = .ok (.goto (-36), 3) := dX4_become_56
theorem eX4_become_59 : decode mX4_become.2.1 59 = .ok (.return_, 1) := dX4_become_59
theorem eX4_init_0 : decode mX4_init.2.1 0 = .ok (.aload_n 0, 1) := dX4_init_0
theorem eX4_init_1 : decode mX4_init.2.1 1 = .ok (.invokespecial 3, 3) := dX4_init_1
theorem eX4_init_4 : decode mX4_init.2.1 4 = .ok (.aload_n 0, 1) := dX4_init_4
theorem eX4_init_5 : decode mX4_init.2.1 5 = .ok (.iconst 1, 1) := dX4_init_5
theorem eX4_init_6 : decode mX4_init.2.1 6 = .ok (.putfield 9, 3) := dX4_init_6
theorem eX4_init_9 : decode mX4_init.2.1 9 = .ok (.aload_n 0, 1) := dX4_init_9
theorem eX4_init_10 : decode mX4_init.2.1 10 = .ok (.iconst 1, 1) := dX4_init_10
theorem eX4_init_11 : decode mX4_init.2.1 11 = .ok (.putfield 15, 3) := dX4_init_11
theorem eX4_init_14 : decode mX4_init.2.1 14 = .ok (.aload_n 0, 1) := dX4_init_14
theorem eX4_init_15 : decode mX4_init.2.1 15 = .ok (.bipush 63, 2) := dX4_init_15
theorem eX4_init_17 : decode mX4_init.2.1 17 = .ok (.newarray .int, 2) := dX4_init_17
theorem eX4_init_19 : decode mX4_init.2.1 19 = .ok (.putfield 18, 3) := dX4_init_19
theorem eX4_init_22 : decode mX4_init.2.1 22 = .ok (.return_, 1) := dX4_init_22
theorem eX4_join_0 : decode mX4_join.2.1 0 = .ok (.iload_n 1, 1) := dX4_join_0
theorem eX4_join_1 : decode mX4_join.2.1 1 = .ok (.istore_n 3, 1) := dX4_join_1
theorem eX4_join_2 : decode mX4_join.2.1 2 = .ok (.iconst 0, 1) := dX4_join_2
theorem eX4_join_3 : decode mX4_join.2.1 3 = .ok (.istore 4, 2) := dX4_join_3
theorem eX4_join_5 : decode mX4_join.2.1 5 = .ok (.iload 4, 2) := dX4_join_5
theorem eX4_join_7 : decode mX4_join.2.1 7 = .ok (.aload_n 0, 1) := dX4_join_7
theorem eX4_join_8 : decode mX4_join.2.1 8 = .ok (.getfield 9, 3) := dX4_join_8
theorem eX4_join_11 : decode mX4_join.2.1 11 = .ok (.if_icmp .ge 32, 3) := dX4_join_11
theorem eX4_join_14 : decode mX4_join.2.1 14 = .ok (.aload_n 0, 1) := dX4_join_14
theorem eX4_join_15 : decode mX4_join.2.1 15 = .ok (.getfield 18, 3) := dX4_join_15
theorem eX4_join_18 : decode mX4_join.2.1 18 = .ok (.iload_n 3, 1) := dX4_join_18
theorem eX4_join_19 : decode mX4_join.2.1 19 = .ok (.aload_n 0, 1) := dX4_join_19
theorem eX4_join_20 : decode mX4_join.2.1 20 = .ok (.getfield 15, 3) := dX4_join_20
theorem eX4_join_23 : decode mX4_join.2.1 23 = .ok (.invokestatic 36, 3) := dX4_join_23
theorem eX4_join_26 : decode mX4_join.2.1 26 = .ok (.iload_n 3, 1) := dX4_join_26
theorem eX4_join_27 : decode mX4_join.2.1 27 = .ok (.iload_n 2, 1) := dX4_join_27
theorem eX4_join_28 : decode mX4_join.2.1 28 = .ok (.imul, 1) := dX4_join_28
theorem eX4_join_29 : decode mX4_join.2.1 29 = .ok (.aload_n 0, 1) := dX4_join_29
theorem eX4_join_30 : decode mX4_join.2.1 30 = .ok (.getfield 9, 3) := dX4_join_30
theorem eX4_join_33 : decode mX4_join.2.1 33 = .ok (.invokestatic 42, 3) := dX4_join_33
theorem eX4_join_36 : decode mX4_join.2.1 36 = .ok (.istore_n 3, 1) := dX4_join_36
theorem eX4_join_37 : decode mX4_join.2.1 37 = .ok (.iinc 4 1, 3) := dX4_join_37
theorem eX4_join_40 : decode mX4_join.2.1 40 = .ok (.goto (-35), 3) := dX4_join_40
theorem eX4_join_43 : decode mX4_join.2.1 43 = .ok (.return_, 1) := dX4_join_43
theorem eX4_member_0 : decode mX4_member.2.1 0 = .ok (.iconst 0, 1) := dX4_member_0
theorem eX4_member_1 : decode mX4_member.2.1 1 = .ok (.istore_n 3, 1) := dX4_member_1
theorem eX4_member_2 : decode mX4_member.2.1 2 = .ok (.iconst 0, 1) := dX4_member_2
theorem eX4_member_3 : decode mX4_member.2.1 3 = .ok (.istore 4, 2) := dX4_member_3
theorem eX4_member_5 : decode mX4_member.2.1 5 = .ok (.iload 4, 2) := dX4_member_5
theorem eX4_member_7 : decode mX4_member.2.1 7 = .ok (.aload_n 0, 1) := dX4_member_7
theorem eX4_member_8 : decode mX4_member.2.1 8 = .ok (.getfield 9, 3) := dX4_member_8
theorem eX4_member_11 : decode mX4_member.2.1 11 = .ok (.if_icmp .ge 30, 3) := dX4_member_11
theorem eX4_member_14 : decode mX4_member.2.1 14 = .ok (.aload_n 0, 1) := dX4_member_14
theorem eX4_member_15 : decode mX4_member.2.1 15 = .ok (.iload 4, 2) := dX4_member_15
theorem eX4_member_17 : decode mX4_member.2.1 17 = .ok (.invokevirtual 28, 3) := dX4_member_17
theorem eX4_member_20 : decode mX4_member.2.1 20 = .ok (.iload_n 1, 1) := dX4_member_20
theorem eX4_member_21 : decode mX4_member.2.1 21 = .ok (.if_icmp .ne 14, 3) := dX4_member_21
theorem eX4_member_24 : decode mX4_member.2.1 24 = .ok (.iload_n 3, 1) := dX4_member_24
theorem eX4_member_25 : decode mX4_member.2.1 25 = .ok (.iload_n 2, 1) := dX4_member_25
theorem eX4_member_26 : decode mX4_member.2.1 26 = .ok (.if_icmp .ne 6, 3) := dX4_member_26
theorem eX4_member_29 : decode mX4_member.2.1 29 = .ok (.iload 4, 2) := dX4_member_29
theorem eX4_member_31 : decode mX4_member.2.1 31 = .ok (.ireturn, 1) := dX4_member_31
theorem eX4_member_32 : decode mX4_member.2.1 32 = .ok (.iinc 3 1, 3) := dX4_member_32
theorem eX4_member_35 : decode mX4_member.2.1 35 = .ok (.iinc 4 1, 3) := dX4_member_35
theorem eX4_member_38 : decode mX4_member.2.1 38 = .ok (.goto (-33), 3) := dX4_member_38
theorem eX4_member_41 : decode mX4_member.2.1 41 = .ok (.iconst (-1), 1) := dX4_member_41
theorem eX4_member_42 : decode mX4_member.2.1 42 = .ok (.ireturn, 1) := dX4_member_42
theorem eX4_part_0 : decode mX4_part.2.1 0 = .ok (.aload_n 0, 1) := dX4_part_0
theorem eX4_part_1 : decode mX4_part.2.1 1 = .ok (.getfield 18, 3) := dX4_part_1
theorem eX4_part_4 : decode mX4_part.2.1 4 = .ok (.iload_n 1, 1) := dX4_part_4
theorem eX4_part_5 : decode mX4_part.2.1 5 = .ok (.invokestatic 46, 3) := dX4_part_5
theorem eX4_part_8 : decode mX4_part.2.1 8 = .ok (.ireturn, 1) := dX4_part_8
theorem eX4_sizeOf_0 : decode mX4_sizeOf.2.1 0 = .ok (.iconst 0, 1) := dX4_sizeOf_0
theorem eX4_sizeOf_1 : decode mX4_sizeOf.2.1 1 = .ok (.istore_n 2, 1) := dX4_sizeOf_1
theorem eX4_sizeOf_2 : decode mX4_sizeOf.2.1 2 = .ok (.iconst 0, 1) := dX4_sizeOf_2
theorem eX4_sizeOf_3 : decode mX4_sizeOf.2.1 3 = .ok (.istore_n 3, 1) := dX4_sizeOf_3
theorem eX4_sizeOf_4 : decode mX4_sizeOf.2.1 4 = .ok (.iload_n 3, 1) := dX4_sizeOf_4
theorem eX4_sizeOf_5 : decode mX4_sizeOf.2.1 5 = .ok (.aload_n 0, 1) := dX4_sizeOf_5
theorem eX4_sizeOf_6 : decode mX4_sizeOf.2.1 6 = .ok (.getfield 9, 3) := dX4_sizeOf_6
theorem eX4_sizeOf_9 : decode mX4_sizeOf.2.1 9 = .ok (.if_icmp .ge 26, 3) := dX4_sizeOf_9
theorem eX4_sizeOf_12 : decode mX4_sizeOf.2.1 12 = .ok (.iload_n 2, 1) := dX4_sizeOf_12
theorem eX4_sizeOf_13 : decode mX4_sizeOf.2.1 13 = .ok (.aload_n 0, 1) := dX4_sizeOf_13
theorem eX4_sizeOf_14 : decode mX4_sizeOf.2.1 14 = .ok (.iload_n 3, 1) := dX4_sizeOf_14
theorem eX4_sizeOf_15 : decode mX4_sizeOf.2.1 15 = .ok (.invokevirtual 28, 3) := dX4_sizeOf_15
theorem eX4_sizeOf_18 : decode mX4_sizeOf.2.1 18 = .ok (.iload_n 1, 1) := dX4_sizeOf_18
theorem eX4_sizeOf_19 : decode mX4_sizeOf.2.1 19 = .ok (.if_icmp .ne 7, 3) := dX4_sizeOf_19
theorem eX4_sizeOf_22 : decode mX4_sizeOf.2.1 22 = .ok (.iconst 1, 1) := dX4_sizeOf_22
theorem eX4_sizeOf_23 : decode mX4_sizeOf.2.1 23 = .ok (.goto 4, 3) := dX4_sizeOf_23
theorem eX4_sizeOf_26 : decode mX4_sizeOf.2.1 26 = .ok (.iconst 0, 1) := dX4_sizeOf_26
theorem eX4_sizeOf_27 : decode mX4_sizeOf.2.1 27 = .ok (.iadd, 1) := dX4_sizeOf_27
theorem eX4_sizeOf_28 : decode mX4_sizeOf.2.1 28 = .ok (.istore_n 2, 1) := dX4_sizeOf_28
theorem eX4_sizeOf_29 : decode mX4_sizeOf.2.1 29 = .ok (.iinc 3 1, 3) := dX4_sizeOf_29
theorem eX4_sizeOf_32 : decode mX4_sizeOf.2.1 32 = .ok (.goto (-28), 3) := dX4_sizeOf_32
theorem eX4_sizeOf_35 : decode mX4_sizeOf.2.1 35 = .ok (.iload_n 2, 1) := dX4_sizeOf_35
theorem eX4_sizeOf_36 : decode mX4_sizeOf.2.1 36 = .ok (.ireturn, 1) := dX4_sizeOf_36
theorem eX5_init_0 : decode mX5_init.2.1 0 = .ok (.aload_n 0, 1) := dX5_init_0
theorem eX5_init_1 : decode mX5_init.2.1 1 = .ok (.invokespecial 3, 3) := dX5_init_1
theorem eX5_init_4 : decode mX5_init.2.1 4 = .ok (.aload_n 0, 1) := dX5_init_4
theorem eX5_init_5 : decode mX5_init.2.1 5 = .ok (.iconst 0, 1) := dX5_init_5
theorem eX5_init_6 : decode mX5_init.2.1 6 = .ok (.putfield 9, 3) := dX5_init_6
theorem eX5_init_9 : decode mX5_init.2.1 9 = .ok (.aload_n 0, 1) := dX5_init_9
theorem eX5_init_10 : decode mX5_init.2.1 10 = .ok (.iconst (-1), 1) := dX5_init_10
theorem eX5_init_11 : decode mX5_init.2.1 11 = .ok (.putfield 15, 3) := dX5_init_11
theorem eX5_init_14 : decode mX5_init.2.1 14 = .ok (.aload_n 0, 1) := dX5_init_14
theorem eX5_init_15 : decode mX5_init.2.1 15 = .ok (.iconst 0, 1) := dX5_init_15
theorem eX5_init_16 : decode mX5_init.2.1 16 = .ok (.putfield 18, 3) := dX5_init_16
theorem eX5_init_19 : decode mX5_init.2.1 19 = .ok (.aload_n 0, 1) := dX5_init_19
theorem eX5_init_20 : decode mX5_init.2.1 20 = .ok (.iconst 0, 1) := dX5_init_20
theorem eX5_init_21 : decode mX5_init.2.1 21 = .ok (.putfield 22, 3) := dX5_init_21
theorem eX5_init_24 : decode mX5_init.2.1 24 = .ok (.aload_n 0, 1) := dX5_init_24
theorem eX5_init_25 : decode mX5_init.2.1 25 = .ok (.sipush 257, 3) := dX5_init_25
theorem eX5_init_28 : decode mX5_init.2.1 28 = .ok (.putfield 25, 3) := dX5_init_28
theorem eX5_init_31 : decode mX5_init.2.1 31 = .ok (.aload_n 0, 1) := dX5_init_31
theorem eX5_init_32 : decode mX5_init.2.1 32 = .ok (.iconst 0, 1) := dX5_init_32
theorem eX5_init_33 : decode mX5_init.2.1 33 = .ok (.putfield 28, 3) := dX5_init_33
theorem eX5_init_36 : decode mX5_init.2.1 36 = .ok (.aload_n 0, 1) := dX5_init_36
theorem eX5_init_37 : decode mX5_init.2.1 37 = .ok (.iconst 0, 1) := dX5_init_37
theorem eX5_init_38 : decode mX5_init.2.1 38 = .ok (.putfield 31, 3) := dX5_init_38
theorem eX5_init_41 : decode mX5_init.2.1 41 = .ok (.aload_n 0, 1) := dX5_init_41
theorem eX5_init_42 : decode mX5_init.2.1 42 = .ok (.iconst 0, 1) := dX5_init_42
theorem eX5_init_43 : decode mX5_init.2.1 43 = .ok (.putfield 34, 3) := dX5_init_43
theorem eX5_init_46 : decode mX5_init.2.1 46 = .ok (.aload_n 0, 1) := dX5_init_46
theorem eX5_init_47 : decode mX5_init.2.1 47 = .ok (.aload_n 1, 1) := dX5_init_47
theorem eX5_init_48 : decode mX5_init.2.1 48 = .ok (.putfield 37, 3) := dX5_init_48
theorem eX5_init_51 : decode mX5_init.2.1 51 = .ok (.aload_n 0, 1) := dX5_init_51
theorem eX5_init_52 : decode mX5_init.2.1 52 = .ok (.aload_n 2, 1) := dX5_init_52
theorem eX5_init_53 : decode mX5_init.2.1 53 = .ok (.putfield 41, 3) := dX5_init_53
theorem eX5_init_56 : decode mX5_init.2.1 56 = .ok (.aload_n 0, 1) := dX5_init_56
theorem eX5_init_57 : decode mX5_init.2.1 57 = .ok (.aload_n 3, 1) := dX5_init_57
theorem eX5_init_58 : decode mX5_init.2.1 58 = .ok (.putfield 45, 3) := dX5_init_58
theorem eX5_init_61 : decode mX5_init.2.1 61 = .ok (.return_, 1) := dX5_init_61
theorem eX6_init_0 : decode mX6_init.2.1 0 = .ok (.aload_n 0, 1) := dX6_init_0
theorem eX6_init_1 : decode mX6_init.2.1 1 = .ok (.invokespecial 3, 3) := dX6_init_1
theorem eX6_init_4 : decode mX6_init.2.1 4 = .ok (.aload_n 0, 1) := dX6_init_4
theorem eX6_init_5 : decode mX6_init.2.1 5 = .ok (.iconst 0, 1) := dX6_init_5
theorem eX6_init_6 : decode mX6_init.2.1 6 = .ok (.putfield 9, 3) := dX6_init_6
theorem eX6_init_9 : decode mX6_init.2.1 9 = .ok (.aload_n 0, 1) := dX6_init_9
theorem eX6_init_10 : decode mX6_init.2.1 10 = .ok (.sipush 200, 3) := dX6_init_10
theorem eX6_init_13 : decode mX6_init.2.1 13 = .ok (.newarray .int, 2) := dX6_init_13
theorem eX6_init_15 : decode mX6_init.2.1 15 = .ok (.putfield 15, 3) := dX6_init_15
theorem eX6_init_18 : decode mX6_init.2.1 18 = .ok (.aload_n 0, 1) := dX6_init_18
theorem eX6_init_19 : decode mX6_init.2.1 19 = .ok (.bipush 6, 2) := dX6_init_19
theorem eX6_init_21 : decode mX6_init.2.1 21 = .ok (.newarray .int, 2) := dX6_init_21
theorem eX6_init_23 : decode mX6_init.2.1 23 = .ok (.putfield 19, 3) := dX6_init_23
theorem eX6_init_26 : decode mX6_init.2.1 26 = .ok (.return_, 1) := dX6_init_26
theorem eX7_add_0 : decode mX7_add.2.1 0 = .ok (.iload_n 1, 1) := dX7_add_0
theorem eX7_add_1 : decode mX7_add.2.1 1 = .ok (.ifCond .lt 16, 3) := dX7_add_1
theorem eX7_add_4 : decode mX7_add.2.1 4 = .ok (.iload_n 1, 1) := dX7_add_4
theorem eX7_add_5 : decode mX7_add.2.1 5 = .ok (.aload_n 0, 1) := dX7_add_5
theorem eX7_add_6 : decode mX7_add.2.1 6 = .ok (.arraylength, 1) := dX7_add_6
theorem eX7_add_7 : decode mX7_add.2.1 7 = .ok (.if_icmp .ge 10, 3) := dX7_add_7
theorem eX7_add_10 : decode mX7_add.2.1 10 = .ok (.aload_n 0, 1) := dX7_add_10
theorem eX7_add_11 : decode mX7_add.2.1 11 = .ok (.iload_n 1, 1) := dX7_add_11
theorem eX7_add_12 : decode mX7_add.2.1 12 = .ok (.dup2, 1) := dX7_add_12
theorem eX7_add_13 : decode mX7_add.2.1 13 = .ok (.iaload, 1) := dX7_add_13
theorem eX7_add_14 : decode mX7_add.2.1 14 = .ok (.iload_n 2, 1) := dX7_add_14
theorem eX7_add_15 : decode mX7_add.2.1 15 = .ok (.iadd, 1) := dX7_add_15
theorem eX7_add_16 : decode mX7_add.2.1 16 = .ok (.iastore, 1) := dX7_add_16
theorem eX7_add_17 : decode mX7_add.2.1 17 = .ok (.return_, 1) := dX7_add_17
theorem eX7_at_0 : decode mX7_at.2.1 0 = .ok (.iload_n 1, 1) := dX7_at_0
theorem eX7_at_1 : decode mX7_at.2.1 1 = .ok (.ifCond .lt 15, 3) := dX7_at_1
theorem eX7_at_4 : decode mX7_at.2.1 4 = .ok (.iload_n 1, 1) := dX7_at_4
theorem eX7_at_5 : decode mX7_at.2.1 5 = .ok (.aload_n 0, 1) := dX7_at_5
theorem eX7_at_6 : decode mX7_at.2.1 6 = .ok (.arraylength, 1) := dX7_at_6
theorem eX7_at_7 : decode mX7_at.2.1 7 = .ok (.if_icmp .ge 9, 3) := dX7_at_7
theorem eX7_at_10 : decode mX7_at.2.1 10 = .ok (.aload_n 0, 1) := dX7_at_10
theorem eX7_at_11 : decode mX7_at.2.1 11 = .ok (.iload_n 1, 1) := dX7_at_11
theorem eX7_at_12 : decode mX7_at.2.1 12 = .ok (.iaload, 1) := dX7_at_12
theorem eX7_at_13 : decode mX7_at.2.1 13 = .ok (.goto 4, 3) := dX7_at_13
theorem eX7_at_16 : decode mX7_at.2.1 16 = .ok (.iconst 0, 1) := dX7_at_16
theorem eX7_at_17 : decode mX7_at.2.1 17 = .ok (.ireturn, 1) := dX7_at_17
theorem eX7_common_0 : decode mX7_common.2.1 0 = .ok (.iload_n 1, 1) := dX7_common_0
theorem eX7_common_1 : decode mX7_common.2.1 1 = .ok (.istore_n 2, 1) := dX7_common_1
theorem eX7_common_2 : decode mX7_common.2.1 2 = .ok (.iload_n 2, 1) := dX7_common_2
theorem eX7_common_3 : decode mX7_common.2.1 3 = .ok (.iconst 1, 1) := dX7_common_3
theorem eX7_common_4 : decode mX7_common.2.1 4 = .ok (.if_icmp .le 23, 3) := dX7_common_4
theorem eX7_common_7 : decode mX7_common.2.1 7 = .ok (.iload_n 0, 1) := dX7_common_7
theorem eX7_common_8 : decode mX7_common.2.1 8 = .ok (.iload_n 2, 1) := dX7_common_8
theorem eX7_common_9 : decode mX7_common.2.1 9 = .ok (.irem, 1) := dX7_common_9
theorem eX7_common_10 : decode mX7_common.2.1 10 = .ok (.ifCond .ne 11, 3) := dX7_common_10
theorem eX7_common_13 : decode mX7_common.2.1 13 = .ok (.iload_n 1, 1) := dX7_common_13
theorem eX7_common_14 : decode mX7_common.2.1 14 = .ok (.iload_n 2, 1) := dX7_common_14
theorem eX7_common_15 : decode mX7_common.2.1 15 = .ok (.irem, 1) := dX7_common_15
theorem eX7_common_16 : decode mX7_common.2.1 16 = .ok (.ifCond .ne 5, 3) := dX7_common_16
theorem eX7_common_19 : decode mX7_common.2.1 19 = .ok (.iload_n 2, 1) := dX7_common_19
theorem eX7_common_20 : decode mX7_common.2.1 20 = .ok (.ireturn, 1) := dX7_common_20
theorem eX7_common_21 : decode mX7_common.2.1 21 = .ok (.iinc 2 (-1), 3) := dX7_common_21
theorem eX7_common_24 : decode mX7_common.2.1 24 = .ok (.goto (-22), 3) := dX7_common_24
theorem eX7_common_27 : decode mX7_common.2.1 27 = .ok (.iconst 1, 1) := dX7_common_27
theorem eX7_common_28 : decode mX7_common.2.1 28 = .ok (.ireturn, 1) := dX7_common_28
theorem eX7_mix_0 : decode mX7_mix.2.1 0 = .ok (.iload_n 3, 1) := dX7_mix_0
theorem eX7_mix_1 : decode mX7_mix.2.1 1 = .ok (.iconst 2, 1) := dX7_mix_1
theorem eX7_mix_2 : decode mX7_mix.2.1 2 = .ok (.if_icmp .ge 5, 3) := dX7_mix_2
theorem eX7_mix_5 : decode mX7_mix.2.1 5 = .ok (.iconst 0, 1) := dX7_mix_5
theorem eX7_mix_6 : decode mX7_mix.2.1 6 = .ok (.ireturn, 1) := dX7_mix_6
theorem eX7_mix_7 : decode mX7_mix.2.1 7 = .ok (.iconst 0, 1) := dX7_mix_7
theorem eX7_mix_8 : decode mX7_mix.2.1 8 = .ok (.istore 4, 2) := dX7_mix_8
theorem eX7_mix_10 : decode mX7_mix.2.1 10 = .ok (.iconst 1, 1) := dX7_mix_10
theorem eX7_mix_11 : decode mX7_mix.2.1 11 = .ok (.istore 5, 2) := dX7_mix_11
theorem eX7_mix_13 : decode mX7_mix.2.1 13 = .ok (.iload_n 0, 1) := dX7_mix_13
theorem eX7_mix_14 : decode mX7_mix.2.1 14 = .ok (.istore 6, 2) := dX7_mix_14
theorem eX7_mix_16 : decode mX7_mix.2.1 16 = .ok (.iload_n 1, 1) := dX7_mix_16
theorem eX7_mix_17 : decode mX7_mix.2.1 17 = .ok (.istore 7, 2) := dX7_mix_17
theorem eX7_mix_19 : decode mX7_mix.2.1 19 = .ok (.iload 6, 2) := dX7_mix_19
theorem eX7_mix_21 : decode mX7_mix.2.1 21 = .ok (.ifCond .gt 8, 3) := dX7_mix_21
theorem eX7_mix_24 : decode mX7_mix.2.1 24 = .ok (.iload 7, 2) := dX7_mix_24
theorem eX7_mix_26 : decode mX7_mix.2.1 26 = .ok (.ifCond .le 45, 3) := dX7_mix_26
theorem eX7_mix_29 : decode mX7_mix.2.1 29 = .ok (.iload 4, 2) := dX7_mix_29
theorem eX7_mix_31 : decode mX7_mix.2.1 31 = .ok (.iload 5, 2) := dX7_mix_31
theorem eX7_mix_33 : decode mX7_mix.2.1 33 = .ok (.iload 6, 2) := dX7_mix_33
theorem eX7_mix_35 : decode mX7_mix.2.1 35 = .ok (.iload_n 3, 1) := dX7_mix_35
theorem eX7_mix_36 : decode mX7_mix.2.1 36 = .ok (.irem, 1) := dX7_mix_36
theorem eX7_mix_37 : decode mX7_mix.2.1 37 = .ok (.iload_n 2, 1) := dX7_mix_37
theorem eX7_mix_38 : decode mX7_mix.2.1 38 = .ok (.iload 7, 2) := dX7_mix_38
theorem eX7_mix_40 : decode mX7_mix.2.1 40 = .ok (.iload_n 3, 1) := dX7_mix_40
theorem eX7_mix_41 : decode mX7_mix.2.1 41 = .ok (.irem, 1) := dX7_mix_41
theorem eX7_mix_42 : decode mX7_mix.2.1 42 = .ok (.imul, 1) := dX7_mix_42
theorem eX7_mix_43 : decode mX7_mix.2.1 43 = .ok (.iadd, 1) := dX7_mix_43
theorem eX7_mix_44 : decode mX7_mix.2.1 44 = .ok (.iload_n 3, 1) := dX7_mix_44
theorem eX7_mix_45 : decode mX7_mix.2.1 45 = .ok (.irem, 1) := dX7_mix_45
theorem eX7_mix_46 : decode mX7_mix.2.1 46 = .ok (.imul, 1) := dX7_mix_46
theorem eX7_mix_47 : decode mX7_mix.2.1 47 = .ok (.iadd, 1) := dX7_mix_47
theorem eX7_mix_48 : decode mX7_mix.2.1 48 = .ok (.istore 4, 2) := dX7_mix_48
theorem eX7_mix_50 : decode mX7_mix.2.1 50 = .ok (.iload 5, 2) := dX7_mix_50
theorem eX7_mix_52 : decode mX7_mix.2.1 52 = .ok (.iload_n 3, 1) := dX7_mix_52
theorem eX7_mix_53 : decode mX7_mix.2.1 53 = .ok (.imul, 1) := dX7_mix_53
theorem eX7_mix_54 : decode mX7_mix.2.1 54 = .ok (.istore 5, 2) := dX7_mix_54
theorem eX7_mix_56 : decode mX7_mix.2.1 56 = .ok (.iload 6, 2) := dX7_mix_56
theorem eX7_mix_58 : decode mX7_mix.2.1 58 = .ok (.iload_n 3, 1) := dX7_mix_58
theorem eX7_mix_59 : decode mX7_mix.2.1 59 = .ok (.idiv, 1) := dX7_mix_59
theorem eX7_mix_60 : decode mX7_mix.2.1 60 = .ok (.istore 6, 2) := dX7_mix_60
theorem eX7_mix_62 : decode mX7_mix.2.1 62 = .ok (.iload 7, 2) := dX7_mix_62
theorem eX7_mix_64 : decode mX7_mix.2.1 64 = .ok (.iload_n 3, 1) := dX7_mix_64
theorem eX7_mix_65 : decode mX7_mix.2.1 65 = .ok (.idiv, 1) := dX7_mix_65
theorem eX7_mix_66 : decode mX7_mix.2.1 66 = .ok (.istore 7, 2) := dX7_mix_66
theorem eX7_mix_68 : decode mX7_mix.2.1 68 = .ok (.goto (-49), 3) := dX7_mix_68
theorem eX7_mix_71 : decode mX7_mix.2.1 71 = .ok (.iload 4, 2) := dX7_mix_71
theorem eX7_mix_73 : decode mX7_mix.2.1 73 = .ok (.ireturn, 1) := dX7_mix_73
theorem eX7_quotient_0 : decode mX7_quotient.2.1 0 = .ok (.iload_n 1, 1) := dX7_quotient_0
theorem eX7_quotient_1 : decode mX7_quotient.2.1 1 = .ok (.ifCond .le 9, 3) := dX7_quotient_1
theorem eX7_quotient_4 : decode mX7_quotient.2.1 4 = .ok (.iload_n 0, 1) := dX7_quotient_4
theorem eX7_quotient_5 : decode mX7_quotient.2.1 5 = .ok (.iload_n 1, 1) := dX7_quotient_5
theorem eX7_quotient_6 : decode mX7_quotient.2.1 6 = .ok (.idiv, 1) := dX7_quotient_6
theorem eX7_quotient_7 : decode mX7_quotient.2.1 7 = .ok (.goto 4, 3) := dX7_quotient_7
theorem eX7_quotient_10 : decode mX7_quotient.2.1 10 = .ok (.iconst 0, 1) := dX7_quotient_10
theorem eX7_quotient_11 : decode mX7_quotient.2.1 11 = .ok (.ireturn, 1) := dX7_quotient_11
theorem eX7_raise_0 : decode mX7_raise.2.1 0 = .ok (.iconst 1, 1) := dX7_raise_0
theorem eX7_raise_1 : decode mX7_raise.2.1 1 = .ok (.istore_n 2, 1) := dX7_raise_1
theorem eX7_raise_2 : decode mX7_raise.2.1 2 = .ok (.iconst 0, 1) := dX7_raise_2
theorem eX7_raise_3 : decode mX7_raise.2.1 3 = .ok (.istore_n 3, 1) := dX7_raise_3
theorem eX7_raise_4 : decode mX7_raise.2.1 4 = .ok (.iload_n 3, 1) := dX7_raise_4
theorem eX7_raise_5 : decode mX7_raise.2.1 5 = .ok (.iload_n 1, 1) := dX7_raise_5
theorem eX7_raise_6 : decode mX7_raise.2.1 6 = .ok (.if_icmp .ge 13, 3) := dX7_raise_6
theorem eX7_raise_9 : decode mX7_raise.2.1 9 = .ok (.iload_n 2, 1) := dX7_raise_9
theorem eX7_raise_10 : decode mX7_raise.2.1 10 = .ok (.iload_n 0, 1) := dX7_raise_10
theorem eX7_raise_11 : decode mX7_raise.2.1 11 = .ok (.imul, 1) := dX7_raise_11
theorem eX7_raise_12 : decode mX7_raise.2.1 12 = .ok (.istore_n 2, 1) := dX7_raise_12
theorem eX7_raise_13 : decode mX7_raise.2.1 13 = .ok (.iinc 3 1, 3) := dX7_raise_13
theorem eX7_raise_16 : decode mX7_raise.2.1 16 = .ok (.goto (-12), 3) := dX7_raise_16
theorem eX7_raise_19 : decode mX7_raise.2.1 19 = .ok (.iload_n 2, 1) := dX7_raise_19
theorem eX7_raise_20 : decode mX7_raise.2.1 20 = .ok (.ireturn, 1) := dX7_raise_20
theorem eX7_remainder_0 : decode mX7_remainder.2.1 0 = .ok (.iload_n 1, 1) := dX7_remainder_0
theorem eX7_remainder_1 : decode mX7_remainder.2.1 1 = .ok (.ifCond .le 9, 3) := dX7_remainder_1
theorem eX7_remainder_4 : decode mX7_remainder.2.1 4 = .ok (.iload_n 0, 1) := dX7_remainder_4
theorem eX7_remainder_5 : decode mX7_remainder.2.1 5 = .ok (.iload_n 1, 1) := dX7_remainder_5
theorem eX7_remainder_6 : decode mX7_remainder.2.1 6 = .ok (.irem, 1) := dX7_remainder_6
theorem eX7_remainder_7 : decode mX7_remainder.2.1 7 = .ok (.goto 4, 3) := dX7_remainder_7
theorem eX7_remainder_10 : decode mX7_remainder.2.1 10 = .ok (.iconst 0, 1) := dX7_remainder_10
theorem eX7_remainder_11 : decode mX7_remainder.2.1 11 = .ok (.ireturn, 1) := dX7_remainder_11
theorem eX7_set_0 : decode mX7_set.2.1 0 = .ok (.iload_n 1, 1) := dX7_set_0
theorem eX7_set_1 : decode mX7_set.2.1 1 = .ok (.ifCond .lt 13, 3) := dX7_set_1
theorem eX7_set_4 : decode mX7_set.2.1 4 = .ok (.iload_n 1, 1) := dX7_set_4
theorem eX7_set_5 : decode mX7_set.2.1 5 = .ok (.aload_n 0, 1) := dX7_set_5
theorem eX7_set_6 : decode mX7_set.2.1 6 = .ok (.arraylength, 1) := dX7_set_6
theorem eX7_set_7 : decode mX7_set.2.1 7 = .ok (.if_icmp .ge 7, 3) := dX7_set_7
theorem eX7_set_10 : decode mX7_set.2.1 10 = .ok (.aload_n 0, 1) := dX7_set_10
theorem eX7_set_11 : decode mX7_set.2.1 11 = .ok (.iload_n 1, 1) := dX7_set_11
theorem eX7_set_12 : decode mX7_set.2.1 12 = .ok (.iload_n 2, 1) := dX7_set_12
theorem eX7_set_13 : decode mX7_set.2.1 13 = .ok (.iastore, 1) := dX7_set_13
theorem eX7_set_14 : decode mX7_set.2.1 14 = .ok (.return_, 1) := dX7_set_14
theorem eX8_init_0 : decode mX8_init.2.1 0 = .ok (.aload_n 0, 1) := dX8_init_0
theorem eX8_init_1 : decode mX8_init.2.1 1 = .ok (.invokespecial 3, 3) := dX8_init_1
theorem eX8_init_4 : decode mX8_init.2.1 4 = .ok (.aload_n 0, 1) := dX8_init_4
theorem eX8_init_5 : decode mX8_init.2.1 5 = .ok (.iconst 0, 1) := dX8_init_5
theorem eX8_init_6 : decode mX8_init.2.1 6 = .ok (.putfield 9, 3) := dX8_init_6
theorem eX8_init_9 : decode mX8_init.2.1 9 = .ok (.aload_n 0, 1) := dX8_init_9
theorem eX8_init_10 : decode mX8_init.2.1 10 = .ok (.sipush 200, 3) := dX8_init_10
theorem eX8_init_13 : decode mX8_init.2.1 13 = .ok (.newarray .int, 2) := dX8_init_13
theorem eX8_init_15 : decode mX8_init.2.1 15 = .ok (.putfield 15, 3) := dX8_init_15
theorem eX8_init_18 : decode mX8_init.2.1 18 = .ok (.return_, 1) := dX8_init_18
theorem eX9_init_0 : decode mX9_init.2.1 0 = .ok (.aload_n 0, 1) := dX9_init_0
theorem eX9_init_1 : decode mX9_init.2.1 1 = .ok (.invokespecial 3, 3) := dX9_init_1
theorem eX9_init_4 : decode mX9_init.2.1 4 = .ok (.aload_n 0, 1) := dX9_init_4
theorem eX9_init_5 : decode mX9_init.2.1 5 = .ok (.bipush 63, 2) := dX9_init_5
theorem eX9_init_7 : decode mX9_init.2.1 7 = .ok (.newarray .int, 2) := dX9_init_7
theorem eX9_init_9 : decode mX9_init.2.1 9 = .ok (.putfield 9, 3) := dX9_init_9
theorem eX9_init_12 : decode mX9_init.2.1 12 = .ok (.aload_n 0, 1) := dX9_init_12
theorem eX9_init_13 : decode mX9_init.2.1 13 = .ok (.bipush 63, 2) := dX9_init_13
theorem eX9_init_15 : decode mX9_init.2.1 15 = .ok (.newarray .int, 2) := dX9_init_15
theorem eX9_init_17 : decode mX9_init.2.1 17 = .ok (.putfield 15, 3) := dX9_init_17
theorem eX9_init_20 : decode mX9_init.2.1 20 = .ok (.aload_n 0, 1) := dX9_init_20
theorem eX9_init_21 : decode mX9_init.2.1 21 = .ok (.aload_n 1, 1) := dX9_init_21
theorem eX9_init_22 : decode mX9_init.2.1 22 = .ok (.putfield 18, 3) := dX9_init_22
theorem eX9_init_25 : decode mX9_init.2.1 25 = .ok (.return_, 1) := dX9_init_25
theorem eX10_init_0 : decode mX10_init.2.1 0 = .ok (.aload_n 0, 1) := dX10_init_0
theorem eX10_init_1 : decode mX10_init.2.1 1 = .ok (.invokespecial 3, 3) := dX10_init_1
theorem eX10_init_4 : decode mX10_init.2.1 4 = .ok (.aload_n 0, 1) := dX10_init_4
theorem eX10_init_5 : decode mX10_init.2.1 5 = .ok (.iconst 0, 1) := dX10_init_5
theorem eX10_init_6 : decode mX10_init.2.1 6 = .ok (.putfield 9, 3) := dX10_init_6
theorem eX10_init_9 : decode mX10_init.2.1 9 = .ok (.aload_n 0, 1) := dX10_init_9
theorem eX10_init_10 : decode mX10_init.2.1 10 = .ok (.bipush 64, 2) := dX10_init_10
theorem eX10_init_12 : decode mX10_init.2.1 12 = .ok (.newarray .int, 2) := dX10_init_12
theorem eX10_init_14 : decode mX10_init.2.1 14 = .ok (.putfield 15, 3) := dX10_init_14
theorem eX10_init_17 : decode mX10_init.2.1 17 = .ok (.aload_n 0, 1) := dX10_init_17
theorem eX10_init_18 : decode mX10_init.2.1 18 = .ok (.sipush 7201, 3) := dX10_init_18
theorem eX10_init_21 : decode mX10_init.2.1 21 = .ok (.newarray .int, 2) := dX10_init_21
theorem eX10_init_23 : decode mX10_init.2.1 23 = .ok (.putfield 19, 3) := dX10_init_23
theorem eX10_init_26 : decode mX10_init.2.1 26 = .ok (.aload_n 0, 1) := dX10_init_26
theorem eX10_init_27 : decode mX10_init.2.1 27 = .ok (.aload_n 1, 1) := dX10_init_27
theorem eX10_init_28 : decode mX10_init.2.1 28 = .ok (.putfield 22, 3) := dX10_init_28
theorem eX10_init_31 : decode mX10_init.2.1 31 = .ok (.aload_n 0, 1) := dX10_init_31
theorem eX10_init_32 : decode mX10_init.2.1 32 = .ok (.new 26, 3) := dX10_init_32
theorem eX10_init_35 : decode mX10_init.2.1 35 = .ok (.dup, 1) := dX10_init_35
theorem eX10_init_36 : decode mX10_init.2.1 36 = .ok (.aload_n 1, 1) := dX10_init_36
theorem eX10_init_37 : decode mX10_init.2.1 37 = .ok (.invokespecial 28, 3) := dX10_init_37
theorem eX10_init_40 : decode mX10_init.2.1 40 = .ok (.putfield 31, 3) := dX10_init_40
theorem eX10_init_43 : decode mX10_init.2.1 43 = .ok (.return_, 1) := dX10_init_43
theorem eX11_canStand_0 : decode mX11_canStand.2.1 0 = .ok (.iload_n 1, 1) := dX11_canStand_0
theorem eX11_canStand_1 : decode mX11_canStand.2.1 1 = .ok (.iconst (-1), 1) := dX11_canStand_1
theorem eX11_canStand_2 : decode mX11_canStand.2.1 2 = .ok (.if_icmp .eq 31, 3) := dX11_canStand_2
theorem eX11_canStand_5 : decode mX11_canStand.2.1 5 = .ok (.iload_n 2, 1) := dX11_canStand_5
theorem eX11_canStand_6 : decode mX11_canStand.2.1 6 = .ok (.aload_n 0, 1) := dX11_canStand_6
theorem eX11_canStand_7 : decode mX11_canStand.2.1 7 = .ok (.getfield 10, 3) := dX11_canStand_7
theorem eX11_canStand_10 : decode mX11_canStand.2.1 10 = .ok (.getfield 134, 3) := dX11_canStand_10
theorem eX11_canStand_13 : decode mX11_canStand.2.1 13 = .ok (.if_icmp .ge 24, 3) := dX11_canStand_13
theorem eX11_canStand_16 : decode mX11_canStand.2.1 16 = .ok (.iload_n 1, 1) := dX11_canStand_16
theorem eX11_canStand_17 : decode mX11_canStand.2.1 17 = .ok (.ifCond .lt 20, 3) := dX11_canStand_17
theorem eX11_canStand_20 : decode mX11_canStand.2.1 20 = .ok (.iload_n 1, 1) := dX11_canStand_20
theorem eX11_canStand_21 : decode mX11_canStand.2.1 21 = .ok (.aload_n 0, 1) := dX11_canStand_21
theorem eX11_canStand_22 : decode mX11_canStand.2.1 22 = .ok (.getfield 10, 3) := dX11_canStand_22
theorem eX11_canStand_25 : decode mX11_canStand.2.1 25 = .ok (.getfield 143, 3) := dX11_canStand_25
theorem eX11_canStand_28 : decode mX11_canStand.2.1 28 = .ok (.iconst 2, 1) := dX11_canStand_28
theorem eX11_canStand_29 : decode mX11_canStand.2.1 29 = .ok (.isub, 1) := dX11_canStand_29
theorem eX11_canStand_30 : decode mX11_canStand.2.1 30 = .ok (.if_icmp .gt 7, 3) := dX11_canStand_30
theorem eX11_canStand_33 : decode mX11_canStand.2.1 33 = .ok (.iconst 1, 1) := dX11_canStand_33
theorem eX11_canStand_34 : decode mX11_canStand.2.1 34 = .ok (.goto 4, 3) := dX11_canStand_34
theorem eX11_canStand_37 : decode mX11_canStand.2.1 37 = .ok (.iconst 0, 1) := dX11_canStand_37
theorem eX11_canStand_38 : decode mX11_canStand.2.1 38 = .ok (.ireturn, 1) := dX11_canStand_38
theorem eX11_choose_0 : decode mX11_choose.2.1 0 = .ok (.aload_n 0, 1) := dX11_choose_0
theorem eX11_choose_1 : decode mX11_choose.2.1 1 = .ok (.getfield 58, 3) := dX11_choose_1
theorem eX11_choose_4 : decode mX11_choose.2.1 4 = .ok (.aload_n 0, 1) := dX11_choose_4
theorem eX11_choose_5 : decode mX11_choose.2.1 5 = .ok (.getfield 40, 3) := dX11_choose_5
theorem eX11_choose_8 : decode mX11_choose.2.1 8 = .ok (.iload_n 1, 1) := dX11_choose_8
theorem eX11_choose_9 : decode mX11_choose.2.1 9 = .ok (.invokevirtual 354, 3) := dX11_choose_9
theorem eX11_choose_12 : decode mX11_choose.2.1 12 = .ok (.aload_n 0, 1) := dX11_choose_12
theorem eX11_choose_13 : decode mX11_choose.2.1 13 = .ok (.getfield 67, 3) := dX11_choose_13
theorem eX11_choose_16 : decode mX11_choose.2.1 16 = .ok (.iconst 0, 1) := dX11_choose_16
theorem eX11_choose_17 : decode mX11_choose.2.1 17 = .ok (.putfield 357, 3) := dX11_choose_17
theorem eX11_choose_20 : decode mX11_choose.2.1 20 = .ok (.aload_n 0, 1) := dX11_choose_20
theorem eX11_choose_21 : decode mX11_choose.2.1 21 = .ok (.getfield 74, 3) := dX11_choose_21
theorem eX11_choose_24 : decode mX11_choose.2.1 24 = .ok (.iconst 0, 1) := dX11_choose_24
theorem eX11_choose_25 : decode mX11_choose.2.1 25 = .ok (.putfield 315, 3) := dX11_choose_25
theorem eX11_choose_28 : decode mX11_choose.2.1 28 = .ok (.return_, 1) := dX11_choose_28
theorem eX11_classes_0 : decode mX11_classes.2.1 0 = .ok (.aload_n 0, 1) := dX11_classes_0
theorem eX11_classes_1 : decode mX11_classes.2.1 1 = .ok (.getfield 10, 3) := dX11_classes_1
theorem eX11_classes_4 : decode mX11_classes.2.1 4 = .ok (.iload_n 1, 1) := dX11_classes_4
theorem eX11_classes_5 : decode mX11_classes.2.1 5 = .ok (.invokevirtual 259, 3) := dX11_classes_5
theorem eX11_classes_8 : decode mX11_classes.2.1 8 = .ok (.invokestatic 117, 3) := dX11_classes_8
theorem eX11_classes_11 : decode mX11_classes.2.1 11 = .ok (.aload_n 0, 1) := dX11_classes_11
theorem eX11_classes_12 : decode mX11_classes.2.1 12 = .ok (.getfield 40, 3) := dX11_classes_12
theorem eX11_classes_15 : decode mX11_classes.2.1 15 = .ok (.iload_n 1, 1) := dX11_classes_15
theorem eX11_classes_16 : decode mX11_classes.2.1 16 = .ok (.aload_n 0, 1) := dX11_classes_16
theorem eX11_classes_17 : decode mX11_classes.2.1 17 = .ok (.getfield 10, 3) := dX11_classes_17
theorem eX11_classes_20 : decode mX11_classes.2.1 20 = .ok (.getfield 131, 3) := dX11_classes_20
theorem eX11_classes_23 : decode mX11_classes.2.1 23 = .ok (.invokevirtual 262, 3) := dX11_classes_23
theorem eX11_classes_26 : decode mX11_classes.2.1 26 = .ok (.iload_n 2, 1) := dX11_classes_26
theorem eX11_classes_27 : decode mX11_classes.2.1 27 = .ok (.iconst (-1), 1) := dX11_classes_27
theorem eX11_classes_28 : decode mX11_classes.2.1 28 = .ok (.if_icmp .ne 11, 3) := dX11_classes_28
theorem eX11_classes_31 : decode mX11_classes.2.1 31 = .ok (.aload_n 0, 1) := dX11_classes_31
theorem eX11_classes_32 : decode mX11_classes.2.1 32 = .ok (.getfield 40, 3) := dX11_classes_32
theorem eX11_classes_35 : decode mX11_classes.2.1 35 = .ok (.getfield 265, 3) := dX11_classes_35
theorem eX11_classes_38 : decode mX11_classes.2.1 38 = .ok (.ireturn, 1) := dX11_classes_38
theorem eX11_classes_39 : decode mX11_classes.2.1 39 = .ok (.iload_n 2, 1) := dX11_classes_39
theorem eX11_classes_40 : decode mX11_classes.2.1 40 = .ok (.ifCond .lt 18, 3) := dX11_classes_40
theorem eX11_classes_43 : decode mX11_classes.2.1 43 = .ok (.iload_n 2, 1) := dX11_classes_43
theorem eX11_classes_44 : decode mX11_classes.2.1 44 = .ok (.aload_n 0, 1) := dX11_classes_44
theorem eX11_classes_45 : decode mX11_classes.2.1 45 = .ok (.getfield 40, 3) := dX11_classes_45
theorem eX11_classes_48 : decode mX11_classes.2.1 48 = .ok (.getfield 265, 3) := dX11_classes_48
theorem eX11_classes_51 : decode mX11_classes.2.1 51 = .ok (.if_icmp .ge 7, 3) := dX11_classes_51
theorem eX11_classes_54 : decode mX11_classes.2.1 54 = .ok (.iconst 1, 1) := dX11_classes_54
theorem eX11_classes_55 : decode mX11_classes.2.1 55 = .ok (.goto 4, 3) := dX11_classes_55
theorem eX11_classes_58 : decode mX11_classes.2.1 58 = .ok (.iconst 0, 1) := dX11_classes_58
theorem eX11_classes_59 : decode mX11_classes.2.1 59 = .ok (.invokestatic 117, 3) := dX11_classes_59
theorem eX11_classes_62 : decode mX11_classes.2.1 62 = .ok (.iload_n 3, 1) := dX11_classes_62
theorem eX11_classes_63 : decode mX11_classes.2.1 63 = .ok (.iconst (-1), 1) := dX11_classes_63
theorem eX11_classes_64 : decode mX11_classes.2.1 64 = .ok (.if_icmp .ne 12, 3) := dX11_classes_64
theorem eX11_classes_67 : decode mX11_classes.2.1 67 = .ok (.aload_n 0, 1) := dX11_classes_67
theorem eX11_classes_68 : decode mX11_classes.2.1 68 = .ok (.getfield 40, 3) := dX11_classes_68
theorem eX11_classes_71 : decode mX11_classes.2.1 71 = .ok (.iload_n 2, 1) := dX11_classes_71
theorem eX11_classes_72 : decode mX11_classes.2.1 72 = .ok (.invokevirtual 268, 3) := dX11_classes_72
theorem eX11_classes_75 : decode mX11_classes.2.1 75 = .ok (.ireturn, 1) := dX11_classes_75
theorem eX11_classes_76 : decode mX11_classes.2.1 76 = .ok (.iload_n 3, 1) := dX11_classes_76
theorem eX11_classes_77 : decode mX11_classes.2.1 77 = .ok (.ifCond .lt 19, 3) := dX11_classes_77
theorem eX11_classes_80 : decode mX11_classes.2.1 80 = .ok (.iload_n 3, 1) := dX11_classes_80
theorem eX11_classes_81 : decode mX11_classes.2.1 81 = .ok (.aload_n 0, 1) := dX11_classes_81
theorem eX11_classes_82 : decode mX11_classes.2.1 82 = .ok (.getfield 40, 3) := dX11_classes_82
theorem eX11_classes_85 : decode mX11_classes.2.1 85 = .ok (.iload_n 2, 1) := dX11_classes_85
theorem eX11_classes_86 : decode mX11_classes.2.1 86 = .ok (.invokevirtual 268, 3) := dX11_classes_86
theorem eX11_classes_89 : decode mX11_classes.2.1 89 = .ok (.if_icmp .ge 7, 3) := dX11_classes_89
theorem eX11_classes_92 : decode mX11_classes.2.1 92 = .ok (.iconst 1, 1) := dX11_classes_92
theorem eX11_classes_93 : decode mX11_classes.2.1 93 = .ok (.goto 4, 3) := dX11_classes_93
theorem eX11_classes_96 : decode mX11_classes.2.1 96 = .ok (.iconst 0, 1) := dX11_classes_96
theorem eX11_classes_97 : decode mX11_classes.2.1 97 = .ok (.invokestatic 117, 3) := dX11_classes_97
theorem eX11_classes_100 : decode mX11_classes.2.1 100 = .ok (.aload_n 0, 1) := dX11_classes_100
theorem eX11_classes_101 : decode mX11_classes.2.1 101 = .ok (.getfield 40, 3) := dX11_classes_101
theorem eX11_classes_104 : decode mX11_classes.2.1 104 = .ok (.iload_n 2, 1) := dX11_classes_104
theorem eX11_classes_105 : decode mX11_classes.2.1 105 = .ok (.iload_n 3, 1) := dX11_classes_105
theorem eX11_classes_106 : decode mX11_classes.2.1 106 = .ok (.invokevirtual 271, 3) := dX11_classes_106
theorem eX11_classes_109 : decode mX11_classes.2.1 109 = .ok (.ireturn, 1) := dX11_classes_109
theorem eX11_clear_0 : decode mX11_clear.2.1 0 = .ok (.aload_n 0, 1) := dX11_clear_0
theorem eX11_clear_1 : decode mX11_clear.2.1 1 = .ok (.getfield 16, 3) := dX11_clear_1
theorem eX11_clear_4 : decode mX11_clear.2.1 4 = .ok (.iconst 0, 1) := dX11_clear_4
theorem eX11_clear_5 : decode mX11_clear.2.1 5 = .ok (.invokestatic 348, 3) := dX11_clear_5
theorem eX11_clear_8 : decode mX11_clear.2.1 8 = .ok (.aload_n 0, 1) := dX11_clear_8
theorem eX11_clear_9 : decode mX11_clear.2.1 9 = .ok (.getfield 40, 3) := dX11_clear_9
theorem eX11_clear_12 : decode mX11_clear.2.1 12 = .ok (.iconst 1, 1) := dX11_clear_12
theorem eX11_clear_13 : decode mX11_clear.2.1 13 = .ok (.aload_n 0, 1) := dX11_clear_13
theorem eX11_clear_14 : decode mX11_clear.2.1 14 = .ok (.getfield 10, 3) := dX11_clear_14
theorem eX11_clear_17 : decode mX11_clear.2.1 17 = .ok (.getfield 131, 3) := dX11_clear_17
theorem eX11_clear_20 : decode mX11_clear.2.1 20 = .ok (.invokevirtual 262, 3) := dX11_clear_20
theorem eX11_clear_23 : decode mX11_clear.2.1 23 = .ok (.aload_n 0, 1) := dX11_clear_23
theorem eX11_clear_24 : decode mX11_clear.2.1 24 = .ok (.iconst 0, 1) := dX11_clear_24
theorem eX11_clear_25 : decode mX11_clear.2.1 25 = .ok (.invokevirtual 274, 3) := dX11_clear_25
theorem eX11_clear_28 : decode mX11_clear.2.1 28 = .ok (.return_, 1) := dX11_clear_28
theorem eX11_code_0 : decode mX11_code.2.1 0 = .ok (.aload_n 0, 1) := dX11_code_0
theorem eX11_code_1 : decode mX11_code.2.1 1 = .ok (.getfield 10, 3) := dX11_code_1
theorem eX11_code_4 : decode mX11_code.2.1 4 = .ok (.iload_n 1, 1) := dX11_code_4
theorem eX11_code_5 : decode mX11_code.2.1 5 = .ok (.invokevirtual 259, 3) := dX11_code_5
theorem eX11_code_8 : decode mX11_code.2.1 8 = .ok (.ifCond .eq 7, 3) := dX11_code_8
theorem eX11_code_11 : decode mX11_code.2.1 11 = .ok (.iload_n 2, 1) := dX11_code_11
theorem eX11_code_12 : decode mX11_code.2.1 12 = .ok (.ifCond .ge 5, 3) := dX11_code_12
theorem eX11_code_15 : decode mX11_code.2.1 15 = .ok (.iconst (-1), 1) := dX11_code_15
theorem eX11_code_16 : decode mX11_code.2.1 16 = .ok (.ireturn, 1) := dX11_code_16
theorem eX11_code_17 : decode mX11_code.2.1 17 = .ok (.aload_n 0, 1) := dX11_code_17
theorem eX11_code_18 : decode mX11_code.2.1 18 = .ok (.getfield 40, 3) := dX11_code_18
theorem eX11_code_21 : decode mX11_code.2.1 21 = .ok (.iload_n 1, 1) := dX11_code_21
theorem eX11_code_22 : decode mX11_code.2.1 22 = .ok (.aload_n 0, 1) := dX11_code_22
theorem eX11_code_23 : decode mX11_code.2.1 23 = .ok (.getfield 10, 3) := dX11_code_23
theorem eX11_code_26 : decode mX11_code.2.1 26 = .ok (.getfield 131, 3) := dX11_code_26
theorem eX11_code_29 : decode mX11_code.2.1 29 = .ok (.invokevirtual 262, 3) := dX11_code_29
theorem eX11_code_32 : decode mX11_code.2.1 32 = .ok (.aload_n 0, 1) := dX11_code_32
theorem eX11_code_33 : decode mX11_code.2.1 33 = .ok (.getfield 40, 3) := dX11_code_33
theorem eX11_code_36 : decode mX11_code.2.1 36 = .ok (.getfield 265, 3) := dX11_code_36
theorem eX11_code_39 : decode mX11_code.2.1 39 = .ok (.bipush 30, 2) := dX11_code_39
theorem eX11_code_41 : decode mX11_code.2.1 41 = .ok (.if_icmp .gt 17, 3) := dX11_code_41
theorem eX11_code_44 : decode mX11_code.2.1 44 = .ok (.iload_n 2, 1) := dX11_code_44
theorem eX11_code_45 : decode mX11_code.2.1 45 = .ok (.aload_n 0, 1) := dX11_code_45
theorem eX11_code_46 : decode mX11_code.2.1 46 = .ok (.getfield 40, 3) := dX11_code_46
theorem eX11_code_49 : decode mX11_code.2.1 49 = .ok (.getfield 265, 3) := dX11_code_49
theorem eX11_code_52 : decode mX11_code.2.1 52 = .ok (.ishr, 1) := dX11_code_52
theorem eX11_code_53 : decode mX11_code.2.1 53 = .ok (.ifCond .eq 5, 3) := dX11_code_53
theorem eX11_code_56 : decode mX11_code.2.1 56 = .ok (.iconst (-1), 1) := dX11_code_56
theorem eX11_code_57 : decode mX11_code.2.1 57 = .ok (.ireturn, 1) := dX11_code_57
theorem eX11_code_58 : decode mX11_code.2.1 58 = .ok (.aload_n 0, 1) := dX11_code_58
theorem eX11_code_59 : decode mX11_code.2.1 59 = .ok (.iload_n 2, 1) := dX11_code_59
theorem eX11_code_60 : decode mX11_code.2.1 60 = .ok (.invokevirtual 274, 3) := dX11_code_60
theorem eX11_code_63 : decode mX11_code.2.1 63 = .ok (.aload_n 0, 1) := dX11_code_63
theorem eX11_code_64 : decode mX11_code.2.1 64 = .ok (.getfield 58, 3) := dX11_code_64
theorem eX11_code_67 : decode mX11_code.2.1 67 = .ok (.getfield 156, 3) := dX11_code_67
theorem eX11_code_70 : decode mX11_code.2.1 70 = .ok (.ireturn, 1) := dX11_code_70
theorem eX11_coefficient_0 : decode mX11_coefficient.2.1 0 = .ok (.iload_n 1, 1) := dX11_coefficient_0
theorem eX11_coefficient_1 : decode mX11_coefficient.2.1 1 = .ok (.ifCond .eq 8, 3) := dX11_coefficient_1
theorem eX11_coefficient_4 : decode mX11_coefficient.2.1 4 = .ok (.iload_n 1, 1) := dX11_coefficient_4
theorem eX11_coefficient_5 : decode mX11_coefficient.2.1 5 = .ok (.iconst 1, 1) := dX11_coefficient_5
theorem eX11_coefficient_6 : decode mX11_coefficient.2.1 6 = .ok (.if_icmp .ne 7, 3) := dX11_coefficient_6
theorem eX11_coefficient_9 : decode mX11_coefficient.2.1 9 = .ok (.iconst 1, 1) := dX11_coefficient_9
theorem eX11_coefficient_10 : decode mX11_coefficient.2.1 10 = .ok (.goto 4, 3) := dX11_coefficient_10
theorem eX11_coefficient_13 : decode mX11_coefficient.2.1 13 = .ok (.iconst 0, 1) := dX11_coefficient_13
theorem eX11_coefficient_14 : decode mX11_coefficient.2.1 14 = .ok (.invokestatic 117, 3) := dX11_coefficient_14
theorem eX11_coefficient_17 : decode mX11_coefficient.2.1 17 = .ok (.iload_n 1, 1) := dX11_coefficient_17
theorem eX11_coefficient_18 : decode mX11_coefficient.2.1 18 = .ok (.ifCond .ne 13, 3) := dX11_coefficient_18
theorem eX11_coefficient_21 : decode mX11_coefficient.2.1 21 = .ok (.aload_n 0, 1) := dX11_coefficient_21
theorem eX11_coefficient_22 : decode mX11_coefficient.2.1 22 = .ok (.getfield 58, 3) := dX11_coefficient_22
theorem eX11_coefficient_25 : decode mX11_coefficient.2.1 25 = .ok (.getfield 277, 3) := dX11_coefficient_25
theorem eX11_coefficient_28 : decode mX11_coefficient.2.1 28 = .ok (.goto 18, 3) := dX11_coefficient_28
theorem eX11_coefficient_31 : decode mX11_coefficient.2.1 31 = .ok (.aload_n 0, 1) := dX11_coefficient_31
theorem eX11_coefficient_32 : decode mX11_coefficient.2.1 32 = .ok (.getfield 58, 3) := dX11_coefficient_32
theorem eX11_coefficient_35 : decode mX11_coefficient.2.1 35 = .ok (.getfield 153, 3) := dX11_coefficient_35
theorem eX11_coefficient_38 : decode mX11_coefficient.2.1 38 = .ok (.aload_n 0, 1) := dX11_coefficient_38
theorem eX11_coefficient_39 : decode mX11_coefficient.2.1 39 = .ok (.getfield 58, 3) := dX11_coefficient_39
theorem eX11_coefficient_42 : decode mX11_coefficient.2.1 42 = .ok (.getfield 277, 3) := dX11_coefficient_42
theorem eX11_coefficient_45 : decode mX11_coefficient.2.1 45 = .ok (.isub, 1) := dX11_coefficient_45
theorem eX11_coefficient_46 : decode mX11_coefficient.2.1 46 = .ok (.istore_n 3, 1) := dX11_coefficient_46
theorem eX11_coefficient_47 : decode mX11_coefficient.2.1 47 = .ok (.iload_n 2, 1) := dX11_coefficient_47
theorem eX11_coefficient_48 : decode mX11_coefficient.2.1 48 = .ok (.iconst (-1), 1) := dX11_coefficient_48
theorem eX11_coefficient_49 : decode mX11_coefficient.2.1 49 = .ok (.if_icmp .ne 5, 3) := dX11_coefficient_49
theorem eX11_coefficient_52 : decode mX11_coefficient.2.1 52 = .ok (.iload_n 3, 1) := dX11_coefficient_52
theorem eX11_coefficient_53 : decode mX11_coefficient.2.1 53 = .ok (.ireturn, 1) := dX11_coefficient_53
theorem eX11_coefficient_54 : decode mX11_coefficient.2.1 54 = .ok (.iload_n 2, 1) := dX11_coefficient_54
theorem eX11_coefficient_55 : decode mX11_coefficient.2.1 55 = .ok (.ifCond .lt 12, 3) := dX11_coefficient_55
theorem eX11_coefficient_58 : decode mX11_coefficient.2.1 58 = .ok (.iload_n 2, 1) := dX11_coefficient_58
theorem eX11_coefficient_59 : decode mX11_coefficient.2.1 59 = .ok (.iload_n 3, 1) := dX11_coefficient_59
theorem eX11_coefficient_60 : decode mX11_coefficient.2.1 60 = .ok (.if_icmp .gt 7, 3) := dX11_coefficient_60
theorem eX11_coefficient_63 : decode mX11_coefficient.2.1 63 = .ok (.iconst 1, 1) := dX11_coefficient_63
theorem eX11_coefficient_64 : decode mX11_coefficient.2.1 64 = .ok (.goto 4, 3) := dX11_coefficient_64
theorem eX11_coefficient_67 : decode mX11_coefficient.2.1 67 = .ok (.iconst 0, 1) := dX11_coefficient_67
theorem eX11_coefficient_68 : decode mX11_coefficient.2.1 68 = .ok (.invokestatic 117, 3) := dX11_coefficient_68
theorem eX11_coefficient_71 : decode mX11_coefficient.2.1 71 = .ok (.iload_n 1, 1) := dX11_coefficient_71
theorem eX11_coefficient_72 : decode mX11_coefficient.2.1 72 = .ok (.ifCond .ne 13, 3) := dX11_coefficient_72
theorem eX11_coefficient_75 : decode mX11_coefficient.2.1 75 = .ok (.aload_n 0, 1) := dX11_coefficient_75
theorem eX11_coefficient_76 : decode mX11_coefficient.2.1 76 = .ok (.getfield 58, 3) := dX11_coefficient_76
theorem eX11_coefficient_79 : decode mX11_coefficient.2.1 79 = .ok (.getfield 280, 3) := dX11_coefficient_79
theorem eX11_coefficient_82 : decode mX11_coefficient.2.1 82 = .ok (.goto 10, 3) := dX11_coefficient_82
theorem eX11_coefficient_85 : decode mX11_coefficient.2.1 85 = .ok (.aload_n 0, 1) := dX11_coefficient_85
theorem eX11_coefficient_86 : decode mX11_coefficient.2.1 86 = .ok (.getfield 58, 3) := dX11_coefficient_86
theorem eX11_coefficient_89 : decode mX11_coefficient.2.1 89 = .ok (.getfield 283, 3) := dX11_coefficient_89
theorem eX11_coefficient_92 : decode mX11_coefficient.2.1 92 = .ok (.iload_n 2, 1) := dX11_coefficient_92
theorem eX11_coefficient_93 : decode mX11_coefficient.2.1 93 = .ok (.invokestatic 121, 3) := dX11_coefficient_93
theorem eX11_coefficient_96 : decode mX11_coefficient.2.1 96 = .ok (.ireturn, 1) := dX11_coefficient_96
theorem eX11_count_0 : decode mX11_count.2.1 0 = .ok (.iload_n 1, 1) := dX11_count_0
theorem eX11_count_1 : decode mX11_count.2.1 1 = .ok (.tableswitch 192 0 12 #[67, 75, 83, 91, 99, 107, 115, 141, 149, 157, 165, 173, 184], 67) := dX11_count_1
theorem eX11_count_68 : decode mX11_count.2.1 68 = .ok (.aload_n 0, 1) := dX11_count_68
theorem eX11_count_69 : decode mX11_count.2.1 69 = .ok (.getfield 10, 3) := dX11_count_69
theorem eX11_count_72 : decode mX11_count.2.1 72 = .ok (.getfield 131, 3) := dX11_count_72
theorem eX11_count_75 : decode mX11_count.2.1 75 = .ok (.ireturn, 1) := dX11_count_75
theorem eX11_count_76 : decode mX11_count.2.1 76 = .ok (.aload_n 0, 1) := dX11_count_76
theorem eX11_count_77 : decode mX11_count.2.1 77 = .ok (.getfield 10, 3) := dX11_count_77
theorem eX11_count_80 : decode mX11_count.2.1 80 = .ok (.getfield 134, 3) := dX11_count_80
theorem eX11_count_83 : decode mX11_count.2.1 83 = .ok (.ireturn, 1) := dX11_count_83
theorem eX11_count_84 : decode mX11_count.2.1 84 = .ok (.aload_n 0, 1) := dX11_count_84
theorem eX11_count_85 : decode mX11_count.2.1 85 = .ok (.getfield 10, 3) := dX11_count_85
theorem eX11_count_88 : decode mX11_count.2.1 88 = .ok (.getfield 137, 3) := dX11_count_88
theorem eX11_count_91 : decode mX11_count.2.1 91 = .ok (.ireturn, 1) := dX11_count_91
theorem eX11_count_92 : decode mX11_count.2.1 92 = .ok (.aload_n 0, 1) := dX11_count_92
theorem eX11_count_93 : decode mX11_count.2.1 93 = .ok (.getfield 10, 3) := dX11_count_93
theorem eX11_count_96 : decode mX11_count.2.1 96 = .ok (.getfield 140, 3) := dX11_count_96
theorem eX11_count_99 : decode mX11_count.2.1 99 = .ok (.ireturn, 1) := dX11_count_99
theorem eX11_count_100 : decode mX11_count.2.1 100 = .ok (.aload_n 0, 1) := dX11_count_100
theorem eX11_count_101 : decode mX11_count.2.1 101 = .ok (.getfield 10, 3) := dX11_count_101
theorem eX11_count_104 : decode mX11_count.2.1 104 = .ok (.getfield 143, 3) := dX11_count_104
theorem eX11_count_107 : decode mX11_count.2.1 107 = .ok (.ireturn, 1) := dX11_count_107
theorem eX11_count_108 : decode mX11_count.2.1 108 = .ok (.aload_n 0, 1) := dX11_count_108
theorem eX11_count_109 : decode mX11_count.2.1 109 = .ok (.getfield 10, 3) := dX11_count_109
theorem eX11_count_112 : decode mX11_count.2.1 112 = .ok (.getfield 85, 3) := dX11_count_112
theorem eX11_count_115 : decode mX11_count.2.1 115 = .ok (.ireturn, 1) := dX11_count_115
theorem eX11_count_116 : decode mX11_count.2.1 116 = .ok (.aload_n 0, 1) := dX11_count_116
theorem eX11_count_117 : decode mX11_count.2.1 117 = .ok (.getfield 10, 3) := dX11_count_117
theorem eX11_count_120 : decode mX11_count.2.1 120 = .ok (.getfield 85, 3) := dX11_count_120
theorem eX11_count_123 : decode mX11_count.2.1 123 = .ok (.aload_n 0, 1) := dX11_count_123
theorem eX11_count_124 : decode mX11_count.2.1 124 = .ok (.getfield 10, 3) := dX11_count_124
theorem eX11_count_127 : decode mX11_count.2.1 127 = .ok (.getfield 85, 3) := dX11_count_127
theorem eX11_count_130 : decode mX11_count.2.1 130 = .ok (.aload_n 0, 1) := dX11_count_130
theorem eX11_count_131 : decode mX11_count.2.1 131 = .ok (.getfield 10, 3) := dX11_count_131
theorem eX11_count_134 : decode mX11_count.2.1 134 = .ok (.getfield 143, 3) := dX11_count_134
theorem eX11_count_137 : decode mX11_count.2.1 137 = .ok (.invokestatic 146, 3) := dX11_count_137
theorem eX11_count_140 : decode mX11_count.2.1 140 = .ok (.isub, 1) := dX11_count_140
theorem eX11_count_141 : decode mX11_count.2.1 141 = .ok (.ireturn, 1) := dX11_count_141
theorem eX11_count_142 : decode mX11_count.2.1 142 = .ok (.aload_n 0, 1) := dX11_count_142
theorem eX11_count_143 : decode mX11_count.2.1 143 = .ok (.getfield 10, 3) := dX11_count_143
theorem eX11_count_146 : decode mX11_count.2.1 146 = .ok (.getfield 150, 3) := dX11_count_146
theorem eX11_count_149 : decode mX11_count.2.1 149 = .ok (.ireturn, 1) := dX11_count_149
theorem eX11_count_150 : decode mX11_count.2.1 150 = .ok (.aload_n 0, 1) := dX11_count_150
theorem eX11_count_151 : decode mX11_count.2.1 151 = .ok (.getfield 58, 3) := dX11_count_151
theorem eX11_count_154 : decode mX11_count.2.1 154 = .ok (.getfield 153, 3) := dX11_count_154
theorem eX11_count_157 : decode mX11_count.2.1 157 = .ok (.ireturn, 1) := dX11_count_157
theorem eX11_count_158 : decode mX11_count.2.1 158 = .ok (.aload_n 0, 1) := dX11_count_158
theorem eX11_count_159 : decode mX11_count.2.1 159 = .ok (.getfield 58, 3) := dX11_count_159
theorem eX11_count_162 : decode mX11_count.2.1 162 = .ok (.getfield 156, 3) := dX11_count_162
theorem eX11_count_165 : decode mX11_count.2.1 165 = .ok (.ireturn, 1) := dX11_count_165
theorem eX11_count_166 : decode mX11_count.2.1 166 = .ok (.aload_n 0, 1) := dX11_count_166
theorem eX11_count_167 : decode mX11_count.2.1 167 = .ok (.getfield 26, 3) := dX11_count_167
theorem eX11_count_170 : decode mX11_count.2.1 170 = .ok (.getfield 89, 3) := dX11_count_170
theorem eX11_count_173 : decode mX11_count.2.1 173 = .ok (.ireturn, 1) := dX11_count_173
theorem eX11_count_174 : decode mX11_count.2.1 174 = .ok (.aload_n 0, 1) := dX11_count_174
theorem eX11_count_175 : decode mX11_count.2.1 175 = .ok (.getfield 10, 3) := dX11_count_175
theorem eX11_count_178 : decode mX11_count.2.1 178 = .ok (.getfield 137, 3) := dX11_count_178
theorem eX11_count_181 : decode mX11_count.2.1 181 = .ok (.invokestatic 159, 3) := dX11_count_181
theorem eX11_count_184 : decode mX11_count.2.1 184 = .ok (.ireturn, 1) := dX11_count_184
theorem eX11_count_185 : decode mX11_count.2.1 185 = .ok (.aload_n 0, 1) := dX11_count_185
theorem eX11_count_186 : decode mX11_count.2.1 186 = .ok (.getfield 10, 3) := dX11_count_186
theorem eX11_count_189 : decode mX11_count.2.1 189 = .ok (.invokevirtual 162, 3) := dX11_count_189
theorem eX11_count_192 : decode mX11_count.2.1 192 = .ok (.ireturn, 1) := dX11_count_192
theorem eX11_count_193 : decode mX11_count.2.1 193 = .ok (.new 166, 3) := dX11_count_193
theorem eX11_count_196 : decode mX11_count.2.1 196 = .ok (.dup, 1) := dX11_count_196
theorem eX11_count_197 : decode mX11_count.2.1 197 = .ok (.invokespecial 168, 3) := dX11_count_197
theorem eX11_count_200 : decode mX11_count.2.1 200 = .ok (.athrow, 1) := dX11_count_200
theorem eX11_digit_0 : decode mX11_digit.2.1 0 = .ok (.aload_n 0, 1) := dX11_digit_0
theorem eX11_digit_1 : decode mX11_digit.2.1 1 = .ok (.getfield 10, 3) := dX11_digit_1
theorem eX11_digit_4 : decode mX11_digit.2.1 4 = .ok (.iload_n 1, 1) := dX11_digit_4
theorem eX11_digit_5 : decode mX11_digit.2.1 5 = .ok (.invokevirtual 113, 3) := dX11_digit_5
theorem eX11_digit_8 : decode mX11_digit.2.1 8 = .ok (.ifCond .eq 22, 3) := dX11_digit_8
theorem eX11_digit_11 : decode mX11_digit.2.1 11 = .ok (.iload_n 2, 1) := dX11_digit_11
theorem eX11_digit_12 : decode mX11_digit.2.1 12 = .ok (.ifCond .lt 18, 3) := dX11_digit_12
theorem eX11_digit_15 : decode mX11_digit.2.1 15 = .ok (.iload_n 2, 1) := dX11_digit_15
theorem eX11_digit_16 : decode mX11_digit.2.1 16 = .ok (.aload_n 0, 1) := dX11_digit_16
theorem eX11_digit_17 : decode mX11_digit.2.1 17 = .ok (.getfield 10, 3) := dX11_digit_17
theorem eX11_digit_20 : decode mX11_digit.2.1 20 = .ok (.getfield 134, 3) := dX11_digit_20
theorem eX11_digit_23 : decode mX11_digit.2.1 23 = .ok (.if_icmp .ge 7, 3) := dX11_digit_23
theorem eX11_digit_26 : decode mX11_digit.2.1 26 = .ok (.iconst 1, 1) := dX11_digit_26
theorem eX11_digit_27 : decode mX11_digit.2.1 27 = .ok (.goto 4, 3) := dX11_digit_27
theorem eX11_digit_30 : decode mX11_digit.2.1 30 = .ok (.iconst 0, 1) := dX11_digit_30
theorem eX11_digit_31 : decode mX11_digit.2.1 31 = .ok (.invokestatic 117, 3) := dX11_digit_31
theorem eX11_digit_34 : decode mX11_digit.2.1 34 = .ok (.aload_n 0, 1) := dX11_digit_34
theorem eX11_digit_35 : decode mX11_digit.2.1 35 = .ok (.getfield 10, 3) := dX11_digit_35
theorem eX11_digit_38 : decode mX11_digit.2.1 38 = .ok (.iload_n 1, 1) := dX11_digit_38
theorem eX11_digit_39 : decode mX11_digit.2.1 39 = .ok (.iload_n 2, 1) := dX11_digit_39
theorem eX11_digit_40 : decode mX11_digit.2.1 40 = .ok (.invokevirtual 211, 3) := dX11_digit_40
theorem eX11_digit_43 : decode mX11_digit.2.1 43 = .ok (.ireturn, 1) := dX11_digit_43
theorem eX11_divisors_0 : decode mX11_divisors.2.1 0 = .ok (.iconst 0, 1) := dX11_divisors_0
theorem eX11_divisors_1 : decode mX11_divisors.2.1 1 = .ok (.istore_n 1, 1) := dX11_divisors_1
theorem eX11_divisors_2 : decode mX11_divisors.2.1 2 = .ok (.iconst 1, 1) := dX11_divisors_2
theorem eX11_divisors_3 : decode mX11_divisors.2.1 3 = .ok (.istore_n 2, 1) := dX11_divisors_3
theorem eX11_divisors_4 : decode mX11_divisors.2.1 4 = .ok (.iload_n 2, 1) := dX11_divisors_4
theorem eX11_divisors_5 : decode mX11_divisors.2.1 5 = .ok (.iload_n 0, 1) := dX11_divisors_5
theorem eX11_divisors_6 : decode mX11_divisors.2.1 6 = .ok (.if_icmp .gt 25, 3) := dX11_divisors_6
theorem eX11_divisors_9 : decode mX11_divisors.2.1 9 = .ok (.iload_n 1, 1) := dX11_divisors_9
theorem eX11_divisors_10 : decode mX11_divisors.2.1 10 = .ok (.iload_n 0, 1) := dX11_divisors_10
theorem eX11_divisors_11 : decode mX11_divisors.2.1 11 = .ok (.iload_n 2, 1) := dX11_divisors_11
theorem eX11_divisors_12 : decode mX11_divisors.2.1 12 = .ok (.invokestatic 238, 3) := dX11_divisors_12
theorem eX11_divisors_15 : decode mX11_divisors.2.1 15 = .ok (.ifCond .ne 7, 3) := dX11_divisors_15
theorem eX11_divisors_18 : decode mX11_divisors.2.1 18 = .ok (.iconst 1, 1) := dX11_divisors_18
theorem eX11_divisors_19 : decode mX11_divisors.2.1 19 = .ok (.goto 4, 3) := dX11_divisors_19
theorem eX11_divisors_22 : decode mX11_divisors.2.1 22 = .ok (.iconst 0, 1) := dX11_divisors_22
theorem eX11_divisors_23 : decode mX11_divisors.2.1 23 = .ok (.iadd, 1) := dX11_divisors_23
theorem eX11_divisors_24 : decode mX11_divisors.2.1 24 = .ok (.istore_n 1, 1) := dX11_divisors_24
theorem eX11_divisors_25 : decode mX11_divisors.2.1 25 = .ok (.iinc 2 1, 3) := dX11_divisors_25
theorem eX11_divisors_28 : decode mX11_divisors.2.1 28 = .ok (.goto (-24), 3) := dX11_divisors_28
theorem eX11_divisors_31 : decode mX11_divisors.2.1 31 = .ok (.iload_n 1, 1) := dX11_divisors_31
theorem eX11_divisors_32 : decode mX11_divisors.2.1 32 = .ok (.ireturn, 1) := dX11_divisors_32
theorem eX11_element_0 : decode mX11_element.2.1 0 = .ok (.aload_n 0, 1) := dX11_element_0
theorem eX11_element_1 : decode mX11_element.2.1 1 = .ok (.getfield 10, 3) := dX11_element_1
theorem eX11_element_4 : decode mX11_element.2.1 4 = .ok (.iload_n 2, 1) := dX11_element_4
theorem eX11_element_5 : decode mX11_element.2.1 5 = .ok (.invokevirtual 113, 3) := dX11_element_5
theorem eX11_element_8 : decode mX11_element.2.1 8 = .ok (.ifCond .eq 18, 3) := dX11_element_8
theorem eX11_element_11 : decode mX11_element.2.1 11 = .ok (.aload_n 0, 1) := dX11_element_11
theorem eX11_element_12 : decode mX11_element.2.1 12 = .ok (.getfield 10, 3) := dX11_element_12
theorem eX11_element_15 : decode mX11_element.2.1 15 = .ok (.iload_n 3, 1) := dX11_element_15
theorem eX11_element_16 : decode mX11_element.2.1 16 = .ok (.invokevirtual 113, 3) := dX11_element_16
theorem eX11_element_19 : decode mX11_element.2.1 19 = .ok (.ifCond .eq 7, 3) := dX11_element_19
theorem eX11_element_22 : decode mX11_element.2.1 22 = .ok (.iconst 1, 1) := dX11_element_22
theorem eX11_element_23 : decode mX11_element.2.1 23 = .ok (.goto 4, 3) := dX11_element_23
theorem eX11_element_26 : decode mX11_element.2.1 26 = .ok (.iconst 0, 1) := dX11_element_26
theorem eX11_element_27 : decode mX11_element.2.1 27 = .ok (.invokestatic 117, 3) := dX11_element_27
theorem eX11_element_30 : decode mX11_element.2.1 30 = .ok (.iload_n 1, 1) := dX11_element_30
theorem eX11_element_31 : decode mX11_element.2.1 31 = .ok (.tableswitch 87 0 3 #[29, 39, 49, 59], 29) := dX11_element_31
theorem eX11_element_60 : decode mX11_element.2.1 60 = .ok (.aload_n 0, 1) := dX11_element_60
theorem eX11_element_61 : decode mX11_element.2.1 61 = .ok (.getfield 10, 3) := dX11_element_61
theorem eX11_element_64 : decode mX11_element.2.1 64 = .ok (.iload_n 2, 1) := dX11_element_64
theorem eX11_element_65 : decode mX11_element.2.1 65 = .ok (.iload_n 3, 1) := dX11_element_65
theorem eX11_element_66 : decode mX11_element.2.1 66 = .ok (.invokevirtual 172, 3) := dX11_element_66
theorem eX11_element_69 : decode mX11_element.2.1 69 = .ok (.ireturn, 1) := dX11_element_69
theorem eX11_element_70 : decode mX11_element.2.1 70 = .ok (.aload_n 0, 1) := dX11_element_70
theorem eX11_element_71 : decode mX11_element.2.1 71 = .ok (.getfield 10, 3) := dX11_element_71
theorem eX11_element_74 : decode mX11_element.2.1 74 = .ok (.iload_n 2, 1) := dX11_element_74
theorem eX11_element_75 : decode mX11_element.2.1 75 = .ok (.iload_n 3, 1) := dX11_element_75
theorem eX11_element_76 : decode mX11_element.2.1 76 = .ok (.invokevirtual 175, 3) := dX11_element_76
theorem eX11_element_79 : decode mX11_element.2.1 79 = .ok (.ireturn, 1) := dX11_element_79
theorem eX11_element_80 : decode mX11_element.2.1 80 = .ok (.aload_n 0, 1) := dX11_element_80
theorem eX11_element_81 : decode mX11_element.2.1 81 = .ok (.getfield 10, 3) := dX11_element_81
theorem eX11_element_84 : decode mX11_element.2.1 84 = .ok (.iload_n 2, 1) := dX11_element_84
theorem eX11_element_85 : decode mX11_element.2.1 85 = .ok (.iload_n 3, 1) := dX11_element_85
theorem eX11_element_86 : decode mX11_element.2.1 86 = .ok (.invokevirtual 178, 3) := dX11_element_86
theorem eX11_element_89 : decode mX11_element.2.1 89 = .ok (.ireturn, 1) := dX11_element_89
theorem eX11_element_90 : decode mX11_element.2.1 90 = .ok (.aload_n 0, 1) := dX11_element_90
theorem eX11_element_91 : decode mX11_element.2.1 91 = .ok (.getfield 10, 3) := dX11_element_91
theorem eX11_element_94 : decode mX11_element.2.1 94 = .ok (.iload_n 3, 1) := dX11_element_94
theorem eX11_element_95 : decode mX11_element.2.1 95 = .ok (.invokevirtual 181, 3) := dX11_element_95
theorem eX11_element_98 : decode mX11_element.2.1 98 = .ok (.invokestatic 117, 3) := dX11_element_98
theorem eX11_element_101 : decode mX11_element.2.1 101 = .ok (.aload_n 0, 1) := dX11_element_101
theorem eX11_element_102 : decode mX11_element.2.1 102 = .ok (.getfield 10, 3) := dX11_element_102
theorem eX11_element_105 : decode mX11_element.2.1 105 = .ok (.iload_n 2, 1) := dX11_element_105
theorem eX11_element_106 : decode mX11_element.2.1 106 = .ok (.aload_n 0, 1) := dX11_element_106
theorem eX11_element_107 : decode mX11_element.2.1 107 = .ok (.getfield 10, 3) := dX11_element_107
theorem eX11_element_110 : decode mX11_element.2.1 110 = .ok (.iload_n 3, 1) := dX11_element_110
theorem eX11_element_111 : decode mX11_element.2.1 111 = .ok (.invokevirtual 184, 3) := dX11_element_111
theorem eX11_element_114 : decode mX11_element.2.1 114 = .ok (.invokevirtual 178, 3) := dX11_element_114
theorem eX11_element_117 : decode mX11_element.2.1 117 = .ok (.ireturn, 1) := dX11_element_117
theorem eX11_element_118 : decode mX11_element.2.1 118 = .ok (.new 166, 3) := dX11_element_118
theorem eX11_element_121 : decode mX11_element.2.1 121 = .ok (.dup, 1) := dX11_element_121
theorem eX11_element_122 : decode mX11_element.2.1 122 = .ok (.invokespecial 168, 3) := dX11_element_122
theorem eX11_element_125 : decode mX11_element.2.1 125 = .ok (.athrow, 1) := dX11_element_125
theorem eX11_init_0 : decode mX11_init.2.1 0 = .ok (.aload_n 0, 1) := dX11_init_0
theorem eX11_init_1 : decode mX11_init.2.1 1 = .ok (.invokespecial 1, 3) := dX11_init_1
theorem eX11_init_4 : decode mX11_init.2.1 4 = .ok (.aload_n 0, 1) := dX11_init_4
theorem eX11_init_5 : decode mX11_init.2.1 5 = .ok (.new 7, 3) := dX11_init_5
theorem eX11_init_8 : decode mX11_init.2.1 8 = .ok (.dup, 1) := dX11_init_8
theorem eX11_init_9 : decode mX11_init.2.1 9 = .ok (.invokespecial 9, 3) := dX11_init_9
theorem eX11_init_12 : decode mX11_init.2.1 12 = .ok (.putfield 10, 3) := dX11_init_12
theorem eX11_init_15 : decode mX11_init.2.1 15 = .ok (.aload_n 0, 1) := dX11_init_15
theorem eX11_init_16 : decode mX11_init.2.1 16 = .ok (.bipush 8, 2) := dX11_init_16
theorem eX11_init_18 : decode mX11_init.2.1 18 = .ok (.newarray .int, 2) := dX11_init_18
theorem eX11_init_20 : decode mX11_init.2.1 20 = .ok (.putfield 16, 3) := dX11_init_20
theorem eX11_init_23 : decode mX11_init.2.1 23 = .ok (.aload_n 0, 1) := dX11_init_23
theorem eX11_init_24 : decode mX11_init.2.1 24 = .ok (.sipush 4096, 3) := dX11_init_24
theorem eX11_init_27 : decode mX11_init.2.1 27 = .ok (.newarray .int, 2) := dX11_init_27
theorem eX11_init_29 : decode mX11_init.2.1 29 = .ok (.putfield 20, 3) := dX11_init_29
theorem eX11_init_32 : decode mX11_init.2.1 32 = .ok (.aload_n 0, 1) := dX11_init_32
theorem eX11_init_33 : decode mX11_init.2.1 33 = .ok (.new 23, 3) := dX11_init_33
theorem eX11_init_36 : decode mX11_init.2.1 36 = .ok (.dup, 1) := dX11_init_36
theorem eX11_init_37 : decode mX11_init.2.1 37 = .ok (.invokespecial 25, 3) := dX11_init_37
theorem eX11_init_40 : decode mX11_init.2.1 40 = .ok (.putfield 26, 3) := dX11_init_40
theorem eX11_init_43 : decode mX11_init.2.1 43 = .ok (.aload_n 0, 1) := dX11_init_43
theorem eX11_init_44 : decode mX11_init.2.1 44 = .ok (.new 30, 3) := dX11_init_44
theorem eX11_init_47 : decode mX11_init.2.1 47 = .ok (.dup, 1) := dX11_init_47
theorem eX11_init_48 : decode mX11_init.2.1 48 = .ok (.invokespecial 32, 3) := dX11_init_48
theorem eX11_init_51 : decode mX11_init.2.1 51 = .ok (.putfield 33, 3) := dX11_init_51
theorem eX11_init_54 : decode mX11_init.2.1 54 = .ok (.aload_n 0, 1) := dX11_init_54
theorem eX11_init_55 : decode mX11_init.2.1 55 = .ok (.new 37, 3) := dX11_init_55
theorem eX11_init_58 : decode mX11_init.2.1 58 = .ok (.dup, 1) := dX11_init_58
theorem eX11_init_59 : decode mX11_init.2.1 59 = .ok (.invokespecial 39, 3) := dX11_init_59
theorem eX11_init_62 : decode mX11_init.2.1 62 = .ok (.putfield 40, 3) := dX11_init_62
theorem eX11_init_65 : decode mX11_init.2.1 65 = .ok (.aload_n 0, 1) := dX11_init_65
theorem eX11_init_66 : decode mX11_init.2.1 66 = .ok (.new 44, 3) := dX11_init_66
theorem eX11_init_69 : decode mX11_init.2.1 69 = .ok (.dup, 1) := dX11_init_69
theorem eX11_init_70 : decode mX11_init.2.1 70 = .ok (.aload_n 0, 1) := dX11_init_70
theorem eX11_init_71 : decode mX11_init.2.1 71 = .ok (.getfield 10, 3) := dX11_init_71
theorem eX11_init_74 : decode mX11_init.2.1 74 = .ok (.aload_n 0, 1) := dX11_init_74
theorem eX11_init_75 : decode mX11_init.2.1 75 = .ok (.getfield 16, 3) := dX11_init_75
theorem eX11_init_78 : decode mX11_init.2.1 78 = .ok (.aload_n 0, 1) := dX11_init_78
theorem eX11_init_79 : decode mX11_init.2.1 79 = .ok (.getfield 26, 3) := dX11_init_79
theorem eX11_init_82 : decode mX11_init.2.1 82 = .ok (.invokespecial 46, 3) := dX11_init_82
theorem eX11_init_85 : decode mX11_init.2.1 85 = .ok (.putfield 49, 3) := dX11_init_85
theorem eX11_init_88 : decode mX11_init.2.1 88 = .ok (.aload_n 0, 1) := dX11_init_88
theorem eX11_init_89 : decode mX11_init.2.1 89 = .ok (.new 53, 3) := dX11_init_89
theorem eX11_init_92 : decode mX11_init.2.1 92 = .ok (.dup, 1) := dX11_init_92
theorem eX11_init_93 : decode mX11_init.2.1 93 = .ok (.aload_n 0, 1) := dX11_init_93
theorem eX11_init_94 : decode mX11_init.2.1 94 = .ok (.getfield 10, 3) := dX11_init_94
theorem eX11_init_97 : decode mX11_init.2.1 97 = .ok (.invokespecial 55, 3) := dX11_init_97
theorem eX11_init_100 : decode mX11_init.2.1 100 = .ok (.putfield 58, 3) := dX11_init_100
theorem eX11_init_103 : decode mX11_init.2.1 103 = .ok (.aload_n 0, 1) := dX11_init_103
theorem eX11_init_104 : decode mX11_init.2.1 104 = .ok (.new 62, 3) := dX11_init_104
theorem eX11_init_107 : decode mX11_init.2.1 107 = .ok (.dup, 1) := dX11_init_107
theorem eX11_init_108 : decode mX11_init.2.1 108 = .ok (.aload_n 0, 1) := dX11_init_108
theorem eX11_init_109 : decode mX11_init.2.1 109 = .ok (.getfield 58, 3) := dX11_init_109
theorem eX11_init_112 : decode mX11_init.2.1 112 = .ok (.invokespecial 64, 3) := dX11_init_112
theorem eX11_init_115 : decode mX11_init.2.1 115 = .ok (.putfield 67, 3) := dX11_init_115
theorem eX11_init_118 : decode mX11_init.2.1 118 = .ok (.aload_n 0, 1) := dX11_init_118
theorem eX11_init_119 : decode mX11_init.2.1 119 = .ok (.new 71, 3) := dX11_init_119
theorem eX11_init_122 : decode mX11_init.2.1 122 = .ok (.dup, 1) := dX11_init_122
theorem eX11_init_123 : decode mX11_init.2.1 123 = .ok (.aload_n 0, 1) := dX11_init_123
theorem eX11_init_124 : decode mX11_init.2.1 124 = .ok (.getfield 58, 3) := dX11_init_124
theorem eX11_init_127 : decode mX11_init.2.1 127 = .ok (.invokespecial 73, 3) := dX11_init_127
theorem eX11_init_130 : decode mX11_init.2.1 130 = .ok (.putfield 74, 3) := dX11_init_130
theorem eX11_init_133 : decode mX11_init.2.1 133 = .ok (.aload_n 0, 1) := dX11_init_133
theorem eX11_init_134 : decode mX11_init.2.1 134 = .ok (.getfield 10, 3) := dX11_init_134
theorem eX11_init_137 : decode mX11_init.2.1 137 = .ok (.iconst 2, 1) := dX11_init_137
theorem eX11_init_138 : decode mX11_init.2.1 138 = .ok (.iconst 1, 1) := dX11_init_138
theorem eX11_init_139 : decode mX11_init.2.1 139 = .ok (.iconst 1, 1) := dX11_init_139
theorem eX11_init_140 : decode mX11_init.2.1 140 = .ok (.invokevirtual 78, 3) := dX11_init_140
theorem eX11_init_143 : decode mX11_init.2.1 143 = .ok (.pop, 1) := dX11_init_143
theorem eX11_init_144 : decode mX11_init.2.1 144 = .ok (.aload_n 0, 1) := dX11_init_144
theorem eX11_init_145 : decode mX11_init.2.1 145 = .ok (.invokevirtual 82, 3) := dX11_init_145
theorem eX11_init_148 : decode mX11_init.2.1 148 = .ok (.return_, 1) := dX11_init_148
theorem eX11_need_0 : decode mX11_need.2.1 0 = .ok (.iload_n 0, 1) := dX11_need_0
theorem eX11_need_1 : decode mX11_need.2.1 1 = .ok (.ifCond .ne 11, 3) := dX11_need_1
theorem eX11_need_4 : decode mX11_need.2.1 4 = .ok (.new 166, 3) := dX11_need_4
theorem eX11_need_7 : decode mX11_need.2.1 7 = .ok (.dup, 1) := dX11_need_7
theorem eX11_need_8 : decode mX11_need.2.1 8 = .ok (.invokespecial 168, 3) := dX11_need_8
theorem eX11_need_11 : decode mX11_need.2.1 11 = .ok (.athrow, 1) := dX11_need_11
theorem eX11_need_12 : decode mX11_need.2.1 12 = .ok (.return_, 1) := dX11_need_12
theorem eX11_of_0 : decode mX11_of.2.1 0 = .ok (.aload_n 0, 1) := dX11_of_0
theorem eX11_of_1 : decode mX11_of.2.1 1 = .ok (.getfield 10, 3) := dX11_of_1
theorem eX11_of_4 : decode mX11_of.2.1 4 = .ok (.iload_n 1, 1) := dX11_of_4
theorem eX11_of_5 : decode mX11_of.2.1 5 = .ok (.invokevirtual 113, 3) := dX11_of_5
theorem eX11_of_8 : decode mX11_of.2.1 8 = .ok (.invokestatic 117, 3) := dX11_of_8
theorem eX11_of_11 : decode mX11_of.2.1 11 = .ok (.iload_n 2, 1) := dX11_of_11
theorem eX11_of_12 : decode mX11_of.2.1 12 = .ok (.tableswitch 178 0 8 #[52, 61, 70, 79, 88, 97, 106, 130, 154], 52) := dX11_of_12
theorem eX11_of_64 : decode mX11_of.2.1 64 = .ok (.aload_n 0, 1) := dX11_of_64
theorem eX11_of_65 : decode mX11_of.2.1 65 = .ok (.getfield 10, 3) := dX11_of_65
theorem eX11_of_68 : decode mX11_of.2.1 68 = .ok (.iload_n 1, 1) := dX11_of_68
theorem eX11_of_69 : decode mX11_of.2.1 69 = .ok (.invokevirtual 187, 3) := dX11_of_69
theorem eX11_of_72 : decode mX11_of.2.1 72 = .ok (.ireturn, 1) := dX11_of_72
theorem eX11_of_73 : decode mX11_of.2.1 73 = .ok (.aload_n 0, 1) := dX11_of_73
theorem eX11_of_74 : decode mX11_of.2.1 74 = .ok (.getfield 10, 3) := dX11_of_74
theorem eX11_of_77 : decode mX11_of.2.1 77 = .ok (.iload_n 1, 1) := dX11_of_77
theorem eX11_of_78 : decode mX11_of.2.1 78 = .ok (.invokevirtual 190, 3) := dX11_of_78
theorem eX11_of_81 : decode mX11_of.2.1 81 = .ok (.ireturn, 1) := dX11_of_81
theorem eX11_of_82 : decode mX11_of.2.1 82 = .ok (.aload_n 0, 1) := dX11_of_82
theorem eX11_of_83 : decode mX11_of.2.1 83 = .ok (.getfield 10, 3) := dX11_of_83
theorem eX11_of_86 : decode mX11_of.2.1 86 = .ok (.iload_n 1, 1) := dX11_of_86
theorem eX11_of_87 : decode mX11_of.2.1 87 = .ok (.invokevirtual 193, 3) := dX11_of_87
theorem eX11_of_90 : decode mX11_of.2.1 90 = .ok (.ireturn, 1) := dX11_of_90
theorem eX11_of_91 : decode mX11_of.2.1 91 = .ok (.aload_n 0, 1) := dX11_of_91
theorem eX11_of_92 : decode mX11_of.2.1 92 = .ok (.getfield 10, 3) := dX11_of_92
theorem eX11_of_95 : decode mX11_of.2.1 95 = .ok (.iload_n 1, 1) := dX11_of_95
theorem eX11_of_96 : decode mX11_of.2.1 96 = .ok (.invokevirtual 196, 3) := dX11_of_96
theorem eX11_of_99 : decode mX11_of.2.1 99 = .ok (.ireturn, 1) := dX11_of_99
theorem eX11_of_100 : decode mX11_of.2.1 100 = .ok (.aload_n 0, 1) := dX11_of_100
theorem eX11_of_101 : decode mX11_of.2.1 101 = .ok (.getfield 10, 3) := dX11_of_101
theorem eX11_of_104 : decode mX11_of.2.1 104 = .ok (.iload_n 1, 1) := dX11_of_104
theorem eX11_of_105 : decode mX11_of.2.1 105 = .ok (.invokevirtual 199, 3) := dX11_of_105
theorem eX11_of_108 : decode mX11_of.2.1 108 = .ok (.ireturn, 1) := dX11_of_108
theorem eX11_of_109 : decode mX11_of.2.1 109 = .ok (.aload_n 0, 1) := dX11_of_109
theorem eX11_of_110 : decode mX11_of.2.1 110 = .ok (.getfield 10, 3) := dX11_of_110
theorem eX11_of_113 : decode mX11_of.2.1 113 = .ok (.iload_n 1, 1) := dX11_of_113
theorem eX11_of_114 : decode mX11_of.2.1 114 = .ok (.invokevirtual 202, 3) := dX11_of_114
theorem eX11_of_117 : decode mX11_of.2.1 117 = .ok (.ireturn, 1) := dX11_of_117
theorem eX11_of_118 : decode mX11_of.2.1 118 = .ok (.aload_n 0, 1) := dX11_of_118
theorem eX11_of_119 : decode mX11_of.2.1 119 = .ok (.getfield 10, 3) := dX11_of_119
theorem eX11_of_122 : decode mX11_of.2.1 122 = .ok (.iload_n 1, 1) := dX11_of_122
theorem eX11_of_123 : decode mX11_of.2.1 123 = .ok (.invokevirtual 181, 3) := dX11_of_123
theorem eX11_of_126 : decode mX11_of.2.1 126 = .ok (.ifCond .eq 14, 3) := dX11_of_126
theorem eX11_of_129 : decode mX11_of.2.1 129 = .ok (.aload_n 0, 1) := dX11_of_129
theorem eX11_of_130 : decode mX11_of.2.1 130 = .ok (.getfield 10, 3) := dX11_of_130
theorem eX11_of_133 : decode mX11_of.2.1 133 = .ok (.iload_n 1, 1) := dX11_of_133
theorem eX11_of_134 : decode mX11_of.2.1 134 = .ok (.invokevirtual 205, 3) := dX11_of_134
theorem eX11_of_137 : decode mX11_of.2.1 137 = .ok (.goto 4, 3) := dX11_of_137
theorem eX11_of_140 : decode mX11_of.2.1 140 = .ok (.iconst (-1), 1) := dX11_of_140
theorem eX11_of_141 : decode mX11_of.2.1 141 = .ok (.ireturn, 1) := dX11_of_141
theorem eX11_of_142 : decode mX11_of.2.1 142 = .ok (.aload_n 0, 1) := dX11_of_142
theorem eX11_of_143 : decode mX11_of.2.1 143 = .ok (.getfield 10, 3) := dX11_of_143
theorem eX11_of_146 : decode mX11_of.2.1 146 = .ok (.iload_n 1, 1) := dX11_of_146
theorem eX11_of_147 : decode mX11_of.2.1 147 = .ok (.invokevirtual 181, 3) := dX11_of_147
theorem eX11_of_150 : decode mX11_of.2.1 150 = .ok (.ifCond .eq 14, 3) := dX11_of_150
theorem eX11_of_153 : decode mX11_of.2.1 153 = .ok (.aload_n 0, 1) := dX11_of_153
theorem eX11_of_154 : decode mX11_of.2.1 154 = .ok (.getfield 10, 3) := dX11_of_154
theorem eX11_of_157 : decode mX11_of.2.1 157 = .ok (.iload_n 1, 1) := dX11_of_157
theorem eX11_of_158 : decode mX11_of.2.1 158 = .ok (.invokevirtual 208, 3) := dX11_of_158
theorem eX11_of_161 : decode mX11_of.2.1 161 = .ok (.goto 4, 3) := dX11_of_161
theorem eX11_of_164 : decode mX11_of.2.1 164 = .ok (.iconst (-1), 1) := dX11_of_164
theorem eX11_of_165 : decode mX11_of.2.1 165 = .ok (.ireturn, 1) := dX11_of_165
theorem eX11_of_166 : decode mX11_of.2.1 166 = .ok (.aload_n 0, 1) := dX11_of_166
theorem eX11_of_167 : decode mX11_of.2.1 167 = .ok (.getfield 10, 3) := dX11_of_167
theorem eX11_of_170 : decode mX11_of.2.1 170 = .ok (.iload_n 1, 1) := dX11_of_170
theorem eX11_of_171 : decode mX11_of.2.1 171 = .ok (.invokevirtual 181, 3) := dX11_of_171
theorem eX11_of_174 : decode mX11_of.2.1 174 = .ok (.ifCond .eq 14, 3) := dX11_of_174
theorem eX11_of_177 : decode mX11_of.2.1 177 = .ok (.aload_n 0, 1) := dX11_of_177
theorem eX11_of_178 : decode mX11_of.2.1 178 = .ok (.getfield 10, 3) := dX11_of_178
theorem eX11_of_181 : decode mX11_of.2.1 181 = .ok (.iload_n 1, 1) := dX11_of_181
theorem eX11_of_182 : decode mX11_of.2.1 182 = .ok (.invokevirtual 184, 3) := dX11_of_182
theorem eX11_of_185 : decode mX11_of.2.1 185 = .ok (.goto 4, 3) := dX11_of_185
theorem eX11_of_188 : decode mX11_of.2.1 188 = .ok (.iconst (-1), 1) := dX11_of_188
theorem eX11_of_189 : decode mX11_of.2.1 189 = .ok (.ireturn, 1) := dX11_of_189
theorem eX11_of_190 : decode mX11_of.2.1 190 = .ok (.new 166, 3) := dX11_of_190
theorem eX11_of_193 : decode mX11_of.2.1 193 = .ok (.dup, 1) := dX11_of_193
theorem eX11_of_194 : decode mX11_of.2.1 194 = .ok (.invokespecial 168, 3) := dX11_of_194
theorem eX11_of_197 : decode mX11_of.2.1 197 = .ok (.athrow, 1) := dX11_of_197
theorem eX11_ring_0 : decode mX11_ring.2.1 0 = .ok (.aload_n 0, 1) := dX11_ring_0
theorem eX11_ring_1 : decode mX11_ring.2.1 1 = .ok (.getfield 10, 3) := dX11_ring_1
theorem eX11_ring_4 : decode mX11_ring.2.1 4 = .ok (.iload_n 1, 1) := dX11_ring_4
theorem eX11_ring_5 : decode mX11_ring.2.1 5 = .ok (.iload_n 2, 1) := dX11_ring_5
theorem eX11_ring_6 : decode mX11_ring.2.1 6 = .ok (.iload_n 3, 1) := dX11_ring_6
theorem eX11_ring_7 : decode mX11_ring.2.1 7 = .ok (.invokevirtual 78, 3) := dX11_ring_7
theorem eX11_ring_10 : decode mX11_ring.2.1 10 = .ok (.ifCond .ne 5, 3) := dX11_ring_10
theorem eX11_ring_15 : decode mX11_ring.2.1 15 = .ok (.aload_n 0, 1) := dX11_ring_15
theorem eX11_ring_16 : decode mX11_ring.2.1 16 = .ok (.invokevirtual 82, 3) := dX11_ring_16
theorem eX11_ring_19 : decode mX11_ring.2.1 19 = .ok (.aload_n 0, 1) := dX11_ring_19
theorem eX11_ring_20 : decode mX11_ring.2.1 20 = .ok (.getfield 10, 3) := dX11_ring_20
theorem eX11_ring_23 : decode mX11_ring.2.1 23 = .ok (.getfield 85, 3) := dX11_ring_23
theorem eX11_ring_26 : decode mX11_ring.2.1 26 = .ok (.ireturn, 1) := dX11_ring_26
theorem eX11_sum_0 : decode mX11_sum.2.1 0 = .ok (.iload_n 1, 1) := dX11_sum_0
theorem eX11_sum_1 : decode mX11_sum.2.1 1 = .ok (.ifCond .lt 35, 3) := dX11_sum_1
theorem eX11_sum_4 : decode mX11_sum.2.1 4 = .ok (.iload_n 1, 1) := dX11_sum_4
theorem eX11_sum_5 : decode mX11_sum.2.1 5 = .ok (.aload_n 0, 1) := dX11_sum_5
theorem eX11_sum_6 : decode mX11_sum.2.1 6 = .ok (.getfield 10, 3) := dX11_sum_6
theorem eX11_sum_9 : decode mX11_sum.2.1 9 = .ok (.getfield 143, 3) := dX11_sum_9
theorem eX11_sum_12 : decode mX11_sum.2.1 12 = .ok (.iconst 2, 1) := dX11_sum_12
theorem eX11_sum_13 : decode mX11_sum.2.1 13 = .ok (.isub, 1) := dX11_sum_13
theorem eX11_sum_14 : decode mX11_sum.2.1 14 = .ok (.if_icmp .gt 22, 3) := dX11_sum_14
theorem eX11_sum_17 : decode mX11_sum.2.1 17 = .ok (.iload_n 2, 1) := dX11_sum_17
theorem eX11_sum_18 : decode mX11_sum.2.1 18 = .ok (.ifCond .lt 18, 3) := dX11_sum_18
theorem eX11_sum_21 : decode mX11_sum.2.1 21 = .ok (.iload_n 2, 1) := dX11_sum_21
theorem eX11_sum_22 : decode mX11_sum.2.1 22 = .ok (.aload_n 0, 1) := dX11_sum_22
theorem eX11_sum_23 : decode mX11_sum.2.1 23 = .ok (.getfield 10, 3) := dX11_sum_23
theorem eX11_sum_26 : decode mX11_sum.2.1 26 = .ok (.getfield 134, 3) := dX11_sum_26
theorem eX11_sum_29 : decode mX11_sum.2.1 29 = .ok (.if_icmp .ge 7, 3) := dX11_sum_29
theorem eX11_sum_32 : decode mX11_sum.2.1 32 = .ok (.iconst 1, 1) := dX11_sum_32
theorem eX11_sum_33 : decode mX11_sum.2.1 33 = .ok (.goto 4, 3) := dX11_sum_33
theorem eX11_sum_36 : decode mX11_sum.2.1 36 = .ok (.iconst 0, 1) := dX11_sum_36
theorem eX11_sum_37 : decode mX11_sum.2.1 37 = .ok (.invokestatic 117, 3) := dX11_sum_37
theorem eX11_sum_40 : decode mX11_sum.2.1 40 = .ok (.aload_n 0, 1) := dX11_sum_40
theorem eX11_sum_41 : decode mX11_sum.2.1 41 = .ok (.getfield 10, 3) := dX11_sum_41
theorem eX11_sum_44 : decode mX11_sum.2.1 44 = .ok (.aload_n 0, 1) := dX11_sum_44
theorem eX11_sum_45 : decode mX11_sum.2.1 45 = .ok (.getfield 10, 3) := dX11_sum_45
theorem eX11_sum_48 : decode mX11_sum.2.1 48 = .ok (.iconst 1, 1) := dX11_sum_48
theorem eX11_sum_49 : decode mX11_sum.2.1 49 = .ok (.aload_n 0, 1) := dX11_sum_49
theorem eX11_sum_50 : decode mX11_sum.2.1 50 = .ok (.getfield 10, 3) := dX11_sum_50
theorem eX11_sum_53 : decode mX11_sum.2.1 53 = .ok (.getfield 222, 3) := dX11_sum_53
theorem eX11_sum_56 : decode mX11_sum.2.1 56 = .ok (.iload_n 1, 1) := dX11_sum_56
theorem eX11_sum_57 : decode mX11_sum.2.1 57 = .ok (.invokestatic 121, 3) := dX11_sum_57
theorem eX11_sum_60 : decode mX11_sum.2.1 60 = .ok (.invokevirtual 172, 3) := dX11_sum_60
theorem eX11_sum_63 : decode mX11_sum.2.1 63 = .ok (.iload_n 2, 1) := dX11_sum_63
theorem eX11_sum_64 : decode mX11_sum.2.1 64 = .ok (.invokevirtual 211, 3) := dX11_sum_64
theorem eX11_sum_67 : decode mX11_sum.2.1 67 = .ok (.ireturn, 1) := dX11_sum_67
theorem eX11_whole_0 : decode mX11_whole.2.1 0 = .ok (.aload_n 0, 1) := dX11_whole_0
theorem eX11_whole_1 : decode mX11_whole.2.1 1 = .ok (.iload_n 1, 1) := dX11_whole_1
theorem eX11_whole_2 : decode mX11_whole.2.1 2 = .ok (.iconst 0, 1) := dX11_whole_2
theorem eX11_whole_3 : decode mX11_whole.2.1 3 = .ok (.invokevirtual 214, 3) := dX11_whole_3
theorem eX11_whole_6 : decode mX11_whole.2.1 6 = .ok (.ifCond .eq 35, 3) := dX11_whole_6
theorem eX11_whole_9 : decode mX11_whole.2.1 9 = .ok (.aload_n 0, 1) := dX11_whole_9
theorem eX11_whole_10 : decode mX11_whole.2.1 10 = .ok (.iload_n 2, 1) := dX11_whole_10
theorem eX11_whole_11 : decode mX11_whole.2.1 11 = .ok (.iconst 1, 1) := dX11_whole_11
theorem eX11_whole_12 : decode mX11_whole.2.1 12 = .ok (.invokevirtual 214, 3) := dX11_whole_12
theorem eX11_whole_15 : decode mX11_whole.2.1 15 = .ok (.ifCond .eq 26, 3) := dX11_whole_15
theorem eX11_whole_18 : decode mX11_whole.2.1 18 = .ok (.aload_n 0, 1) := dX11_whole_18
theorem eX11_whole_19 : decode mX11_whole.2.1 19 = .ok (.iload_n 3, 1) := dX11_whole_19
theorem eX11_whole_20 : decode mX11_whole.2.1 20 = .ok (.iconst 2, 1) := dX11_whole_20
theorem eX11_whole_21 : decode mX11_whole.2.1 21 = .ok (.invokevirtual 214, 3) := dX11_whole_21
theorem eX11_whole_24 : decode mX11_whole.2.1 24 = .ok (.ifCond .eq 17, 3) := dX11_whole_24
theorem eX11_whole_27 : decode mX11_whole.2.1 27 = .ok (.aload_n 0, 1) := dX11_whole_27
theorem eX11_whole_28 : decode mX11_whole.2.1 28 = .ok (.iload 4, 2) := dX11_whole_28
theorem eX11_whole_30 : decode mX11_whole.2.1 30 = .ok (.iconst 3, 1) := dX11_whole_30
theorem eX11_whole_31 : decode mX11_whole.2.1 31 = .ok (.invokevirtual 214, 3) := dX11_whole_31
theorem eX11_whole_34 : decode mX11_whole.2.1 34 = .ok (.ifCond .eq 7, 3) := dX11_whole_34
theorem eX11_whole_37 : decode mX11_whole.2.1 37 = .ok (.iconst 1, 1) := dX11_whole_37
theorem eX11_whole_38 : decode mX11_whole.2.1 38 = .ok (.goto 4, 3) := dX11_whole_38
theorem eX11_whole_41 : decode mX11_whole.2.1 41 = .ok (.iconst 0, 1) := dX11_whole_41
theorem eX11_whole_42 : decode mX11_whole.2.1 42 = .ok (.invokestatic 117, 3) := dX11_whole_42
theorem eX11_whole_45 : decode mX11_whole.2.1 45 = .ok (.aload_n 0, 1) := dX11_whole_45
theorem eX11_whole_46 : decode mX11_whole.2.1 46 = .ok (.getfield 10, 3) := dX11_whole_46
theorem eX11_whole_49 : decode mX11_whole.2.1 49 = .ok (.iconst 0, 1) := dX11_whole_49
theorem eX11_whole_50 : decode mX11_whole.2.1 50 = .ok (.iconst 0, 1) := dX11_whole_50
theorem eX11_whole_51 : decode mX11_whole.2.1 51 = .ok (.iload_n 1, 1) := dX11_whole_51
theorem eX11_whole_52 : decode mX11_whole.2.1 52 = .ok (.invokevirtual 218, 3) := dX11_whole_52
theorem eX11_whole_55 : decode mX11_whole.2.1 55 = .ok (.istore 5, 2) := dX11_whole_55
theorem eX11_whole_57 : decode mX11_whole.2.1 57 = .ok (.aload_n 0, 1) := dX11_whole_57
theorem eX11_whole_58 : decode mX11_whole.2.1 58 = .ok (.getfield 10, 3) := dX11_whole_58
theorem eX11_whole_61 : decode mX11_whole.2.1 61 = .ok (.iload 5, 2) := dX11_whole_61
theorem eX11_whole_63 : decode mX11_whole.2.1 63 = .ok (.iconst 1, 1) := dX11_whole_63
theorem eX11_whole_64 : decode mX11_whole.2.1 64 = .ok (.iload_n 2, 1) := dX11_whole_64
theorem eX11_whole_65 : decode mX11_whole.2.1 65 = .ok (.invokevirtual 218, 3) := dX11_whole_65
theorem eX11_whole_68 : decode mX11_whole.2.1 68 = .ok (.istore 5, 2) := dX11_whole_68
theorem eX11_whole_70 : decode mX11_whole.2.1 70 = .ok (.aload_n 0, 1) := dX11_whole_70
theorem eX11_whole_71 : decode mX11_whole.2.1 71 = .ok (.getfield 10, 3) := dX11_whole_71
theorem eX11_whole_74 : decode mX11_whole.2.1 74 = .ok (.iload 5, 2) := dX11_whole_74
theorem eX11_whole_76 : decode mX11_whole.2.1 76 = .ok (.iconst 2, 1) := dX11_whole_76
theorem eX11_whole_77 : decode mX11_whole.2.1 77 = .ok (.iload_n 3, 1) := dX11_whole_77
theorem eX11_whole_78 : decode mX11_whole.2.1 78 = .ok (.invokevirtual 218, 3) := dX11_whole_78
theorem eX11_whole_81 : decode mX11_whole.2.1 81 = .ok (.istore 5, 2) := dX11_whole_81
theorem eX11_whole_83 : decode mX11_whole.2.1 83 = .ok (.aload_n 0, 1) := dX11_whole_83
theorem eX11_whole_84 : decode mX11_whole.2.1 84 = .ok (.getfield 10, 3) := dX11_whole_84
theorem eX11_whole_87 : decode mX11_whole.2.1 87 = .ok (.iload 5, 2) := dX11_whole_87
theorem eX11_whole_89 : decode mX11_whole.2.1 89 = .ok (.iconst 3, 1) := dX11_whole_89
theorem eX11_whole_90 : decode mX11_whole.2.1 90 = .ok (.iload 4, 2) := dX11_whole_90
theorem eX11_whole_92 : decode mX11_whole.2.1 92 = .ok (.invokevirtual 218, 3) := dX11_whole_92
theorem eX11_whole_95 : decode mX11_whole.2.1 95 = .ok (.ireturn, 1) := dX11_whole_95
