/-! the decode rows that the walks use, told of the code as their methods name it -/
theorem eX0_isPrime_0 : decode mX0_isPrime.2.1 0 = .ok (.iconst 1, 1) := dX0_isPrime_0
theorem eX0_isPrime_1 : decode mX0_isPrime.2.1 1 = .ok (.istore_n 3, 1) := dX0_isPrime_1
theorem eX0_isPrime_2 : decode mX0_isPrime.2.1 2 = .ok (.iconst 2, 1) := dX0_isPrime_2
theorem eX0_isPrime_3 : decode mX0_isPrime.2.1 3 = .ok (.iload_n 3, 1) := dX0_isPrime_3
theorem eX0_isPrime_4 : decode mX0_isPrime.2.1 4 = .ok (.imul, 1) := dX0_isPrime_4
theorem eX0_isPrime_5 : decode mX0_isPrime.2.1 5 = .ok (.iload_n 1, 1) := dX0_isPrime_5
theorem eX0_isPrime_6 : decode mX0_isPrime.2.1 6 = .ok (.if_icmp .gt 49, 3) := dX0_isPrime_6
theorem eX0_isPrime_9 : decode mX0_isPrime.2.1 9 = .ok (.iload_n 2, 1) := dX0_isPrime_9
theorem eX0_isPrime_10 : decode mX0_isPrime.2.1 10 = .ok (.iload_n 3, 1) := dX0_isPrime_10
theorem eX0_isPrime_11 : decode mX0_isPrime.2.1 11 = .ok (.invokestatic 7, 3) := dX0_isPrime_11
theorem eX0_isPrime_14 : decode mX0_isPrime.2.1 14 = .ok (.istore 4, 2) := dX0_isPrime_14
theorem eX0_isPrime_16 : decode mX0_isPrime.2.1 16 = .ok (.iload 4, 2) := dX0_isPrime_16
theorem eX0_isPrime_18 : decode mX0_isPrime.2.1 18 = .ok (.istore 5, 2) := dX0_isPrime_18
theorem eX0_isPrime_20 : decode mX0_isPrime.2.1 20 = .ok (.iload 5, 2) := dX0_isPrime_20
theorem eX0_isPrime_22 : decode mX0_isPrime.2.1 22 = .ok (.iconst 2, 1) := dX0_isPrime_22
theorem eX0_isPrime_23 : decode mX0_isPrime.2.1 23 = .ok (.iload 4, 2) := dX0_isPrime_23
theorem eX0_isPrime_25 : decode mX0_isPrime.2.1 25 = .ok (.imul, 1) := dX0_isPrime_25
theorem eX0_isPrime_26 : decode mX0_isPrime.2.1 26 = .ok (.if_icmp .ge 23, 3) := dX0_isPrime_26
theorem eX0_isPrime_29 : decode mX0_isPrime.2.1 29 = .ok (.iload_n 0, 1) := dX0_isPrime_29
theorem eX0_isPrime_30 : decode mX0_isPrime.2.1 30 = .ok (.iload_n 1, 1) := dX0_isPrime_30
theorem eX0_isPrime_31 : decode mX0_isPrime.2.1 31 = .ok (.iload 5, 2) := dX0_isPrime_31
theorem eX0_isPrime_33 : decode mX0_isPrime.2.1 33 = .ok (.iload_n 3, 1) := dX0_isPrime_33
theorem eX0_isPrime_34 : decode mX0_isPrime.2.1 34 = .ok (.iload_n 2, 1) := dX0_isPrime_34
theorem eX0_isPrime_35 : decode mX0_isPrime.2.1 35 = .ok (.invokestatic 19, 3) := dX0_isPrime_35
theorem eX0_isPrime_38 : decode mX0_isPrime.2.1 38 = .ok (.ifCond .ne 5, 3) := dX0_isPrime_38
theorem eX0_isPrime_41 : decode mX0_isPrime.2.1 41 = .ok (.iconst 0, 1) := dX0_isPrime_41
theorem eX0_isPrime_42 : decode mX0_isPrime.2.1 42 = .ok (.ireturn, 1) := dX0_isPrime_42
theorem eX0_isPrime_43 : decode mX0_isPrime.2.1 43 = .ok (.iinc 5 1, 3) := dX0_isPrime_43
theorem eX0_isPrime_46 : decode mX0_isPrime.2.1 46 = .ok (.goto (-26), 3) := dX0_isPrime_46
theorem eX0_isPrime_49 : decode mX0_isPrime.2.1 49 = .ok (.iinc 3 1, 3) := dX0_isPrime_49
theorem eX0_isPrime_52 : decode mX0_isPrime.2.1 52 = .ok (.goto (-50), 3) := dX0_isPrime_52
theorem eX0_isPrime_55 : decode mX0_isPrime.2.1 55 = .ok (.iconst 1, 1) := dX0_isPrime_55
theorem eX0_isPrime_56 : decode mX0_isPrime.2.1 56 = .ok (.ireturn, 1) := dX0_isPrime_56
theorem eX0_leastPrime_0 : decode mX0_leastPrime.2.1 0 = .ok (.iload_n 0, 1) := dX0_leastPrime_0
theorem eX0_leastPrime_1 : decode mX0_leastPrime.2.1 1 = .ok (.iload_n 1, 1) := dX0_leastPrime_1
theorem eX0_leastPrime_2 : decode mX0_leastPrime.2.1 2 = .ok (.invokestatic 7, 3) := dX0_leastPrime_2
theorem eX0_leastPrime_5 : decode mX0_leastPrime.2.1 5 = .ok (.istore_n 2, 1) := dX0_leastPrime_5
theorem eX0_leastPrime_6 : decode mX0_leastPrime.2.1 6 = .ok (.iload_n 2, 1) := dX0_leastPrime_6
theorem eX0_leastPrime_7 : decode mX0_leastPrime.2.1 7 = .ok (.istore_n 3, 1) := dX0_leastPrime_7
theorem eX0_leastPrime_8 : decode mX0_leastPrime.2.1 8 = .ok (.iload_n 3, 1) := dX0_leastPrime_8
theorem eX0_leastPrime_9 : decode mX0_leastPrime.2.1 9 = .ok (.iconst 2, 1) := dX0_leastPrime_9
theorem eX0_leastPrime_10 : decode mX0_leastPrime.2.1 10 = .ok (.iload_n 2, 1) := dX0_leastPrime_10
theorem eX0_leastPrime_11 : decode mX0_leastPrime.2.1 11 = .ok (.imul, 1) := dX0_leastPrime_11
theorem eX0_leastPrime_12 : decode mX0_leastPrime.2.1 12 = .ok (.if_icmp .ge 20, 3) := dX0_leastPrime_12
theorem eX0_leastPrime_15 : decode mX0_leastPrime.2.1 15 = .ok (.iload_n 3, 1) := dX0_leastPrime_15
theorem eX0_leastPrime_16 : decode mX0_leastPrime.2.1 16 = .ok (.iload_n 1, 1) := dX0_leastPrime_16
theorem eX0_leastPrime_17 : decode mX0_leastPrime.2.1 17 = .ok (.iload_n 0, 1) := dX0_leastPrime_17
theorem eX0_leastPrime_18 : decode mX0_leastPrime.2.1 18 = .ok (.invokestatic 13, 3) := dX0_leastPrime_18
theorem eX0_leastPrime_21 : decode mX0_leastPrime.2.1 21 = .ok (.ifCond .eq 5, 3) := dX0_leastPrime_21
theorem eX0_leastPrime_24 : decode mX0_leastPrime.2.1 24 = .ok (.iload_n 3, 1) := dX0_leastPrime_24
theorem eX0_leastPrime_25 : decode mX0_leastPrime.2.1 25 = .ok (.ireturn, 1) := dX0_leastPrime_25
theorem eX0_leastPrime_26 : decode mX0_leastPrime.2.1 26 = .ok (.iinc 3 1, 3) := dX0_leastPrime_26
theorem eX0_leastPrime_29 : decode mX0_leastPrime.2.1 29 = .ok (.goto (-21), 3) := dX0_leastPrime_29
theorem eX0_leastPrime_32 : decode mX0_leastPrime.2.1 32 = .ok (.iload_n 2, 1) := dX0_leastPrime_32
theorem eX0_leastPrime_33 : decode mX0_leastPrime.2.1 33 = .ok (.ireturn, 1) := dX0_leastPrime_33
theorem eX0_leftBy_0 : decode mX0_leftBy.2.1 0 = .ok (.iload_n 0, 1) := dX0_leftBy_0
theorem eX0_leftBy_1 : decode mX0_leftBy.2.1 1 = .ok (.istore 5, 2) := dX0_leftBy_1
theorem eX0_leftBy_3 : decode mX0_leftBy.2.1 3 = .ok (.iload_n 1, 1) := dX0_leftBy_3
theorem eX0_leftBy_4 : decode mX0_leftBy.2.1 4 = .ok (.iload_n 3, 1) := dX0_leftBy_4
theorem eX0_leftBy_5 : decode mX0_leftBy.2.1 5 = .ok (.isub, 1) := dX0_leftBy_5
theorem eX0_leftBy_6 : decode mX0_leftBy.2.1 6 = .ok (.istore 6, 2) := dX0_leftBy_6
theorem eX0_leftBy_8 : decode mX0_leftBy.2.1 8 = .ok (.iload 6, 2) := dX0_leftBy_8
theorem eX0_leftBy_10 : decode mX0_leftBy.2.1 10 = .ok (.ifCond .lt 52, 3) := dX0_leftBy_10
theorem eX0_leftBy_13 : decode mX0_leftBy.2.1 13 = .ok (.iload 4, 2) := dX0_leftBy_13
theorem eX0_leftBy_15 : decode mX0_leftBy.2.1 15 = .ok (.iload 6, 2) := dX0_leftBy_15
theorem eX0_leftBy_17 : decode mX0_leftBy.2.1 17 = .ok (.invokestatic 7, 3) := dX0_leftBy_17
theorem eX0_leftBy_20 : decode mX0_leftBy.2.1 20 = .ok (.istore 7, 2) := dX0_leftBy_20
theorem eX0_leftBy_22 : decode mX0_leftBy.2.1 22 = .ok (.iload 5, 2) := dX0_leftBy_22
theorem eX0_leftBy_24 : decode mX0_leftBy.2.1 24 = .ok (.iload 4, 2) := dX0_leftBy_24
theorem eX0_leftBy_26 : decode mX0_leftBy.2.1 26 = .ok (.iload_n 3, 1) := dX0_leftBy_26
theorem eX0_leftBy_27 : decode mX0_leftBy.2.1 27 = .ok (.iload 6, 2) := dX0_leftBy_27
theorem eX0_leftBy_29 : decode mX0_leftBy.2.1 29 = .ok (.iadd, 1) := dX0_leftBy_29
theorem eX0_leftBy_30 : decode mX0_leftBy.2.1 30 = .ok (.invokestatic 7, 3) := dX0_leftBy_30
theorem eX0_leftBy_33 : decode mX0_leftBy.2.1 33 = .ok (.invokestatic 23, 3) := dX0_leftBy_33
theorem eX0_leftBy_36 : decode mX0_leftBy.2.1 36 = .ok (.istore 8, 2) := dX0_leftBy_36
theorem eX0_leftBy_38 : decode mX0_leftBy.2.1 38 = .ok (.iload 5, 2) := dX0_leftBy_38
theorem eX0_leftBy_40 : decode mX0_leftBy.2.1 40 = .ok (.iload_n 2, 1) := dX0_leftBy_40
theorem eX0_leftBy_41 : decode mX0_leftBy.2.1 41 = .ok (.iload 7, 2) := dX0_leftBy_41
theorem eX0_leftBy_43 : decode mX0_leftBy.2.1 43 = .ok (.imul, 1) := dX0_leftBy_43
theorem eX0_leftBy_44 : decode mX0_leftBy.2.1 44 = .ok (.iload 4, 2) := dX0_leftBy_44
theorem eX0_leftBy_46 : decode mX0_leftBy.2.1 46 = .ok (.iload 8, 2) := dX0_leftBy_46
theorem eX0_leftBy_48 : decode mX0_leftBy.2.1 48 = .ok (.isub, 1) := dX0_leftBy_48
theorem eX0_leftBy_49 : decode mX0_leftBy.2.1 49 = .ok (.iload 4, 2) := dX0_leftBy_49
theorem eX0_leftBy_51 : decode mX0_leftBy.2.1 51 = .ok (.invokestatic 26, 3) := dX0_leftBy_51
theorem eX0_leftBy_54 : decode mX0_leftBy.2.1 54 = .ok (.istore 5, 2) := dX0_leftBy_54
theorem eX0_leftBy_56 : decode mX0_leftBy.2.1 56 = .ok (.iinc 6 (-1), 3) := dX0_leftBy_56
theorem eX0_leftBy_59 : decode mX0_leftBy.2.1 59 = .ok (.goto (-51), 3) := dX0_leftBy_59
theorem eX0_leftBy_62 : decode mX0_leftBy.2.1 62 = .ok (.iload 5, 2) := dX0_leftBy_62
theorem eX0_leftBy_64 : decode mX0_leftBy.2.1 64 = .ok (.ireturn, 1) := dX0_leftBy_64
theorem eX1_become_0 : decode mX1_become.2.1 0 = .ok (.aload_n 0, 1) := dX1_become_0
theorem eX1_become_1 : decode mX1_become.2.1 1 = .ok (.aload_n 1, 1) := dX1_become_1
theorem eX1_become_2 : decode mX1_become.2.1 2 = .ok (.getfield 35, 3) := dX1_become_2
theorem eX1_become_5 : decode mX1_become.2.1 5 = .ok (.putfield 9, 3) := dX1_become_5
theorem eX1_become_8 : decode mX1_become.2.1 8 = .ok (.aload_n 0, 1) := dX1_become_8
theorem eX1_become_9 : decode mX1_become.2.1 9 = .ok (.iconst 0, 1) := dX1_become_9
theorem eX1_become_10 : decode mX1_become.2.1 10 = .ok (.putfield 15, 3) := dX1_become_10
theorem eX1_become_13 : decode mX1_become.2.1 13 = .ok (.aload_n 0, 1) := dX1_become_13
theorem eX1_become_14 : decode mX1_become.2.1 14 = .ok (.getfield 24, 3) := dX1_become_14
theorem eX1_become_17 : decode mX1_become.2.1 17 = .ok (.iconst 0, 1) := dX1_become_17
theorem eX1_become_18 : decode mX1_become.2.1 18 = .ok (.invokestatic 38, 3) := dX1_become_18
theorem eX1_become_21 : decode mX1_become.2.1 21 = .ok (.aload_n 0, 1) := dX1_become_21
theorem eX1_become_22 : decode mX1_become.2.1 22 = .ok (.getfield 28, 3) := dX1_become_22
theorem eX1_become_25 : decode mX1_become.2.1 25 = .ok (.iconst 0, 1) := dX1_become_25
theorem eX1_become_26 : decode mX1_become.2.1 26 = .ok (.invokestatic 38, 3) := dX1_become_26
theorem eX1_become_29 : decode mX1_become.2.1 29 = .ok (.aload_n 0, 1) := dX1_become_29
theorem eX1_become_30 : decode mX1_become.2.1 30 = .ok (.getfield 24, 3) := dX1_become_30
theorem eX1_become_33 : decode mX1_become.2.1 33 = .ok (.iconst 0, 1) := dX1_become_33
theorem eX1_become_34 : decode mX1_become.2.1 34 = .ok (.iconst 1, 1) := dX1_become_34
theorem eX1_become_35 : decode mX1_become.2.1 35 = .ok (.iastore, 1) := dX1_become_35
theorem eX1_become_36 : decode mX1_become.2.1 36 = .ok (.aload_n 0, 1) := dX1_become_36
theorem eX1_become_37 : decode mX1_become.2.1 37 = .ok (.getfield 28, 3) := dX1_become_37
theorem eX1_become_40 : decode mX1_become.2.1 40 = .ok (.iconst 0, 1) := dX1_become_40
theorem eX1_become_41 : decode mX1_become.2.1 41 = .ok (.iconst 1, 1) := dX1_become_41
theorem eX1_become_42 : decode mX1_become.2.1 42 = .ok (.iastore, 1) := dX1_become_42
theorem eX1_become_43 : decode mX1_become.2.1 43 = .ok (.aload_n 0, 1) := dX1_become_43
theorem eX1_become_44 : decode mX1_become.2.1 44 = .ok (.getfield 31, 3) := dX1_become_44
theorem eX1_become_47 : decode mX1_become.2.1 47 = .ok (.getfield 44, 3) := dX1_become_47
theorem eX1_become_50 : decode mX1_become.2.1 50 = .ok (.iconst 1, 1) := dX1_become_50
theorem eX1_become_51 : decode mX1_become.2.1 51 = .ok (.isub, 1) := dX1_become_51
theorem eX1_become_52 : decode mX1_become.2.1 52 = .ok (.aload_n 0, 1) := dX1_become_52
theorem eX1_become_53 : decode mX1_become.2.1 53 = .ok (.getfield 9, 3) := dX1_become_53
theorem eX1_become_56 : decode mX1_become.2.1 56 = .ok (.invokestatic 49, 3) := dX1_become_56
theorem eX1_become_59 : decode mX1_become.2.1 59 = .ok (.istore_n 3, 1) := dX1_become_59
theorem eX1_become_60 : decode mX1_become.2.1 60 = .ok (.iconst 0, 1) := dX1_become_60
theorem eX1_become_61 : decode mX1_become.2.1 61 = .ok (.istore 4, 2) := dX1_become_61
theorem eX1_become_63 : decode mX1_become.2.1 63 = .ok (.iload 4, 2) := dX1_become_63
theorem eX1_become_65 : decode mX1_become.2.1 65 = .ok (.aload_n 0, 1) := dX1_become_65
theorem eX1_become_66 : decode mX1_become.2.1 66 = .ok (.getfield 9, 3) := dX1_become_66
theorem eX1_become_69 : decode mX1_become.2.1 69 = .ok (.if_icmp .ge 100, 3) := dX1_become_69
theorem eX1_become_72 : decode mX1_become.2.1 72 = .ok (.aload_n 0, 1) := dX1_become_72
theorem eX1_become_73 : decode mX1_become.2.1 73 = .ok (.getfield 31, 3) := dX1_become_73
theorem eX1_become_76 : decode mX1_become.2.1 76 = .ok (.getfield 55, 3) := dX1_become_76
theorem eX1_become_79 : decode mX1_become.2.1 79 = .ok (.iload 4, 2) := dX1_become_79
theorem eX1_become_81 : decode mX1_become.2.1 81 = .ok (.iload_n 3, 1) := dX1_become_81
theorem eX1_become_82 : decode mX1_become.2.1 82 = .ok (.imul, 1) := dX1_become_82
theorem eX1_become_83 : decode mX1_become.2.1 83 = .ok (.invokestatic 58, 3) := dX1_become_83
theorem eX1_become_86 : decode mX1_become.2.1 86 = .ok (.istore 5, 2) := dX1_become_86
theorem eX1_become_88 : decode mX1_become.2.1 88 = .ok (.aload_n 1, 1) := dX1_become_88
theorem eX1_become_89 : decode mX1_become.2.1 89 = .ok (.iload 4, 2) := dX1_become_89
theorem eX1_become_91 : decode mX1_become.2.1 91 = .ok (.invokevirtual 62, 3) := dX1_become_91
theorem eX1_become_94 : decode mX1_become.2.1 94 = .ok (.istore 6, 2) := dX1_become_94
theorem eX1_become_96 : decode mX1_become.2.1 96 = .ok (.iload 6, 2) := dX1_become_96
theorem eX1_become_98 : decode mX1_become.2.1 98 = .ok (.bipush 30, 2) := dX1_become_98
theorem eX1_become_100 : decode mX1_become.2.1 100 = .ok (.if_icmp .gt 43, 3) := dX1_become_100
theorem eX1_become_103 : decode mX1_become.2.1 103 = .ok (.iload_n 2, 1) := dX1_become_103
theorem eX1_become_104 : decode mX1_become.2.1 104 = .ok (.iload 6, 2) := dX1_become_104
theorem eX1_become_106 : decode mX1_become.2.1 106 = .ok (.ishr, 1) := dX1_become_106
theorem eX1_become_107 : decode mX1_become.2.1 107 = .ok (.iconst 1, 1) := dX1_become_107
theorem eX1_become_108 : decode mX1_become.2.1 108 = .ok (.iand, 1) := dX1_become_108
theorem eX1_become_109 : decode mX1_become.2.1 109 = .ok (.iconst 1, 1) := dX1_become_109
theorem eX1_become_110 : decode mX1_become.2.1 110 = .ok (.if_icmp .ne 33, 3) := dX1_become_110
theorem eX1_become_113 : decode mX1_become.2.1 113 = .ok (.aload_n 0, 1) := dX1_become_113
theorem eX1_become_114 : decode mX1_become.2.1 114 = .ok (.getfield 31, 3) := dX1_become_114
theorem eX1_become_117 : decode mX1_become.2.1 117 = .ok (.aload_n 0, 1) := dX1_become_117
theorem eX1_become_118 : decode mX1_become.2.1 118 = .ok (.getfield 24, 3) := dX1_become_118
theorem eX1_become_121 : decode mX1_become.2.1 121 = .ok (.aload_n 0, 1) := dX1_become_121
theorem eX1_become_122 : decode mX1_become.2.1 122 = .ok (.getfield 15, 3) := dX1_become_122
theorem eX1_become_125 : decode mX1_become.2.1 125 = .ok (.iload 5, 2) := dX1_become_125
theorem eX1_become_127 : decode mX1_become.2.1 127 = .ok (.invokevirtual 66, 3) := dX1_become_127
theorem eX1_become_130 : decode mX1_become.2.1 130 = .ok (.aload_n 0, 1) := dX1_become_130
theorem eX1_become_131 : decode mX1_become.2.1 131 = .ok (.dup, 1) := dX1_become_131
theorem eX1_become_132 : decode mX1_become.2.1 132 = .ok (.getfield 15, 3) := dX1_become_132
theorem eX1_become_135 : decode mX1_become.2.1 135 = .ok (.iconst 1, 1) := dX1_become_135
theorem eX1_become_136 : decode mX1_become.2.1 136 = .ok (.iadd, 1) := dX1_become_136
theorem eX1_become_137 : decode mX1_become.2.1 137 = .ok (.putfield 15, 3) := dX1_become_137
theorem eX1_become_140 : decode mX1_become.2.1 140 = .ok (.goto 23, 3) := dX1_become_140
theorem eX1_become_143 : decode mX1_become.2.1 143 = .ok (.aload_n 0, 1) := dX1_become_143
theorem eX1_become_144 : decode mX1_become.2.1 144 = .ok (.getfield 31, 3) := dX1_become_144
theorem eX1_become_147 : decode mX1_become.2.1 147 = .ok (.aload_n 0, 1) := dX1_become_147
theorem eX1_become_148 : decode mX1_become.2.1 148 = .ok (.getfield 28, 3) := dX1_become_148
theorem eX1_become_151 : decode mX1_become.2.1 151 = .ok (.iload 4, 2) := dX1_become_151
theorem eX1_become_153 : decode mX1_become.2.1 153 = .ok (.aload_n 0, 1) := dX1_become_153
theorem eX1_become_154 : decode mX1_become.2.1 154 = .ok (.getfield 15, 3) := dX1_become_154
theorem eX1_become_157 : decode mX1_become.2.1 157 = .ok (.isub, 1) := dX1_become_157
theorem eX1_become_158 : decode mX1_become.2.1 158 = .ok (.iload 5, 2) := dX1_become_158
theorem eX1_become_160 : decode mX1_become.2.1 160 = .ok (.invokevirtual 66, 3) := dX1_become_160
theorem eX1_become_163 : decode mX1_become.2.1 163 = .ok (.iinc 4 1, 3) := dX1_become_163
theorem eX1_become_166 : decode mX1_become.2.1 166 = .ok (.goto (-103), 3) := dX1_become_166
theorem eX1_become_169 : decode mX1_become.2.1 169 = .ok (.aload_n 0, 1) := dX1_become_169
theorem eX1_become_170 : decode mX1_become.2.1 170 = .ok (.aload_n 0, 1) := dX1_become_170
theorem eX1_become_171 : decode mX1_become.2.1 171 = .ok (.getfield 9, 3) := dX1_become_171
theorem eX1_become_174 : decode mX1_become.2.1 174 = .ok (.aload_n 0, 1) := dX1_become_174
theorem eX1_become_175 : decode mX1_become.2.1 175 = .ok (.getfield 15, 3) := dX1_become_175
theorem eX1_become_178 : decode mX1_become.2.1 178 = .ok (.isub, 1) := dX1_become_178
theorem eX1_become_179 : decode mX1_become.2.1 179 = .ok (.putfield 18, 3) := dX1_become_179
theorem eX1_become_182 : decode mX1_become.2.1 182 = .ok (.aload_n 0, 1) := dX1_become_182
theorem eX1_become_183 : decode mX1_become.2.1 183 = .ok (.aload_n 0, 1) := dX1_become_183
theorem eX1_become_184 : decode mX1_become.2.1 184 = .ok (.invokevirtual 70, 3) := dX1_become_184
theorem eX1_become_187 : decode mX1_become.2.1 187 = .ok (.putfield 21, 3) := dX1_become_187
theorem eX1_become_190 : decode mX1_become.2.1 190 = .ok (.return_, 1) := dX1_become_190
theorem eX1_init_0 : decode mX1_init.2.1 0 = .ok (.aload_n 0, 1) := dX1_init_0
theorem eX1_init_1 : decode mX1_init.2.1 1 = .ok (.invokespecial 3, 3) := dX1_init_1
theorem eX1_init_4 : decode mX1_init.2.1 4 = .ok (.aload_n 0, 1) := dX1_init_4
theorem eX1_init_5 : decode mX1_init.2.1 5 = .ok (.iconst 1, 1) := dX1_init_5
theorem eX1_init_6 : decode mX1_init.2.1 6 = .ok (.putfield 9, 3) := dX1_init_6
theorem eX1_init_9 : decode mX1_init.2.1 9 = .ok (.aload_n 0, 1) := dX1_init_9
theorem eX1_init_10 : decode mX1_init.2.1 10 = .ok (.iconst 0, 1) := dX1_init_10
theorem eX1_init_11 : decode mX1_init.2.1 11 = .ok (.putfield 15, 3) := dX1_init_11
theorem eX1_init_14 : decode mX1_init.2.1 14 = .ok (.aload_n 0, 1) := dX1_init_14
theorem eX1_init_15 : decode mX1_init.2.1 15 = .ok (.iconst 1, 1) := dX1_init_15
theorem eX1_init_16 : decode mX1_init.2.1 16 = .ok (.putfield 18, 3) := dX1_init_16
theorem eX1_init_19 : decode mX1_init.2.1 19 = .ok (.aload_n 0, 1) := dX1_init_19
theorem eX1_init_20 : decode mX1_init.2.1 20 = .ok (.iconst 2, 1) := dX1_init_20
theorem eX1_init_21 : decode mX1_init.2.1 21 = .ok (.putfield 21, 3) := dX1_init_21
theorem eX1_init_24 : decode mX1_init.2.1 24 = .ok (.aload_n 0, 1) := dX1_init_24
theorem eX1_init_25 : decode mX1_init.2.1 25 = .ok (.bipush 64, 2) := dX1_init_25
theorem eX1_init_27 : decode mX1_init.2.1 27 = .ok (.newarray .int, 2) := dX1_init_27
theorem eX1_init_29 : decode mX1_init.2.1 29 = .ok (.putfield 24, 3) := dX1_init_29
theorem eX1_init_32 : decode mX1_init.2.1 32 = .ok (.aload_n 0, 1) := dX1_init_32
theorem eX1_init_33 : decode mX1_init.2.1 33 = .ok (.bipush 64, 2) := dX1_init_33
theorem eX1_init_35 : decode mX1_init.2.1 35 = .ok (.newarray .int, 2) := dX1_init_35
theorem eX1_init_37 : decode mX1_init.2.1 37 = .ok (.putfield 28, 3) := dX1_init_37
theorem eX1_init_40 : decode mX1_init.2.1 40 = .ok (.aload_n 0, 1) := dX1_init_40
theorem eX1_init_41 : decode mX1_init.2.1 41 = .ok (.aload_n 1, 1) := dX1_init_41
theorem eX1_init_42 : decode mX1_init.2.1 42 = .ok (.putfield 31, 3) := dX1_init_42
theorem eX1_init_45 : decode mX1_init.2.1 45 = .ok (.return_, 1) := dX1_init_45
theorem eX1_smallWords_0 : decode mX1_smallWords.2.1 0 = .ok (.iconst 1, 1) := dX1_smallWords_0
theorem eX1_smallWords_1 : decode mX1_smallWords.2.1 1 = .ok (.istore_n 1, 1) := dX1_smallWords_1
theorem eX1_smallWords_2 : decode mX1_smallWords.2.1 2 = .ok (.iconst 0, 1) := dX1_smallWords_2
theorem eX1_smallWords_3 : decode mX1_smallWords.2.1 3 = .ok (.istore_n 2, 1) := dX1_smallWords_3
theorem eX1_smallWords_4 : decode mX1_smallWords.2.1 4 = .ok (.iload_n 2, 1) := dX1_smallWords_4
theorem eX1_smallWords_5 : decode mX1_smallWords.2.1 5 = .ok (.aload_n 0, 1) := dX1_smallWords_5
theorem eX1_smallWords_6 : decode mX1_smallWords.2.1 6 = .ok (.getfield 18, 3) := dX1_smallWords_6
theorem eX1_smallWords_9 : decode mX1_smallWords.2.1 9 = .ok (.if_icmp .ge 25, 3) := dX1_smallWords_9
theorem eX1_smallWords_12 : decode mX1_smallWords.2.1 12 = .ok (.iload_n 1, 1) := dX1_smallWords_12
theorem eX1_smallWords_13 : decode mX1_smallWords.2.1 13 = .ok (.ldc 74, 2) := dX1_smallWords_13
theorem eX1_smallWords_15 : decode mX1_smallWords.2.1 15 = .ok (.if_icmp .gt 19, 3) := dX1_smallWords_15
theorem eX1_smallWords_18 : decode mX1_smallWords.2.1 18 = .ok (.iload_n 1, 1) := dX1_smallWords_18
theorem eX1_smallWords_19 : decode mX1_smallWords.2.1 19 = .ok (.aload_n 0, 1) := dX1_smallWords_19
theorem eX1_smallWords_20 : decode mX1_smallWords.2.1 20 = .ok (.getfield 31, 3) := dX1_smallWords_20
theorem eX1_smallWords_23 : decode mX1_smallWords.2.1 23 = .ok (.getfield 75, 3) := dX1_smallWords_23
theorem eX1_smallWords_26 : decode mX1_smallWords.2.1 26 = .ok (.imul, 1) := dX1_smallWords_26
theorem eX1_smallWords_27 : decode mX1_smallWords.2.1 27 = .ok (.istore_n 1, 1) := dX1_smallWords_27
theorem eX1_smallWords_28 : decode mX1_smallWords.2.1 28 = .ok (.iinc 2 1, 3) := dX1_smallWords_28
theorem eX1_smallWords_31 : decode mX1_smallWords.2.1 31 = .ok (.goto (-27), 3) := dX1_smallWords_31
theorem eX1_smallWords_34 : decode mX1_smallWords.2.1 34 = .ok (.iload_n 1, 1) := dX1_smallWords_34
theorem eX1_smallWords_35 : decode mX1_smallWords.2.1 35 = .ok (.ldc 74, 2) := dX1_smallWords_35
theorem eX1_smallWords_37 : decode mX1_smallWords.2.1 37 = .ok (.if_icmp .gt 7, 3) := dX1_smallWords_37
theorem eX1_smallWords_40 : decode mX1_smallWords.2.1 40 = .ok (.iload_n 1, 1) := dX1_smallWords_40
theorem eX1_smallWords_41 : decode mX1_smallWords.2.1 41 = .ok (.goto 4, 3) := dX1_smallWords_41
theorem eX1_smallWords_44 : decode mX1_smallWords.2.1 44 = .ok (.iconst 0, 1) := dX1_smallWords_44
theorem eX1_smallWords_45 : decode mX1_smallWords.2.1 45 = .ok (.ireturn, 1) := dX1_smallWords_45
theorem eX2_become_0 : decode mX2_become.2.1 0 = .ok (.iload_n 1, 1) := dX2_become_0
theorem eX2_become_1 : decode mX2_become.2.1 1 = .ok (.iload_n 2, 1) := dX2_become_1
theorem eX2_become_2 : decode mX2_become.2.1 2 = .ok (.iload_n 3, 1) := dX2_become_2
theorem eX2_become_3 : decode mX2_become.2.1 3 = .ok (.invokestatic 60, 3) := dX2_become_3
theorem eX2_become_6 : decode mX2_become.2.1 6 = .ok (.ifCond .ne 5, 3) := dX2_become_6
theorem eX2_become_9 : decode mX2_become.2.1 9 = .ok (.iconst 0, 1) := dX2_become_9
theorem eX2_become_10 : decode mX2_become.2.1 10 = .ok (.ireturn, 1) := dX2_become_10
theorem eX2_become_11 : decode mX2_become.2.1 11 = .ok (.aload_n 0, 1) := dX2_become_11
theorem eX2_become_12 : decode mX2_become.2.1 12 = .ok (.iload_n 1, 1) := dX2_become_12
theorem eX2_become_13 : decode mX2_become.2.1 13 = .ok (.putfield 9, 3) := dX2_become_13
theorem eX2_become_16 : decode mX2_become.2.1 16 = .ok (.aload_n 0, 1) := dX2_become_16
theorem eX2_become_17 : decode mX2_become.2.1 17 = .ok (.iload_n 2, 1) := dX2_become_17
theorem eX2_become_18 : decode mX2_become.2.1 18 = .ok (.putfield 15, 3) := dX2_become_18
theorem eX2_become_21 : decode mX2_become.2.1 21 = .ok (.aload_n 0, 1) := dX2_become_21
theorem eX2_become_22 : decode mX2_become.2.1 22 = .ok (.iload_n 3, 1) := dX2_become_22
theorem eX2_become_23 : decode mX2_become.2.1 23 = .ok (.putfield 18, 3) := dX2_become_23
theorem eX2_become_26 : decode mX2_become.2.1 26 = .ok (.aload_n 0, 1) := dX2_become_26
theorem eX2_become_27 : decode mX2_become.2.1 27 = .ok (.aload_n 0, 1) := dX2_become_27
theorem eX2_become_28 : decode mX2_become.2.1 28 = .ok (.getfield 9, 3) := dX2_become_28
theorem eX2_become_31 : decode mX2_become.2.1 31 = .ok (.aload_n 0, 1) := dX2_become_31
theorem eX2_become_32 : decode mX2_become.2.1 32 = .ok (.getfield 15, 3) := dX2_become_32
theorem eX2_become_35 : decode mX2_become.2.1 35 = .ok (.invokestatic 64, 3) := dX2_become_35
theorem eX2_become_38 : decode mX2_become.2.1 38 = .ok (.putfield 21, 3) := dX2_become_38
theorem eX2_become_41 : decode mX2_become.2.1 41 = .ok (.aload_n 0, 1) := dX2_become_41
theorem eX2_become_42 : decode mX2_become.2.1 42 = .ok (.aload_n 0, 1) := dX2_become_42
theorem eX2_become_43 : decode mX2_become.2.1 43 = .ok (.getfield 9, 3) := dX2_become_43
theorem eX2_become_46 : decode mX2_become.2.1 46 = .ok (.aload_n 0, 1) := dX2_become_46
theorem eX2_become_47 : decode mX2_become.2.1 47 = .ok (.getfield 18, 3) := dX2_become_47
theorem eX2_become_50 : decode mX2_become.2.1 50 = .ok (.invokestatic 64, 3) := dX2_become_50
theorem eX2_become_53 : decode mX2_become.2.1 53 = .ok (.putfield 24, 3) := dX2_become_53
theorem eX2_become_56 : decode mX2_become.2.1 56 = .ok (.aload_n 0, 1) := dX2_become_56
theorem eX2_become_57 : decode mX2_become.2.1 57 = .ok (.aload_n 0, 1) := dX2_become_57
theorem eX2_become_58 : decode mX2_become.2.1 58 = .ok (.getfield 24, 3) := dX2_become_58
theorem eX2_become_61 : decode mX2_become.2.1 61 = .ok (.aload_n 0, 1) := dX2_become_61
theorem eX2_become_62 : decode mX2_become.2.1 62 = .ok (.getfield 15, 3) := dX2_become_62
theorem eX2_become_65 : decode mX2_become.2.1 65 = .ok (.invokestatic 64, 3) := dX2_become_65
theorem eX2_become_68 : decode mX2_become.2.1 68 = .ok (.putfield 27, 3) := dX2_become_68
theorem eX2_become_71 : decode mX2_become.2.1 71 = .ok (.aload_n 0, 1) := dX2_become_71
theorem eX2_become_72 : decode mX2_become.2.1 72 = .ok (.invokevirtual 70, 3) := dX2_become_72
theorem eX2_become_75 : decode mX2_become.2.1 75 = .ok (.aload_n 0, 1) := dX2_become_75
theorem eX2_become_76 : decode mX2_become.2.1 76 = .ok (.invokevirtual 73, 3) := dX2_become_76
theorem eX2_become_79 : decode mX2_become.2.1 79 = .ok (.aload_n 0, 1) := dX2_become_79
theorem eX2_become_80 : decode mX2_become.2.1 80 = .ok (.invokevirtual 76, 3) := dX2_become_80
theorem eX2_become_83 : decode mX2_become.2.1 83 = .ok (.aload_n 0, 1) := dX2_become_83
theorem eX2_become_84 : decode mX2_become.2.1 84 = .ok (.invokevirtual 79, 3) := dX2_become_84
theorem eX2_become_87 : decode mX2_become.2.1 87 = .ok (.iconst 1, 1) := dX2_become_87
theorem eX2_become_88 : decode mX2_become.2.1 88 = .ok (.ireturn, 1) := dX2_become_88
theorem eX2_byP_0 : decode mX2_byP.2.1 0 = .ok (.iconst 0, 1) := dX2_byP_0
theorem eX2_byP_1 : decode mX2_byP.2.1 1 = .ok (.istore_n 2, 1) := dX2_byP_1
theorem eX2_byP_2 : decode mX2_byP.2.1 2 = .ok (.iconst 1, 1) := dX2_byP_2
theorem eX2_byP_3 : decode mX2_byP.2.1 3 = .ok (.istore_n 3, 1) := dX2_byP_3
theorem eX2_byP_4 : decode mX2_byP.2.1 4 = .ok (.iload_n 1, 1) := dX2_byP_4
theorem eX2_byP_5 : decode mX2_byP.2.1 5 = .ok (.istore 4, 2) := dX2_byP_5
theorem eX2_byP_7 : decode mX2_byP.2.1 7 = .ok (.iconst 0, 1) := dX2_byP_7
theorem eX2_byP_8 : decode mX2_byP.2.1 8 = .ok (.istore 5, 2) := dX2_byP_8
theorem eX2_byP_10 : decode mX2_byP.2.1 10 = .ok (.iload 5, 2) := dX2_byP_10
theorem eX2_byP_12 : decode mX2_byP.2.1 12 = .ok (.aload_n 0, 1) := dX2_byP_12
theorem eX2_byP_13 : decode mX2_byP.2.1 13 = .ok (.getfield 18, 3) := dX2_byP_13
theorem eX2_byP_16 : decode mX2_byP.2.1 16 = .ok (.if_icmp .ge 48, 3) := dX2_byP_16
theorem eX2_byP_19 : decode mX2_byP.2.1 19 = .ok (.iload_n 2, 1) := dX2_byP_19
theorem eX2_byP_20 : decode mX2_byP.2.1 20 = .ok (.iload_n 3, 1) := dX2_byP_20
theorem eX2_byP_21 : decode mX2_byP.2.1 21 = .ok (.iload 4, 2) := dX2_byP_21
theorem eX2_byP_23 : decode mX2_byP.2.1 23 = .ok (.aload_n 0, 1) := dX2_byP_23
theorem eX2_byP_24 : decode mX2_byP.2.1 24 = .ok (.getfield 21, 3) := dX2_byP_24
theorem eX2_byP_27 : decode mX2_byP.2.1 27 = .ok (.invokestatic 87, 3) := dX2_byP_27
theorem eX2_byP_30 : decode mX2_byP.2.1 30 = .ok (.aload_n 0, 1) := dX2_byP_30
theorem eX2_byP_31 : decode mX2_byP.2.1 31 = .ok (.getfield 9, 3) := dX2_byP_31
theorem eX2_byP_34 : decode mX2_byP.2.1 34 = .ok (.invokestatic 94, 3) := dX2_byP_34
theorem eX2_byP_37 : decode mX2_byP.2.1 37 = .ok (.imul, 1) := dX2_byP_37
theorem eX2_byP_38 : decode mX2_byP.2.1 38 = .ok (.iadd, 1) := dX2_byP_38
theorem eX2_byP_39 : decode mX2_byP.2.1 39 = .ok (.istore_n 2, 1) := dX2_byP_39
theorem eX2_byP_40 : decode mX2_byP.2.1 40 = .ok (.iload 4, 2) := dX2_byP_40
theorem eX2_byP_42 : decode mX2_byP.2.1 42 = .ok (.aload_n 0, 1) := dX2_byP_42
theorem eX2_byP_43 : decode mX2_byP.2.1 43 = .ok (.getfield 21, 3) := dX2_byP_43
theorem eX2_byP_46 : decode mX2_byP.2.1 46 = .ok (.invokestatic 94, 3) := dX2_byP_46
theorem eX2_byP_49 : decode mX2_byP.2.1 49 = .ok (.istore 4, 2) := dX2_byP_49
theorem eX2_byP_51 : decode mX2_byP.2.1 51 = .ok (.iload_n 3, 1) := dX2_byP_51
theorem eX2_byP_52 : decode mX2_byP.2.1 52 = .ok (.aload_n 0, 1) := dX2_byP_52
theorem eX2_byP_53 : decode mX2_byP.2.1 53 = .ok (.getfield 21, 3) := dX2_byP_53
theorem eX2_byP_56 : decode mX2_byP.2.1 56 = .ok (.imul, 1) := dX2_byP_56
theorem eX2_byP_57 : decode mX2_byP.2.1 57 = .ok (.istore_n 3, 1) := dX2_byP_57
theorem eX2_byP_58 : decode mX2_byP.2.1 58 = .ok (.iinc 5 1, 3) := dX2_byP_58
theorem eX2_byP_61 : decode mX2_byP.2.1 61 = .ok (.goto (-51), 3) := dX2_byP_61
theorem eX2_byP_64 : decode mX2_byP.2.1 64 = .ok (.iload_n 2, 1) := dX2_byP_64
theorem eX2_byP_65 : decode mX2_byP.2.1 65 = .ok (.ireturn, 1) := dX2_byP_65
theorem eX2_commonOrder_0 : decode mX2_commonOrder.2.1 0 = .ok (.iconst 1, 1) := dX2_commonOrder_0
theorem eX2_commonOrder_1 : decode mX2_commonOrder.2.1 1 = .ok (.istore_n 1, 1) := dX2_commonOrder_1
theorem eX2_commonOrder_2 : decode mX2_commonOrder.2.1 2 = .ok (.iconst 0, 1) := dX2_commonOrder_2
theorem eX2_commonOrder_3 : decode mX2_commonOrder.2.1 3 = .ok (.istore_n 2, 1) := dX2_commonOrder_3
theorem eX2_commonOrder_4 : decode mX2_commonOrder.2.1 4 = .ok (.iload_n 2, 1) := dX2_commonOrder_4
theorem eX2_commonOrder_5 : decode mX2_commonOrder.2.1 5 = .ok (.aload_n 0, 1) := dX2_commonOrder_5
theorem eX2_commonOrder_6 : decode mX2_commonOrder.2.1 6 = .ok (.getfield 27, 3) := dX2_commonOrder_6
theorem eX2_commonOrder_9 : decode mX2_commonOrder.2.1 9 = .ok (.if_icmp .ge 27, 3) := dX2_commonOrder_9
theorem eX2_commonOrder_12 : decode mX2_commonOrder.2.1 12 = .ok (.aload_n 0, 1) := dX2_commonOrder_12
theorem eX2_commonOrder_13 : decode mX2_commonOrder.2.1 13 = .ok (.iload_n 2, 1) := dX2_commonOrder_13
theorem eX2_commonOrder_14 : decode mX2_commonOrder.2.1 14 = .ok (.invokevirtual 157, 3) := dX2_commonOrder_14
theorem eX2_commonOrder_17 : decode mX2_commonOrder.2.1 17 = .ok (.ifCond .ne 13, 3) := dX2_commonOrder_17
theorem eX2_commonOrder_20 : decode mX2_commonOrder.2.1 20 = .ok (.iload_n 1, 1) := dX2_commonOrder_20
theorem eX2_commonOrder_21 : decode mX2_commonOrder.2.1 21 = .ok (.aload_n 0, 1) := dX2_commonOrder_21
theorem eX2_commonOrder_22 : decode mX2_commonOrder.2.1 22 = .ok (.iload_n 2, 1) := dX2_commonOrder_22
theorem eX2_commonOrder_23 : decode mX2_commonOrder.2.1 23 = .ok (.invokevirtual 186, 3) := dX2_commonOrder_23
theorem eX2_commonOrder_26 : decode mX2_commonOrder.2.1 26 = .ok (.invokestatic 189, 3) := dX2_commonOrder_26
theorem eX2_commonOrder_29 : decode mX2_commonOrder.2.1 29 = .ok (.istore_n 1, 1) := dX2_commonOrder_29
theorem eX2_commonOrder_30 : decode mX2_commonOrder.2.1 30 = .ok (.iinc 2 1, 3) := dX2_commonOrder_30
theorem eX2_commonOrder_33 : decode mX2_commonOrder.2.1 33 = .ok (.goto (-29), 3) := dX2_commonOrder_33
theorem eX2_commonOrder_36 : decode mX2_commonOrder.2.1 36 = .ok (.aload_n 0, 1) := dX2_commonOrder_36
theorem eX2_commonOrder_37 : decode mX2_commonOrder.2.1 37 = .ok (.getfield 24, 3) := dX2_commonOrder_37
theorem eX2_commonOrder_40 : decode mX2_commonOrder.2.1 40 = .ok (.iconst 1, 1) := dX2_commonOrder_40
theorem eX2_commonOrder_41 : decode mX2_commonOrder.2.1 41 = .ok (.isub, 1) := dX2_commonOrder_41
theorem eX2_commonOrder_42 : decode mX2_commonOrder.2.1 42 = .ok (.iload_n 1, 1) := dX2_commonOrder_42
theorem eX2_commonOrder_43 : decode mX2_commonOrder.2.1 43 = .ok (.imul, 1) := dX2_commonOrder_43
theorem eX2_commonOrder_44 : decode mX2_commonOrder.2.1 44 = .ok (.ireturn, 1) := dX2_commonOrder_44
theorem eX2_digitLog_0 : decode mX2_digitLog.2.1 0 = .ok (.iload_n 1, 1) := dX2_digitLog_0
theorem eX2_digitLog_1 : decode mX2_digitLog.2.1 1 = .ok (.istore_n 3, 1) := dX2_digitLog_1
theorem eX2_digitLog_2 : decode mX2_digitLog.2.1 2 = .ok (.iconst 0, 1) := dX2_digitLog_2
theorem eX2_digitLog_3 : decode mX2_digitLog.2.1 3 = .ok (.istore 4, 2) := dX2_digitLog_3
theorem eX2_digitLog_5 : decode mX2_digitLog.2.1 5 = .ok (.iload 4, 2) := dX2_digitLog_5
theorem eX2_digitLog_7 : decode mX2_digitLog.2.1 7 = .ok (.iload_n 2, 1) := dX2_digitLog_7
theorem eX2_digitLog_8 : decode mX2_digitLog.2.1 8 = .ok (.if_icmp .ge 24, 3) := dX2_digitLog_8
theorem eX2_digitLog_11 : decode mX2_digitLog.2.1 11 = .ok (.aload_n 0, 1) := dX2_digitLog_11
theorem eX2_digitLog_12 : decode mX2_digitLog.2.1 12 = .ok (.aload_n 0, 1) := dX2_digitLog_12
theorem eX2_digitLog_13 : decode mX2_digitLog.2.1 13 = .ok (.iload_n 3, 1) := dX2_digitLog_13
theorem eX2_digitLog_14 : decode mX2_digitLog.2.1 14 = .ok (.aload_n 0, 1) := dX2_digitLog_14
theorem eX2_digitLog_15 : decode mX2_digitLog.2.1 15 = .ok (.iload_n 3, 1) := dX2_digitLog_15
theorem eX2_digitLog_16 : decode mX2_digitLog.2.1 16 = .ok (.invokevirtual 161, 3) := dX2_digitLog_16
theorem eX2_digitLog_19 : decode mX2_digitLog.2.1 19 = .ok (.invokevirtual 146, 3) := dX2_digitLog_19
theorem eX2_digitLog_22 : decode mX2_digitLog.2.1 22 = .ok (.invokevirtual 164, 3) := dX2_digitLog_22
theorem eX2_digitLog_25 : decode mX2_digitLog.2.1 25 = .ok (.istore_n 3, 1) := dX2_digitLog_25
theorem eX2_digitLog_26 : decode mX2_digitLog.2.1 26 = .ok (.iinc 4 1, 3) := dX2_digitLog_26
theorem eX2_digitLog_29 : decode mX2_digitLog.2.1 29 = .ok (.goto (-24), 3) := dX2_digitLog_29
theorem eX2_digitLog_32 : decode mX2_digitLog.2.1 32 = .ok (.aload_n 0, 1) := dX2_digitLog_32
theorem eX2_digitLog_33 : decode mX2_digitLog.2.1 33 = .ok (.iload_n 3, 1) := dX2_digitLog_33
theorem eX2_digitLog_34 : decode mX2_digitLog.2.1 34 = .ok (.invokevirtual 157, 3) := dX2_digitLog_34
theorem eX2_digitLog_37 : decode mX2_digitLog.2.1 37 = .ok (.ireturn, 1) := dX2_digitLog_37
theorem eX2_evaluate_0 : decode mX2_evaluate.2.1 0 = .ok (.iconst 0, 1) := dX2_evaluate_0
theorem eX2_evaluate_1 : decode mX2_evaluate.2.1 1 = .ok (.istore 4, 2) := dX2_evaluate_1
theorem eX2_evaluate_3 : decode mX2_evaluate.2.1 3 = .ok (.iload_n 2, 1) := dX2_evaluate_3
theorem eX2_evaluate_4 : decode mX2_evaluate.2.1 4 = .ok (.istore 5, 2) := dX2_evaluate_4
theorem eX2_evaluate_6 : decode mX2_evaluate.2.1 6 = .ok (.iload 5, 2) := dX2_evaluate_6
theorem eX2_evaluate_8 : decode mX2_evaluate.2.1 8 = .ok (.ifCond .lt 28, 3) := dX2_evaluate_8
theorem eX2_evaluate_11 : decode mX2_evaluate.2.1 11 = .ok (.aload_n 0, 1) := dX2_evaluate_11
theorem eX2_evaluate_12 : decode mX2_evaluate.2.1 12 = .ok (.aload_n 0, 1) := dX2_evaluate_12
theorem eX2_evaluate_13 : decode mX2_evaluate.2.1 13 = .ok (.iload 4, 2) := dX2_evaluate_13
theorem eX2_evaluate_15 : decode mX2_evaluate.2.1 15 = .ok (.iload_n 3, 1) := dX2_evaluate_15
theorem eX2_evaluate_16 : decode mX2_evaluate.2.1 16 = .ok (.invokevirtual 132, 3) := dX2_evaluate_16
theorem eX2_evaluate_19 : decode mX2_evaluate.2.1 19 = .ok (.aload_n 1, 1) := dX2_evaluate_19
theorem eX2_evaluate_20 : decode mX2_evaluate.2.1 20 = .ok (.iload 5, 2) := dX2_evaluate_20
theorem eX2_evaluate_22 : decode mX2_evaluate.2.1 22 = .ok (.invokestatic 116, 3) := dX2_evaluate_22
theorem eX2_evaluate_25 : decode mX2_evaluate.2.1 25 = .ok (.invokevirtual 149, 3) := dX2_evaluate_25
theorem eX2_evaluate_28 : decode mX2_evaluate.2.1 28 = .ok (.istore 4, 2) := dX2_evaluate_28
theorem eX2_evaluate_30 : decode mX2_evaluate.2.1 30 = .ok (.iinc 5 (-1), 3) := dX2_evaluate_30
theorem eX2_evaluate_33 : decode mX2_evaluate.2.1 33 = .ok (.goto (-27), 3) := dX2_evaluate_33
theorem eX2_evaluate_36 : decode mX2_evaluate.2.1 36 = .ok (.iload 4, 2) := dX2_evaluate_36
theorem eX2_evaluate_38 : decode mX2_evaluate.2.1 38 = .ok (.ireturn, 1) := dX2_evaluate_38
theorem eX2_exists_0 : decode mX2_exists.2.1 0 = .ok (.iload_n 0, 1) := dX2_exists_0
theorem eX2_exists_1 : decode mX2_exists.2.1 1 = .ok (.iconst 2, 1) := dX2_exists_1
theorem eX2_exists_2 : decode mX2_exists.2.1 2 = .ok (.if_icmp .eq 19, 3) := dX2_exists_2
theorem eX2_exists_5 : decode mX2_exists.2.1 5 = .ok (.iload_n 0, 1) := dX2_exists_5
theorem eX2_exists_6 : decode mX2_exists.2.1 6 = .ok (.iconst 3, 1) := dX2_exists_6
theorem eX2_exists_7 : decode mX2_exists.2.1 7 = .ok (.if_icmp .eq 14, 3) := dX2_exists_7
theorem eX2_exists_10 : decode mX2_exists.2.1 10 = .ok (.iload_n 0, 1) := dX2_exists_10
theorem eX2_exists_11 : decode mX2_exists.2.1 11 = .ok (.iconst 5, 1) := dX2_exists_11
theorem eX2_exists_12 : decode mX2_exists.2.1 12 = .ok (.if_icmp .eq 9, 3) := dX2_exists_12
theorem eX2_exists_15 : decode mX2_exists.2.1 15 = .ok (.iload_n 0, 1) := dX2_exists_15
theorem eX2_exists_16 : decode mX2_exists.2.1 16 = .ok (.bipush 7, 2) := dX2_exists_16
theorem eX2_exists_18 : decode mX2_exists.2.1 18 = .ok (.if_icmp .ne 28, 3) := dX2_exists_18
theorem eX2_exists_21 : decode mX2_exists.2.1 21 = .ok (.iload_n 1, 1) := dX2_exists_21
theorem eX2_exists_22 : decode mX2_exists.2.1 22 = .ok (.iconst 1, 1) := dX2_exists_22
theorem eX2_exists_23 : decode mX2_exists.2.1 23 = .ok (.if_icmp .lt 23, 3) := dX2_exists_23
theorem eX2_exists_26 : decode mX2_exists.2.1 26 = .ok (.iload_n 1, 1) := dX2_exists_26
theorem eX2_exists_27 : decode mX2_exists.2.1 27 = .ok (.iconst 4, 1) := dX2_exists_27
theorem eX2_exists_28 : decode mX2_exists.2.1 28 = .ok (.if_icmp .gt 18, 3) := dX2_exists_28
theorem eX2_exists_31 : decode mX2_exists.2.1 31 = .ok (.iload_n 2, 1) := dX2_exists_31
theorem eX2_exists_32 : decode mX2_exists.2.1 32 = .ok (.iconst 1, 1) := dX2_exists_32
theorem eX2_exists_33 : decode mX2_exists.2.1 33 = .ok (.if_icmp .lt 13, 3) := dX2_exists_33
theorem eX2_exists_36 : decode mX2_exists.2.1 36 = .ok (.iload_n 2, 1) := dX2_exists_36
theorem eX2_exists_37 : decode mX2_exists.2.1 37 = .ok (.bipush 6, 2) := dX2_exists_37
theorem eX2_exists_39 : decode mX2_exists.2.1 39 = .ok (.if_icmp .gt 7, 3) := dX2_exists_39
theorem eX2_exists_42 : decode mX2_exists.2.1 42 = .ok (.iconst 1, 1) := dX2_exists_42
theorem eX2_exists_43 : decode mX2_exists.2.1 43 = .ok (.goto 4, 3) := dX2_exists_43
theorem eX2_exists_46 : decode mX2_exists.2.1 46 = .ok (.iconst 0, 1) := dX2_exists_46
theorem eX2_exists_47 : decode mX2_exists.2.1 47 = .ok (.istore_n 3, 1) := dX2_exists_47
theorem eX2_exists_48 : decode mX2_exists.2.1 48 = .ok (.iconst 1, 1) := dX2_exists_48
theorem eX2_exists_49 : decode mX2_exists.2.1 49 = .ok (.istore 4, 2) := dX2_exists_49
theorem eX2_exists_51 : decode mX2_exists.2.1 51 = .ok (.iconst 0, 1) := dX2_exists_51
theorem eX2_exists_52 : decode mX2_exists.2.1 52 = .ok (.istore 5, 2) := dX2_exists_52
theorem eX2_exists_54 : decode mX2_exists.2.1 54 = .ok (.iload_n 3, 1) := dX2_exists_54
theorem eX2_exists_55 : decode mX2_exists.2.1 55 = .ok (.ifCond .eq 31, 3) := dX2_exists_55
theorem eX2_exists_58 : decode mX2_exists.2.1 58 = .ok (.iload 5, 2) := dX2_exists_58
theorem eX2_exists_60 : decode mX2_exists.2.1 60 = .ok (.iload_n 1, 1) := dX2_exists_60
theorem eX2_exists_61 : decode mX2_exists.2.1 61 = .ok (.iload_n 2, 1) := dX2_exists_61
theorem eX2_exists_62 : decode mX2_exists.2.1 62 = .ok (.imul, 1) := dX2_exists_62
theorem eX2_exists_63 : decode mX2_exists.2.1 63 = .ok (.if_icmp .ge 23, 3) := dX2_exists_63
theorem eX2_exists_66 : decode mX2_exists.2.1 66 = .ok (.iload 4, 2) := dX2_exists_66
theorem eX2_exists_68 : decode mX2_exists.2.1 68 = .ok (.sipush 4096, 3) := dX2_exists_68
theorem eX2_exists_71 : decode mX2_exists.2.1 71 = .ok (.if_icmp .gt 15, 3) := dX2_exists_71
theorem eX2_exists_74 : decode mX2_exists.2.1 74 = .ok (.iload 4, 2) := dX2_exists_74
theorem eX2_exists_76 : decode mX2_exists.2.1 76 = .ok (.iload_n 0, 1) := dX2_exists_76
theorem eX2_exists_77 : decode mX2_exists.2.1 77 = .ok (.imul, 1) := dX2_exists_77
theorem eX2_exists_78 : decode mX2_exists.2.1 78 = .ok (.istore 4, 2) := dX2_exists_78
theorem eX2_exists_80 : decode mX2_exists.2.1 80 = .ok (.iinc 5 1, 3) := dX2_exists_80
theorem eX2_exists_83 : decode mX2_exists.2.1 83 = .ok (.goto (-29), 3) := dX2_exists_83
theorem eX2_exists_86 : decode mX2_exists.2.1 86 = .ok (.iload_n 3, 1) := dX2_exists_86
theorem eX2_exists_87 : decode mX2_exists.2.1 87 = .ok (.ifCond .eq 15, 3) := dX2_exists_87
theorem eX2_exists_90 : decode mX2_exists.2.1 90 = .ok (.iload 4, 2) := dX2_exists_90
theorem eX2_exists_92 : decode mX2_exists.2.1 92 = .ok (.sipush 4096, 3) := dX2_exists_92
theorem eX2_exists_95 : decode mX2_exists.2.1 95 = .ok (.if_icmp .gt 7, 3) := dX2_exists_95
theorem eX2_exists_98 : decode mX2_exists.2.1 98 = .ok (.iconst 1, 1) := dX2_exists_98
theorem eX2_exists_99 : decode mX2_exists.2.1 99 = .ok (.goto 4, 3) := dX2_exists_99
theorem eX2_exists_102 : decode mX2_exists.2.1 102 = .ok (.iconst 0, 1) := dX2_exists_102
theorem eX2_exists_103 : decode mX2_exists.2.1 103 = .ok (.ireturn, 1) := dX2_exists_103
theorem eX2_fillImages_0 : decode mX2_fillImages.2.1 0 = .ok (.iconst 0, 1) := dX2_fillImages_0
theorem eX2_fillImages_1 : decode mX2_fillImages.2.1 1 = .ok (.istore_n 1, 1) := dX2_fillImages_1
theorem eX2_fillImages_2 : decode mX2_fillImages.2.1 2 = .ok (.iload_n 1, 1) := dX2_fillImages_2
theorem eX2_fillImages_3 : decode mX2_fillImages.2.1 3 = .ok (.aload_n 0, 1) := dX2_fillImages_3
theorem eX2_fillImages_4 : decode mX2_fillImages.2.1 4 = .ok (.getfield 18, 3) := dX2_fillImages_4
theorem eX2_fillImages_7 : decode mX2_fillImages.2.1 7 = .ok (.if_icmp .ge 42, 3) := dX2_fillImages_7
theorem eX2_fillImages_10 : decode mX2_fillImages.2.1 10 = .ok (.iload_n 1, 1) := dX2_fillImages_10
theorem eX2_fillImages_11 : decode mX2_fillImages.2.1 11 = .ok (.aload_n 0, 1) := dX2_fillImages_11
theorem eX2_fillImages_12 : decode mX2_fillImages.2.1 12 = .ok (.getfield 45, 3) := dX2_fillImages_12
theorem eX2_fillImages_15 : decode mX2_fillImages.2.1 15 = .ok (.arraylength, 1) := dX2_fillImages_15
theorem eX2_fillImages_16 : decode mX2_fillImages.2.1 16 = .ok (.if_icmp .ge 33, 3) := dX2_fillImages_16
theorem eX2_fillImages_19 : decode mX2_fillImages.2.1 19 = .ok (.aload_n 0, 1) := dX2_fillImages_19
theorem eX2_fillImages_20 : decode mX2_fillImages.2.1 20 = .ok (.aload_n 0, 1) := dX2_fillImages_20
theorem eX2_fillImages_21 : decode mX2_fillImages.2.1 21 = .ok (.aload_n 0, 1) := dX2_fillImages_21
theorem eX2_fillImages_22 : decode mX2_fillImages.2.1 22 = .ok (.invokevirtual 103, 3) := dX2_fillImages_22
theorem eX2_fillImages_25 : decode mX2_fillImages.2.1 25 = .ok (.aload_n 0, 1) := dX2_fillImages_25
theorem eX2_fillImages_26 : decode mX2_fillImages.2.1 26 = .ok (.getfield 9, 3) := dX2_fillImages_26
theorem eX2_fillImages_29 : decode mX2_fillImages.2.1 29 = .ok (.iload_n 1, 1) := dX2_fillImages_29
theorem eX2_fillImages_30 : decode mX2_fillImages.2.1 30 = .ok (.imul, 1) := dX2_fillImages_30
theorem eX2_fillImages_31 : decode mX2_fillImages.2.1 31 = .ok (.invokevirtual 110, 3) := dX2_fillImages_31
theorem eX2_fillImages_34 : decode mX2_fillImages.2.1 34 = .ok (.aload_n 0, 1) := dX2_fillImages_34
theorem eX2_fillImages_35 : decode mX2_fillImages.2.1 35 = .ok (.getfield 45, 3) := dX2_fillImages_35
theorem eX2_fillImages_38 : decode mX2_fillImages.2.1 38 = .ok (.iload_n 1, 1) := dX2_fillImages_38
theorem eX2_fillImages_39 : decode mX2_fillImages.2.1 39 = .ok (.aaload, 1) := dX2_fillImages_39
theorem eX2_fillImages_40 : decode mX2_fillImages.2.1 40 = .ok (.invokevirtual 120, 3) := dX2_fillImages_40
theorem eX2_fillImages_43 : decode mX2_fillImages.2.1 43 = .ok (.iinc 1 1, 3) := dX2_fillImages_43
theorem eX2_fillImages_46 : decode mX2_fillImages.2.1 46 = .ok (.goto (-44), 3) := dX2_fillImages_46
theorem eX2_fillImages_49 : decode mX2_fillImages.2.1 49 = .ok (.return_, 1) := dX2_fillImages_49
theorem eX2_fillLogs_0 : decode mX2_fillLogs.2.1 0 = .ok (.aload_n 0, 1) := dX2_fillLogs_0
theorem eX2_fillLogs_1 : decode mX2_fillLogs.2.1 1 = .ok (.getfield 40, 3) := dX2_fillLogs_1
theorem eX2_fillLogs_4 : decode mX2_fillLogs.2.1 4 = .ok (.iconst (-1), 1) := dX2_fillLogs_4
theorem eX2_fillLogs_5 : decode mX2_fillLogs.2.1 5 = .ok (.invokestatic 97, 3) := dX2_fillLogs_5
theorem eX2_fillLogs_8 : decode mX2_fillLogs.2.1 8 = .ok (.iconst 1, 1) := dX2_fillLogs_8
theorem eX2_fillLogs_9 : decode mX2_fillLogs.2.1 9 = .ok (.istore_n 1, 1) := dX2_fillLogs_9
theorem eX2_fillLogs_10 : decode mX2_fillLogs.2.1 10 = .ok (.iconst 0, 1) := dX2_fillLogs_10
theorem eX2_fillLogs_11 : decode mX2_fillLogs.2.1 11 = .ok (.istore_n 2, 1) := dX2_fillLogs_11
theorem eX2_fillLogs_12 : decode mX2_fillLogs.2.1 12 = .ok (.iload_n 2, 1) := dX2_fillLogs_12
theorem eX2_fillLogs_13 : decode mX2_fillLogs.2.1 13 = .ok (.aload_n 0, 1) := dX2_fillLogs_13
theorem eX2_fillLogs_14 : decode mX2_fillLogs.2.1 14 = .ok (.getfield 24, 3) := dX2_fillLogs_14
theorem eX2_fillLogs_17 : decode mX2_fillLogs.2.1 17 = .ok (.iconst 1, 1) := dX2_fillLogs_17
theorem eX2_fillLogs_18 : decode mX2_fillLogs.2.1 18 = .ok (.isub, 1) := dX2_fillLogs_18
theorem eX2_fillLogs_19 : decode mX2_fillLogs.2.1 19 = .ok (.if_icmp .ge 49, 3) := dX2_fillLogs_19
theorem eX2_fillLogs_22 : decode mX2_fillLogs.2.1 22 = .ok (.aload_n 0, 1) := dX2_fillLogs_22
theorem eX2_fillLogs_23 : decode mX2_fillLogs.2.1 23 = .ok (.getfield 37, 3) := dX2_fillLogs_23
theorem eX2_fillLogs_26 : decode mX2_fillLogs.2.1 26 = .ok (.iload_n 2, 1) := dX2_fillLogs_26
theorem eX2_fillLogs_27 : decode mX2_fillLogs.2.1 27 = .ok (.iload_n 1, 1) := dX2_fillLogs_27
theorem eX2_fillLogs_28 : decode mX2_fillLogs.2.1 28 = .ok (.invokestatic 90, 3) := dX2_fillLogs_28
theorem eX2_fillLogs_31 : decode mX2_fillLogs.2.1 31 = .ok (.aload_n 0, 1) := dX2_fillLogs_31
theorem eX2_fillLogs_32 : decode mX2_fillLogs.2.1 32 = .ok (.getfield 40, 3) := dX2_fillLogs_32
theorem eX2_fillLogs_35 : decode mX2_fillLogs.2.1 35 = .ok (.aload_n 0, 1) := dX2_fillLogs_35
theorem eX2_fillLogs_36 : decode mX2_fillLogs.2.1 36 = .ok (.iload_n 1, 1) := dX2_fillLogs_36
theorem eX2_fillLogs_37 : decode mX2_fillLogs.2.1 37 = .ok (.aload_n 0, 1) := dX2_fillLogs_37
theorem eX2_fillLogs_38 : decode mX2_fillLogs.2.1 38 = .ok (.getfield 21, 3) := dX2_fillLogs_38
theorem eX2_fillLogs_41 : decode mX2_fillLogs.2.1 41 = .ok (.aload_n 0, 1) := dX2_fillLogs_41
theorem eX2_fillLogs_42 : decode mX2_fillLogs.2.1 42 = .ok (.getfield 9, 3) := dX2_fillLogs_42
theorem eX2_fillLogs_45 : decode mX2_fillLogs.2.1 45 = .ok (.invokevirtual 124, 3) := dX2_fillLogs_45
theorem eX2_fillLogs_48 : decode mX2_fillLogs.2.1 48 = .ok (.iload_n 2, 1) := dX2_fillLogs_48
theorem eX2_fillLogs_49 : decode mX2_fillLogs.2.1 49 = .ok (.invokestatic 90, 3) := dX2_fillLogs_49
theorem eX2_fillLogs_52 : decode mX2_fillLogs.2.1 52 = .ok (.aload_n 0, 1) := dX2_fillLogs_52
theorem eX2_fillLogs_53 : decode mX2_fillLogs.2.1 53 = .ok (.iload_n 1, 1) := dX2_fillLogs_53
theorem eX2_fillLogs_54 : decode mX2_fillLogs.2.1 54 = .ok (.aload_n 0, 1) := dX2_fillLogs_54
theorem eX2_fillLogs_55 : decode mX2_fillLogs.2.1 55 = .ok (.getfield 30, 3) := dX2_fillLogs_55
theorem eX2_fillLogs_58 : decode mX2_fillLogs.2.1 58 = .ok (.invokevirtual 132, 3) := dX2_fillLogs_58
theorem eX2_fillLogs_61 : decode mX2_fillLogs.2.1 61 = .ok (.istore_n 1, 1) := dX2_fillLogs_61
theorem eX2_fillLogs_62 : decode mX2_fillLogs.2.1 62 = .ok (.iinc 2 1, 3) := dX2_fillLogs_62
theorem eX2_fillLogs_65 : decode mX2_fillLogs.2.1 65 = .ok (.goto (-53), 3) := dX2_fillLogs_65
theorem eX2_fillLogs_68 : decode mX2_fillLogs.2.1 68 = .ok (.return_, 1) := dX2_fillLogs_68
theorem eX2_findGenerator_0 : decode mX2_findGenerator.2.1 0 = .ok (.aload_n 0, 1) := dX2_findGenerator_0
theorem eX2_findGenerator_1 : decode mX2_findGenerator.2.1 1 = .ok (.iconst 0, 1) := dX2_findGenerator_1
theorem eX2_findGenerator_2 : decode mX2_findGenerator.2.1 2 = .ok (.putfield 30, 3) := dX2_findGenerator_2
theorem eX2_findGenerator_5 : decode mX2_findGenerator.2.1 5 = .ok (.aload_n 0, 1) := dX2_findGenerator_5
theorem eX2_findGenerator_6 : decode mX2_findGenerator.2.1 6 = .ok (.invokevirtual 107, 3) := dX2_findGenerator_6
theorem eX2_findGenerator_9 : decode mX2_findGenerator.2.1 9 = .ok (.istore_n 1, 1) := dX2_findGenerator_9
theorem eX2_findGenerator_10 : decode mX2_findGenerator.2.1 10 = .ok (.iconst 1, 1) := dX2_findGenerator_10
theorem eX2_findGenerator_11 : decode mX2_findGenerator.2.1 11 = .ok (.istore_n 2, 1) := dX2_findGenerator_11
theorem eX2_findGenerator_12 : decode mX2_findGenerator.2.1 12 = .ok (.iload_n 2, 1) := dX2_findGenerator_12
theorem eX2_findGenerator_13 : decode mX2_findGenerator.2.1 13 = .ok (.aload_n 0, 1) := dX2_findGenerator_13
theorem eX2_findGenerator_14 : decode mX2_findGenerator.2.1 14 = .ok (.getfield 24, 3) := dX2_findGenerator_14
theorem eX2_findGenerator_17 : decode mX2_findGenerator.2.1 17 = .ok (.if_icmp .ge 56, 3) := dX2_findGenerator_17
theorem eX2_findGenerator_20 : decode mX2_findGenerator.2.1 20 = .ok (.aload_n 0, 1) := dX2_findGenerator_20
theorem eX2_findGenerator_21 : decode mX2_findGenerator.2.1 21 = .ok (.aload_n 0, 1) := dX2_findGenerator_21
theorem eX2_findGenerator_22 : decode mX2_findGenerator.2.1 22 = .ok (.iload_n 2, 1) := dX2_findGenerator_22
theorem eX2_findGenerator_23 : decode mX2_findGenerator.2.1 23 = .ok (.aload_n 0, 1) := dX2_findGenerator_23
theorem eX2_findGenerator_24 : decode mX2_findGenerator.2.1 24 = .ok (.getfield 9, 3) := dX2_findGenerator_24
theorem eX2_findGenerator_27 : decode mX2_findGenerator.2.1 27 = .ok (.aload_n 0, 1) := dX2_findGenerator_27
theorem eX2_findGenerator_28 : decode mX2_findGenerator.2.1 28 = .ok (.getfield 21, 3) := dX2_findGenerator_28
theorem eX2_findGenerator_31 : decode mX2_findGenerator.2.1 31 = .ok (.invokevirtual 124, 3) := dX2_findGenerator_31
theorem eX2_findGenerator_34 : decode mX2_findGenerator.2.1 34 = .ok (.iload_n 1, 1) := dX2_findGenerator_34
theorem eX2_findGenerator_35 : decode mX2_findGenerator.2.1 35 = .ok (.invokevirtual 110, 3) := dX2_findGenerator_35
theorem eX2_findGenerator_38 : decode mX2_findGenerator.2.1 38 = .ok (.istore_n 3, 1) := dX2_findGenerator_38
theorem eX2_findGenerator_39 : decode mX2_findGenerator.2.1 39 = .ok (.aload_n 0, 1) := dX2_findGenerator_39
theorem eX2_findGenerator_40 : decode mX2_findGenerator.2.1 40 = .ok (.getfield 30, 3) := dX2_findGenerator_40
theorem eX2_findGenerator_43 : decode mX2_findGenerator.2.1 43 = .ok (.ifCond .eq 11, 3) := dX2_findGenerator_43
theorem eX2_findGenerator_46 : decode mX2_findGenerator.2.1 46 = .ok (.iload_n 3, 1) := dX2_findGenerator_46
theorem eX2_findGenerator_47 : decode mX2_findGenerator.2.1 47 = .ok (.aload_n 0, 1) := dX2_findGenerator_47
theorem eX2_findGenerator_48 : decode mX2_findGenerator.2.1 48 = .ok (.getfield 30, 3) := dX2_findGenerator_48
theorem eX2_findGenerator_51 : decode mX2_findGenerator.2.1 51 = .ok (.if_icmp .ge 16, 3) := dX2_findGenerator_51
theorem eX2_findGenerator_54 : decode mX2_findGenerator.2.1 54 = .ok (.aload_n 0, 1) := dX2_findGenerator_54
theorem eX2_findGenerator_55 : decode mX2_findGenerator.2.1 55 = .ok (.iload_n 3, 1) := dX2_findGenerator_55
theorem eX2_findGenerator_56 : decode mX2_findGenerator.2.1 56 = .ok (.invokevirtual 128, 3) := dX2_findGenerator_56
theorem eX2_findGenerator_59 : decode mX2_findGenerator.2.1 59 = .ok (.ifCond .eq 8, 3) := dX2_findGenerator_59
theorem eX2_findGenerator_62 : decode mX2_findGenerator.2.1 62 = .ok (.aload_n 0, 1) := dX2_findGenerator_62
theorem eX2_findGenerator_63 : decode mX2_findGenerator.2.1 63 = .ok (.iload_n 3, 1) := dX2_findGenerator_63
theorem eX2_findGenerator_64 : decode mX2_findGenerator.2.1 64 = .ok (.putfield 30, 3) := dX2_findGenerator_64
theorem eX2_findGenerator_67 : decode mX2_findGenerator.2.1 67 = .ok (.iinc 2 1, 3) := dX2_findGenerator_67
theorem eX2_findGenerator_70 : decode mX2_findGenerator.2.1 70 = .ok (.goto (-58), 3) := dX2_findGenerator_70
theorem eX2_findGenerator_73 : decode mX2_findGenerator.2.1 73 = .ok (.return_, 1) := dX2_findGenerator_73
theorem eX2_gather_0 : decode mX2_gather.2.1 0 = .ok (.aload_n 0, 1) := dX2_gather_0
theorem eX2_gather_1 : decode mX2_gather.2.1 1 = .ok (.getfield 21, 3) := dX2_gather_1
theorem eX2_gather_4 : decode mX2_gather.2.1 4 = .ok (.iconst 2, 1) := dX2_gather_4
theorem eX2_gather_5 : decode mX2_gather.2.1 5 = .ok (.if_icmp .ge 5, 3) := dX2_gather_5
theorem eX2_gather_10 : decode mX2_gather.2.1 10 = .ok (.iconst 0, 1) := dX2_gather_10
theorem eX2_gather_11 : decode mX2_gather.2.1 11 = .ok (.istore_n 2, 1) := dX2_gather_11
theorem eX2_gather_12 : decode mX2_gather.2.1 12 = .ok (.aload_n 0, 1) := dX2_gather_12
theorem eX2_gather_13 : decode mX2_gather.2.1 13 = .ok (.getfield 18, 3) := dX2_gather_13
theorem eX2_gather_16 : decode mX2_gather.2.1 16 = .ok (.aload_n 1, 1) := dX2_gather_16
theorem eX2_gather_17 : decode mX2_gather.2.1 17 = .ok (.arraylength, 1) := dX2_gather_17
theorem eX2_gather_18 : decode mX2_gather.2.1 18 = .ok (.invokestatic 152, 3) := dX2_gather_18
theorem eX2_gather_21 : decode mX2_gather.2.1 21 = .ok (.iconst 1, 1) := dX2_gather_21
theorem eX2_gather_22 : decode mX2_gather.2.1 22 = .ok (.isub, 1) := dX2_gather_22
theorem eX2_gather_23 : decode mX2_gather.2.1 23 = .ok (.istore_n 3, 1) := dX2_gather_23
theorem eX2_gather_24 : decode mX2_gather.2.1 24 = .ok (.iload_n 3, 1) := dX2_gather_24
theorem eX2_gather_25 : decode mX2_gather.2.1 25 = .ok (.ifCond .lt 25, 3) := dX2_gather_25
theorem eX2_gather_28 : decode mX2_gather.2.1 28 = .ok (.iload_n 2, 1) := dX2_gather_28
theorem eX2_gather_29 : decode mX2_gather.2.1 29 = .ok (.aload_n 0, 1) := dX2_gather_29
theorem eX2_gather_30 : decode mX2_gather.2.1 30 = .ok (.getfield 21, 3) := dX2_gather_30
theorem eX2_gather_33 : decode mX2_gather.2.1 33 = .ok (.imul, 1) := dX2_gather_33
theorem eX2_gather_34 : decode mX2_gather.2.1 34 = .ok (.aload_n 1, 1) := dX2_gather_34
theorem eX2_gather_35 : decode mX2_gather.2.1 35 = .ok (.iload_n 3, 1) := dX2_gather_35
theorem eX2_gather_36 : decode mX2_gather.2.1 36 = .ok (.iaload, 1) := dX2_gather_36
theorem eX2_gather_37 : decode mX2_gather.2.1 37 = .ok (.aload_n 0, 1) := dX2_gather_37
theorem eX2_gather_38 : decode mX2_gather.2.1 38 = .ok (.getfield 21, 3) := dX2_gather_38
theorem eX2_gather_41 : decode mX2_gather.2.1 41 = .ok (.irem, 1) := dX2_gather_41
theorem eX2_gather_42 : decode mX2_gather.2.1 42 = .ok (.iadd, 1) := dX2_gather_42
theorem eX2_gather_43 : decode mX2_gather.2.1 43 = .ok (.istore_n 2, 1) := dX2_gather_43
theorem eX2_gather_44 : decode mX2_gather.2.1 44 = .ok (.iinc 3 (-1), 3) := dX2_gather_44
theorem eX2_gather_47 : decode mX2_gather.2.1 47 = .ok (.goto (-23), 3) := dX2_gather_47
theorem eX2_gather_50 : decode mX2_gather.2.1 50 = .ok (.iload_n 2, 1) := dX2_gather_50
theorem eX2_gather_51 : decode mX2_gather.2.1 51 = .ok (.ireturn, 1) := dX2_gather_51
theorem eX2_grow_0 : decode mX2_grow.2.1 0 = .ok (.iload_n 2, 1) := dX2_grow_0
theorem eX2_grow_1 : decode mX2_grow.2.1 1 = .ok (.iconst 1, 1) := dX2_grow_1
theorem eX2_grow_2 : decode mX2_grow.2.1 2 = .ok (.iadd, 1) := dX2_grow_2
theorem eX2_grow_3 : decode mX2_grow.2.1 3 = .ok (.istore 4, 2) := dX2_grow_3
theorem eX2_grow_5 : decode mX2_grow.2.1 5 = .ok (.iload 4, 2) := dX2_grow_5
theorem eX2_grow_7 : decode mX2_grow.2.1 7 = .ok (.ifCond .lt 42, 3) := dX2_grow_7
theorem eX2_grow_10 : decode mX2_grow.2.1 10 = .ok (.aload_n 1, 1) := dX2_grow_10
theorem eX2_grow_11 : decode mX2_grow.2.1 11 = .ok (.iload 4, 2) := dX2_grow_11
theorem eX2_grow_13 : decode mX2_grow.2.1 13 = .ok (.iconst 1, 1) := dX2_grow_13
theorem eX2_grow_14 : decode mX2_grow.2.1 14 = .ok (.isub, 1) := dX2_grow_14
theorem eX2_grow_15 : decode mX2_grow.2.1 15 = .ok (.invokestatic 116, 3) := dX2_grow_15
theorem eX2_grow_18 : decode mX2_grow.2.1 18 = .ok (.istore 5, 2) := dX2_grow_18
theorem eX2_grow_20 : decode mX2_grow.2.1 20 = .ok (.aload_n 1, 1) := dX2_grow_20
theorem eX2_grow_21 : decode mX2_grow.2.1 21 = .ok (.iload 4, 2) := dX2_grow_21
theorem eX2_grow_23 : decode mX2_grow.2.1 23 = .ok (.aload_n 0, 1) := dX2_grow_23
theorem eX2_grow_24 : decode mX2_grow.2.1 24 = .ok (.iload 5, 2) := dX2_grow_24
theorem eX2_grow_26 : decode mX2_grow.2.1 26 = .ok (.aload_n 0, 1) := dX2_grow_26
theorem eX2_grow_27 : decode mX2_grow.2.1 27 = .ok (.iload_n 3, 1) := dX2_grow_27
theorem eX2_grow_28 : decode mX2_grow.2.1 28 = .ok (.aload_n 1, 1) := dX2_grow_28
theorem eX2_grow_29 : decode mX2_grow.2.1 29 = .ok (.iload 4, 2) := dX2_grow_29
theorem eX2_grow_31 : decode mX2_grow.2.1 31 = .ok (.invokestatic 116, 3) := dX2_grow_31
theorem eX2_grow_34 : decode mX2_grow.2.1 34 = .ok (.invokevirtual 132, 3) := dX2_grow_34
theorem eX2_grow_37 : decode mX2_grow.2.1 37 = .ok (.invokevirtual 146, 3) := dX2_grow_37
theorem eX2_grow_40 : decode mX2_grow.2.1 40 = .ok (.invokestatic 90, 3) := dX2_grow_40
theorem eX2_grow_43 : decode mX2_grow.2.1 43 = .ok (.iinc 4 (-1), 3) := dX2_grow_43
theorem eX2_grow_46 : decode mX2_grow.2.1 46 = .ok (.goto (-41), 3) := dX2_grow_46
theorem eX2_grow_49 : decode mX2_grow.2.1 49 = .ok (.return_, 1) := dX2_grow_49
theorem eX2_has_0 : decode mX2_has.2.1 0 = .ok (.iload_n 1, 1) := dX2_has_0
theorem eX2_has_1 : decode mX2_has.2.1 1 = .ok (.ifCond .lt 15, 3) := dX2_has_1
theorem eX2_has_4 : decode mX2_has.2.1 4 = .ok (.iload_n 1, 1) := dX2_has_4
theorem eX2_has_5 : decode mX2_has.2.1 5 = .ok (.aload_n 0, 1) := dX2_has_5
theorem eX2_has_6 : decode mX2_has.2.1 6 = .ok (.getfield 27, 3) := dX2_has_6
theorem eX2_has_9 : decode mX2_has.2.1 9 = .ok (.if_icmp .ge 7, 3) := dX2_has_9
theorem eX2_has_12 : decode mX2_has.2.1 12 = .ok (.iconst 1, 1) := dX2_has_12
theorem eX2_has_13 : decode mX2_has.2.1 13 = .ok (.goto 4, 3) := dX2_has_13
theorem eX2_has_16 : decode mX2_has.2.1 16 = .ok (.iconst 0, 1) := dX2_has_16
theorem eX2_has_17 : decode mX2_has.2.1 17 = .ok (.ireturn, 1) := dX2_has_17
theorem eX2_hasRootsOfOne_0 : decode mX2_hasRootsOfOne.2.1 0 = .ok (.iload_n 1, 1) := dX2_hasRootsOfOne_0
theorem eX2_hasRootsOfOne_1 : decode mX2_hasRootsOfOne.2.1 1 = .ok (.iconst 1, 1) := dX2_hasRootsOfOne_1
theorem eX2_hasRootsOfOne_2 : decode mX2_hasRootsOfOne.2.1 2 = .ok (.if_icmp .lt 26, 3) := dX2_hasRootsOfOne_2
theorem eX2_hasRootsOfOne_5 : decode mX2_hasRootsOfOne.2.1 5 = .ok (.iload_n 1, 1) := dX2_hasRootsOfOne_5
theorem eX2_hasRootsOfOne_6 : decode mX2_hasRootsOfOne.2.1 6 = .ok (.bipush 63, 2) := dX2_hasRootsOfOne_6
theorem eX2_hasRootsOfOne_8 : decode mX2_hasRootsOfOne.2.1 8 = .ok (.if_icmp .gt 20, 3) := dX2_hasRootsOfOne_8
theorem eX2_hasRootsOfOne_11 : decode mX2_hasRootsOfOne.2.1 11 = .ok (.aload_n 0, 1) := dX2_hasRootsOfOne_11
theorem eX2_hasRootsOfOne_12 : decode mX2_hasRootsOfOne.2.1 12 = .ok (.getfield 24, 3) := dX2_hasRootsOfOne_12
theorem eX2_hasRootsOfOne_15 : decode mX2_hasRootsOfOne.2.1 15 = .ok (.iconst 1, 1) := dX2_hasRootsOfOne_15
theorem eX2_hasRootsOfOne_16 : decode mX2_hasRootsOfOne.2.1 16 = .ok (.isub, 1) := dX2_hasRootsOfOne_16
theorem eX2_hasRootsOfOne_17 : decode mX2_hasRootsOfOne.2.1 17 = .ok (.iload_n 1, 1) := dX2_hasRootsOfOne_17
theorem eX2_hasRootsOfOne_18 : decode mX2_hasRootsOfOne.2.1 18 = .ok (.invokestatic 87, 3) := dX2_hasRootsOfOne_18
theorem eX2_hasRootsOfOne_21 : decode mX2_hasRootsOfOne.2.1 21 = .ok (.ifCond .ne 7, 3) := dX2_hasRootsOfOne_21
theorem eX2_hasRootsOfOne_24 : decode mX2_hasRootsOfOne.2.1 24 = .ok (.iconst 1, 1) := dX2_hasRootsOfOne_24
theorem eX2_hasRootsOfOne_25 : decode mX2_hasRootsOfOne.2.1 25 = .ok (.goto 4, 3) := dX2_hasRootsOfOne_25
theorem eX2_hasRootsOfOne_28 : decode mX2_hasRootsOfOne.2.1 28 = .ok (.iconst 0, 1) := dX2_hasRootsOfOne_28
theorem eX2_hasRootsOfOne_29 : decode mX2_hasRootsOfOne.2.1 29 = .ok (.ireturn, 1) := dX2_hasRootsOfOne_29
theorem eX2_init_0 : decode mX2_init.2.1 0 = .ok (.aload_n 0, 1) := dX2_init_0
theorem eX2_init_1 : decode mX2_init.2.1 1 = .ok (.invokespecial 3, 3) := dX2_init_1
theorem eX2_init_4 : decode mX2_init.2.1 4 = .ok (.aload_n 0, 1) := dX2_init_4
theorem eX2_init_5 : decode mX2_init.2.1 5 = .ok (.iconst 2, 1) := dX2_init_5
theorem eX2_init_6 : decode mX2_init.2.1 6 = .ok (.putfield 9, 3) := dX2_init_6
theorem eX2_init_9 : decode mX2_init.2.1 9 = .ok (.aload_n 0, 1) := dX2_init_9
theorem eX2_init_10 : decode mX2_init.2.1 10 = .ok (.iconst 1, 1) := dX2_init_10
theorem eX2_init_11 : decode mX2_init.2.1 11 = .ok (.putfield 15, 3) := dX2_init_11
theorem eX2_init_14 : decode mX2_init.2.1 14 = .ok (.aload_n 0, 1) := dX2_init_14
theorem eX2_init_15 : decode mX2_init.2.1 15 = .ok (.iconst 1, 1) := dX2_init_15
theorem eX2_init_16 : decode mX2_init.2.1 16 = .ok (.putfield 18, 3) := dX2_init_16
theorem eX2_init_19 : decode mX2_init.2.1 19 = .ok (.aload_n 0, 1) := dX2_init_19
theorem eX2_init_20 : decode mX2_init.2.1 20 = .ok (.iconst 2, 1) := dX2_init_20
theorem eX2_init_21 : decode mX2_init.2.1 21 = .ok (.putfield 21, 3) := dX2_init_21
theorem eX2_init_24 : decode mX2_init.2.1 24 = .ok (.aload_n 0, 1) := dX2_init_24
theorem eX2_init_25 : decode mX2_init.2.1 25 = .ok (.iconst 2, 1) := dX2_init_25
theorem eX2_init_26 : decode mX2_init.2.1 26 = .ok (.putfield 24, 3) := dX2_init_26
theorem eX2_init_29 : decode mX2_init.2.1 29 = .ok (.aload_n 0, 1) := dX2_init_29
theorem eX2_init_30 : decode mX2_init.2.1 30 = .ok (.iconst 2, 1) := dX2_init_30
theorem eX2_init_31 : decode mX2_init.2.1 31 = .ok (.putfield 27, 3) := dX2_init_31
theorem eX2_init_34 : decode mX2_init.2.1 34 = .ok (.aload_n 0, 1) := dX2_init_34
theorem eX2_init_35 : decode mX2_init.2.1 35 = .ok (.iconst 1, 1) := dX2_init_35
theorem eX2_init_36 : decode mX2_init.2.1 36 = .ok (.putfield 30, 3) := dX2_init_36
theorem eX2_init_39 : decode mX2_init.2.1 39 = .ok (.aload_n 0, 1) := dX2_init_39
theorem eX2_init_40 : decode mX2_init.2.1 40 = .ok (.bipush 7, 2) := dX2_init_40
theorem eX2_init_42 : decode mX2_init.2.1 42 = .ok (.newarray .int, 2) := dX2_init_42
theorem eX2_init_44 : decode mX2_init.2.1 44 = .ok (.putfield 33, 3) := dX2_init_44
theorem eX2_init_47 : decode mX2_init.2.1 47 = .ok (.aload_n 0, 1) := dX2_init_47
theorem eX2_init_48 : decode mX2_init.2.1 48 = .ok (.sipush 3125, 3) := dX2_init_48
theorem eX2_init_51 : decode mX2_init.2.1 51 = .ok (.newarray .int, 2) := dX2_init_51
theorem eX2_init_53 : decode mX2_init.2.1 53 = .ok (.putfield 37, 3) := dX2_init_53
theorem eX2_init_56 : decode mX2_init.2.1 56 = .ok (.aload_n 0, 1) := dX2_init_56
theorem eX2_init_57 : decode mX2_init.2.1 57 = .ok (.sipush 3125, 3) := dX2_init_57
theorem eX2_init_60 : decode mX2_init.2.1 60 = .ok (.newarray .int, 2) := dX2_init_60
theorem eX2_init_62 : decode mX2_init.2.1 62 = .ok (.putfield 40, 3) := dX2_init_62
theorem eX2_init_65 : decode mX2_init.2.1 65 = .ok (.aload_n 0, 1) := dX2_init_65
theorem eX2_init_66 : decode mX2_init.2.1 66 = .ok (.bipush 6, 2) := dX2_init_66
theorem eX2_init_68 : decode mX2_init.2.1 68 = .ok (.bipush 6, 2) := dX2_init_68
theorem eX2_init_70 : decode mX2_init.2.1 70 = .ok (.multianewarray 43 2, 4) := dX2_init_70
theorem eX2_init_74 : decode mX2_init.2.1 74 = .ok (.putfield 45, 3) := dX2_init_74
theorem eX2_init_77 : decode mX2_init.2.1 77 = .ok (.aload_n 0, 1) := dX2_init_77
theorem eX2_init_78 : decode mX2_init.2.1 78 = .ok (.bipush 6, 2) := dX2_init_78
theorem eX2_init_80 : decode mX2_init.2.1 80 = .ok (.newarray .int, 2) := dX2_init_80
theorem eX2_init_82 : decode mX2_init.2.1 82 = .ok (.putfield 48, 3) := dX2_init_82
theorem eX2_init_85 : decode mX2_init.2.1 85 = .ok (.aload_n 0, 1) := dX2_init_85
theorem eX2_init_86 : decode mX2_init.2.1 86 = .ok (.bipush 6, 2) := dX2_init_86
theorem eX2_init_88 : decode mX2_init.2.1 88 = .ok (.newarray .int, 2) := dX2_init_88
theorem eX2_init_90 : decode mX2_init.2.1 90 = .ok (.putfield 51, 3) := dX2_init_90
theorem eX2_init_93 : decode mX2_init.2.1 93 = .ok (.aload_n 0, 1) := dX2_init_93
theorem eX2_init_94 : decode mX2_init.2.1 94 = .ok (.bipush 12, 2) := dX2_init_94
theorem eX2_init_96 : decode mX2_init.2.1 96 = .ok (.newarray .int, 2) := dX2_init_96
theorem eX2_init_98 : decode mX2_init.2.1 98 = .ok (.putfield 54, 3) := dX2_init_98
theorem eX2_init_101 : decode mX2_init.2.1 101 = .ok (.aload_n 0, 1) := dX2_init_101
theorem eX2_init_102 : decode mX2_init.2.1 102 = .ok (.bipush 7, 2) := dX2_init_102
theorem eX2_init_104 : decode mX2_init.2.1 104 = .ok (.newarray .int, 2) := dX2_init_104
theorem eX2_init_106 : decode mX2_init.2.1 106 = .ok (.putfield 57, 3) := dX2_init_106
theorem eX2_init_109 : decode mX2_init.2.1 109 = .ok (.return_, 1) := dX2_init_109
theorem eX2_inverse_0 : decode mX2_inverse.2.1 0 = .ok (.aload_n 0, 1) := dX2_inverse_0
theorem eX2_inverse_1 : decode mX2_inverse.2.1 1 = .ok (.iload_n 1, 1) := dX2_inverse_1
theorem eX2_inverse_2 : decode mX2_inverse.2.1 2 = .ok (.aload_n 0, 1) := dX2_inverse_2
theorem eX2_inverse_3 : decode mX2_inverse.2.1 3 = .ok (.getfield 24, 3) := dX2_inverse_3
theorem eX2_inverse_6 : decode mX2_inverse.2.1 6 = .ok (.iconst 1, 1) := dX2_inverse_6
theorem eX2_inverse_7 : decode mX2_inverse.2.1 7 = .ok (.isub, 1) := dX2_inverse_7
theorem eX2_inverse_8 : decode mX2_inverse.2.1 8 = .ok (.aload_n 0, 1) := dX2_inverse_8
theorem eX2_inverse_9 : decode mX2_inverse.2.1 9 = .ok (.getfield 9, 3) := dX2_inverse_9
theorem eX2_inverse_12 : decode mX2_inverse.2.1 12 = .ok (.aload_n 0, 1) := dX2_inverse_12
theorem eX2_inverse_13 : decode mX2_inverse.2.1 13 = .ok (.getfield 15, 3) := dX2_inverse_13
theorem eX2_inverse_16 : decode mX2_inverse.2.1 16 = .ok (.iconst 1, 1) := dX2_inverse_16
theorem eX2_inverse_17 : decode mX2_inverse.2.1 17 = .ok (.isub, 1) := dX2_inverse_17
theorem eX2_inverse_18 : decode mX2_inverse.2.1 18 = .ok (.invokestatic 64, 3) := dX2_inverse_18
theorem eX2_inverse_21 : decode mX2_inverse.2.1 21 = .ok (.imul, 1) := dX2_inverse_21
theorem eX2_inverse_22 : decode mX2_inverse.2.1 22 = .ok (.iconst 1, 1) := dX2_inverse_22
theorem eX2_inverse_23 : decode mX2_inverse.2.1 23 = .ok (.isub, 1) := dX2_inverse_23
theorem eX2_inverse_24 : decode mX2_inverse.2.1 24 = .ok (.invokevirtual 110, 3) := dX2_inverse_24
theorem eX2_inverse_27 : decode mX2_inverse.2.1 27 = .ok (.ireturn, 1) := dX2_inverse_27
theorem eX2_isUnit_0 : decode mX2_isUnit.2.1 0 = .ok (.aload_n 0, 1) := dX2_isUnit_0
theorem eX2_isUnit_1 : decode mX2_isUnit.2.1 1 = .ok (.iload_n 1, 1) := dX2_isUnit_1
theorem eX2_isUnit_2 : decode mX2_isUnit.2.1 2 = .ok (.invokevirtual 157, 3) := dX2_isUnit_2
theorem eX2_isUnit_5 : decode mX2_isUnit.2.1 5 = .ok (.iconst (-1), 1) := dX2_isUnit_5
theorem eX2_isUnit_6 : decode mX2_isUnit.2.1 6 = .ok (.if_icmp .eq 7, 3) := dX2_isUnit_6
theorem eX2_isUnit_9 : decode mX2_isUnit.2.1 9 = .ok (.iconst 1, 1) := dX2_isUnit_9
theorem eX2_isUnit_10 : decode mX2_isUnit.2.1 10 = .ok (.goto 4, 3) := dX2_isUnit_10
theorem eX2_isUnit_13 : decode mX2_isUnit.2.1 13 = .ok (.iconst 0, 1) := dX2_isUnit_13
theorem eX2_isUnit_14 : decode mX2_isUnit.2.1 14 = .ok (.ireturn, 1) := dX2_isUnit_14
theorem eX2_isWithin_0 : decode mX2_isWithin.2.1 0 = .ok (.iload_n 1, 1) := dX2_isWithin_0
theorem eX2_isWithin_1 : decode mX2_isWithin.2.1 1 = .ok (.istore_n 3, 1) := dX2_isWithin_1
theorem eX2_isWithin_2 : decode mX2_isWithin.2.1 2 = .ok (.iconst 0, 1) := dX2_isWithin_2
theorem eX2_isWithin_3 : decode mX2_isWithin.2.1 3 = .ok (.istore 4, 2) := dX2_isWithin_3
theorem eX2_isWithin_5 : decode mX2_isWithin.2.1 5 = .ok (.iload 4, 2) := dX2_isWithin_5
theorem eX2_isWithin_7 : decode mX2_isWithin.2.1 7 = .ok (.iload_n 2, 1) := dX2_isWithin_7
theorem eX2_isWithin_8 : decode mX2_isWithin.2.1 8 = .ok (.if_icmp .ge 15, 3) := dX2_isWithin_8
theorem eX2_isWithin_11 : decode mX2_isWithin.2.1 11 = .ok (.aload_n 0, 1) := dX2_isWithin_11
theorem eX2_isWithin_12 : decode mX2_isWithin.2.1 12 = .ok (.iload_n 3, 1) := dX2_isWithin_12
theorem eX2_isWithin_13 : decode mX2_isWithin.2.1 13 = .ok (.invokevirtual 170, 3) := dX2_isWithin_13
theorem eX2_isWithin_16 : decode mX2_isWithin.2.1 16 = .ok (.istore_n 3, 1) := dX2_isWithin_16
theorem eX2_isWithin_17 : decode mX2_isWithin.2.1 17 = .ok (.iinc 4 1, 3) := dX2_isWithin_17
theorem eX2_isWithin_20 : decode mX2_isWithin.2.1 20 = .ok (.goto (-15), 3) := dX2_isWithin_20
theorem eX2_isWithin_23 : decode mX2_isWithin.2.1 23 = .ok (.iload_n 3, 1) := dX2_isWithin_23
theorem eX2_isWithin_24 : decode mX2_isWithin.2.1 24 = .ok (.iload_n 1, 1) := dX2_isWithin_24
theorem eX2_isWithin_25 : decode mX2_isWithin.2.1 25 = .ok (.if_icmp .ne 7, 3) := dX2_isWithin_25
theorem eX2_isWithin_28 : decode mX2_isWithin.2.1 28 = .ok (.iconst 1, 1) := dX2_isWithin_28
theorem eX2_isWithin_29 : decode mX2_isWithin.2.1 29 = .ok (.goto 4, 3) := dX2_isWithin_29
theorem eX2_isWithin_32 : decode mX2_isWithin.2.1 32 = .ok (.iconst 0, 1) := dX2_isWithin_32
theorem eX2_isWithin_33 : decode mX2_isWithin.2.1 33 = .ok (.ireturn, 1) := dX2_isWithin_33
theorem eX2_leastWithin_0 : decode mX2_leastWithin.2.1 0 = .ok (.iconst 1, 1) := dX2_leastWithin_0
theorem eX2_leastWithin_1 : decode mX2_leastWithin.2.1 1 = .ok (.istore_n 2, 1) := dX2_leastWithin_1
theorem eX2_leastWithin_2 : decode mX2_leastWithin.2.1 2 = .ok (.iload_n 2, 1) := dX2_leastWithin_2
theorem eX2_leastWithin_3 : decode mX2_leastWithin.2.1 3 = .ok (.aload_n 0, 1) := dX2_leastWithin_3
theorem eX2_leastWithin_4 : decode mX2_leastWithin.2.1 4 = .ok (.getfield 18, 3) := dX2_leastWithin_4
theorem eX2_leastWithin_7 : decode mX2_leastWithin.2.1 7 = .ok (.if_icmp .ge 31, 3) := dX2_leastWithin_7
theorem eX2_leastWithin_10 : decode mX2_leastWithin.2.1 10 = .ok (.aload_n 0, 1) := dX2_leastWithin_10
theorem eX2_leastWithin_11 : decode mX2_leastWithin.2.1 11 = .ok (.getfield 18, 3) := dX2_leastWithin_11
theorem eX2_leastWithin_14 : decode mX2_leastWithin.2.1 14 = .ok (.iload_n 2, 1) := dX2_leastWithin_14
theorem eX2_leastWithin_15 : decode mX2_leastWithin.2.1 15 = .ok (.invokestatic 87, 3) := dX2_leastWithin_15
theorem eX2_leastWithin_18 : decode mX2_leastWithin.2.1 18 = .ok (.ifCond .ne 14, 3) := dX2_leastWithin_18
theorem eX2_leastWithin_21 : decode mX2_leastWithin.2.1 21 = .ok (.aload_n 0, 1) := dX2_leastWithin_21
theorem eX2_leastWithin_22 : decode mX2_leastWithin.2.1 22 = .ok (.iload_n 1, 1) := dX2_leastWithin_22
theorem eX2_leastWithin_23 : decode mX2_leastWithin.2.1 23 = .ok (.iload_n 2, 1) := dX2_leastWithin_23
theorem eX2_leastWithin_24 : decode mX2_leastWithin.2.1 24 = .ok (.invokevirtual 173, 3) := dX2_leastWithin_24
theorem eX2_leastWithin_27 : decode mX2_leastWithin.2.1 27 = .ok (.ifCond .eq 5, 3) := dX2_leastWithin_27
theorem eX2_leastWithin_30 : decode mX2_leastWithin.2.1 30 = .ok (.iload_n 2, 1) := dX2_leastWithin_30
theorem eX2_leastWithin_31 : decode mX2_leastWithin.2.1 31 = .ok (.ireturn, 1) := dX2_leastWithin_31
theorem eX2_leastWithin_32 : decode mX2_leastWithin.2.1 32 = .ok (.iinc 2 1, 3) := dX2_leastWithin_32
theorem eX2_leastWithin_35 : decode mX2_leastWithin.2.1 35 = .ok (.goto (-33), 3) := dX2_leastWithin_35
theorem eX2_leastWithin_38 : decode mX2_leastWithin.2.1 38 = .ok (.aload_n 0, 1) := dX2_leastWithin_38
theorem eX2_leastWithin_39 : decode mX2_leastWithin.2.1 39 = .ok (.getfield 18, 3) := dX2_leastWithin_39
theorem eX2_leastWithin_42 : decode mX2_leastWithin.2.1 42 = .ok (.ireturn, 1) := dX2_leastWithin_42
theorem eX2_level_0 : decode mX2_level.2.1 0 = .ok (.iload_n 1, 1) := dX2_level_0
theorem eX2_level_1 : decode mX2_level.2.1 1 = .ok (.istore_n 2, 1) := dX2_level_1
theorem eX2_level_2 : decode mX2_level.2.1 2 = .ok (.iconst 0, 1) := dX2_level_2
theorem eX2_level_3 : decode mX2_level.2.1 3 = .ok (.istore_n 3, 1) := dX2_level_3
theorem eX2_level_4 : decode mX2_level.2.1 4 = .ok (.iload_n 3, 1) := dX2_level_4
theorem eX2_level_5 : decode mX2_level.2.1 5 = .ok (.aload_n 0, 1) := dX2_level_5
theorem eX2_level_6 : decode mX2_level.2.1 6 = .ok (.getfield 15, 3) := dX2_level_6
theorem eX2_level_9 : decode mX2_level.2.1 9 = .ok (.if_icmp .ge 25, 3) := dX2_level_9
theorem eX2_level_12 : decode mX2_level.2.1 12 = .ok (.aload_n 0, 1) := dX2_level_12
theorem eX2_level_13 : decode mX2_level.2.1 13 = .ok (.iload_n 2, 1) := dX2_level_13
theorem eX2_level_14 : decode mX2_level.2.1 14 = .ok (.invokevirtual 167, 3) := dX2_level_14
theorem eX2_level_17 : decode mX2_level.2.1 17 = .ok (.ifCond .eq 5, 3) := dX2_level_17
theorem eX2_level_20 : decode mX2_level.2.1 20 = .ok (.iload_n 3, 1) := dX2_level_20
theorem eX2_level_21 : decode mX2_level.2.1 21 = .ok (.ireturn, 1) := dX2_level_21
theorem eX2_level_22 : decode mX2_level.2.1 22 = .ok (.aload_n 0, 1) := dX2_level_22
theorem eX2_level_23 : decode mX2_level.2.1 23 = .ok (.iload_n 2, 1) := dX2_level_23
theorem eX2_level_24 : decode mX2_level.2.1 24 = .ok (.invokevirtual 164, 3) := dX2_level_24
theorem eX2_level_27 : decode mX2_level.2.1 27 = .ok (.istore_n 2, 1) := dX2_level_27
theorem eX2_level_28 : decode mX2_level.2.1 28 = .ok (.iinc 3 1, 3) := dX2_level_28
theorem eX2_level_31 : decode mX2_level.2.1 31 = .ok (.goto (-27), 3) := dX2_level_31
theorem eX2_level_34 : decode mX2_level.2.1 34 = .ok (.aload_n 0, 1) := dX2_level_34
theorem eX2_level_35 : decode mX2_level.2.1 35 = .ok (.getfield 15, 3) := dX2_level_35
theorem eX2_level_38 : decode mX2_level.2.1 38 = .ok (.ireturn, 1) := dX2_level_38
theorem eX2_liftModulus_0 : decode mX2_liftModulus.2.1 0 = .ok (.aload_n 0, 1) := dX2_liftModulus_0
theorem eX2_liftModulus_1 : decode mX2_liftModulus.2.1 1 = .ok (.getfield 9, 3) := dX2_liftModulus_1
theorem eX2_liftModulus_4 : decode mX2_liftModulus.2.1 4 = .ok (.aload_n 0, 1) := dX2_liftModulus_4
theorem eX2_liftModulus_5 : decode mX2_liftModulus.2.1 5 = .ok (.getfield 18, 3) := dX2_liftModulus_5
theorem eX2_liftModulus_8 : decode mX2_liftModulus.2.1 8 = .ok (.invokestatic 82, 3) := dX2_liftModulus_8
theorem eX2_liftModulus_11 : decode mX2_liftModulus.2.1 11 = .ok (.istore_n 1, 1) := dX2_liftModulus_11
theorem eX2_liftModulus_12 : decode mX2_liftModulus.2.1 12 = .ok (.iconst 0, 1) := dX2_liftModulus_12
theorem eX2_liftModulus_13 : decode mX2_liftModulus.2.1 13 = .ok (.istore_n 2, 1) := dX2_liftModulus_13
theorem eX2_liftModulus_14 : decode mX2_liftModulus.2.1 14 = .ok (.iload_n 2, 1) := dX2_liftModulus_14
theorem eX2_liftModulus_15 : decode mX2_liftModulus.2.1 15 = .ok (.aload_n 0, 1) := dX2_liftModulus_15
theorem eX2_liftModulus_16 : decode mX2_liftModulus.2.1 16 = .ok (.getfield 18, 3) := dX2_liftModulus_16
theorem eX2_liftModulus_19 : decode mX2_liftModulus.2.1 19 = .ok (.if_icmp .gt 34, 3) := dX2_liftModulus_19
theorem eX2_liftModulus_22 : decode mX2_liftModulus.2.1 22 = .ok (.aload_n 0, 1) := dX2_liftModulus_22
theorem eX2_liftModulus_23 : decode mX2_liftModulus.2.1 23 = .ok (.getfield 33, 3) := dX2_liftModulus_23
theorem eX2_liftModulus_26 : decode mX2_liftModulus.2.1 26 = .ok (.iload_n 2, 1) := dX2_liftModulus_26
theorem eX2_liftModulus_27 : decode mX2_liftModulus.2.1 27 = .ok (.iload_n 1, 1) := dX2_liftModulus_27
theorem eX2_liftModulus_28 : decode mX2_liftModulus.2.1 28 = .ok (.aload_n 0, 1) := dX2_liftModulus_28
theorem eX2_liftModulus_29 : decode mX2_liftModulus.2.1 29 = .ok (.getfield 9, 3) := dX2_liftModulus_29
theorem eX2_liftModulus_32 : decode mX2_liftModulus.2.1 32 = .ok (.invokestatic 87, 3) := dX2_liftModulus_32
theorem eX2_liftModulus_35 : decode mX2_liftModulus.2.1 35 = .ok (.invokestatic 90, 3) := dX2_liftModulus_35
theorem eX2_liftModulus_38 : decode mX2_liftModulus.2.1 38 = .ok (.iload_n 1, 1) := dX2_liftModulus_38
theorem eX2_liftModulus_39 : decode mX2_liftModulus.2.1 39 = .ok (.aload_n 0, 1) := dX2_liftModulus_39
theorem eX2_liftModulus_40 : decode mX2_liftModulus.2.1 40 = .ok (.getfield 9, 3) := dX2_liftModulus_40
theorem eX2_liftModulus_43 : decode mX2_liftModulus.2.1 43 = .ok (.invokestatic 94, 3) := dX2_liftModulus_43
theorem eX2_liftModulus_46 : decode mX2_liftModulus.2.1 46 = .ok (.istore_n 1, 1) := dX2_liftModulus_46
theorem eX2_liftModulus_47 : decode mX2_liftModulus.2.1 47 = .ok (.iinc 2 1, 3) := dX2_liftModulus_47
theorem eX2_liftModulus_50 : decode mX2_liftModulus.2.1 50 = .ok (.goto (-36), 3) := dX2_liftModulus_50
theorem eX2_liftModulus_53 : decode mX2_liftModulus.2.1 53 = .ok (.aload_n 0, 1) := dX2_liftModulus_53
theorem eX2_liftModulus_54 : decode mX2_liftModulus.2.1 54 = .ok (.getfield 57, 3) := dX2_liftModulus_54
theorem eX2_liftModulus_57 : decode mX2_liftModulus.2.1 57 = .ok (.iconst 0, 1) := dX2_liftModulus_57
theorem eX2_liftModulus_58 : decode mX2_liftModulus.2.1 58 = .ok (.invokestatic 97, 3) := dX2_liftModulus_58
theorem eX2_liftModulus_61 : decode mX2_liftModulus.2.1 61 = .ok (.aload_n 0, 1) := dX2_liftModulus_61
theorem eX2_liftModulus_62 : decode mX2_liftModulus.2.1 62 = .ok (.getfield 57, 3) := dX2_liftModulus_62
theorem eX2_liftModulus_65 : decode mX2_liftModulus.2.1 65 = .ok (.iconst 0, 1) := dX2_liftModulus_65
theorem eX2_liftModulus_66 : decode mX2_liftModulus.2.1 66 = .ok (.iconst 1, 1) := dX2_liftModulus_66
theorem eX2_liftModulus_67 : decode mX2_liftModulus.2.1 67 = .ok (.iastore, 1) := dX2_liftModulus_67
theorem eX2_liftModulus_68 : decode mX2_liftModulus.2.1 68 = .ok (.aload_n 0, 1) := dX2_liftModulus_68
theorem eX2_liftModulus_69 : decode mX2_liftModulus.2.1 69 = .ok (.aload_n 0, 1) := dX2_liftModulus_69
theorem eX2_liftModulus_70 : decode mX2_liftModulus.2.1 70 = .ok (.invokevirtual 103, 3) := dX2_liftModulus_70
theorem eX2_liftModulus_73 : decode mX2_liftModulus.2.1 73 = .ok (.aload_n 0, 1) := dX2_liftModulus_73
theorem eX2_liftModulus_74 : decode mX2_liftModulus.2.1 74 = .ok (.invokevirtual 107, 3) := dX2_liftModulus_74
theorem eX2_liftModulus_77 : decode mX2_liftModulus.2.1 77 = .ok (.invokevirtual 110, 3) := dX2_liftModulus_77
theorem eX2_liftModulus_80 : decode mX2_liftModulus.2.1 80 = .ok (.istore_n 2, 1) := dX2_liftModulus_80
theorem eX2_liftModulus_81 : decode mX2_liftModulus.2.1 81 = .ok (.iconst 0, 1) := dX2_liftModulus_81
theorem eX2_liftModulus_82 : decode mX2_liftModulus.2.1 82 = .ok (.istore_n 3, 1) := dX2_liftModulus_82
theorem eX2_liftModulus_83 : decode mX2_liftModulus.2.1 83 = .ok (.iload_n 3, 1) := dX2_liftModulus_83
theorem eX2_liftModulus_84 : decode mX2_liftModulus.2.1 84 = .ok (.aload_n 0, 1) := dX2_liftModulus_84
theorem eX2_liftModulus_85 : decode mX2_liftModulus.2.1 85 = .ok (.getfield 18, 3) := dX2_liftModulus_85
theorem eX2_liftModulus_88 : decode mX2_liftModulus.2.1 88 = .ok (.if_icmp .ge 29, 3) := dX2_liftModulus_88
theorem eX2_liftModulus_91 : decode mX2_liftModulus.2.1 91 = .ok (.aload_n 0, 1) := dX2_liftModulus_91
theorem eX2_liftModulus_92 : decode mX2_liftModulus.2.1 92 = .ok (.aload_n 0, 1) := dX2_liftModulus_92
theorem eX2_liftModulus_93 : decode mX2_liftModulus.2.1 93 = .ok (.getfield 57, 3) := dX2_liftModulus_93
theorem eX2_liftModulus_96 : decode mX2_liftModulus.2.1 96 = .ok (.iload_n 3, 1) := dX2_liftModulus_96
theorem eX2_liftModulus_97 : decode mX2_liftModulus.2.1 97 = .ok (.iload_n 2, 1) := dX2_liftModulus_97
theorem eX2_liftModulus_98 : decode mX2_liftModulus.2.1 98 = .ok (.invokevirtual 113, 3) := dX2_liftModulus_98
theorem eX2_liftModulus_101 : decode mX2_liftModulus.2.1 101 = .ok (.aload_n 0, 1) := dX2_liftModulus_101
theorem eX2_liftModulus_102 : decode mX2_liftModulus.2.1 102 = .ok (.iload_n 2, 1) := dX2_liftModulus_102
theorem eX2_liftModulus_103 : decode mX2_liftModulus.2.1 103 = .ok (.aload_n 0, 1) := dX2_liftModulus_103
theorem eX2_liftModulus_104 : decode mX2_liftModulus.2.1 104 = .ok (.getfield 9, 3) := dX2_liftModulus_104
theorem eX2_liftModulus_107 : decode mX2_liftModulus.2.1 107 = .ok (.invokevirtual 110, 3) := dX2_liftModulus_107
theorem eX2_liftModulus_110 : decode mX2_liftModulus.2.1 110 = .ok (.istore_n 2, 1) := dX2_liftModulus_110
theorem eX2_liftModulus_111 : decode mX2_liftModulus.2.1 111 = .ok (.iinc 3 1, 3) := dX2_liftModulus_111
theorem eX2_liftModulus_114 : decode mX2_liftModulus.2.1 114 = .ok (.goto (-31), 3) := dX2_liftModulus_114
theorem eX2_liftModulus_117 : decode mX2_liftModulus.2.1 117 = .ok (.iconst 0, 1) := dX2_liftModulus_117
theorem eX2_liftModulus_118 : decode mX2_liftModulus.2.1 118 = .ok (.istore_n 3, 1) := dX2_liftModulus_118
theorem eX2_liftModulus_119 : decode mX2_liftModulus.2.1 119 = .ok (.iload_n 3, 1) := dX2_liftModulus_119
theorem eX2_liftModulus_120 : decode mX2_liftModulus.2.1 120 = .ok (.aload_n 0, 1) := dX2_liftModulus_120
theorem eX2_liftModulus_121 : decode mX2_liftModulus.2.1 121 = .ok (.getfield 18, 3) := dX2_liftModulus_121
theorem eX2_liftModulus_124 : decode mX2_liftModulus.2.1 124 = .ok (.if_icmp .gt 25, 3) := dX2_liftModulus_124
theorem eX2_liftModulus_127 : decode mX2_liftModulus.2.1 127 = .ok (.aload_n 0, 1) := dX2_liftModulus_127
theorem eX2_liftModulus_128 : decode mX2_liftModulus.2.1 128 = .ok (.getfield 33, 3) := dX2_liftModulus_128
theorem eX2_liftModulus_131 : decode mX2_liftModulus.2.1 131 = .ok (.iload_n 3, 1) := dX2_liftModulus_131
theorem eX2_liftModulus_132 : decode mX2_liftModulus.2.1 132 = .ok (.aload_n 0, 1) := dX2_liftModulus_132
theorem eX2_liftModulus_133 : decode mX2_liftModulus.2.1 133 = .ok (.getfield 57, 3) := dX2_liftModulus_133
theorem eX2_liftModulus_136 : decode mX2_liftModulus.2.1 136 = .ok (.iload_n 3, 1) := dX2_liftModulus_136
theorem eX2_liftModulus_137 : decode mX2_liftModulus.2.1 137 = .ok (.invokestatic 116, 3) := dX2_liftModulus_137
theorem eX2_liftModulus_140 : decode mX2_liftModulus.2.1 140 = .ok (.invokestatic 90, 3) := dX2_liftModulus_140
theorem eX2_liftModulus_143 : decode mX2_liftModulus.2.1 143 = .ok (.iinc 3 1, 3) := dX2_liftModulus_143
theorem eX2_liftModulus_146 : decode mX2_liftModulus.2.1 146 = .ok (.goto (-27), 3) := dX2_liftModulus_146
theorem eX2_liftModulus_149 : decode mX2_liftModulus.2.1 149 = .ok (.return_, 1) := dX2_liftModulus_149
theorem eX2_makesAllRoots_0 : decode mX2_makesAllRoots.2.1 0 = .ok (.iload_n 1, 1) := dX2_makesAllRoots_0
theorem eX2_makesAllRoots_1 : decode mX2_makesAllRoots.2.1 1 = .ok (.istore_n 2, 1) := dX2_makesAllRoots_1
theorem eX2_makesAllRoots_2 : decode mX2_makesAllRoots.2.1 2 = .ok (.iconst 1, 1) := dX2_makesAllRoots_2
theorem eX2_makesAllRoots_3 : decode mX2_makesAllRoots.2.1 3 = .ok (.istore_n 3, 1) := dX2_makesAllRoots_3
theorem eX2_makesAllRoots_4 : decode mX2_makesAllRoots.2.1 4 = .ok (.iload_n 3, 1) := dX2_makesAllRoots_4
theorem eX2_makesAllRoots_5 : decode mX2_makesAllRoots.2.1 5 = .ok (.aload_n 0, 1) := dX2_makesAllRoots_5
theorem eX2_makesAllRoots_6 : decode mX2_makesAllRoots.2.1 6 = .ok (.getfield 24, 3) := dX2_makesAllRoots_6
theorem eX2_makesAllRoots_9 : decode mX2_makesAllRoots.2.1 9 = .ok (.iconst 1, 1) := dX2_makesAllRoots_9
theorem eX2_makesAllRoots_10 : decode mX2_makesAllRoots.2.1 10 = .ok (.isub, 1) := dX2_makesAllRoots_10
theorem eX2_makesAllRoots_11 : decode mX2_makesAllRoots.2.1 11 = .ok (.if_icmp .ge 23, 3) := dX2_makesAllRoots_11
theorem eX2_makesAllRoots_14 : decode mX2_makesAllRoots.2.1 14 = .ok (.iload_n 2, 1) := dX2_makesAllRoots_14
theorem eX2_makesAllRoots_15 : decode mX2_makesAllRoots.2.1 15 = .ok (.iconst 1, 1) := dX2_makesAllRoots_15
theorem eX2_makesAllRoots_16 : decode mX2_makesAllRoots.2.1 16 = .ok (.if_icmp .ne 5, 3) := dX2_makesAllRoots_16
theorem eX2_makesAllRoots_19 : decode mX2_makesAllRoots.2.1 19 = .ok (.iconst 0, 1) := dX2_makesAllRoots_19
theorem eX2_makesAllRoots_20 : decode mX2_makesAllRoots.2.1 20 = .ok (.ireturn, 1) := dX2_makesAllRoots_20
theorem eX2_makesAllRoots_21 : decode mX2_makesAllRoots.2.1 21 = .ok (.aload_n 0, 1) := dX2_makesAllRoots_21
theorem eX2_makesAllRoots_22 : decode mX2_makesAllRoots.2.1 22 = .ok (.iload_n 2, 1) := dX2_makesAllRoots_22
theorem eX2_makesAllRoots_23 : decode mX2_makesAllRoots.2.1 23 = .ok (.iload_n 1, 1) := dX2_makesAllRoots_23
theorem eX2_makesAllRoots_24 : decode mX2_makesAllRoots.2.1 24 = .ok (.invokevirtual 132, 3) := dX2_makesAllRoots_24
theorem eX2_makesAllRoots_27 : decode mX2_makesAllRoots.2.1 27 = .ok (.istore_n 2, 1) := dX2_makesAllRoots_27
theorem eX2_makesAllRoots_28 : decode mX2_makesAllRoots.2.1 28 = .ok (.iinc 3 1, 3) := dX2_makesAllRoots_28
theorem eX2_makesAllRoots_31 : decode mX2_makesAllRoots.2.1 31 = .ok (.goto (-27), 3) := dX2_makesAllRoots_31
theorem eX2_makesAllRoots_34 : decode mX2_makesAllRoots.2.1 34 = .ok (.iconst 1, 1) := dX2_makesAllRoots_34
theorem eX2_makesAllRoots_35 : decode mX2_makesAllRoots.2.1 35 = .ok (.ireturn, 1) := dX2_makesAllRoots_35
theorem eX2_manyOfLevel_0 : decode mX2_manyOfLevel.2.1 0 = .ok (.iload_n 1, 1) := dX2_manyOfLevel_0
theorem eX2_manyOfLevel_1 : decode mX2_manyOfLevel.2.1 1 = .ok (.aload_n 0, 1) := dX2_manyOfLevel_1
theorem eX2_manyOfLevel_2 : decode mX2_manyOfLevel.2.1 2 = .ok (.getfield 15, 3) := dX2_manyOfLevel_2
theorem eX2_manyOfLevel_5 : decode mX2_manyOfLevel.2.1 5 = .ok (.if_icmp .lt 17, 3) := dX2_manyOfLevel_5
theorem eX2_manyOfLevel_8 : decode mX2_manyOfLevel.2.1 8 = .ok (.iload_n 1, 1) := dX2_manyOfLevel_8
theorem eX2_manyOfLevel_9 : decode mX2_manyOfLevel.2.1 9 = .ok (.aload_n 0, 1) := dX2_manyOfLevel_9
theorem eX2_manyOfLevel_10 : decode mX2_manyOfLevel.2.1 10 = .ok (.getfield 15, 3) := dX2_manyOfLevel_10
theorem eX2_manyOfLevel_13 : decode mX2_manyOfLevel.2.1 13 = .ok (.if_icmp .ne 7, 3) := dX2_manyOfLevel_13
theorem eX2_manyOfLevel_16 : decode mX2_manyOfLevel.2.1 16 = .ok (.iconst 1, 1) := dX2_manyOfLevel_16
theorem eX2_manyOfLevel_17 : decode mX2_manyOfLevel.2.1 17 = .ok (.goto 4, 3) := dX2_manyOfLevel_17
theorem eX2_manyOfLevel_20 : decode mX2_manyOfLevel.2.1 20 = .ok (.iconst 0, 1) := dX2_manyOfLevel_20
theorem eX2_manyOfLevel_21 : decode mX2_manyOfLevel.2.1 21 = .ok (.ireturn, 1) := dX2_manyOfLevel_21
theorem eX2_manyOfLevel_22 : decode mX2_manyOfLevel.2.1 22 = .ok (.aload_n 0, 1) := dX2_manyOfLevel_22
theorem eX2_manyOfLevel_23 : decode mX2_manyOfLevel.2.1 23 = .ok (.getfield 24, 3) := dX2_manyOfLevel_23
theorem eX2_manyOfLevel_26 : decode mX2_manyOfLevel.2.1 26 = .ok (.aload_n 0, 1) := dX2_manyOfLevel_26
theorem eX2_manyOfLevel_27 : decode mX2_manyOfLevel.2.1 27 = .ok (.getfield 15, 3) := dX2_manyOfLevel_27
theorem eX2_manyOfLevel_30 : decode mX2_manyOfLevel.2.1 30 = .ok (.iload_n 1, 1) := dX2_manyOfLevel_30
theorem eX2_manyOfLevel_31 : decode mX2_manyOfLevel.2.1 31 = .ok (.isub, 1) := dX2_manyOfLevel_31
theorem eX2_manyOfLevel_32 : decode mX2_manyOfLevel.2.1 32 = .ok (.invokestatic 64, 3) := dX2_manyOfLevel_32
theorem eX2_manyOfLevel_35 : decode mX2_manyOfLevel.2.1 35 = .ok (.aload_n 0, 1) := dX2_manyOfLevel_35
theorem eX2_manyOfLevel_36 : decode mX2_manyOfLevel.2.1 36 = .ok (.getfield 24, 3) := dX2_manyOfLevel_36
theorem eX2_manyOfLevel_39 : decode mX2_manyOfLevel.2.1 39 = .ok (.aload_n 0, 1) := dX2_manyOfLevel_39
theorem eX2_manyOfLevel_40 : decode mX2_manyOfLevel.2.1 40 = .ok (.getfield 15, 3) := dX2_manyOfLevel_40
theorem eX2_manyOfLevel_43 : decode mX2_manyOfLevel.2.1 43 = .ok (.iload_n 1, 1) := dX2_manyOfLevel_43
theorem eX2_manyOfLevel_44 : decode mX2_manyOfLevel.2.1 44 = .ok (.isub, 1) := dX2_manyOfLevel_44
theorem eX2_manyOfLevel_45 : decode mX2_manyOfLevel.2.1 45 = .ok (.iconst 1, 1) := dX2_manyOfLevel_45
theorem eX2_manyOfLevel_46 : decode mX2_manyOfLevel.2.1 46 = .ok (.isub, 1) := dX2_manyOfLevel_46
theorem eX2_manyOfLevel_47 : decode mX2_manyOfLevel.2.1 47 = .ok (.invokestatic 64, 3) := dX2_manyOfLevel_47
theorem eX2_manyOfLevel_50 : decode mX2_manyOfLevel.2.1 50 = .ok (.isub, 1) := dX2_manyOfLevel_50
theorem eX2_manyOfLevel_51 : decode mX2_manyOfLevel.2.1 51 = .ok (.ireturn, 1) := dX2_manyOfLevel_51
theorem eX2_manyOfNorm_0 : decode mX2_manyOfNorm.2.1 0 = .ok (.iconst 0, 1) := dX2_manyOfNorm_0
theorem eX2_manyOfNorm_1 : decode mX2_manyOfNorm.2.1 1 = .ok (.istore_n 2, 1) := dX2_manyOfNorm_1
theorem eX2_manyOfNorm_2 : decode mX2_manyOfNorm.2.1 2 = .ok (.iconst 0, 1) := dX2_manyOfNorm_2
theorem eX2_manyOfNorm_3 : decode mX2_manyOfNorm.2.1 3 = .ok (.istore_n 3, 1) := dX2_manyOfNorm_3
theorem eX2_manyOfNorm_4 : decode mX2_manyOfNorm.2.1 4 = .ok (.iload_n 3, 1) := dX2_manyOfNorm_4
theorem eX2_manyOfNorm_5 : decode mX2_manyOfNorm.2.1 5 = .ok (.aload_n 0, 1) := dX2_manyOfNorm_5
theorem eX2_manyOfNorm_6 : decode mX2_manyOfNorm.2.1 6 = .ok (.getfield 27, 3) := dX2_manyOfNorm_6
theorem eX2_manyOfNorm_9 : decode mX2_manyOfNorm.2.1 9 = .ok (.if_icmp .ge 21, 3) := dX2_manyOfNorm_9
theorem eX2_manyOfNorm_12 : decode mX2_manyOfNorm.2.1 12 = .ok (.aload_n 0, 1) := dX2_manyOfNorm_12
theorem eX2_manyOfNorm_13 : decode mX2_manyOfNorm.2.1 13 = .ok (.iload_n 3, 1) := dX2_manyOfNorm_13
theorem eX2_manyOfNorm_14 : decode mX2_manyOfNorm.2.1 14 = .ok (.invokevirtual 192, 3) := dX2_manyOfNorm_14
theorem eX2_manyOfNorm_17 : decode mX2_manyOfNorm.2.1 17 = .ok (.iload_n 1, 1) := dX2_manyOfNorm_17
theorem eX2_manyOfNorm_18 : decode mX2_manyOfNorm.2.1 18 = .ok (.if_icmp .ne 6, 3) := dX2_manyOfNorm_18
theorem eX2_manyOfNorm_21 : decode mX2_manyOfNorm.2.1 21 = .ok (.iinc 2 1, 3) := dX2_manyOfNorm_21
theorem eX2_manyOfNorm_24 : decode mX2_manyOfNorm.2.1 24 = .ok (.iinc 3 1, 3) := dX2_manyOfNorm_24
theorem eX2_manyOfNorm_27 : decode mX2_manyOfNorm.2.1 27 = .ok (.goto (-23), 3) := dX2_manyOfNorm_27
theorem eX2_manyOfNorm_30 : decode mX2_manyOfNorm.2.1 30 = .ok (.iload_n 2, 1) := dX2_manyOfNorm_30
theorem eX2_manyOfNorm_31 : decode mX2_manyOfNorm.2.1 31 = .ok (.ireturn, 1) := dX2_manyOfNorm_31
theorem eX2_mayReach_0 : decode mX2_mayReach.2.1 0 = .ok (.aload_n 0, 1) := dX2_mayReach_0
theorem eX2_mayReach_1 : decode mX2_mayReach.2.1 1 = .ok (.iload_n 1, 1) := dX2_mayReach_1
theorem eX2_mayReach_2 : decode mX2_mayReach.2.1 2 = .ok (.invokevirtual 157, 3) := dX2_mayReach_2
theorem eX2_mayReach_5 : decode mX2_mayReach.2.1 5 = .ok (.istore 4, 2) := dX2_mayReach_5
theorem eX2_mayReach_7 : decode mX2_mayReach.2.1 7 = .ok (.aload_n 0, 1) := dX2_mayReach_7
theorem eX2_mayReach_8 : decode mX2_mayReach.2.1 8 = .ok (.iload_n 3, 1) := dX2_mayReach_8
theorem eX2_mayReach_9 : decode mX2_mayReach.2.1 9 = .ok (.invokevirtual 157, 3) := dX2_mayReach_9
theorem eX2_mayReach_12 : decode mX2_mayReach.2.1 12 = .ok (.iload 4, 2) := dX2_mayReach_12
theorem eX2_mayReach_14 : decode mX2_mayReach.2.1 14 = .ok (.iconst (-1), 1) := dX2_mayReach_14
theorem eX2_mayReach_15 : decode mX2_mayReach.2.1 15 = .ok (.if_icmp .ne 7, 3) := dX2_mayReach_15
theorem eX2_mayReach_18 : decode mX2_mayReach.2.1 18 = .ok (.iconst (-1), 1) := dX2_mayReach_18
theorem eX2_mayReach_19 : decode mX2_mayReach.2.1 19 = .ok (.goto 16, 3) := dX2_mayReach_19
theorem eX2_mayReach_22 : decode mX2_mayReach.2.1 22 = .ok (.iload 4, 2) := dX2_mayReach_22
theorem eX2_mayReach_24 : decode mX2_mayReach.2.1 24 = .ok (.iload_n 2, 1) := dX2_mayReach_24
theorem eX2_mayReach_25 : decode mX2_mayReach.2.1 25 = .ok (.imul, 1) := dX2_mayReach_25
theorem eX2_mayReach_26 : decode mX2_mayReach.2.1 26 = .ok (.aload_n 0, 1) := dX2_mayReach_26
theorem eX2_mayReach_27 : decode mX2_mayReach.2.1 27 = .ok (.getfield 24, 3) := dX2_mayReach_27
theorem eX2_mayReach_30 : decode mX2_mayReach.2.1 30 = .ok (.iconst 1, 1) := dX2_mayReach_30
theorem eX2_mayReach_31 : decode mX2_mayReach.2.1 31 = .ok (.isub, 1) := dX2_mayReach_31
theorem eX2_mayReach_32 : decode mX2_mayReach.2.1 32 = .ok (.invokestatic 87, 3) := dX2_mayReach_32
theorem eX2_mayReach_35 : decode mX2_mayReach.2.1 35 = .ok (.if_icmp .ne 7, 3) := dX2_mayReach_35
theorem eX2_mayReach_38 : decode mX2_mayReach.2.1 38 = .ok (.iconst 1, 1) := dX2_mayReach_38
theorem eX2_mayReach_39 : decode mX2_mayReach.2.1 39 = .ok (.goto 4, 3) := dX2_mayReach_39
theorem eX2_mayReach_42 : decode mX2_mayReach.2.1 42 = .ok (.iconst 0, 1) := dX2_mayReach_42
theorem eX2_mayReach_43 : decode mX2_mayReach.2.1 43 = .ok (.ireturn, 1) := dX2_mayReach_43
theorem eX2_minus_0 : decode mX2_minus.2.1 0 = .ok (.iload_n 1, 1) := dX2_minus_0
theorem eX2_minus_1 : decode mX2_minus.2.1 1 = .ok (.iload_n 2, 1) := dX2_minus_1
theorem eX2_minus_2 : decode mX2_minus.2.1 2 = .ok (.aload_n 0, 1) := dX2_minus_2
theorem eX2_minus_3 : decode mX2_minus.2.1 3 = .ok (.getfield 21, 3) := dX2_minus_3
theorem eX2_minus_6 : decode mX2_minus.2.1 6 = .ok (.iconst 1, 1) := dX2_minus_6
theorem eX2_minus_7 : decode mX2_minus.2.1 7 = .ok (.isub, 1) := dX2_minus_7
theorem eX2_minus_8 : decode mX2_minus.2.1 8 = .ok (.aload_n 0, 1) := dX2_minus_8
theorem eX2_minus_9 : decode mX2_minus.2.1 9 = .ok (.getfield 21, 3) := dX2_minus_9
theorem eX2_minus_12 : decode mX2_minus.2.1 12 = .ok (.invokestatic 135, 3) := dX2_minus_12
theorem eX2_minus_15 : decode mX2_minus.2.1 15 = .ok (.ireturn, 1) := dX2_minus_15
theorem eX2_moved_0 : decode mX2_moved.2.1 0 = .ok (.aload_n 0, 1) := dX2_moved_0
theorem eX2_moved_1 : decode mX2_moved.2.1 1 = .ok (.iload_n 1, 1) := dX2_moved_1
theorem eX2_moved_2 : decode mX2_moved.2.1 2 = .ok (.aload_n 0, 1) := dX2_moved_2
theorem eX2_moved_3 : decode mX2_moved.2.1 3 = .ok (.getfield 48, 3) := dX2_moved_3
theorem eX2_moved_6 : decode mX2_moved.2.1 6 = .ok (.invokevirtual 120, 3) := dX2_moved_6
theorem eX2_moved_9 : decode mX2_moved.2.1 9 = .ok (.aload_n 0, 1) := dX2_moved_9
theorem eX2_moved_10 : decode mX2_moved.2.1 10 = .ok (.getfield 54, 3) := dX2_moved_10
theorem eX2_moved_13 : decode mX2_moved.2.1 13 = .ok (.iconst 0, 1) := dX2_moved_13
theorem eX2_moved_14 : decode mX2_moved.2.1 14 = .ok (.invokestatic 97, 3) := dX2_moved_14
theorem eX2_moved_17 : decode mX2_moved.2.1 17 = .ok (.iconst 0, 1) := dX2_moved_17
theorem eX2_moved_18 : decode mX2_moved.2.1 18 = .ok (.istore_n 2, 1) := dX2_moved_18
theorem eX2_moved_19 : decode mX2_moved.2.1 19 = .ok (.iload_n 2, 1) := dX2_moved_19
theorem eX2_moved_20 : decode mX2_moved.2.1 20 = .ok (.bipush 6, 2) := dX2_moved_20
theorem eX2_moved_22 : decode mX2_moved.2.1 22 = .ok (.if_icmp .ge 47, 3) := dX2_moved_22
theorem eX2_moved_25 : decode mX2_moved.2.1 25 = .ok (.iconst 0, 1) := dX2_moved_25
theorem eX2_moved_26 : decode mX2_moved.2.1 26 = .ok (.istore_n 3, 1) := dX2_moved_26
theorem eX2_moved_27 : decode mX2_moved.2.1 27 = .ok (.iload_n 3, 1) := dX2_moved_27
theorem eX2_moved_28 : decode mX2_moved.2.1 28 = .ok (.bipush 6, 2) := dX2_moved_28
theorem eX2_moved_30 : decode mX2_moved.2.1 30 = .ok (.if_icmp .ge 33, 3) := dX2_moved_30
theorem eX2_moved_33 : decode mX2_moved.2.1 33 = .ok (.aload_n 0, 1) := dX2_moved_33
theorem eX2_moved_34 : decode mX2_moved.2.1 34 = .ok (.getfield 54, 3) := dX2_moved_34
theorem eX2_moved_37 : decode mX2_moved.2.1 37 = .ok (.iload_n 3, 1) := dX2_moved_37
theorem eX2_moved_38 : decode mX2_moved.2.1 38 = .ok (.dup2, 1) := dX2_moved_38
theorem eX2_moved_39 : decode mX2_moved.2.1 39 = .ok (.iaload, 1) := dX2_moved_39
theorem eX2_moved_40 : decode mX2_moved.2.1 40 = .ok (.aload_n 0, 1) := dX2_moved_40
theorem eX2_moved_41 : decode mX2_moved.2.1 41 = .ok (.getfield 48, 3) := dX2_moved_41
theorem eX2_moved_44 : decode mX2_moved.2.1 44 = .ok (.iload_n 2, 1) := dX2_moved_44
theorem eX2_moved_45 : decode mX2_moved.2.1 45 = .ok (.iaload, 1) := dX2_moved_45
theorem eX2_moved_46 : decode mX2_moved.2.1 46 = .ok (.aload_n 0, 1) := dX2_moved_46
theorem eX2_moved_47 : decode mX2_moved.2.1 47 = .ok (.getfield 45, 3) := dX2_moved_47
theorem eX2_moved_50 : decode mX2_moved.2.1 50 = .ok (.iload_n 2, 1) := dX2_moved_50
theorem eX2_moved_51 : decode mX2_moved.2.1 51 = .ok (.aaload, 1) := dX2_moved_51
theorem eX2_moved_52 : decode mX2_moved.2.1 52 = .ok (.iload_n 3, 1) := dX2_moved_52
theorem eX2_moved_53 : decode mX2_moved.2.1 53 = .ok (.iaload, 1) := dX2_moved_53
theorem eX2_moved_54 : decode mX2_moved.2.1 54 = .ok (.imul, 1) := dX2_moved_54
theorem eX2_moved_55 : decode mX2_moved.2.1 55 = .ok (.iadd, 1) := dX2_moved_55
theorem eX2_moved_56 : decode mX2_moved.2.1 56 = .ok (.iastore, 1) := dX2_moved_56
theorem eX2_moved_57 : decode mX2_moved.2.1 57 = .ok (.iinc 3 1, 3) := dX2_moved_57
theorem eX2_moved_60 : decode mX2_moved.2.1 60 = .ok (.goto (-33), 3) := dX2_moved_60
theorem eX2_moved_63 : decode mX2_moved.2.1 63 = .ok (.iinc 2 1, 3) := dX2_moved_63
theorem eX2_moved_66 : decode mX2_moved.2.1 66 = .ok (.goto (-47), 3) := dX2_moved_66
theorem eX2_moved_69 : decode mX2_moved.2.1 69 = .ok (.aload_n 0, 1) := dX2_moved_69
theorem eX2_moved_70 : decode mX2_moved.2.1 70 = .ok (.aload_n 0, 1) := dX2_moved_70
theorem eX2_moved_71 : decode mX2_moved.2.1 71 = .ok (.getfield 54, 3) := dX2_moved_71
theorem eX2_moved_74 : decode mX2_moved.2.1 74 = .ok (.invokevirtual 142, 3) := dX2_moved_74
theorem eX2_moved_77 : decode mX2_moved.2.1 77 = .ok (.ireturn, 1) := dX2_moved_77
theorem eX2_norm_0 : decode mX2_norm.2.1 0 = .ok (.iconst 1, 1) := dX2_norm_0
theorem eX2_norm_1 : decode mX2_norm.2.1 1 = .ok (.istore_n 2, 1) := dX2_norm_1
theorem eX2_norm_2 : decode mX2_norm.2.1 2 = .ok (.iload_n 1, 1) := dX2_norm_2
theorem eX2_norm_3 : decode mX2_norm.2.1 3 = .ok (.istore_n 3, 1) := dX2_norm_3
theorem eX2_norm_4 : decode mX2_norm.2.1 4 = .ok (.iconst 0, 1) := dX2_norm_4
theorem eX2_norm_5 : decode mX2_norm.2.1 5 = .ok (.istore 4, 2) := dX2_norm_5
theorem eX2_norm_7 : decode mX2_norm.2.1 7 = .ok (.iload 4, 2) := dX2_norm_7
theorem eX2_norm_9 : decode mX2_norm.2.1 9 = .ok (.aload_n 0, 1) := dX2_norm_9
theorem eX2_norm_10 : decode mX2_norm.2.1 10 = .ok (.getfield 18, 3) := dX2_norm_10
theorem eX2_norm_13 : decode mX2_norm.2.1 13 = .ok (.if_icmp .ge 22, 3) := dX2_norm_13
theorem eX2_norm_16 : decode mX2_norm.2.1 16 = .ok (.aload_n 0, 1) := dX2_norm_16
theorem eX2_norm_17 : decode mX2_norm.2.1 17 = .ok (.iload_n 2, 1) := dX2_norm_17
theorem eX2_norm_18 : decode mX2_norm.2.1 18 = .ok (.iload_n 3, 1) := dX2_norm_18
theorem eX2_norm_19 : decode mX2_norm.2.1 19 = .ok (.invokevirtual 132, 3) := dX2_norm_19
theorem eX2_norm_22 : decode mX2_norm.2.1 22 = .ok (.istore_n 2, 1) := dX2_norm_22
theorem eX2_norm_23 : decode mX2_norm.2.1 23 = .ok (.aload_n 0, 1) := dX2_norm_23
theorem eX2_norm_24 : decode mX2_norm.2.1 24 = .ok (.iload_n 3, 1) := dX2_norm_24
theorem eX2_norm_25 : decode mX2_norm.2.1 25 = .ok (.invokevirtual 170, 3) := dX2_norm_25
theorem eX2_norm_28 : decode mX2_norm.2.1 28 = .ok (.istore_n 3, 1) := dX2_norm_28
theorem eX2_norm_29 : decode mX2_norm.2.1 29 = .ok (.iinc 4 1, 3) := dX2_norm_29
theorem eX2_norm_32 : decode mX2_norm.2.1 32 = .ok (.goto (-25), 3) := dX2_norm_32
theorem eX2_norm_35 : decode mX2_norm.2.1 35 = .ok (.iload_n 2, 1) := dX2_norm_35
theorem eX2_norm_36 : decode mX2_norm.2.1 36 = .ok (.ireturn, 1) := dX2_norm_36
theorem eX2_oneBelow_0 : decode mX2_oneBelow.2.1 0 = .ok (.aload_n 0, 1) := dX2_oneBelow_0
theorem eX2_oneBelow_1 : decode mX2_oneBelow.2.1 1 = .ok (.iload_n 1, 1) := dX2_oneBelow_1
theorem eX2_oneBelow_2 : decode mX2_oneBelow.2.1 2 = .ok (.aload_n 0, 1) := dX2_oneBelow_2
theorem eX2_oneBelow_3 : decode mX2_oneBelow.2.1 3 = .ok (.aload_n 0, 1) := dX2_oneBelow_3
theorem eX2_oneBelow_4 : decode mX2_oneBelow.2.1 4 = .ok (.iload_n 1, 1) := dX2_oneBelow_4
theorem eX2_oneBelow_5 : decode mX2_oneBelow.2.1 5 = .ok (.invokevirtual 161, 3) := dX2_oneBelow_5
theorem eX2_oneBelow_8 : decode mX2_oneBelow.2.1 8 = .ok (.invokevirtual 177, 3) := dX2_oneBelow_8
theorem eX2_oneBelow_11 : decode mX2_oneBelow.2.1 11 = .ok (.invokevirtual 132, 3) := dX2_oneBelow_11
theorem eX2_oneBelow_14 : decode mX2_oneBelow.2.1 14 = .ok (.ireturn, 1) := dX2_oneBelow_14
theorem eX2_order_0 : decode mX2_order.2.1 0 = .ok (.aload_n 0, 1) := dX2_order_0
theorem eX2_order_1 : decode mX2_order.2.1 1 = .ok (.getfield 24, 3) := dX2_order_1
theorem eX2_order_4 : decode mX2_order.2.1 4 = .ok (.iconst 1, 1) := dX2_order_4
theorem eX2_order_5 : decode mX2_order.2.1 5 = .ok (.isub, 1) := dX2_order_5
theorem eX2_order_6 : decode mX2_order.2.1 6 = .ok (.aload_n 0, 1) := dX2_order_6
theorem eX2_order_7 : decode mX2_order.2.1 7 = .ok (.iload_n 1, 1) := dX2_order_7
theorem eX2_order_8 : decode mX2_order.2.1 8 = .ok (.invokevirtual 157, 3) := dX2_order_8
theorem eX2_order_11 : decode mX2_order.2.1 11 = .ok (.aload_n 0, 1) := dX2_order_11
theorem eX2_order_12 : decode mX2_order.2.1 12 = .ok (.getfield 24, 3) := dX2_order_12
theorem eX2_order_15 : decode mX2_order.2.1 15 = .ok (.iconst 1, 1) := dX2_order_15
theorem eX2_order_16 : decode mX2_order.2.1 16 = .ok (.isub, 1) := dX2_order_16
theorem eX2_order_17 : decode mX2_order.2.1 17 = .ok (.invokestatic 180, 3) := dX2_order_17
theorem eX2_order_20 : decode mX2_order.2.1 20 = .ok (.invokestatic 94, 3) := dX2_order_20
theorem eX2_order_23 : decode mX2_order.2.1 23 = .ok (.istore_n 2, 1) := dX2_order_23
theorem eX2_order_24 : decode mX2_order.2.1 24 = .ok (.iload_n 2, 1) := dX2_order_24
theorem eX2_order_25 : decode mX2_order.2.1 25 = .ok (.aload_n 0, 1) := dX2_order_25
theorem eX2_order_26 : decode mX2_order.2.1 26 = .ok (.aload_n 0, 1) := dX2_order_26
theorem eX2_order_27 : decode mX2_order.2.1 27 = .ok (.iload_n 1, 1) := dX2_order_27
theorem eX2_order_28 : decode mX2_order.2.1 28 = .ok (.invokevirtual 183, 3) := dX2_order_28
theorem eX2_order_31 : decode mX2_order.2.1 31 = .ok (.invokevirtual 186, 3) := dX2_order_31
theorem eX2_order_34 : decode mX2_order.2.1 34 = .ok (.imul, 1) := dX2_order_34
theorem eX2_order_35 : decode mX2_order.2.1 35 = .ok (.ireturn, 1) := dX2_order_35
theorem eX2_orderOneBelow_0 : decode mX2_orderOneBelow.2.1 0 = .ok (.iconst 1, 1) := dX2_orderOneBelow_0
theorem eX2_orderOneBelow_1 : decode mX2_orderOneBelow.2.1 1 = .ok (.istore_n 2, 1) := dX2_orderOneBelow_1
theorem eX2_orderOneBelow_2 : decode mX2_orderOneBelow.2.1 2 = .ok (.iload_n 1, 1) := dX2_orderOneBelow_2
theorem eX2_orderOneBelow_3 : decode mX2_orderOneBelow.2.1 3 = .ok (.istore_n 3, 1) := dX2_orderOneBelow_3
theorem eX2_orderOneBelow_4 : decode mX2_orderOneBelow.2.1 4 = .ok (.iconst 1, 1) := dX2_orderOneBelow_4
theorem eX2_orderOneBelow_5 : decode mX2_orderOneBelow.2.1 5 = .ok (.istore 4, 2) := dX2_orderOneBelow_5
theorem eX2_orderOneBelow_7 : decode mX2_orderOneBelow.2.1 7 = .ok (.iload 4, 2) := dX2_orderOneBelow_7
theorem eX2_orderOneBelow_9 : decode mX2_orderOneBelow.2.1 9 = .ok (.aload_n 0, 1) := dX2_orderOneBelow_9
theorem eX2_orderOneBelow_10 : decode mX2_orderOneBelow.2.1 10 = .ok (.getfield 15, 3) := dX2_orderOneBelow_10
theorem eX2_orderOneBelow_13 : decode mX2_orderOneBelow.2.1 13 = .ok (.if_icmp .ge 31, 3) := dX2_orderOneBelow_13
theorem eX2_orderOneBelow_16 : decode mX2_orderOneBelow.2.1 16 = .ok (.iload_n 3, 1) := dX2_orderOneBelow_16
theorem eX2_orderOneBelow_17 : decode mX2_orderOneBelow.2.1 17 = .ok (.iconst 1, 1) := dX2_orderOneBelow_17
theorem eX2_orderOneBelow_18 : decode mX2_orderOneBelow.2.1 18 = .ok (.if_icmp .eq 26, 3) := dX2_orderOneBelow_18
theorem eX2_orderOneBelow_21 : decode mX2_orderOneBelow.2.1 21 = .ok (.aload_n 0, 1) := dX2_orderOneBelow_21
theorem eX2_orderOneBelow_22 : decode mX2_orderOneBelow.2.1 22 = .ok (.iload_n 3, 1) := dX2_orderOneBelow_22
theorem eX2_orderOneBelow_23 : decode mX2_orderOneBelow.2.1 23 = .ok (.aload_n 0, 1) := dX2_orderOneBelow_23
theorem eX2_orderOneBelow_24 : decode mX2_orderOneBelow.2.1 24 = .ok (.getfield 9, 3) := dX2_orderOneBelow_24
theorem eX2_orderOneBelow_27 : decode mX2_orderOneBelow.2.1 27 = .ok (.invokevirtual 110, 3) := dX2_orderOneBelow_27
theorem eX2_orderOneBelow_30 : decode mX2_orderOneBelow.2.1 30 = .ok (.istore_n 3, 1) := dX2_orderOneBelow_30
theorem eX2_orderOneBelow_31 : decode mX2_orderOneBelow.2.1 31 = .ok (.iload_n 2, 1) := dX2_orderOneBelow_31
theorem eX2_orderOneBelow_32 : decode mX2_orderOneBelow.2.1 32 = .ok (.aload_n 0, 1) := dX2_orderOneBelow_32
theorem eX2_orderOneBelow_33 : decode mX2_orderOneBelow.2.1 33 = .ok (.getfield 9, 3) := dX2_orderOneBelow_33
theorem eX2_orderOneBelow_36 : decode mX2_orderOneBelow.2.1 36 = .ok (.imul, 1) := dX2_orderOneBelow_36
theorem eX2_orderOneBelow_37 : decode mX2_orderOneBelow.2.1 37 = .ok (.istore_n 2, 1) := dX2_orderOneBelow_37
theorem eX2_orderOneBelow_38 : decode mX2_orderOneBelow.2.1 38 = .ok (.iinc 4 1, 3) := dX2_orderOneBelow_38
theorem eX2_orderOneBelow_41 : decode mX2_orderOneBelow.2.1 41 = .ok (.goto (-34), 3) := dX2_orderOneBelow_41
theorem eX2_orderOneBelow_44 : decode mX2_orderOneBelow.2.1 44 = .ok (.iload_n 2, 1) := dX2_orderOneBelow_44
theorem eX2_orderOneBelow_45 : decode mX2_orderOneBelow.2.1 45 = .ok (.ireturn, 1) := dX2_orderOneBelow_45
theorem eX2_plus_0 : decode mX2_plus.2.1 0 = .ok (.iload_n 1, 1) := dX2_plus_0
theorem eX2_plus_1 : decode mX2_plus.2.1 1 = .ok (.iload_n 2, 1) := dX2_plus_1
theorem eX2_plus_2 : decode mX2_plus.2.1 2 = .ok (.iconst 1, 1) := dX2_plus_2
theorem eX2_plus_3 : decode mX2_plus.2.1 3 = .ok (.aload_n 0, 1) := dX2_plus_3
theorem eX2_plus_4 : decode mX2_plus.2.1 4 = .ok (.getfield 21, 3) := dX2_plus_4
theorem eX2_plus_7 : decode mX2_plus.2.1 7 = .ok (.invokestatic 135, 3) := dX2_plus_7
theorem eX2_plus_10 : decode mX2_plus.2.1 10 = .ok (.ireturn, 1) := dX2_plus_10
theorem eX2_power_0 : decode mX2_power.2.1 0 = .ok (.iconst 1, 1) := dX2_power_0
theorem eX2_power_1 : decode mX2_power.2.1 1 = .ok (.istore_n 3, 1) := dX2_power_1
theorem eX2_power_2 : decode mX2_power.2.1 2 = .ok (.iload_n 1, 1) := dX2_power_2
theorem eX2_power_3 : decode mX2_power.2.1 3 = .ok (.istore 4, 2) := dX2_power_3
theorem eX2_power_5 : decode mX2_power.2.1 5 = .ok (.iload_n 2, 1) := dX2_power_5
theorem eX2_power_6 : decode mX2_power.2.1 6 = .ok (.istore 5, 2) := dX2_power_6
theorem eX2_power_8 : decode mX2_power.2.1 8 = .ok (.iload 5, 2) := dX2_power_8
theorem eX2_power_10 : decode mX2_power.2.1 10 = .ok (.ifCond .le 49, 3) := dX2_power_10
theorem eX2_power_13 : decode mX2_power.2.1 13 = .ok (.iload 5, 2) := dX2_power_13
theorem eX2_power_15 : decode mX2_power.2.1 15 = .ok (.iconst 1, 1) := dX2_power_15
theorem eX2_power_16 : decode mX2_power.2.1 16 = .ok (.iand, 1) := dX2_power_16
theorem eX2_power_17 : decode mX2_power.2.1 17 = .ok (.iconst 1, 1) := dX2_power_17
theorem eX2_power_18 : decode mX2_power.2.1 18 = .ok (.if_icmp .ne 11, 3) := dX2_power_18
theorem eX2_power_21 : decode mX2_power.2.1 21 = .ok (.aload_n 0, 1) := dX2_power_21
theorem eX2_power_22 : decode mX2_power.2.1 22 = .ok (.iload_n 3, 1) := dX2_power_22
theorem eX2_power_23 : decode mX2_power.2.1 23 = .ok (.iload 4, 2) := dX2_power_23
theorem eX2_power_25 : decode mX2_power.2.1 25 = .ok (.invokevirtual 132, 3) := dX2_power_25
theorem eX2_power_28 : decode mX2_power.2.1 28 = .ok (.istore_n 3, 1) := dX2_power_28
theorem eX2_power_29 : decode mX2_power.2.1 29 = .ok (.iload 5, 2) := dX2_power_29
theorem eX2_power_31 : decode mX2_power.2.1 31 = .ok (.iconst 1, 1) := dX2_power_31
theorem eX2_power_32 : decode mX2_power.2.1 32 = .ok (.if_icmp .le 14, 3) := dX2_power_32
theorem eX2_power_35 : decode mX2_power.2.1 35 = .ok (.aload_n 0, 1) := dX2_power_35
theorem eX2_power_36 : decode mX2_power.2.1 36 = .ok (.iload 4, 2) := dX2_power_36
theorem eX2_power_38 : decode mX2_power.2.1 38 = .ok (.iload 4, 2) := dX2_power_38
theorem eX2_power_40 : decode mX2_power.2.1 40 = .ok (.invokevirtual 132, 3) := dX2_power_40
theorem eX2_power_43 : decode mX2_power.2.1 43 = .ok (.goto 5, 3) := dX2_power_43
theorem eX2_power_46 : decode mX2_power.2.1 46 = .ok (.iload 4, 2) := dX2_power_46
theorem eX2_power_48 : decode mX2_power.2.1 48 = .ok (.istore 4, 2) := dX2_power_48
theorem eX2_power_50 : decode mX2_power.2.1 50 = .ok (.iload 5, 2) := dX2_power_50
theorem eX2_power_52 : decode mX2_power.2.1 52 = .ok (.iconst 1, 1) := dX2_power_52
theorem eX2_power_53 : decode mX2_power.2.1 53 = .ok (.ishr, 1) := dX2_power_53
theorem eX2_power_54 : decode mX2_power.2.1 54 = .ok (.istore 5, 2) := dX2_power_54
theorem eX2_power_56 : decode mX2_power.2.1 56 = .ok (.goto (-48), 3) := dX2_power_56
theorem eX2_power_59 : decode mX2_power.2.1 59 = .ok (.iload_n 3, 1) := dX2_power_59
theorem eX2_power_60 : decode mX2_power.2.1 60 = .ok (.ireturn, 1) := dX2_power_60
theorem eX2_rebase_0 : decode mX2_rebase.2.1 0 = .ok (.iconst 0, 1) := dX2_rebase_0
theorem eX2_rebase_1 : decode mX2_rebase.2.1 1 = .ok (.istore 4, 2) := dX2_rebase_1
theorem eX2_rebase_3 : decode mX2_rebase.2.1 3 = .ok (.iconst 1, 1) := dX2_rebase_3
theorem eX2_rebase_4 : decode mX2_rebase.2.1 4 = .ok (.istore 5, 2) := dX2_rebase_4
theorem eX2_rebase_6 : decode mX2_rebase.2.1 6 = .ok (.iload_n 1, 1) := dX2_rebase_6
theorem eX2_rebase_7 : decode mX2_rebase.2.1 7 = .ok (.istore 6, 2) := dX2_rebase_7
theorem eX2_rebase_9 : decode mX2_rebase.2.1 9 = .ok (.iconst 0, 1) := dX2_rebase_9
theorem eX2_rebase_10 : decode mX2_rebase.2.1 10 = .ok (.istore 7, 2) := dX2_rebase_10
theorem eX2_rebase_12 : decode mX2_rebase.2.1 12 = .ok (.iload 7, 2) := dX2_rebase_12
theorem eX2_rebase_14 : decode mX2_rebase.2.1 14 = .ok (.aload_n 0, 1) := dX2_rebase_14
theorem eX2_rebase_15 : decode mX2_rebase.2.1 15 = .ok (.getfield 18, 3) := dX2_rebase_15
theorem eX2_rebase_18 : decode mX2_rebase.2.1 18 = .ok (.if_icmp .ge 44, 3) := dX2_rebase_18
theorem eX2_rebase_21 : decode mX2_rebase.2.1 21 = .ok (.iload 4, 2) := dX2_rebase_21
theorem eX2_rebase_23 : decode mX2_rebase.2.1 23 = .ok (.iload 5, 2) := dX2_rebase_23
theorem eX2_rebase_25 : decode mX2_rebase.2.1 25 = .ok (.iload 6, 2) := dX2_rebase_25
theorem eX2_rebase_27 : decode mX2_rebase.2.1 27 = .ok (.iload_n 2, 1) := dX2_rebase_27
theorem eX2_rebase_28 : decode mX2_rebase.2.1 28 = .ok (.invokestatic 87, 3) := dX2_rebase_28
theorem eX2_rebase_31 : decode mX2_rebase.2.1 31 = .ok (.aload_n 0, 1) := dX2_rebase_31
theorem eX2_rebase_32 : decode mX2_rebase.2.1 32 = .ok (.getfield 9, 3) := dX2_rebase_32
theorem eX2_rebase_35 : decode mX2_rebase.2.1 35 = .ok (.invokestatic 87, 3) := dX2_rebase_35
theorem eX2_rebase_38 : decode mX2_rebase.2.1 38 = .ok (.imul, 1) := dX2_rebase_38
theorem eX2_rebase_39 : decode mX2_rebase.2.1 39 = .ok (.iadd, 1) := dX2_rebase_39
theorem eX2_rebase_40 : decode mX2_rebase.2.1 40 = .ok (.istore 4, 2) := dX2_rebase_40
theorem eX2_rebase_42 : decode mX2_rebase.2.1 42 = .ok (.iload 6, 2) := dX2_rebase_42
theorem eX2_rebase_44 : decode mX2_rebase.2.1 44 = .ok (.iload_n 2, 1) := dX2_rebase_44
theorem eX2_rebase_45 : decode mX2_rebase.2.1 45 = .ok (.invokestatic 94, 3) := dX2_rebase_45
theorem eX2_rebase_48 : decode mX2_rebase.2.1 48 = .ok (.istore 6, 2) := dX2_rebase_48
theorem eX2_rebase_50 : decode mX2_rebase.2.1 50 = .ok (.iload 5, 2) := dX2_rebase_50
theorem eX2_rebase_52 : decode mX2_rebase.2.1 52 = .ok (.iload_n 3, 1) := dX2_rebase_52
theorem eX2_rebase_53 : decode mX2_rebase.2.1 53 = .ok (.imul, 1) := dX2_rebase_53
theorem eX2_rebase_54 : decode mX2_rebase.2.1 54 = .ok (.istore 5, 2) := dX2_rebase_54
theorem eX2_rebase_56 : decode mX2_rebase.2.1 56 = .ok (.iinc 7 1, 3) := dX2_rebase_56
theorem eX2_rebase_59 : decode mX2_rebase.2.1 59 = .ok (.goto (-47), 3) := dX2_rebase_59
theorem eX2_rebase_62 : decode mX2_rebase.2.1 62 = .ok (.iload 4, 2) := dX2_rebase_62
theorem eX2_rebase_64 : decode mX2_rebase.2.1 64 = .ok (.ireturn, 1) := dX2_rebase_64
theorem eX2_rootLog_0 : decode mX2_rootLog.2.1 0 = .ok (.aload_n 0, 1) := dX2_rootLog_0
theorem eX2_rootLog_1 : decode mX2_rootLog.2.1 1 = .ok (.getfield 40, 3) := dX2_rootLog_1
theorem eX2_rootLog_4 : decode mX2_rootLog.2.1 4 = .ok (.aload_n 0, 1) := dX2_rootLog_4
theorem eX2_rootLog_5 : decode mX2_rootLog.2.1 5 = .ok (.iload_n 1, 1) := dX2_rootLog_5
theorem eX2_rootLog_6 : decode mX2_rootLog.2.1 6 = .ok (.aload_n 0, 1) := dX2_rootLog_6
theorem eX2_rootLog_7 : decode mX2_rootLog.2.1 7 = .ok (.getfield 21, 3) := dX2_rootLog_7
theorem eX2_rootLog_10 : decode mX2_rootLog.2.1 10 = .ok (.aload_n 0, 1) := dX2_rootLog_10
theorem eX2_rootLog_11 : decode mX2_rootLog.2.1 11 = .ok (.getfield 9, 3) := dX2_rootLog_11
theorem eX2_rootLog_14 : decode mX2_rootLog.2.1 14 = .ok (.invokevirtual 124, 3) := dX2_rootLog_14
theorem eX2_rootLog_17 : decode mX2_rootLog.2.1 17 = .ok (.invokestatic 116, 3) := dX2_rootLog_17
theorem eX2_rootLog_20 : decode mX2_rootLog.2.1 20 = .ok (.ireturn, 1) := dX2_rootLog_20
theorem eX2_rootOf_0 : decode mX2_rootOf.2.1 0 = .ok (.aload_n 0, 1) := dX2_rootOf_0
theorem eX2_rootOf_1 : decode mX2_rootOf.2.1 1 = .ok (.iload_n 1, 1) := dX2_rootOf_1
theorem eX2_rootOf_2 : decode mX2_rootOf.2.1 2 = .ok (.invokevirtual 157, 3) := dX2_rootOf_2
theorem eX2_rootOf_5 : decode mX2_rootOf.2.1 5 = .ok (.istore_n 2, 1) := dX2_rootOf_5
theorem eX2_rootOf_6 : decode mX2_rootOf.2.1 6 = .ok (.iload_n 2, 1) := dX2_rootOf_6
theorem eX2_rootOf_7 : decode mX2_rootOf.2.1 7 = .ok (.iconst (-1), 1) := dX2_rootOf_7
theorem eX2_rootOf_8 : decode mX2_rootOf.2.1 8 = .ok (.if_icmp .ne 7, 3) := dX2_rootOf_8
theorem eX2_rootOf_11 : decode mX2_rootOf.2.1 11 = .ok (.iconst 0, 1) := dX2_rootOf_11
theorem eX2_rootOf_12 : decode mX2_rootOf.2.1 12 = .ok (.goto 11, 3) := dX2_rootOf_12
theorem eX2_rootOf_15 : decode mX2_rootOf.2.1 15 = .ok (.aload_n 0, 1) := dX2_rootOf_15
theorem eX2_rootOf_16 : decode mX2_rootOf.2.1 16 = .ok (.getfield 37, 3) := dX2_rootOf_16
theorem eX2_rootOf_19 : decode mX2_rootOf.2.1 19 = .ok (.iload_n 2, 1) := dX2_rootOf_19
theorem eX2_rootOf_20 : decode mX2_rootOf.2.1 20 = .ok (.invokestatic 116, 3) := dX2_rootOf_20
theorem eX2_rootOf_23 : decode mX2_rootOf.2.1 23 = .ok (.ireturn, 1) := dX2_rootOf_23
theorem eX2_spread_0 : decode mX2_spread.2.1 0 = .ok (.aload_n 0, 1) := dX2_spread_0
theorem eX2_spread_1 : decode mX2_spread.2.1 1 = .ok (.getfield 21, 3) := dX2_spread_1
theorem eX2_spread_4 : decode mX2_spread.2.1 4 = .ok (.iconst 2, 1) := dX2_spread_4
theorem eX2_spread_5 : decode mX2_spread.2.1 5 = .ok (.if_icmp .ge 4, 3) := dX2_spread_5
theorem eX2_spread_9 : decode mX2_spread.2.1 9 = .ok (.iload_n 1, 1) := dX2_spread_9
theorem eX2_spread_10 : decode mX2_spread.2.1 10 = .ok (.istore_n 3, 1) := dX2_spread_10
theorem eX2_spread_11 : decode mX2_spread.2.1 11 = .ok (.iconst 0, 1) := dX2_spread_11
theorem eX2_spread_12 : decode mX2_spread.2.1 12 = .ok (.istore 4, 2) := dX2_spread_12
theorem eX2_spread_14 : decode mX2_spread.2.1 14 = .ok (.iload 4, 2) := dX2_spread_14
theorem eX2_spread_16 : decode mX2_spread.2.1 16 = .ok (.aload_n 2, 1) := dX2_spread_16
theorem eX2_spread_17 : decode mX2_spread.2.1 17 = .ok (.arraylength, 1) := dX2_spread_17
theorem eX2_spread_18 : decode mX2_spread.2.1 18 = .ok (.if_icmp .ge 26, 3) := dX2_spread_18
theorem eX2_spread_21 : decode mX2_spread.2.1 21 = .ok (.aload_n 2, 1) := dX2_spread_21
theorem eX2_spread_22 : decode mX2_spread.2.1 22 = .ok (.iload 4, 2) := dX2_spread_22
theorem eX2_spread_24 : decode mX2_spread.2.1 24 = .ok (.iload_n 3, 1) := dX2_spread_24
theorem eX2_spread_25 : decode mX2_spread.2.1 25 = .ok (.aload_n 0, 1) := dX2_spread_25
theorem eX2_spread_26 : decode mX2_spread.2.1 26 = .ok (.getfield 21, 3) := dX2_spread_26
theorem eX2_spread_29 : decode mX2_spread.2.1 29 = .ok (.irem, 1) := dX2_spread_29
theorem eX2_spread_30 : decode mX2_spread.2.1 30 = .ok (.iastore, 1) := dX2_spread_30
theorem eX2_spread_31 : decode mX2_spread.2.1 31 = .ok (.iload_n 3, 1) := dX2_spread_31
theorem eX2_spread_32 : decode mX2_spread.2.1 32 = .ok (.aload_n 0, 1) := dX2_spread_32
theorem eX2_spread_33 : decode mX2_spread.2.1 33 = .ok (.getfield 21, 3) := dX2_spread_33
theorem eX2_spread_36 : decode mX2_spread.2.1 36 = .ok (.idiv, 1) := dX2_spread_36
theorem eX2_spread_37 : decode mX2_spread.2.1 37 = .ok (.istore_n 3, 1) := dX2_spread_37
theorem eX2_spread_38 : decode mX2_spread.2.1 38 = .ok (.iinc 4 1, 3) := dX2_spread_38
theorem eX2_spread_41 : decode mX2_spread.2.1 41 = .ok (.goto (-27), 3) := dX2_spread_41
theorem eX2_spread_44 : decode mX2_spread.2.1 44 = .ok (.return_, 1) := dX2_spread_44
theorem eX2_t_0 : decode mX2_t.2.1 0 = .ok (.aload_n 0, 1) := dX2_t_0
theorem eX2_t_1 : decode mX2_t.2.1 1 = .ok (.getfield 18, 3) := dX2_t_1
theorem eX2_t_4 : decode mX2_t.2.1 4 = .ok (.iconst 1, 1) := dX2_t_4
theorem eX2_t_5 : decode mX2_t.2.1 5 = .ok (.if_icmp .ne 7, 3) := dX2_t_5
theorem eX2_t_8 : decode mX2_t.2.1 8 = .ok (.iconst 0, 1) := dX2_t_8
theorem eX2_t_9 : decode mX2_t.2.1 9 = .ok (.goto 7, 3) := dX2_t_9
theorem eX2_t_12 : decode mX2_t.2.1 12 = .ok (.aload_n 0, 1) := dX2_t_12
theorem eX2_t_13 : decode mX2_t.2.1 13 = .ok (.getfield 21, 3) := dX2_t_13
theorem eX2_t_16 : decode mX2_t.2.1 16 = .ok (.ireturn, 1) := dX2_t_16
theorem eX2_times_0 : decode mX2_times.2.1 0 = .ok (.aload_n 0, 1) := dX2_times_0
theorem eX2_times_1 : decode mX2_times.2.1 1 = .ok (.iload_n 1, 1) := dX2_times_1
theorem eX2_times_2 : decode mX2_times.2.1 2 = .ok (.aload_n 0, 1) := dX2_times_2
theorem eX2_times_3 : decode mX2_times.2.1 3 = .ok (.getfield 48, 3) := dX2_times_3
theorem eX2_times_6 : decode mX2_times.2.1 6 = .ok (.invokevirtual 120, 3) := dX2_times_6
theorem eX2_times_9 : decode mX2_times.2.1 9 = .ok (.aload_n 0, 1) := dX2_times_9
theorem eX2_times_10 : decode mX2_times.2.1 10 = .ok (.iload_n 2, 1) := dX2_times_10
theorem eX2_times_11 : decode mX2_times.2.1 11 = .ok (.aload_n 0, 1) := dX2_times_11
theorem eX2_times_12 : decode mX2_times.2.1 12 = .ok (.getfield 51, 3) := dX2_times_12
theorem eX2_times_15 : decode mX2_times.2.1 15 = .ok (.invokevirtual 120, 3) := dX2_times_15
theorem eX2_times_18 : decode mX2_times.2.1 18 = .ok (.aload_n 0, 1) := dX2_times_18
theorem eX2_times_19 : decode mX2_times.2.1 19 = .ok (.getfield 54, 3) := dX2_times_19
theorem eX2_times_22 : decode mX2_times.2.1 22 = .ok (.iconst 0, 1) := dX2_times_22
theorem eX2_times_23 : decode mX2_times.2.1 23 = .ok (.invokestatic 97, 3) := dX2_times_23
theorem eX2_times_26 : decode mX2_times.2.1 26 = .ok (.iconst 0, 1) := dX2_times_26
theorem eX2_times_27 : decode mX2_times.2.1 27 = .ok (.istore_n 3, 1) := dX2_times_27
theorem eX2_times_28 : decode mX2_times.2.1 28 = .ok (.iload_n 3, 1) := dX2_times_28
theorem eX2_times_29 : decode mX2_times.2.1 29 = .ok (.bipush 6, 2) := dX2_times_29
theorem eX2_times_31 : decode mX2_times.2.1 31 = .ok (.if_icmp .ge 51, 3) := dX2_times_31
theorem eX2_times_34 : decode mX2_times.2.1 34 = .ok (.iconst 0, 1) := dX2_times_34
theorem eX2_times_35 : decode mX2_times.2.1 35 = .ok (.istore 4, 2) := dX2_times_35
theorem eX2_times_37 : decode mX2_times.2.1 37 = .ok (.iload 4, 2) := dX2_times_37
theorem eX2_times_39 : decode mX2_times.2.1 39 = .ok (.bipush 6, 2) := dX2_times_39
theorem eX2_times_41 : decode mX2_times.2.1 41 = .ok (.if_icmp .ge 35, 3) := dX2_times_41
theorem eX2_times_44 : decode mX2_times.2.1 44 = .ok (.aload_n 0, 1) := dX2_times_44
theorem eX2_times_45 : decode mX2_times.2.1 45 = .ok (.getfield 54, 3) := dX2_times_45
theorem eX2_times_48 : decode mX2_times.2.1 48 = .ok (.iload_n 3, 1) := dX2_times_48
theorem eX2_times_49 : decode mX2_times.2.1 49 = .ok (.iload 4, 2) := dX2_times_49
theorem eX2_times_51 : decode mX2_times.2.1 51 = .ok (.iadd, 1) := dX2_times_51
theorem eX2_times_52 : decode mX2_times.2.1 52 = .ok (.dup2, 1) := dX2_times_52
theorem eX2_times_53 : decode mX2_times.2.1 53 = .ok (.iaload, 1) := dX2_times_53
theorem eX2_times_54 : decode mX2_times.2.1 54 = .ok (.aload_n 0, 1) := dX2_times_54
theorem eX2_times_55 : decode mX2_times.2.1 55 = .ok (.getfield 48, 3) := dX2_times_55
theorem eX2_times_58 : decode mX2_times.2.1 58 = .ok (.iload_n 3, 1) := dX2_times_58
theorem eX2_times_59 : decode mX2_times.2.1 59 = .ok (.iaload, 1) := dX2_times_59
theorem eX2_times_60 : decode mX2_times.2.1 60 = .ok (.aload_n 0, 1) := dX2_times_60
theorem eX2_times_61 : decode mX2_times.2.1 61 = .ok (.getfield 51, 3) := dX2_times_61
theorem eX2_times_64 : decode mX2_times.2.1 64 = .ok (.iload 4, 2) := dX2_times_64
theorem eX2_times_66 : decode mX2_times.2.1 66 = .ok (.iaload, 1) := dX2_times_66
theorem eX2_times_67 : decode mX2_times.2.1 67 = .ok (.imul, 1) := dX2_times_67
theorem eX2_times_68 : decode mX2_times.2.1 68 = .ok (.iadd, 1) := dX2_times_68
theorem eX2_times_69 : decode mX2_times.2.1 69 = .ok (.iastore, 1) := dX2_times_69
theorem eX2_times_70 : decode mX2_times.2.1 70 = .ok (.iinc 4 1, 3) := dX2_times_70
theorem eX2_times_73 : decode mX2_times.2.1 73 = .ok (.goto (-36), 3) := dX2_times_73
theorem eX2_times_76 : decode mX2_times.2.1 76 = .ok (.iinc 3 1, 3) := dX2_times_76
theorem eX2_times_79 : decode mX2_times.2.1 79 = .ok (.goto (-51), 3) := dX2_times_79
theorem eX2_times_82 : decode mX2_times.2.1 82 = .ok (.iconst 2, 1) := dX2_times_82
theorem eX2_times_83 : decode mX2_times.2.1 83 = .ok (.aload_n 0, 1) := dX2_times_83
theorem eX2_times_84 : decode mX2_times.2.1 84 = .ok (.getfield 18, 3) := dX2_times_84
theorem eX2_times_87 : decode mX2_times.2.1 87 = .ok (.imul, 1) := dX2_times_87
theorem eX2_times_88 : decode mX2_times.2.1 88 = .ok (.iconst 2, 1) := dX2_times_88
theorem eX2_times_89 : decode mX2_times.2.1 89 = .ok (.isub, 1) := dX2_times_89
theorem eX2_times_90 : decode mX2_times.2.1 90 = .ok (.istore_n 3, 1) := dX2_times_90
theorem eX2_times_91 : decode mX2_times.2.1 91 = .ok (.iload_n 3, 1) := dX2_times_91
theorem eX2_times_92 : decode mX2_times.2.1 92 = .ok (.aload_n 0, 1) := dX2_times_92
theorem eX2_times_93 : decode mX2_times.2.1 93 = .ok (.getfield 18, 3) := dX2_times_93
theorem eX2_times_96 : decode mX2_times.2.1 96 = .ok (.if_icmp .lt 77, 3) := dX2_times_96
theorem eX2_times_99 : decode mX2_times.2.1 99 = .ok (.aload_n 0, 1) := dX2_times_99
theorem eX2_times_100 : decode mX2_times.2.1 100 = .ok (.getfield 54, 3) := dX2_times_100
theorem eX2_times_103 : decode mX2_times.2.1 103 = .ok (.iload_n 3, 1) := dX2_times_103
theorem eX2_times_104 : decode mX2_times.2.1 104 = .ok (.invokestatic 116, 3) := dX2_times_104
theorem eX2_times_107 : decode mX2_times.2.1 107 = .ok (.aload_n 0, 1) := dX2_times_107
theorem eX2_times_108 : decode mX2_times.2.1 108 = .ok (.getfield 21, 3) := dX2_times_108
theorem eX2_times_111 : decode mX2_times.2.1 111 = .ok (.invokestatic 87, 3) := dX2_times_111
theorem eX2_times_114 : decode mX2_times.2.1 114 = .ok (.istore 4, 2) := dX2_times_114
theorem eX2_times_116 : decode mX2_times.2.1 116 = .ok (.iconst 0, 1) := dX2_times_116
theorem eX2_times_117 : decode mX2_times.2.1 117 = .ok (.istore 5, 2) := dX2_times_117
theorem eX2_times_119 : decode mX2_times.2.1 119 = .ok (.iload 5, 2) := dX2_times_119
theorem eX2_times_121 : decode mX2_times.2.1 121 = .ok (.aload_n 0, 1) := dX2_times_121
theorem eX2_times_122 : decode mX2_times.2.1 122 = .ok (.getfield 18, 3) := dX2_times_122
theorem eX2_times_125 : decode mX2_times.2.1 125 = .ok (.if_icmp .ge 42, 3) := dX2_times_125
theorem eX2_times_128 : decode mX2_times.2.1 128 = .ok (.aload_n 0, 1) := dX2_times_128
theorem eX2_times_129 : decode mX2_times.2.1 129 = .ok (.getfield 54, 3) := dX2_times_129
theorem eX2_times_132 : decode mX2_times.2.1 132 = .ok (.iload_n 3, 1) := dX2_times_132
theorem eX2_times_133 : decode mX2_times.2.1 133 = .ok (.aload_n 0, 1) := dX2_times_133
theorem eX2_times_134 : decode mX2_times.2.1 134 = .ok (.getfield 18, 3) := dX2_times_134
theorem eX2_times_137 : decode mX2_times.2.1 137 = .ok (.isub, 1) := dX2_times_137
theorem eX2_times_138 : decode mX2_times.2.1 138 = .ok (.iload 5, 2) := dX2_times_138
theorem eX2_times_140 : decode mX2_times.2.1 140 = .ok (.iadd, 1) := dX2_times_140
theorem eX2_times_141 : decode mX2_times.2.1 141 = .ok (.iload 4, 2) := dX2_times_141
theorem eX2_times_143 : decode mX2_times.2.1 143 = .ok (.aload_n 0, 1) := dX2_times_143
theorem eX2_times_144 : decode mX2_times.2.1 144 = .ok (.getfield 21, 3) := dX2_times_144
theorem eX2_times_147 : decode mX2_times.2.1 147 = .ok (.aload_n 0, 1) := dX2_times_147
theorem eX2_times_148 : decode mX2_times.2.1 148 = .ok (.getfield 33, 3) := dX2_times_148
theorem eX2_times_151 : decode mX2_times.2.1 151 = .ok (.iload 5, 2) := dX2_times_151
theorem eX2_times_153 : decode mX2_times.2.1 153 = .ok (.invokestatic 116, 3) := dX2_times_153
theorem eX2_times_156 : decode mX2_times.2.1 156 = .ok (.isub, 1) := dX2_times_156
theorem eX2_times_157 : decode mX2_times.2.1 157 = .ok (.imul, 1) := dX2_times_157
theorem eX2_times_158 : decode mX2_times.2.1 158 = .ok (.invokestatic 139, 3) := dX2_times_158
theorem eX2_times_161 : decode mX2_times.2.1 161 = .ok (.iinc 5 1, 3) := dX2_times_161
theorem eX2_times_164 : decode mX2_times.2.1 164 = .ok (.goto (-45), 3) := dX2_times_164
theorem eX2_times_167 : decode mX2_times.2.1 167 = .ok (.iinc 3 (-1), 3) := dX2_times_167
theorem eX2_times_170 : decode mX2_times.2.1 170 = .ok (.goto (-79), 3) := dX2_times_170
theorem eX2_times_173 : decode mX2_times.2.1 173 = .ok (.aload_n 0, 1) := dX2_times_173
theorem eX2_times_174 : decode mX2_times.2.1 174 = .ok (.aload_n 0, 1) := dX2_times_174
theorem eX2_times_175 : decode mX2_times.2.1 175 = .ok (.getfield 54, 3) := dX2_times_175
theorem eX2_times_178 : decode mX2_times.2.1 178 = .ok (.invokevirtual 142, 3) := dX2_times_178
theorem eX2_times_181 : decode mX2_times.2.1 181 = .ok (.ireturn, 1) := dX2_times_181
theorem eX2_toRoot_0 : decode mX2_toRoot.2.1 0 = .ok (.aload_n 0, 1) := dX2_toRoot_0
theorem eX2_toRoot_1 : decode mX2_toRoot.2.1 1 = .ok (.getfield 24, 3) := dX2_toRoot_1
theorem eX2_toRoot_4 : decode mX2_toRoot.2.1 4 = .ok (.aload_n 0, 1) := dX2_toRoot_4
theorem eX2_toRoot_5 : decode mX2_toRoot.2.1 5 = .ok (.getfield 15, 3) := dX2_toRoot_5
theorem eX2_toRoot_8 : decode mX2_toRoot.2.1 8 = .ok (.iconst 1, 1) := dX2_toRoot_8
theorem eX2_toRoot_9 : decode mX2_toRoot.2.1 9 = .ok (.isub, 1) := dX2_toRoot_9
theorem eX2_toRoot_10 : decode mX2_toRoot.2.1 10 = .ok (.invokestatic 64, 3) := dX2_toRoot_10
theorem eX2_toRoot_13 : decode mX2_toRoot.2.1 13 = .ok (.ireturn, 1) := dX2_toRoot_13
theorem eX2_trace_0 : decode mX2_trace.2.1 0 = .ok (.iconst 0, 1) := dX2_trace_0
theorem eX2_trace_1 : decode mX2_trace.2.1 1 = .ok (.istore_n 2, 1) := dX2_trace_1
theorem eX2_trace_2 : decode mX2_trace.2.1 2 = .ok (.iload_n 1, 1) := dX2_trace_2
theorem eX2_trace_3 : decode mX2_trace.2.1 3 = .ok (.istore_n 3, 1) := dX2_trace_3
theorem eX2_trace_4 : decode mX2_trace.2.1 4 = .ok (.iconst 0, 1) := dX2_trace_4
theorem eX2_trace_5 : decode mX2_trace.2.1 5 = .ok (.istore 4, 2) := dX2_trace_5
theorem eX2_trace_7 : decode mX2_trace.2.1 7 = .ok (.iload 4, 2) := dX2_trace_7
theorem eX2_trace_9 : decode mX2_trace.2.1 9 = .ok (.aload_n 0, 1) := dX2_trace_9
theorem eX2_trace_10 : decode mX2_trace.2.1 10 = .ok (.getfield 18, 3) := dX2_trace_10
theorem eX2_trace_13 : decode mX2_trace.2.1 13 = .ok (.if_icmp .ge 22, 3) := dX2_trace_13
theorem eX2_trace_16 : decode mX2_trace.2.1 16 = .ok (.aload_n 0, 1) := dX2_trace_16
theorem eX2_trace_17 : decode mX2_trace.2.1 17 = .ok (.iload_n 2, 1) := dX2_trace_17
theorem eX2_trace_18 : decode mX2_trace.2.1 18 = .ok (.iload_n 3, 1) := dX2_trace_18
theorem eX2_trace_19 : decode mX2_trace.2.1 19 = .ok (.invokevirtual 149, 3) := dX2_trace_19
theorem eX2_trace_22 : decode mX2_trace.2.1 22 = .ok (.istore_n 2, 1) := dX2_trace_22
theorem eX2_trace_23 : decode mX2_trace.2.1 23 = .ok (.aload_n 0, 1) := dX2_trace_23
theorem eX2_trace_24 : decode mX2_trace.2.1 24 = .ok (.iload_n 3, 1) := dX2_trace_24
theorem eX2_trace_25 : decode mX2_trace.2.1 25 = .ok (.invokevirtual 170, 3) := dX2_trace_25
theorem eX2_trace_28 : decode mX2_trace.2.1 28 = .ok (.istore_n 3, 1) := dX2_trace_28
theorem eX2_trace_29 : decode mX2_trace.2.1 29 = .ok (.iinc 4 1, 3) := dX2_trace_29
theorem eX2_trace_32 : decode mX2_trace.2.1 32 = .ok (.goto (-25), 3) := dX2_trace_32
theorem eX2_trace_35 : decode mX2_trace.2.1 35 = .ok (.iload_n 2, 1) := dX2_trace_35
theorem eX2_trace_36 : decode mX2_trace.2.1 36 = .ok (.ireturn, 1) := dX2_trace_36
theorem eX2_unitsOfPower_0 : decode mX2_unitsOfPower.2.1 0 = .ok (.iconst 0, 1) := dX2_unitsOfPower_0
theorem eX2_unitsOfPower_1 : decode mX2_unitsOfPower.2.1 1 = .ok (.istore_n 2, 1) := dX2_unitsOfPower_1
theorem eX2_unitsOfPower_2 : decode mX2_unitsOfPower.2.1 2 = .ok (.iconst 0, 1) := dX2_unitsOfPower_2
theorem eX2_unitsOfPower_3 : decode mX2_unitsOfPower.2.1 3 = .ok (.istore_n 3, 1) := dX2_unitsOfPower_3
theorem eX2_unitsOfPower_4 : decode mX2_unitsOfPower.2.1 4 = .ok (.iload_n 3, 1) := dX2_unitsOfPower_4
theorem eX2_unitsOfPower_5 : decode mX2_unitsOfPower.2.1 5 = .ok (.aload_n 0, 1) := dX2_unitsOfPower_5
theorem eX2_unitsOfPower_6 : decode mX2_unitsOfPower.2.1 6 = .ok (.getfield 27, 3) := dX2_unitsOfPower_6
theorem eX2_unitsOfPower_9 : decode mX2_unitsOfPower.2.1 9 = .ok (.if_icmp .ge 30, 3) := dX2_unitsOfPower_9
theorem eX2_unitsOfPower_12 : decode mX2_unitsOfPower.2.1 12 = .ok (.aload_n 0, 1) := dX2_unitsOfPower_12
theorem eX2_unitsOfPower_13 : decode mX2_unitsOfPower.2.1 13 = .ok (.iload_n 3, 1) := dX2_unitsOfPower_13
theorem eX2_unitsOfPower_14 : decode mX2_unitsOfPower.2.1 14 = .ok (.invokevirtual 157, 3) := dX2_unitsOfPower_14
theorem eX2_unitsOfPower_17 : decode mX2_unitsOfPower.2.1 17 = .ok (.ifCond .ne 16, 3) := dX2_unitsOfPower_17
theorem eX2_unitsOfPower_20 : decode mX2_unitsOfPower.2.1 20 = .ok (.aload_n 0, 1) := dX2_unitsOfPower_20
theorem eX2_unitsOfPower_21 : decode mX2_unitsOfPower.2.1 21 = .ok (.iload_n 3, 1) := dX2_unitsOfPower_21
theorem eX2_unitsOfPower_22 : decode mX2_unitsOfPower.2.1 22 = .ok (.iload_n 1, 1) := dX2_unitsOfPower_22
theorem eX2_unitsOfPower_23 : decode mX2_unitsOfPower.2.1 23 = .ok (.invokevirtual 110, 3) := dX2_unitsOfPower_23
theorem eX2_unitsOfPower_26 : decode mX2_unitsOfPower.2.1 26 = .ok (.iconst 1, 1) := dX2_unitsOfPower_26
theorem eX2_unitsOfPower_27 : decode mX2_unitsOfPower.2.1 27 = .ok (.if_icmp .ne 6, 3) := dX2_unitsOfPower_27
theorem eX2_unitsOfPower_30 : decode mX2_unitsOfPower.2.1 30 = .ok (.iinc 2 1, 3) := dX2_unitsOfPower_30
theorem eX2_unitsOfPower_33 : decode mX2_unitsOfPower.2.1 33 = .ok (.iinc 3 1, 3) := dX2_unitsOfPower_33
theorem eX2_unitsOfPower_36 : decode mX2_unitsOfPower.2.1 36 = .ok (.goto (-32), 3) := dX2_unitsOfPower_36
theorem eX2_unitsOfPower_39 : decode mX2_unitsOfPower.2.1 39 = .ok (.iload_n 2, 1) := dX2_unitsOfPower_39
theorem eX2_unitsOfPower_40 : decode mX2_unitsOfPower.2.1 40 = .ok (.iload_n 1, 1) := dX2_unitsOfPower_40
theorem eX2_unitsOfPower_41 : decode mX2_unitsOfPower.2.1 41 = .ok (.aload_n 0, 1) := dX2_unitsOfPower_41
theorem eX2_unitsOfPower_42 : decode mX2_unitsOfPower.2.1 42 = .ok (.getfield 24, 3) := dX2_unitsOfPower_42
theorem eX2_unitsOfPower_45 : decode mX2_unitsOfPower.2.1 45 = .ok (.iconst 1, 1) := dX2_unitsOfPower_45
theorem eX2_unitsOfPower_46 : decode mX2_unitsOfPower.2.1 46 = .ok (.isub, 1) := dX2_unitsOfPower_46
theorem eX2_unitsOfPower_47 : decode mX2_unitsOfPower.2.1 47 = .ok (.invokestatic 180, 3) := dX2_unitsOfPower_47
theorem eX2_unitsOfPower_50 : decode mX2_unitsOfPower.2.1 50 = .ok (.imul, 1) := dX2_unitsOfPower_50
theorem eX2_unitsOfPower_51 : decode mX2_unitsOfPower.2.1 51 = .ok (.ireturn, 1) := dX2_unitsOfPower_51
theorem eX2_withDigit_0 : decode mX2_withDigit.2.1 0 = .ok (.iload_n 3, 1) := dX2_withDigit_0
theorem eX2_withDigit_1 : decode mX2_withDigit.2.1 1 = .ok (.iconst (-1), 1) := dX2_withDigit_1
theorem eX2_withDigit_2 : decode mX2_withDigit.2.1 2 = .ok (.if_icmp .ne 5, 3) := dX2_withDigit_2
theorem eX2_withDigit_5 : decode mX2_withDigit.2.1 5 = .ok (.iload_n 1, 1) := dX2_withDigit_5
theorem eX2_withDigit_6 : decode mX2_withDigit.2.1 6 = .ok (.ireturn, 1) := dX2_withDigit_6
theorem eX2_withDigit_7 : decode mX2_withDigit.2.1 7 = .ok (.iload_n 1, 1) := dX2_withDigit_7
theorem eX2_withDigit_8 : decode mX2_withDigit.2.1 8 = .ok (.aload_n 0, 1) := dX2_withDigit_8
theorem eX2_withDigit_9 : decode mX2_withDigit.2.1 9 = .ok (.getfield 37, 3) := dX2_withDigit_9
theorem eX2_withDigit_12 : decode mX2_withDigit.2.1 12 = .ok (.iload_n 3, 1) := dX2_withDigit_12
theorem eX2_withDigit_13 : decode mX2_withDigit.2.1 13 = .ok (.invokestatic 116, 3) := dX2_withDigit_13
theorem eX2_withDigit_16 : decode mX2_withDigit.2.1 16 = .ok (.aload_n 0, 1) := dX2_withDigit_16
theorem eX2_withDigit_17 : decode mX2_withDigit.2.1 17 = .ok (.getfield 9, 3) := dX2_withDigit_17
theorem eX2_withDigit_20 : decode mX2_withDigit.2.1 20 = .ok (.iload_n 2, 1) := dX2_withDigit_20
theorem eX2_withDigit_21 : decode mX2_withDigit.2.1 21 = .ok (.invokestatic 64, 3) := dX2_withDigit_21
theorem eX2_withDigit_24 : decode mX2_withDigit.2.1 24 = .ok (.aload_n 0, 1) := dX2_withDigit_24
theorem eX2_withDigit_25 : decode mX2_withDigit.2.1 25 = .ok (.getfield 21, 3) := dX2_withDigit_25
theorem eX2_withDigit_28 : decode mX2_withDigit.2.1 28 = .ok (.invokestatic 135, 3) := dX2_withDigit_28
theorem eX2_withDigit_31 : decode mX2_withDigit.2.1 31 = .ok (.ireturn, 1) := dX2_withDigit_31
theorem eX3_countMends_0 : decode mX3_countMends.2.1 0 = .ok (.aload_n 0, 1) := dX3_countMends_0
theorem eX3_countMends_1 : decode mX3_countMends.2.1 1 = .ok (.iconst 0, 1) := dX3_countMends_1
theorem eX3_countMends_2 : decode mX3_countMends.2.1 2 = .ok (.putfield 25, 3) := dX3_countMends_2
theorem eX3_countMends_5 : decode mX3_countMends.2.1 5 = .ok (.aload_n 0, 1) := dX3_countMends_5
theorem eX3_countMends_6 : decode mX3_countMends.2.1 6 = .ok (.iconst (-1), 1) := dX3_countMends_6
theorem eX3_countMends_7 : decode mX3_countMends.2.1 7 = .ok (.putfield 29, 3) := dX3_countMends_7
theorem eX3_countMends_10 : decode mX3_countMends.2.1 10 = .ok (.aload_n 0, 1) := dX3_countMends_10
theorem eX3_countMends_11 : decode mX3_countMends.2.1 11 = .ok (.iconst (-1), 1) := dX3_countMends_11
theorem eX3_countMends_12 : decode mX3_countMends.2.1 12 = .ok (.putfield 32, 3) := dX3_countMends_12
theorem eX3_countMends_15 : decode mX3_countMends.2.1 15 = .ok (.aload_n 0, 1) := dX3_countMends_15
theorem eX3_countMends_16 : decode mX3_countMends.2.1 16 = .ok (.getfield 44, 3) := dX3_countMends_16
theorem eX3_countMends_19 : decode mX3_countMends.2.1 19 = .ok (.iconst 0, 1) := dX3_countMends_19
theorem eX3_countMends_20 : decode mX3_countMends.2.1 20 = .ok (.invokestatic 101, 3) := dX3_countMends_20
theorem eX3_countMends_23 : decode mX3_countMends.2.1 23 = .ok (.aload_n 0, 1) := dX3_countMends_23
theorem eX3_countMends_24 : decode mX3_countMends.2.1 24 = .ok (.getfield 44, 3) := dX3_countMends_24
theorem eX3_countMends_27 : decode mX3_countMends.2.1 27 = .ok (.iconst 0, 1) := dX3_countMends_27
theorem eX3_countMends_28 : decode mX3_countMends.2.1 28 = .ok (.iconst 1, 1) := dX3_countMends_28
theorem eX3_countMends_29 : decode mX3_countMends.2.1 29 = .ok (.iastore, 1) := dX3_countMends_29
theorem eX3_countMends_30 : decode mX3_countMends.2.1 30 = .ok (.iconst 0, 1) := dX3_countMends_30
theorem eX3_countMends_31 : decode mX3_countMends.2.1 31 = .ok (.istore_n 1, 1) := dX3_countMends_31
theorem eX3_countMends_32 : decode mX3_countMends.2.1 32 = .ok (.aload_n 0, 1) := dX3_countMends_32
theorem eX3_countMends_33 : decode mX3_countMends.2.1 33 = .ok (.getfield 15, 3) := dX3_countMends_33
theorem eX3_countMends_36 : decode mX3_countMends.2.1 36 = .ok (.ifCond .eq 102, 3) := dX3_countMends_36
theorem eX3_countMends_39 : decode mX3_countMends.2.1 39 = .ok (.iload_n 1, 1) := dX3_countMends_39
theorem eX3_countMends_40 : decode mX3_countMends.2.1 40 = .ok (.aload_n 0, 1) := dX3_countMends_40
theorem eX3_countMends_41 : decode mX3_countMends.2.1 41 = .ok (.getfield 47, 3) := dX3_countMends_41
theorem eX3_countMends_44 : decode mX3_countMends.2.1 44 = .ok (.getfield 60, 3) := dX3_countMends_44
theorem eX3_countMends_47 : decode mX3_countMends.2.1 47 = .ok (.if_icmp .ge 91, 3) := dX3_countMends_47
theorem eX3_countMends_50 : decode mX3_countMends.2.1 50 = .ok (.iconst 1, 1) := dX3_countMends_50
theorem eX3_countMends_51 : decode mX3_countMends.2.1 51 = .ok (.istore_n 2, 1) := dX3_countMends_51
theorem eX3_countMends_52 : decode mX3_countMends.2.1 52 = .ok (.iload_n 2, 1) := dX3_countMends_52
theorem eX3_countMends_53 : decode mX3_countMends.2.1 53 = .ok (.aload_n 0, 1) := dX3_countMends_53
theorem eX3_countMends_54 : decode mX3_countMends.2.1 54 = .ok (.getfield 47, 3) := dX3_countMends_54
theorem eX3_countMends_57 : decode mX3_countMends.2.1 57 = .ok (.getfield 81, 3) := dX3_countMends_57
theorem eX3_countMends_60 : decode mX3_countMends.2.1 60 = .ok (.getfield 85, 3) := dX3_countMends_60
theorem eX3_countMends_63 : decode mX3_countMends.2.1 63 = .ok (.if_icmp .ge 65, 3) := dX3_countMends_63
theorem eX3_countMends_66 : decode mX3_countMends.2.1 66 = .ok (.aload_n 0, 1) := dX3_countMends_66
theorem eX3_countMends_67 : decode mX3_countMends.2.1 67 = .ok (.iload_n 2, 1) := dX3_countMends_67
theorem eX3_countMends_68 : decode mX3_countMends.2.1 68 = .ok (.invokevirtual 106, 3) := dX3_countMends_68
theorem eX3_countMends_71 : decode mX3_countMends.2.1 71 = .ok (.ifCond .eq 51, 3) := dX3_countMends_71
theorem eX3_countMends_74 : decode mX3_countMends.2.1 74 = .ok (.aload_n 0, 1) := dX3_countMends_74
theorem eX3_countMends_75 : decode mX3_countMends.2.1 75 = .ok (.aload_n 0, 1) := dX3_countMends_75
theorem eX3_countMends_76 : decode mX3_countMends.2.1 76 = .ok (.getfield 25, 3) := dX3_countMends_76
theorem eX3_countMends_79 : decode mX3_countMends.2.1 79 = .ok (.ifCond .ne 7, 3) := dX3_countMends_79
theorem eX3_countMends_82 : decode mX3_countMends.2.1 82 = .ok (.iload_n 1, 1) := dX3_countMends_82
theorem eX3_countMends_83 : decode mX3_countMends.2.1 83 = .ok (.goto 7, 3) := dX3_countMends_83
theorem eX3_countMends_86 : decode mX3_countMends.2.1 86 = .ok (.aload_n 0, 1) := dX3_countMends_86
theorem eX3_countMends_87 : decode mX3_countMends.2.1 87 = .ok (.getfield 29, 3) := dX3_countMends_87
theorem eX3_countMends_90 : decode mX3_countMends.2.1 90 = .ok (.putfield 29, 3) := dX3_countMends_90
theorem eX3_countMends_93 : decode mX3_countMends.2.1 93 = .ok (.aload_n 0, 1) := dX3_countMends_93
theorem eX3_countMends_94 : decode mX3_countMends.2.1 94 = .ok (.aload_n 0, 1) := dX3_countMends_94
theorem eX3_countMends_95 : decode mX3_countMends.2.1 95 = .ok (.getfield 25, 3) := dX3_countMends_95
theorem eX3_countMends_98 : decode mX3_countMends.2.1 98 = .ok (.ifCond .ne 7, 3) := dX3_countMends_98
theorem eX3_countMends_101 : decode mX3_countMends.2.1 101 = .ok (.iload_n 2, 1) := dX3_countMends_101
theorem eX3_countMends_102 : decode mX3_countMends.2.1 102 = .ok (.goto 7, 3) := dX3_countMends_102
theorem eX3_countMends_105 : decode mX3_countMends.2.1 105 = .ok (.aload_n 0, 1) := dX3_countMends_105
theorem eX3_countMends_106 : decode mX3_countMends.2.1 106 = .ok (.getfield 32, 3) := dX3_countMends_106
theorem eX3_countMends_109 : decode mX3_countMends.2.1 109 = .ok (.putfield 32, 3) := dX3_countMends_109
theorem eX3_countMends_112 : decode mX3_countMends.2.1 112 = .ok (.aload_n 0, 1) := dX3_countMends_112
theorem eX3_countMends_113 : decode mX3_countMends.2.1 113 = .ok (.dup, 1) := dX3_countMends_113
theorem eX3_countMends_114 : decode mX3_countMends.2.1 114 = .ok (.getfield 25, 3) := dX3_countMends_114
theorem eX3_countMends_117 : decode mX3_countMends.2.1 117 = .ok (.iconst 1, 1) := dX3_countMends_117
theorem eX3_countMends_118 : decode mX3_countMends.2.1 118 = .ok (.iadd, 1) := dX3_countMends_118
theorem eX3_countMends_119 : decode mX3_countMends.2.1 119 = .ok (.putfield 25, 3) := dX3_countMends_119
theorem eX3_countMends_122 : decode mX3_countMends.2.1 122 = .ok (.iinc 2 1, 3) := dX3_countMends_122
theorem eX3_countMends_125 : decode mX3_countMends.2.1 125 = .ok (.goto (-73), 3) := dX3_countMends_125
theorem eX3_countMends_128 : decode mX3_countMends.2.1 128 = .ok (.aload_n 0, 1) := dX3_countMends_128
theorem eX3_countMends_129 : decode mX3_countMends.2.1 129 = .ok (.invokevirtual 110, 3) := dX3_countMends_129
theorem eX3_countMends_132 : decode mX3_countMends.2.1 132 = .ok (.iinc 1 1, 3) := dX3_countMends_132
theorem eX3_countMends_135 : decode mX3_countMends.2.1 135 = .ok (.goto (-103), 3) := dX3_countMends_135
theorem eX3_countMends_138 : decode mX3_countMends.2.1 138 = .ok (.return_, 1) := dX3_countMends_138
theorem eX3_init_0 : decode mX3_init.2.1 0 = .ok (.aload_n 0, 1) := dX3_init_0
theorem eX3_init_1 : decode mX3_init.2.1 1 = .ok (.invokespecial 3, 3) := dX3_init_1
theorem eX3_init_4 : decode mX3_init.2.1 4 = .ok (.aload_n 0, 1) := dX3_init_4
theorem eX3_init_5 : decode mX3_init.2.1 5 = .ok (.iconst 0, 1) := dX3_init_5
theorem eX3_init_6 : decode mX3_init.2.1 6 = .ok (.putfield 9, 3) := dX3_init_6
theorem eX3_init_9 : decode mX3_init.2.1 9 = .ok (.aload_n 0, 1) := dX3_init_9
theorem eX3_init_10 : decode mX3_init.2.1 10 = .ok (.iconst 0, 1) := dX3_init_10
theorem eX3_init_11 : decode mX3_init.2.1 11 = .ok (.putfield 15, 3) := dX3_init_11
theorem eX3_init_14 : decode mX3_init.2.1 14 = .ok (.aload_n 0, 1) := dX3_init_14
theorem eX3_init_15 : decode mX3_init.2.1 15 = .ok (.bipush 63, 2) := dX3_init_15
theorem eX3_init_17 : decode mX3_init.2.1 17 = .ok (.newarray .int, 2) := dX3_init_17
theorem eX3_init_19 : decode mX3_init.2.1 19 = .ok (.putfield 18, 3) := dX3_init_19
theorem eX3_init_22 : decode mX3_init.2.1 22 = .ok (.aload_n 0, 1) := dX3_init_22
theorem eX3_init_23 : decode mX3_init.2.1 23 = .ok (.bipush 63, 2) := dX3_init_23
theorem eX3_init_25 : decode mX3_init.2.1 25 = .ok (.newarray .int, 2) := dX3_init_25
theorem eX3_init_27 : decode mX3_init.2.1 27 = .ok (.putfield 22, 3) := dX3_init_27
theorem eX3_init_30 : decode mX3_init.2.1 30 = .ok (.aload_n 0, 1) := dX3_init_30
theorem eX3_init_31 : decode mX3_init.2.1 31 = .ok (.iconst 0, 1) := dX3_init_31
theorem eX3_init_32 : decode mX3_init.2.1 32 = .ok (.putfield 25, 3) := dX3_init_32
theorem eX3_init_35 : decode mX3_init.2.1 35 = .ok (.aload_n 0, 1) := dX3_init_35
theorem eX3_init_36 : decode mX3_init.2.1 36 = .ok (.iconst (-1), 1) := dX3_init_36
theorem eX3_init_37 : decode mX3_init.2.1 37 = .ok (.putfield 29, 3) := dX3_init_37
theorem eX3_init_40 : decode mX3_init.2.1 40 = .ok (.aload_n 0, 1) := dX3_init_40
theorem eX3_init_41 : decode mX3_init.2.1 41 = .ok (.iconst (-1), 1) := dX3_init_41
theorem eX3_init_42 : decode mX3_init.2.1 42 = .ok (.putfield 32, 3) := dX3_init_42
theorem eX3_init_45 : decode mX3_init.2.1 45 = .ok (.aload_n 0, 1) := dX3_init_45
theorem eX3_init_46 : decode mX3_init.2.1 46 = .ok (.iconst 0, 1) := dX3_init_46
theorem eX3_init_47 : decode mX3_init.2.1 47 = .ok (.putfield 35, 3) := dX3_init_47
theorem eX3_init_50 : decode mX3_init.2.1 50 = .ok (.aload_n 0, 1) := dX3_init_50
theorem eX3_init_51 : decode mX3_init.2.1 51 = .ok (.bipush 63, 2) := dX3_init_51
theorem eX3_init_53 : decode mX3_init.2.1 53 = .ok (.newarray .int, 2) := dX3_init_53
theorem eX3_init_55 : decode mX3_init.2.1 55 = .ok (.putfield 38, 3) := dX3_init_55
theorem eX3_init_58 : decode mX3_init.2.1 58 = .ok (.aload_n 0, 1) := dX3_init_58
theorem eX3_init_59 : decode mX3_init.2.1 59 = .ok (.iconst 0, 1) := dX3_init_59
theorem eX3_init_60 : decode mX3_init.2.1 60 = .ok (.putfield 41, 3) := dX3_init_60
theorem eX3_init_63 : decode mX3_init.2.1 63 = .ok (.aload_n 0, 1) := dX3_init_63
theorem eX3_init_64 : decode mX3_init.2.1 64 = .ok (.bipush 63, 2) := dX3_init_64
theorem eX3_init_66 : decode mX3_init.2.1 66 = .ok (.newarray .int, 2) := dX3_init_66
theorem eX3_init_68 : decode mX3_init.2.1 68 = .ok (.putfield 44, 3) := dX3_init_68
theorem eX3_init_71 : decode mX3_init.2.1 71 = .ok (.aload_n 0, 1) := dX3_init_71
theorem eX3_init_72 : decode mX3_init.2.1 72 = .ok (.aload_n 1, 1) := dX3_init_72
theorem eX3_init_73 : decode mX3_init.2.1 73 = .ok (.putfield 47, 3) := dX3_init_73
theorem eX3_init_76 : decode mX3_init.2.1 76 = .ok (.aload_n 0, 1) := dX3_init_76
theorem eX3_init_77 : decode mX3_init.2.1 77 = .ok (.new 51, 3) := dX3_init_77
theorem eX3_init_80 : decode mX3_init.2.1 80 = .ok (.dup, 1) := dX3_init_80
theorem eX3_init_81 : decode mX3_init.2.1 81 = .ok (.aload_n 1, 1) := dX3_init_81
theorem eX3_init_82 : decode mX3_init.2.1 82 = .ok (.invokespecial 53, 3) := dX3_init_82
theorem eX3_init_85 : decode mX3_init.2.1 85 = .ok (.putfield 56, 3) := dX3_init_85
theorem eX3_init_88 : decode mX3_init.2.1 88 = .ok (.return_, 1) := dX3_init_88
theorem eX3_isAhead_0 : decode mX3_isAhead.2.1 0 = .ok (.iconst 0, 1) := dX3_isAhead_0
theorem eX3_isAhead_1 : decode mX3_isAhead.2.1 1 = .ok (.istore_n 2, 1) := dX3_isAhead_1
theorem eX3_isAhead_2 : decode mX3_isAhead.2.1 2 = .ok (.iload_n 2, 1) := dX3_isAhead_2
theorem eX3_isAhead_3 : decode mX3_isAhead.2.1 3 = .ok (.bipush 63, 2) := dX3_isAhead_3
theorem eX3_isAhead_5 : decode mX3_isAhead.2.1 5 = .ok (.if_icmp .ge 45, 3) := dX3_isAhead_5
theorem eX3_isAhead_8 : decode mX3_isAhead.2.1 8 = .ok (.iload_n 2, 1) := dX3_isAhead_8
theorem eX3_isAhead_9 : decode mX3_isAhead.2.1 9 = .ok (.aload_n 1, 1) := dX3_isAhead_9
theorem eX3_isAhead_10 : decode mX3_isAhead.2.1 10 = .ok (.arraylength, 1) := dX3_isAhead_10
theorem eX3_isAhead_11 : decode mX3_isAhead.2.1 11 = .ok (.if_icmp .ge 39, 3) := dX3_isAhead_11
theorem eX3_isAhead_14 : decode mX3_isAhead.2.1 14 = .ok (.aload_n 1, 1) := dX3_isAhead_14
theorem eX3_isAhead_15 : decode mX3_isAhead.2.1 15 = .ok (.iload_n 2, 1) := dX3_isAhead_15
theorem eX3_isAhead_16 : decode mX3_isAhead.2.1 16 = .ok (.iaload, 1) := dX3_isAhead_16
theorem eX3_isAhead_17 : decode mX3_isAhead.2.1 17 = .ok (.aload_n 0, 1) := dX3_isAhead_17
theorem eX3_isAhead_18 : decode mX3_isAhead.2.1 18 = .ok (.getfield 38, 3) := dX3_isAhead_18
theorem eX3_isAhead_21 : decode mX3_isAhead.2.1 21 = .ok (.iload_n 2, 1) := dX3_isAhead_21
theorem eX3_isAhead_22 : decode mX3_isAhead.2.1 22 = .ok (.iaload, 1) := dX3_isAhead_22
theorem eX3_isAhead_23 : decode mX3_isAhead.2.1 23 = .ok (.if_icmp .eq 21, 3) := dX3_isAhead_23
theorem eX3_isAhead_26 : decode mX3_isAhead.2.1 26 = .ok (.aload_n 1, 1) := dX3_isAhead_26
theorem eX3_isAhead_27 : decode mX3_isAhead.2.1 27 = .ok (.iload_n 2, 1) := dX3_isAhead_27
theorem eX3_isAhead_28 : decode mX3_isAhead.2.1 28 = .ok (.iaload, 1) := dX3_isAhead_28
theorem eX3_isAhead_29 : decode mX3_isAhead.2.1 29 = .ok (.aload_n 0, 1) := dX3_isAhead_29
theorem eX3_isAhead_30 : decode mX3_isAhead.2.1 30 = .ok (.getfield 38, 3) := dX3_isAhead_30
theorem eX3_isAhead_33 : decode mX3_isAhead.2.1 33 = .ok (.iload_n 2, 1) := dX3_isAhead_33
theorem eX3_isAhead_34 : decode mX3_isAhead.2.1 34 = .ok (.iaload, 1) := dX3_isAhead_34
theorem eX3_isAhead_35 : decode mX3_isAhead.2.1 35 = .ok (.if_icmp .ge 7, 3) := dX3_isAhead_35
theorem eX3_isAhead_38 : decode mX3_isAhead.2.1 38 = .ok (.iconst 1, 1) := dX3_isAhead_38
theorem eX3_isAhead_39 : decode mX3_isAhead.2.1 39 = .ok (.goto 4, 3) := dX3_isAhead_39
theorem eX3_isAhead_42 : decode mX3_isAhead.2.1 42 = .ok (.iconst 0, 1) := dX3_isAhead_42
theorem eX3_isAhead_43 : decode mX3_isAhead.2.1 43 = .ok (.ireturn, 1) := dX3_isAhead_43
theorem eX3_isAhead_44 : decode mX3_isAhead.2.1 44 = .ok (.iinc 2 1, 3) := dX3_isAhead_44
theorem eX3_isAhead_47 : decode mX3_isAhead.2.1 47 = .ok (.goto (-45), 3) := dX3_isAhead_47
theorem eX3_isAhead_50 : decode mX3_isAhead.2.1 50 = .ok (.iconst 0, 1) := dX3_isAhead_50
theorem eX3_isAhead_51 : decode mX3_isAhead.2.1 51 = .ok (.ireturn, 1) := dX3_isAhead_51
theorem eX3_isMendedBy_0 : decode mX3_isMendedBy.2.1 0 = .ok (.aload_n 0, 1) := dX3_isMendedBy_0
theorem eX3_isMendedBy_1 : decode mX3_isMendedBy.2.1 1 = .ok (.getfield 47, 3) := dX3_isMendedBy_1
theorem eX3_isMendedBy_4 : decode mX3_isMendedBy.2.1 4 = .ok (.getfield 81, 3) := dX3_isMendedBy_4
theorem eX3_isMendedBy_7 : decode mX3_isMendedBy.2.1 7 = .ok (.getfield 85, 3) := dX3_isMendedBy_7
theorem eX3_isMendedBy_10 : decode mX3_isMendedBy.2.1 10 = .ok (.istore_n 2, 1) := dX3_isMendedBy_10
theorem eX3_isMendedBy_11 : decode mX3_isMendedBy.2.1 11 = .ok (.iconst 0, 1) := dX3_isMendedBy_11
theorem eX3_isMendedBy_12 : decode mX3_isMendedBy.2.1 12 = .ok (.istore_n 3, 1) := dX3_isMendedBy_12
theorem eX3_isMendedBy_13 : decode mX3_isMendedBy.2.1 13 = .ok (.iload_n 3, 1) := dX3_isMendedBy_13
theorem eX3_isMendedBy_14 : decode mX3_isMendedBy.2.1 14 = .ok (.aload_n 0, 1) := dX3_isMendedBy_14
theorem eX3_isMendedBy_15 : decode mX3_isMendedBy.2.1 15 = .ok (.getfield 47, 3) := dX3_isMendedBy_15
theorem eX3_isMendedBy_18 : decode mX3_isMendedBy.2.1 18 = .ok (.getfield 71, 3) := dX3_isMendedBy_18
theorem eX3_isMendedBy_21 : decode mX3_isMendedBy.2.1 21 = .ok (.if_icmp .ge 37, 3) := dX3_isMendedBy_21
theorem eX3_isMendedBy_24 : decode mX3_isMendedBy.2.1 24 = .ok (.aload_n 0, 1) := dX3_isMendedBy_24
theorem eX3_isMendedBy_25 : decode mX3_isMendedBy.2.1 25 = .ok (.getfield 22, 3) := dX3_isMendedBy_25
theorem eX3_isMendedBy_28 : decode mX3_isMendedBy.2.1 28 = .ok (.iload_n 3, 1) := dX3_isMendedBy_28
theorem eX3_isMendedBy_29 : decode mX3_isMendedBy.2.1 29 = .ok (.invokestatic 65, 3) := dX3_isMendedBy_29
theorem eX3_isMendedBy_32 : decode mX3_isMendedBy.2.1 32 = .ok (.iload_n 1, 1) := dX3_isMendedBy_32
theorem eX3_isMendedBy_33 : decode mX3_isMendedBy.2.1 33 = .ok (.aload_n 0, 1) := dX3_isMendedBy_33
theorem eX3_isMendedBy_34 : decode mX3_isMendedBy.2.1 34 = .ok (.getfield 44, 3) := dX3_isMendedBy_34
theorem eX3_isMendedBy_37 : decode mX3_isMendedBy.2.1 37 = .ok (.iload_n 3, 1) := dX3_isMendedBy_37
theorem eX3_isMendedBy_38 : decode mX3_isMendedBy.2.1 38 = .ok (.invokestatic 65, 3) := dX3_isMendedBy_38
theorem eX3_isMendedBy_41 : decode mX3_isMendedBy.2.1 41 = .ok (.imul, 1) := dX3_isMendedBy_41
theorem eX3_isMendedBy_42 : decode mX3_isMendedBy.2.1 42 = .ok (.iadd, 1) := dX3_isMendedBy_42
theorem eX3_isMendedBy_43 : decode mX3_isMendedBy.2.1 43 = .ok (.iload_n 2, 1) := dX3_isMendedBy_43
theorem eX3_isMendedBy_44 : decode mX3_isMendedBy.2.1 44 = .ok (.invokestatic 93, 3) := dX3_isMendedBy_44
theorem eX3_isMendedBy_47 : decode mX3_isMendedBy.2.1 47 = .ok (.ifCond .eq 5, 3) := dX3_isMendedBy_47
theorem eX3_isMendedBy_50 : decode mX3_isMendedBy.2.1 50 = .ok (.iconst 0, 1) := dX3_isMendedBy_50
theorem eX3_isMendedBy_51 : decode mX3_isMendedBy.2.1 51 = .ok (.ireturn, 1) := dX3_isMendedBy_51
theorem eX3_isMendedBy_52 : decode mX3_isMendedBy.2.1 52 = .ok (.iinc 3 1, 3) := dX3_isMendedBy_52
theorem eX3_isMendedBy_55 : decode mX3_isMendedBy.2.1 55 = .ok (.goto (-42), 3) := dX3_isMendedBy_55
theorem eX3_isMendedBy_58 : decode mX3_isMendedBy.2.1 58 = .ok (.iconst 1, 1) := dX3_isMendedBy_58
theorem eX3_isMendedBy_59 : decode mX3_isMendedBy.2.1 59 = .ok (.ireturn, 1) := dX3_isMendedBy_59
theorem eX3_lessMaker_0 : decode mX3_lessMaker.2.1 0 = .ok (.aload_n 0, 1) := dX3_lessMaker_0
theorem eX3_lessMaker_1 : decode mX3_lessMaker.2.1 1 = .ok (.getfield 47, 3) := dX3_lessMaker_1
theorem eX3_lessMaker_4 : decode mX3_lessMaker.2.1 4 = .ok (.getfield 81, 3) := dX3_lessMaker_4
theorem eX3_lessMaker_7 : decode mX3_lessMaker.2.1 7 = .ok (.getfield 85, 3) := dX3_lessMaker_7
theorem eX3_lessMaker_10 : decode mX3_lessMaker.2.1 10 = .ok (.istore_n 3, 1) := dX3_lessMaker_10
theorem eX3_lessMaker_11 : decode mX3_lessMaker.2.1 11 = .ok (.iload_n 3, 1) := dX3_lessMaker_11
theorem eX3_lessMaker_12 : decode mX3_lessMaker.2.1 12 = .ok (.aload_n 1, 1) := dX3_lessMaker_12
theorem eX3_lessMaker_13 : decode mX3_lessMaker.2.1 13 = .ok (.iload_n 2, 1) := dX3_lessMaker_13
theorem eX3_lessMaker_14 : decode mX3_lessMaker.2.1 14 = .ok (.invokestatic 65, 3) := dX3_lessMaker_14
theorem eX3_lessMaker_17 : decode mX3_lessMaker.2.1 17 = .ok (.isub, 1) := dX3_lessMaker_17
theorem eX3_lessMaker_18 : decode mX3_lessMaker.2.1 18 = .ok (.istore 4, 2) := dX3_lessMaker_18
theorem eX3_lessMaker_20 : decode mX3_lessMaker.2.1 20 = .ok (.iconst 0, 1) := dX3_lessMaker_20
theorem eX3_lessMaker_21 : decode mX3_lessMaker.2.1 21 = .ok (.istore 5, 2) := dX3_lessMaker_21
theorem eX3_lessMaker_23 : decode mX3_lessMaker.2.1 23 = .ok (.iload 5, 2) := dX3_lessMaker_23
theorem eX3_lessMaker_25 : decode mX3_lessMaker.2.1 25 = .ok (.aload_n 0, 1) := dX3_lessMaker_25
theorem eX3_lessMaker_26 : decode mX3_lessMaker.2.1 26 = .ok (.getfield 47, 3) := dX3_lessMaker_26
theorem eX3_lessMaker_29 : decode mX3_lessMaker.2.1 29 = .ok (.getfield 71, 3) := dX3_lessMaker_29
theorem eX3_lessMaker_32 : decode mX3_lessMaker.2.1 32 = .ok (.if_icmp .gt 55, 3) := dX3_lessMaker_32
theorem eX3_lessMaker_35 : decode mX3_lessMaker.2.1 35 = .ok (.iload_n 2, 1) := dX3_lessMaker_35
theorem eX3_lessMaker_36 : decode mX3_lessMaker.2.1 36 = .ok (.aload_n 0, 1) := dX3_lessMaker_36
theorem eX3_lessMaker_37 : decode mX3_lessMaker.2.1 37 = .ok (.getfield 47, 3) := dX3_lessMaker_37
theorem eX3_lessMaker_40 : decode mX3_lessMaker.2.1 40 = .ok (.getfield 71, 3) := dX3_lessMaker_40
theorem eX3_lessMaker_43 : decode mX3_lessMaker.2.1 43 = .ok (.isub, 1) := dX3_lessMaker_43
theorem eX3_lessMaker_44 : decode mX3_lessMaker.2.1 44 = .ok (.iload 5, 2) := dX3_lessMaker_44
theorem eX3_lessMaker_46 : decode mX3_lessMaker.2.1 46 = .ok (.iadd, 1) := dX3_lessMaker_46
theorem eX3_lessMaker_47 : decode mX3_lessMaker.2.1 47 = .ok (.istore 6, 2) := dX3_lessMaker_47
theorem eX3_lessMaker_49 : decode mX3_lessMaker.2.1 49 = .ok (.aload_n 1, 1) := dX3_lessMaker_49
theorem eX3_lessMaker_50 : decode mX3_lessMaker.2.1 50 = .ok (.iload 6, 2) := dX3_lessMaker_50
theorem eX3_lessMaker_52 : decode mX3_lessMaker.2.1 52 = .ok (.aload_n 1, 1) := dX3_lessMaker_52
theorem eX3_lessMaker_53 : decode mX3_lessMaker.2.1 53 = .ok (.iload 6, 2) := dX3_lessMaker_53
theorem eX3_lessMaker_55 : decode mX3_lessMaker.2.1 55 = .ok (.invokestatic 65, 3) := dX3_lessMaker_55
theorem eX3_lessMaker_58 : decode mX3_lessMaker.2.1 58 = .ok (.iload 4, 2) := dX3_lessMaker_58
theorem eX3_lessMaker_60 : decode mX3_lessMaker.2.1 60 = .ok (.aload_n 0, 1) := dX3_lessMaker_60
theorem eX3_lessMaker_61 : decode mX3_lessMaker.2.1 61 = .ok (.getfield 47, 3) := dX3_lessMaker_61
theorem eX3_lessMaker_64 : decode mX3_lessMaker.2.1 64 = .ok (.getfield 90, 3) := dX3_lessMaker_64
theorem eX3_lessMaker_67 : decode mX3_lessMaker.2.1 67 = .ok (.iload 5, 2) := dX3_lessMaker_67
theorem eX3_lessMaker_69 : decode mX3_lessMaker.2.1 69 = .ok (.invokestatic 65, 3) := dX3_lessMaker_69
theorem eX3_lessMaker_72 : decode mX3_lessMaker.2.1 72 = .ok (.imul, 1) := dX3_lessMaker_72
theorem eX3_lessMaker_73 : decode mX3_lessMaker.2.1 73 = .ok (.iadd, 1) := dX3_lessMaker_73
theorem eX3_lessMaker_74 : decode mX3_lessMaker.2.1 74 = .ok (.iload_n 3, 1) := dX3_lessMaker_74
theorem eX3_lessMaker_75 : decode mX3_lessMaker.2.1 75 = .ok (.invokestatic 93, 3) := dX3_lessMaker_75
theorem eX3_lessMaker_78 : decode mX3_lessMaker.2.1 78 = .ok (.invokestatic 97, 3) := dX3_lessMaker_78
theorem eX3_lessMaker_81 : decode mX3_lessMaker.2.1 81 = .ok (.iinc 5 1, 3) := dX3_lessMaker_81
theorem eX3_lessMaker_84 : decode mX3_lessMaker.2.1 84 = .ok (.goto (-61), 3) := dX3_lessMaker_84
theorem eX3_lessMaker_87 : decode mX3_lessMaker.2.1 87 = .ok (.return_, 1) := dX3_lessMaker_87
theorem eX3_placesOff_0 : decode mX3_placesOff.2.1 0 = .ok (.iconst 0, 1) := dX3_placesOff_0
theorem eX3_placesOff_1 : decode mX3_placesOff.2.1 1 = .ok (.istore_n 2, 1) := dX3_placesOff_1
theorem eX3_placesOff_2 : decode mX3_placesOff.2.1 2 = .ok (.iconst 0, 1) := dX3_placesOff_2
theorem eX3_placesOff_3 : decode mX3_placesOff.2.1 3 = .ok (.istore_n 3, 1) := dX3_placesOff_3
theorem eX3_placesOff_4 : decode mX3_placesOff.2.1 4 = .ok (.iload_n 3, 1) := dX3_placesOff_4
theorem eX3_placesOff_5 : decode mX3_placesOff.2.1 5 = .ok (.bipush 63, 2) := dX3_placesOff_5
theorem eX3_placesOff_7 : decode mX3_placesOff.2.1 7 = .ok (.if_icmp .ge 35, 3) := dX3_placesOff_7
theorem eX3_placesOff_10 : decode mX3_placesOff.2.1 10 = .ok (.iload_n 3, 1) := dX3_placesOff_10
theorem eX3_placesOff_11 : decode mX3_placesOff.2.1 11 = .ok (.aload_n 1, 1) := dX3_placesOff_11
theorem eX3_placesOff_12 : decode mX3_placesOff.2.1 12 = .ok (.arraylength, 1) := dX3_placesOff_12
theorem eX3_placesOff_13 : decode mX3_placesOff.2.1 13 = .ok (.if_icmp .ge 29, 3) := dX3_placesOff_13
theorem eX3_placesOff_16 : decode mX3_placesOff.2.1 16 = .ok (.iload_n 2, 1) := dX3_placesOff_16
theorem eX3_placesOff_17 : decode mX3_placesOff.2.1 17 = .ok (.aload_n 1, 1) := dX3_placesOff_17
theorem eX3_placesOff_18 : decode mX3_placesOff.2.1 18 = .ok (.iload_n 3, 1) := dX3_placesOff_18
theorem eX3_placesOff_19 : decode mX3_placesOff.2.1 19 = .ok (.iaload, 1) := dX3_placesOff_19
theorem eX3_placesOff_20 : decode mX3_placesOff.2.1 20 = .ok (.aload_n 0, 1) := dX3_placesOff_20
theorem eX3_placesOff_21 : decode mX3_placesOff.2.1 21 = .ok (.getfield 18, 3) := dX3_placesOff_21
theorem eX3_placesOff_24 : decode mX3_placesOff.2.1 24 = .ok (.iload_n 3, 1) := dX3_placesOff_24
theorem eX3_placesOff_25 : decode mX3_placesOff.2.1 25 = .ok (.iaload, 1) := dX3_placesOff_25
theorem eX3_placesOff_26 : decode mX3_placesOff.2.1 26 = .ok (.if_icmp .ne 7, 3) := dX3_placesOff_26
theorem eX3_placesOff_29 : decode mX3_placesOff.2.1 29 = .ok (.iconst 0, 1) := dX3_placesOff_29
theorem eX3_placesOff_30 : decode mX3_placesOff.2.1 30 = .ok (.goto 4, 3) := dX3_placesOff_30
theorem eX3_placesOff_33 : decode mX3_placesOff.2.1 33 = .ok (.iconst 1, 1) := dX3_placesOff_33
theorem eX3_placesOff_34 : decode mX3_placesOff.2.1 34 = .ok (.iadd, 1) := dX3_placesOff_34
theorem eX3_placesOff_35 : decode mX3_placesOff.2.1 35 = .ok (.istore_n 2, 1) := dX3_placesOff_35
theorem eX3_placesOff_36 : decode mX3_placesOff.2.1 36 = .ok (.iinc 3 1, 3) := dX3_placesOff_36
theorem eX3_placesOff_39 : decode mX3_placesOff.2.1 39 = .ok (.goto (-35), 3) := dX3_placesOff_39
theorem eX3_placesOff_42 : decode mX3_placesOff.2.1 42 = .ok (.iload_n 2, 1) := dX3_placesOff_42
theorem eX3_placesOff_43 : decode mX3_placesOff.2.1 43 = .ok (.ireturn, 1) := dX3_placesOff_43
theorem eX3_seek_0 : decode mX3_seek.2.1 0 = .ok (.aload_n 0, 1) := dX3_seek_0
theorem eX3_seek_1 : decode mX3_seek.2.1 1 = .ok (.getfield 41, 3) := dX3_seek_1
theorem eX3_seek_4 : decode mX3_seek.2.1 4 = .ok (.ifCond .eq 4, 3) := dX3_seek_4
theorem eX3_seek_7 : decode mX3_seek.2.1 7 = .ok (.return_, 1) := dX3_seek_7
theorem eX3_seek_8 : decode mX3_seek.2.1 8 = .ok (.aload_n 0, 1) := dX3_seek_8
theorem eX3_seek_9 : decode mX3_seek.2.1 9 = .ok (.bipush 64, 2) := dX3_seek_9
theorem eX3_seek_11 : decode mX3_seek.2.1 11 = .ok (.putfield 35, 3) := dX3_seek_11
theorem eX3_seek_14 : decode mX3_seek.2.1 14 = .ok (.aload_n 0, 1) := dX3_seek_14
theorem eX3_seek_15 : decode mX3_seek.2.1 15 = .ok (.getfield 56, 3) := dX3_seek_15
theorem eX3_seek_18 : decode mX3_seek.2.1 18 = .ok (.invokevirtual 113, 3) := dX3_seek_18
theorem eX3_seek_21 : decode mX3_seek.2.1 21 = .ok (.iconst 0, 1) := dX3_seek_21
theorem eX3_seek_22 : decode mX3_seek.2.1 22 = .ok (.istore_n 1, 1) := dX3_seek_22
theorem eX3_seek_23 : decode mX3_seek.2.1 23 = .ok (.iload_n 1, 1) := dX3_seek_23
theorem eX3_seek_24 : decode mX3_seek.2.1 24 = .ok (.aload_n 0, 1) := dX3_seek_24
theorem eX3_seek_25 : decode mX3_seek.2.1 25 = .ok (.getfield 47, 3) := dX3_seek_25
theorem eX3_seek_28 : decode mX3_seek.2.1 28 = .ok (.getfield 116, 3) := dX3_seek_28
theorem eX3_seek_31 : decode mX3_seek.2.1 31 = .ok (.if_icmp .ge 81, 3) := dX3_seek_31
theorem eX3_seek_34 : decode mX3_seek.2.1 34 = .ok (.aload_n 0, 1) := dX3_seek_34
theorem eX3_seek_35 : decode mX3_seek.2.1 35 = .ok (.aload_n 0, 1) := dX3_seek_35
theorem eX3_seek_36 : decode mX3_seek.2.1 36 = .ok (.getfield 56, 3) := dX3_seek_36
theorem eX3_seek_39 : decode mX3_seek.2.1 39 = .ok (.getfield 119, 3) := dX3_seek_39
theorem eX3_seek_42 : decode mX3_seek.2.1 42 = .ok (.invokevirtual 120, 3) := dX3_seek_42
theorem eX3_seek_45 : decode mX3_seek.2.1 45 = .ok (.istore_n 2, 1) := dX3_seek_45
theorem eX3_seek_46 : decode mX3_seek.2.1 46 = .ok (.iload_n 2, 1) := dX3_seek_46
theorem eX3_seek_47 : decode mX3_seek.2.1 47 = .ok (.aload_n 0, 1) := dX3_seek_47
theorem eX3_seek_48 : decode mX3_seek.2.1 48 = .ok (.getfield 35, 3) := dX3_seek_48
theorem eX3_seek_51 : decode mX3_seek.2.1 51 = .ok (.if_icmp .lt 25, 3) := dX3_seek_51
theorem eX3_seek_54 : decode mX3_seek.2.1 54 = .ok (.iload_n 2, 1) := dX3_seek_54
theorem eX3_seek_55 : decode mX3_seek.2.1 55 = .ok (.aload_n 0, 1) := dX3_seek_55
theorem eX3_seek_56 : decode mX3_seek.2.1 56 = .ok (.getfield 35, 3) := dX3_seek_56
theorem eX3_seek_59 : decode mX3_seek.2.1 59 = .ok (.if_icmp .ne 40, 3) := dX3_seek_59
theorem eX3_seek_62 : decode mX3_seek.2.1 62 = .ok (.aload_n 0, 1) := dX3_seek_62
theorem eX3_seek_63 : decode mX3_seek.2.1 63 = .ok (.aload_n 0, 1) := dX3_seek_63
theorem eX3_seek_64 : decode mX3_seek.2.1 64 = .ok (.getfield 56, 3) := dX3_seek_64
theorem eX3_seek_67 : decode mX3_seek.2.1 67 = .ok (.getfield 119, 3) := dX3_seek_67
theorem eX3_seek_70 : decode mX3_seek.2.1 70 = .ok (.invokevirtual 124, 3) := dX3_seek_70
theorem eX3_seek_73 : decode mX3_seek.2.1 73 = .ok (.ifCond .eq 26, 3) := dX3_seek_73
theorem eX3_seek_76 : decode mX3_seek.2.1 76 = .ok (.aload_n 0, 1) := dX3_seek_76
theorem eX3_seek_77 : decode mX3_seek.2.1 77 = .ok (.iload_n 2, 1) := dX3_seek_77
theorem eX3_seek_78 : decode mX3_seek.2.1 78 = .ok (.putfield 35, 3) := dX3_seek_78
theorem eX3_seek_81 : decode mX3_seek.2.1 81 = .ok (.aload_n 0, 1) := dX3_seek_81
theorem eX3_seek_82 : decode mX3_seek.2.1 82 = .ok (.getfield 56, 3) := dX3_seek_82
theorem eX3_seek_85 : decode mX3_seek.2.1 85 = .ok (.getfield 119, 3) := dX3_seek_85
theorem eX3_seek_88 : decode mX3_seek.2.1 88 = .ok (.iconst 0, 1) := dX3_seek_88
theorem eX3_seek_89 : decode mX3_seek.2.1 89 = .ok (.aload_n 0, 1) := dX3_seek_89
theorem eX3_seek_90 : decode mX3_seek.2.1 90 = .ok (.getfield 38, 3) := dX3_seek_90
theorem eX3_seek_93 : decode mX3_seek.2.1 93 = .ok (.iconst 0, 1) := dX3_seek_93
theorem eX3_seek_94 : decode mX3_seek.2.1 94 = .ok (.bipush 63, 2) := dX3_seek_94
theorem eX3_seek_96 : decode mX3_seek.2.1 96 = .ok (.invokestatic 128, 3) := dX3_seek_96
theorem eX3_seek_99 : decode mX3_seek.2.1 99 = .ok (.aload_n 0, 1) := dX3_seek_99
theorem eX3_seek_100 : decode mX3_seek.2.1 100 = .ok (.getfield 56, 3) := dX3_seek_100
theorem eX3_seek_103 : decode mX3_seek.2.1 103 = .ok (.invokevirtual 134, 3) := dX3_seek_103
theorem eX3_seek_106 : decode mX3_seek.2.1 106 = .ok (.iinc 1 1, 3) := dX3_seek_106
theorem eX3_seek_109 : decode mX3_seek.2.1 109 = .ok (.goto (-86), 3) := dX3_seek_109
theorem eX3_seek_112 : decode mX3_seek.2.1 112 = .ok (.aload_n 0, 1) := dX3_seek_112
theorem eX3_seek_113 : decode mX3_seek.2.1 113 = .ok (.iconst 1, 1) := dX3_seek_113
theorem eX3_seek_114 : decode mX3_seek.2.1 114 = .ok (.putfield 41, 3) := dX3_seek_114
theorem eX3_seek_117 : decode mX3_seek.2.1 117 = .ok (.return_, 1) := dX3_seek_117
theorem eX3_shift_0 : decode mX3_shift.2.1 0 = .ok (.aload_n 0, 1) := dX3_shift_0
theorem eX3_shift_1 : decode mX3_shift.2.1 1 = .ok (.getfield 47, 3) := dX3_shift_1
theorem eX3_shift_4 : decode mX3_shift.2.1 4 = .ok (.getfield 81, 3) := dX3_shift_4
theorem eX3_shift_7 : decode mX3_shift.2.1 7 = .ok (.getfield 85, 3) := dX3_shift_7
theorem eX3_shift_10 : decode mX3_shift.2.1 10 = .ok (.istore_n 1, 1) := dX3_shift_10
theorem eX3_shift_11 : decode mX3_shift.2.1 11 = .ok (.iload_n 1, 1) := dX3_shift_11
theorem eX3_shift_12 : decode mX3_shift.2.1 12 = .ok (.aload_n 0, 1) := dX3_shift_12
theorem eX3_shift_13 : decode mX3_shift.2.1 13 = .ok (.getfield 44, 3) := dX3_shift_13
theorem eX3_shift_16 : decode mX3_shift.2.1 16 = .ok (.aload_n 0, 1) := dX3_shift_16
theorem eX3_shift_17 : decode mX3_shift.2.1 17 = .ok (.getfield 47, 3) := dX3_shift_17
theorem eX3_shift_20 : decode mX3_shift.2.1 20 = .ok (.getfield 71, 3) := dX3_shift_20
theorem eX3_shift_23 : decode mX3_shift.2.1 23 = .ok (.iconst 1, 1) := dX3_shift_23
theorem eX3_shift_24 : decode mX3_shift.2.1 24 = .ok (.isub, 1) := dX3_shift_24
theorem eX3_shift_25 : decode mX3_shift.2.1 25 = .ok (.invokestatic 65, 3) := dX3_shift_25
theorem eX3_shift_28 : decode mX3_shift.2.1 28 = .ok (.isub, 1) := dX3_shift_28
theorem eX3_shift_29 : decode mX3_shift.2.1 29 = .ok (.istore_n 2, 1) := dX3_shift_29
theorem eX3_shift_30 : decode mX3_shift.2.1 30 = .ok (.aload_n 0, 1) := dX3_shift_30
theorem eX3_shift_31 : decode mX3_shift.2.1 31 = .ok (.getfield 47, 3) := dX3_shift_31
theorem eX3_shift_34 : decode mX3_shift.2.1 34 = .ok (.getfield 71, 3) := dX3_shift_34
theorem eX3_shift_37 : decode mX3_shift.2.1 37 = .ok (.iconst 1, 1) := dX3_shift_37
theorem eX3_shift_38 : decode mX3_shift.2.1 38 = .ok (.isub, 1) := dX3_shift_38
theorem eX3_shift_39 : decode mX3_shift.2.1 39 = .ok (.istore_n 3, 1) := dX3_shift_39
theorem eX3_shift_40 : decode mX3_shift.2.1 40 = .ok (.iload_n 3, 1) := dX3_shift_40
theorem eX3_shift_41 : decode mX3_shift.2.1 41 = .ok (.ifCond .lt 49, 3) := dX3_shift_41
theorem eX3_shift_44 : decode mX3_shift.2.1 44 = .ok (.aload_n 0, 1) := dX3_shift_44
theorem eX3_shift_45 : decode mX3_shift.2.1 45 = .ok (.getfield 44, 3) := dX3_shift_45
theorem eX3_shift_48 : decode mX3_shift.2.1 48 = .ok (.iload_n 3, 1) := dX3_shift_48
theorem eX3_shift_49 : decode mX3_shift.2.1 49 = .ok (.iconst 1, 1) := dX3_shift_49
theorem eX3_shift_50 : decode mX3_shift.2.1 50 = .ok (.isub, 1) := dX3_shift_50
theorem eX3_shift_51 : decode mX3_shift.2.1 51 = .ok (.invokestatic 65, 3) := dX3_shift_51
theorem eX3_shift_54 : decode mX3_shift.2.1 54 = .ok (.istore 4, 2) := dX3_shift_54
theorem eX3_shift_56 : decode mX3_shift.2.1 56 = .ok (.aload_n 0, 1) := dX3_shift_56
theorem eX3_shift_57 : decode mX3_shift.2.1 57 = .ok (.getfield 44, 3) := dX3_shift_57
theorem eX3_shift_60 : decode mX3_shift.2.1 60 = .ok (.iload_n 3, 1) := dX3_shift_60
theorem eX3_shift_61 : decode mX3_shift.2.1 61 = .ok (.iload 4, 2) := dX3_shift_61
theorem eX3_shift_63 : decode mX3_shift.2.1 63 = .ok (.iload_n 2, 1) := dX3_shift_63
theorem eX3_shift_64 : decode mX3_shift.2.1 64 = .ok (.aload_n 0, 1) := dX3_shift_64
theorem eX3_shift_65 : decode mX3_shift.2.1 65 = .ok (.getfield 47, 3) := dX3_shift_65
theorem eX3_shift_68 : decode mX3_shift.2.1 68 = .ok (.getfield 90, 3) := dX3_shift_68
theorem eX3_shift_71 : decode mX3_shift.2.1 71 = .ok (.iload_n 3, 1) := dX3_shift_71
theorem eX3_shift_72 : decode mX3_shift.2.1 72 = .ok (.invokestatic 65, 3) := dX3_shift_72
theorem eX3_shift_75 : decode mX3_shift.2.1 75 = .ok (.imul, 1) := dX3_shift_75
theorem eX3_shift_76 : decode mX3_shift.2.1 76 = .ok (.iadd, 1) := dX3_shift_76
theorem eX3_shift_77 : decode mX3_shift.2.1 77 = .ok (.iload_n 1, 1) := dX3_shift_77
theorem eX3_shift_78 : decode mX3_shift.2.1 78 = .ok (.invokestatic 93, 3) := dX3_shift_78
theorem eX3_shift_81 : decode mX3_shift.2.1 81 = .ok (.invokestatic 97, 3) := dX3_shift_81
theorem eX3_shift_84 : decode mX3_shift.2.1 84 = .ok (.iinc 3 (-1), 3) := dX3_shift_84
theorem eX3_shift_87 : decode mX3_shift.2.1 87 = .ok (.goto (-47), 3) := dX3_shift_87
theorem eX3_shift_90 : decode mX3_shift.2.1 90 = .ok (.return_, 1) := dX3_shift_90
theorem eX3_take_0 : decode mX3_take.2.1 0 = .ok (.iconst 0, 1) := dX3_take_0
theorem eX3_take_1 : decode mX3_take.2.1 1 = .ok (.istore_n 2, 1) := dX3_take_1
theorem eX3_take_2 : decode mX3_take.2.1 2 = .ok (.iload_n 2, 1) := dX3_take_2
theorem eX3_take_3 : decode mX3_take.2.1 3 = .ok (.bipush 63, 2) := dX3_take_3
theorem eX3_take_5 : decode mX3_take.2.1 5 = .ok (.if_icmp .ge 47, 3) := dX3_take_5
theorem eX3_take_8 : decode mX3_take.2.1 8 = .ok (.aload_n 0, 1) := dX3_take_8
theorem eX3_take_9 : decode mX3_take.2.1 9 = .ok (.getfield 18, 3) := dX3_take_9
theorem eX3_take_12 : decode mX3_take.2.1 12 = .ok (.iload_n 2, 1) := dX3_take_12
theorem eX3_take_13 : decode mX3_take.2.1 13 = .ok (.iload_n 2, 1) := dX3_take_13
theorem eX3_take_14 : decode mX3_take.2.1 14 = .ok (.aload_n 0, 1) := dX3_take_14
theorem eX3_take_15 : decode mX3_take.2.1 15 = .ok (.getfield 47, 3) := dX3_take_15
theorem eX3_take_18 : decode mX3_take.2.1 18 = .ok (.getfield 60, 3) := dX3_take_18
theorem eX3_take_21 : decode mX3_take.2.1 21 = .ok (.if_icmp .ge 11, 3) := dX3_take_21
theorem eX3_take_24 : decode mX3_take.2.1 24 = .ok (.aload_n 1, 1) := dX3_take_24
theorem eX3_take_25 : decode mX3_take.2.1 25 = .ok (.iload_n 2, 1) := dX3_take_25
theorem eX3_take_26 : decode mX3_take.2.1 26 = .ok (.invokestatic 65, 3) := dX3_take_26
theorem eX3_take_29 : decode mX3_take.2.1 29 = .ok (.goto 4, 3) := dX3_take_29
theorem eX3_take_32 : decode mX3_take.2.1 32 = .ok (.iconst 0, 1) := dX3_take_32
theorem eX3_take_33 : decode mX3_take.2.1 33 = .ok (.iastore, 1) := dX3_take_33
theorem eX3_take_34 : decode mX3_take.2.1 34 = .ok (.aload_n 0, 1) := dX3_take_34
theorem eX3_take_35 : decode mX3_take.2.1 35 = .ok (.getfield 22, 3) := dX3_take_35
theorem eX3_take_38 : decode mX3_take.2.1 38 = .ok (.iload_n 2, 1) := dX3_take_38
theorem eX3_take_39 : decode mX3_take.2.1 39 = .ok (.aload_n 0, 1) := dX3_take_39
theorem eX3_take_40 : decode mX3_take.2.1 40 = .ok (.getfield 18, 3) := dX3_take_40
theorem eX3_take_43 : decode mX3_take.2.1 43 = .ok (.iload_n 2, 1) := dX3_take_43
theorem eX3_take_44 : decode mX3_take.2.1 44 = .ok (.iaload, 1) := dX3_take_44
theorem eX3_take_45 : decode mX3_take.2.1 45 = .ok (.iastore, 1) := dX3_take_45
theorem eX3_take_46 : decode mX3_take.2.1 46 = .ok (.iinc 2 1, 3) := dX3_take_46
theorem eX3_take_49 : decode mX3_take.2.1 49 = .ok (.goto (-47), 3) := dX3_take_49
theorem eX3_take_52 : decode mX3_take.2.1 52 = .ok (.aload_n 0, 1) := dX3_take_52
theorem eX3_take_53 : decode mX3_take.2.1 53 = .ok (.getfield 47, 3) := dX3_take_53
theorem eX3_take_56 : decode mX3_take.2.1 56 = .ok (.getfield 60, 3) := dX3_take_56
theorem eX3_take_59 : decode mX3_take.2.1 59 = .ok (.iconst 1, 1) := dX3_take_59
theorem eX3_take_60 : decode mX3_take.2.1 60 = .ok (.isub, 1) := dX3_take_60
theorem eX3_take_61 : decode mX3_take.2.1 61 = .ok (.istore_n 2, 1) := dX3_take_61
theorem eX3_take_62 : decode mX3_take.2.1 62 = .ok (.iload_n 2, 1) := dX3_take_62
theorem eX3_take_63 : decode mX3_take.2.1 63 = .ok (.aload_n 0, 1) := dX3_take_63
theorem eX3_take_64 : decode mX3_take.2.1 64 = .ok (.getfield 47, 3) := dX3_take_64
theorem eX3_take_67 : decode mX3_take.2.1 67 = .ok (.getfield 71, 3) := dX3_take_67
theorem eX3_take_70 : decode mX3_take.2.1 70 = .ok (.if_icmp .lt 18, 3) := dX3_take_70
theorem eX3_take_73 : decode mX3_take.2.1 73 = .ok (.aload_n 0, 1) := dX3_take_73
theorem eX3_take_74 : decode mX3_take.2.1 74 = .ok (.aload_n 0, 1) := dX3_take_74
theorem eX3_take_75 : decode mX3_take.2.1 75 = .ok (.getfield 22, 3) := dX3_take_75
theorem eX3_take_78 : decode mX3_take.2.1 78 = .ok (.iload_n 2, 1) := dX3_take_78
theorem eX3_take_79 : decode mX3_take.2.1 79 = .ok (.invokevirtual 74, 3) := dX3_take_79
theorem eX3_take_82 : decode mX3_take.2.1 82 = .ok (.iinc 2 (-1), 3) := dX3_take_82
theorem eX3_take_85 : decode mX3_take.2.1 85 = .ok (.goto (-23), 3) := dX3_take_85
theorem eX3_take_88 : decode mX3_take.2.1 88 = .ok (.aload_n 0, 1) := dX3_take_88
theorem eX3_take_89 : decode mX3_take.2.1 89 = .ok (.iconst 0, 1) := dX3_take_89
theorem eX3_take_90 : decode mX3_take.2.1 90 = .ok (.putfield 15, 3) := dX3_take_90
theorem eX3_take_93 : decode mX3_take.2.1 93 = .ok (.iconst 0, 1) := dX3_take_93
theorem eX3_take_94 : decode mX3_take.2.1 94 = .ok (.istore_n 2, 1) := dX3_take_94
theorem eX3_take_95 : decode mX3_take.2.1 95 = .ok (.iload_n 2, 1) := dX3_take_95
theorem eX3_take_96 : decode mX3_take.2.1 96 = .ok (.aload_n 0, 1) := dX3_take_96
theorem eX3_take_97 : decode mX3_take.2.1 97 = .ok (.getfield 47, 3) := dX3_take_97
theorem eX3_take_100 : decode mX3_take.2.1 100 = .ok (.getfield 71, 3) := dX3_take_100
theorem eX3_take_103 : decode mX3_take.2.1 103 = .ok (.if_icmp .ge 36, 3) := dX3_take_103
theorem eX3_take_106 : decode mX3_take.2.1 106 = .ok (.aload_n 0, 1) := dX3_take_106
theorem eX3_take_107 : decode mX3_take.2.1 107 = .ok (.aload_n 0, 1) := dX3_take_107
theorem eX3_take_108 : decode mX3_take.2.1 108 = .ok (.getfield 15, 3) := dX3_take_108
theorem eX3_take_111 : decode mX3_take.2.1 111 = .ok (.ifCond .ne 14, 3) := dX3_take_111
theorem eX3_take_114 : decode mX3_take.2.1 114 = .ok (.aload_n 0, 1) := dX3_take_114
theorem eX3_take_115 : decode mX3_take.2.1 115 = .ok (.getfield 22, 3) := dX3_take_115
theorem eX3_take_118 : decode mX3_take.2.1 118 = .ok (.iload_n 2, 1) := dX3_take_118
theorem eX3_take_119 : decode mX3_take.2.1 119 = .ok (.invokestatic 65, 3) := dX3_take_119
theorem eX3_take_122 : decode mX3_take.2.1 122 = .ok (.ifCond .eq 7, 3) := dX3_take_122
theorem eX3_take_125 : decode mX3_take.2.1 125 = .ok (.iconst 1, 1) := dX3_take_125
theorem eX3_take_126 : decode mX3_take.2.1 126 = .ok (.goto 4, 3) := dX3_take_126
theorem eX3_take_129 : decode mX3_take.2.1 129 = .ok (.iconst 0, 1) := dX3_take_129
theorem eX3_take_130 : decode mX3_take.2.1 130 = .ok (.putfield 15, 3) := dX3_take_130
theorem eX3_take_133 : decode mX3_take.2.1 133 = .ok (.iinc 2 1, 3) := dX3_take_133
theorem eX3_take_136 : decode mX3_take.2.1 136 = .ok (.goto (-41), 3) := dX3_take_136
theorem eX3_take_139 : decode mX3_take.2.1 139 = .ok (.aload_n 0, 1) := dX3_take_139
theorem eX3_take_140 : decode mX3_take.2.1 140 = .ok (.invokevirtual 78, 3) := dX3_take_140
theorem eX3_take_143 : decode mX3_take.2.1 143 = .ok (.aload_n 0, 1) := dX3_take_143
theorem eX3_take_144 : decode mX3_take.2.1 144 = .ok (.iconst 0, 1) := dX3_take_144
theorem eX3_take_145 : decode mX3_take.2.1 145 = .ok (.putfield 41, 3) := dX3_take_145
theorem eX3_take_148 : decode mX3_take.2.1 148 = .ok (.aload_n 0, 1) := dX3_take_148
theorem eX3_take_149 : decode mX3_take.2.1 149 = .ok (.iconst 1, 1) := dX3_take_149
theorem eX3_take_150 : decode mX3_take.2.1 150 = .ok (.putfield 9, 3) := dX3_take_150
theorem eX3_take_153 : decode mX3_take.2.1 153 = .ok (.return_, 1) := dX3_take_153
theorem eX4_become_0 : decode mX4_become.2.1 0 = .ok (.aload_n 0, 1) := dX4_become_0
theorem eX4_become_1 : decode mX4_become.2.1 1 = .ok (.iload_n 1, 1) := dX4_become_1
theorem eX4_become_2 : decode mX4_become.2.1 2 = .ok (.putfield 9, 3) := dX4_become_2
theorem eX4_become_5 : decode mX4_become.2.1 5 = .ok (.aload_n 0, 1) := dX4_become_5
theorem eX4_become_6 : decode mX4_become.2.1 6 = .ok (.iconst 0, 1) := dX4_become_6
theorem eX4_become_7 : decode mX4_become.2.1 7 = .ok (.putfield 15, 3) := dX4_become_7
theorem eX4_become_10 : decode mX4_become.2.1 10 = .ok (.aload_n 0, 1) := dX4_become_10
theorem eX4_become_11 : decode mX4_become.2.1 11 = .ok (.getfield 18, 3) := dX4_become_11
theorem eX4_become_14 : decode mX4_become.2.1 14 = .ok (.iconst (-1), 1) := dX4_become_14
theorem eX4_become_15 : decode mX4_become.2.1 15 = .ok (.invokestatic 22, 3) := dX4_become_15
theorem eX4_become_18 : decode mX4_become.2.1 18 = .ok (.iconst 0, 1) := dX4_become_18
theorem eX4_become_19 : decode mX4_become.2.1 19 = .ok (.istore_n 3, 1) := dX4_become_19
theorem eX4_become_20 : decode mX4_become.2.1 20 = .ok (.iload_n 3, 1) := dX4_become_20
theorem eX4_become_21 : decode mX4_become.2.1 21 = .ok (.aload_n 0, 1) := dX4_become_21
theorem eX4_become_22 : decode mX4_become.2.1 22 = .ok (.getfield 9, 3) := dX4_become_22
theorem eX4_become_25 : decode mX4_become.2.1 25 = .ok (.if_icmp .ge 34, 3) := dX4_become_25
theorem eX4_become_28 : decode mX4_become.2.1 28 = .ok (.aload_n 0, 1) := dX4_become_28
theorem eX4_become_29 : decode mX4_become.2.1 29 = .ok (.iload_n 3, 1) := dX4_become_29
theorem eX4_become_30 : decode mX4_become.2.1 30 = .ok (.invokevirtual 28, 3) := dX4_become_30
theorem eX4_become_33 : decode mX4_become.2.1 33 = .ok (.iconst (-1), 1) := dX4_become_33
theorem eX4_become_34 : decode mX4_become.2.1 34 = .ok (.if_icmp .ne 19, 3) := dX4_become_34
theorem eX4_become_37 : decode mX4_become.2.1 37 = .ok (.aload_n 0, 1) := dX4_become_37
theorem eX4_become_38 : decode mX4_become.2.1 38 = .ok (.iload_n 3, 1) := dX4_become_38
theorem eX4_become_39 : decode mX4_become.2.1 39 = .ok (.iload_n 2, 1) := dX4_become_39
theorem eX4_become_40 : decode mX4_become.2.1 40 = .ok (.invokevirtual 32, 3) := dX4_become_40
theorem eX4_become_43 : decode mX4_become.2.1 43 = .ok (.aload_n 0, 1) := dX4_become_43
theorem eX4_become_44 : decode mX4_become.2.1 44 = .ok (.dup, 1) := dX4_become_44
theorem eX4_become_45 : decode mX4_become.2.1 45 = .ok (.getfield 15, 3) := dX4_become_45
theorem eX4_become_48 : decode mX4_become.2.1 48 = .ok (.iconst 1, 1) := dX4_become_48
theorem eX4_become_49 : decode mX4_become.2.1 49 = .ok (.iadd, 1) := dX4_become_49
theorem eX4_become_50 : decode mX4_become.2.1 50 = .ok (.putfield 15, 3) := dX4_become_50
theorem eX4_become_53 : decode mX4_become.2.1 53 = .ok (.iinc 3 1, 3) := dX4_become_53
theorem eX4_become_56 : decode mX4_become.2.1 56 = .ok (.goto (-36), 3) := dX4_become_56
theorem eX4_become_59 : decode mX4_become.2.1 59 = .ok (.return_, 1) := dX4_become_59
theorem eX4_init_0 : decode mX4_init.2.1 0 = .ok (.aload_n 0, 1) := dX4_init_0
theorem eX4_init_1 : decode mX4_init.2.1 1 = .ok (.invokespecial 3, 3) := dX4_init_1
theorem eX4_init_4 : decode mX4_init.2.1 4 = .ok (.aload_n 0, 1) := dX4_init_4
theorem eX4_init_5 : decode mX4_init.2.1 5 = .ok (.iconst 1, 1) := dX4_init_5
theorem eX4_init_6 : decode mX4_init.2.1 6 = .ok (.putfield 9, 3) := dX4_init_6
theorem eX4_init_9 : decode mX4_init.2.1 9 = .ok (.aload_n 0, 1) := dX4_init_9
theorem eX4_init_10 : decode mX4_init.2.1 10 = .ok (.iconst 1, 1) := dX4_init_10
theorem eX4_init_11 : decode mX4_init.2.1 11 = .ok (.putfield 15, 3) := dX4_init_11
theorem eX4_init_14 : decode mX4_init.2.1 14 = .ok (.aload_n 0, 1) := dX4_init_14
theorem eX4_init_15 : decode mX4_init.2.1 15 = .ok (.bipush 63, 2) := dX4_init_15
theorem eX4_init_17 : decode mX4_init.2.1 17 = .ok (.newarray .int, 2) := dX4_init_17
theorem eX4_init_19 : decode mX4_init.2.1 19 = .ok (.putfield 18, 3) := dX4_init_19
theorem eX4_init_22 : decode mX4_init.2.1 22 = .ok (.return_, 1) := dX4_init_22
theorem eX4_join_0 : decode mX4_join.2.1 0 = .ok (.iload_n 1, 1) := dX4_join_0
theorem eX4_join_1 : decode mX4_join.2.1 1 = .ok (.istore_n 3, 1) := dX4_join_1
theorem eX4_join_2 : decode mX4_join.2.1 2 = .ok (.iconst 0, 1) := dX4_join_2
theorem eX4_join_3 : decode mX4_join.2.1 3 = .ok (.istore 4, 2) := dX4_join_3
theorem eX4_join_5 : decode mX4_join.2.1 5 = .ok (.iload 4, 2) := dX4_join_5
theorem eX4_join_7 : decode mX4_join.2.1 7 = .ok (.aload_n 0, 1) := dX4_join_7
theorem eX4_join_8 : decode mX4_join.2.1 8 = .ok (.getfield 9, 3) := dX4_join_8
theorem eX4_join_11 : decode mX4_join.2.1 11 = .ok (.if_icmp .ge 32, 3) := dX4_join_11
theorem eX4_join_14 : decode mX4_join.2.1 14 = .ok (.aload_n 0, 1) := dX4_join_14
theorem eX4_join_15 : decode mX4_join.2.1 15 = .ok (.getfield 18, 3) := dX4_join_15
theorem eX4_join_18 : decode mX4_join.2.1 18 = .ok (.iload_n 3, 1) := dX4_join_18
theorem eX4_join_19 : decode mX4_join.2.1 19 = .ok (.aload_n 0, 1) := dX4_join_19
theorem eX4_join_20 : decode mX4_join.2.1 20 = .ok (.getfield 15, 3) := dX4_join_20
theorem eX4_join_23 : decode mX4_join.2.1 23 = .ok (.invokestatic 36, 3) := dX4_join_23
theorem eX4_join_26 : decode mX4_join.2.1 26 = .ok (.iload_n 3, 1) := dX4_join_26
theorem eX4_join_27 : decode mX4_join.2.1 27 = .ok (.iload_n 2, 1) := dX4_join_27
theorem eX4_join_28 : decode mX4_join.2.1 28 = .ok (.imul, 1) := dX4_join_28
theorem eX4_join_29 : decode mX4_join.2.1 29 = .ok (.aload_n 0, 1) := dX4_join_29
theorem eX4_join_30 : decode mX4_join.2.1 30 = .ok (.getfield 9, 3) := dX4_join_30
theorem eX4_join_33 : decode mX4_join.2.1 33 = .ok (.invokestatic 42, 3) := dX4_join_33
theorem eX4_join_36 : decode mX4_join.2.1 36 = .ok (.istore_n 3, 1) := dX4_join_36
theorem eX4_join_37 : decode mX4_join.2.1 37 = .ok (.iinc 4 1, 3) := dX4_join_37
theorem eX4_join_40 : decode mX4_join.2.1 40 = .ok (.goto (-35), 3) := dX4_join_40
theorem eX4_join_43 : decode mX4_join.2.1 43 = .ok (.return_, 1) := dX4_join_43
theorem eX4_member_0 : decode mX4_member.2.1 0 = .ok (.iconst 0, 1) := dX4_member_0
theorem eX4_member_1 : decode mX4_member.2.1 1 = .ok (.istore_n 3, 1) := dX4_member_1
theorem eX4_member_2 : decode mX4_member.2.1 2 = .ok (.iconst 0, 1) := dX4_member_2
theorem eX4_member_3 : decode mX4_member.2.1 3 = .ok (.istore 4, 2) := dX4_member_3
theorem eX4_member_5 : decode mX4_member.2.1 5 = .ok (.iload 4, 2) := dX4_member_5
theorem eX4_member_7 : decode mX4_member.2.1 7 = .ok (.aload_n 0, 1) := dX4_member_7
theorem eX4_member_8 : decode mX4_member.2.1 8 = .ok (.getfield 9, 3) := dX4_member_8
theorem eX4_member_11 : decode mX4_member.2.1 11 = .ok (.if_icmp .ge 30, 3) := dX4_member_11
theorem eX4_member_14 : decode mX4_member.2.1 14 = .ok (.aload_n 0, 1) := dX4_member_14
theorem eX4_member_15 : decode mX4_member.2.1 15 = .ok (.iload 4, 2) := dX4_member_15
theorem eX4_member_17 : decode mX4_member.2.1 17 = .ok (.invokevirtual 28, 3) := dX4_member_17
theorem eX4_member_20 : decode mX4_member.2.1 20 = .ok (.iload_n 1, 1) := dX4_member_20
theorem eX4_member_21 : decode mX4_member.2.1 21 = .ok (.if_icmp .ne 14, 3) := dX4_member_21
theorem eX4_member_24 : decode mX4_member.2.1 24 = .ok (.iload_n 3, 1) := dX4_member_24
theorem eX4_member_25 : decode mX4_member.2.1 25 = .ok (.iload_n 2, 1) := dX4_member_25
theorem eX4_member_26 : decode mX4_member.2.1 26 = .ok (.if_icmp .ne 6, 3) := dX4_member_26
theorem eX4_member_29 : decode mX4_member.2.1 29 = .ok (.iload 4, 2) := dX4_member_29
theorem eX4_member_31 : decode mX4_member.2.1 31 = .ok (.ireturn, 1) := dX4_member_31
theorem eX4_member_32 : decode mX4_member.2.1 32 = .ok (.iinc 3 1, 3) := dX4_member_32
theorem eX4_member_35 : decode mX4_member.2.1 35 = .ok (.iinc 4 1, 3) := dX4_member_35
theorem eX4_member_38 : decode mX4_member.2.1 38 = .ok (.goto (-33), 3) := dX4_member_38
theorem eX4_member_41 : decode mX4_member.2.1 41 = .ok (.iconst (-1), 1) := dX4_member_41
theorem eX4_member_42 : decode mX4_member.2.1 42 = .ok (.ireturn, 1) := dX4_member_42
theorem eX4_part_0 : decode mX4_part.2.1 0 = .ok (.aload_n 0, 1) := dX4_part_0
theorem eX4_part_1 : decode mX4_part.2.1 1 = .ok (.getfield 18, 3) := dX4_part_1
theorem eX4_part_4 : decode mX4_part.2.1 4 = .ok (.iload_n 1, 1) := dX4_part_4
theorem eX4_part_5 : decode mX4_part.2.1 5 = .ok (.invokestatic 46, 3) := dX4_part_5
theorem eX4_part_8 : decode mX4_part.2.1 8 = .ok (.ireturn, 1) := dX4_part_8
theorem eX4_sizeOf_0 : decode mX4_sizeOf.2.1 0 = .ok (.iconst 0, 1) := dX4_sizeOf_0
theorem eX4_sizeOf_1 : decode mX4_sizeOf.2.1 1 = .ok (.istore_n 2, 1) := dX4_sizeOf_1
theorem eX4_sizeOf_2 : decode mX4_sizeOf.2.1 2 = .ok (.iconst 0, 1) := dX4_sizeOf_2
theorem eX4_sizeOf_3 : decode mX4_sizeOf.2.1 3 = .ok (.istore_n 3, 1) := dX4_sizeOf_3
theorem eX4_sizeOf_4 : decode mX4_sizeOf.2.1 4 = .ok (.iload_n 3, 1) := dX4_sizeOf_4
theorem eX4_sizeOf_5 : decode mX4_sizeOf.2.1 5 = .ok (.aload_n 0, 1) := dX4_sizeOf_5
theorem eX4_sizeOf_6 : decode mX4_sizeOf.2.1 6 = .ok (.getfield 9, 3) := dX4_sizeOf_6
theorem eX4_sizeOf_9 : decode mX4_sizeOf.2.1 9 = .ok (.if_icmp .ge 26, 3) := dX4_sizeOf_9
theorem eX4_sizeOf_12 : decode mX4_sizeOf.2.1 12 = .ok (.iload_n 2, 1) := dX4_sizeOf_12
theorem eX4_sizeOf_13 : decode mX4_sizeOf.2.1 13 = .ok (.aload_n 0, 1) := dX4_sizeOf_13
theorem eX4_sizeOf_14 : decode mX4_sizeOf.2.1 14 = .ok (.iload_n 3, 1) := dX4_sizeOf_14
theorem eX4_sizeOf_15 : decode mX4_sizeOf.2.1 15 = .ok (.invokevirtual 28, 3) := dX4_sizeOf_15
theorem eX4_sizeOf_18 : decode mX4_sizeOf.2.1 18 = .ok (.iload_n 1, 1) := dX4_sizeOf_18
theorem eX4_sizeOf_19 : decode mX4_sizeOf.2.1 19 = .ok (.if_icmp .ne 7, 3) := dX4_sizeOf_19
theorem eX4_sizeOf_22 : decode mX4_sizeOf.2.1 22 = .ok (.iconst 1, 1) := dX4_sizeOf_22
theorem eX4_sizeOf_23 : decode mX4_sizeOf.2.1 23 = .ok (.goto 4, 3) := dX4_sizeOf_23
theorem eX4_sizeOf_26 : decode mX4_sizeOf.2.1 26 = .ok (.iconst 0, 1) := dX4_sizeOf_26
theorem eX4_sizeOf_27 : decode mX4_sizeOf.2.1 27 = .ok (.iadd, 1) := dX4_sizeOf_27
theorem eX4_sizeOf_28 : decode mX4_sizeOf.2.1 28 = .ok (.istore_n 2, 1) := dX4_sizeOf_28
theorem eX4_sizeOf_29 : decode mX4_sizeOf.2.1 29 = .ok (.iinc 3 1, 3) := dX4_sizeOf_29
theorem eX4_sizeOf_32 : decode mX4_sizeOf.2.1 32 = .ok (.goto (-28), 3) := dX4_sizeOf_32
theorem eX4_sizeOf_35 : decode mX4_sizeOf.2.1 35 = .ok (.iload_n 2, 1) := dX4_sizeOf_35
theorem eX4_sizeOf_36 : decode mX4_sizeOf.2.1 36 = .ok (.ireturn, 1) := dX4_sizeOf_36
theorem eX5_atom_0 : decode mX5_atom.2.1 0 = .ok (.aload_n 0, 1) := dX5_atom_0
theorem eX5_atom_1 : decode mX5_atom.2.1 1 = .ok (.getfield 25, 3) := dX5_atom_1
theorem eX5_atom_4 : decode mX5_atom.2.1 4 = .ok (.lookupswitch 180 #[(35, 156), (40, 174), (45, 174), (103, 122), (105, 174), (109, 174), (112, 134), (114, 174), (116, 110), (256, 92)], 92) := dX5_atom_4
theorem eX5_atom_96 : decode mX5_atom.2.1 96 = .ok (.aload_n 0, 1) := dX5_atom_96
theorem eX5_atom_97 : decode mX5_atom.2.1 97 = .ok (.sipush 9999, 3) := dX5_atom_97
theorem eX5_atom_100 : decode mX5_atom.2.1 100 = .ok (.invokevirtual 107, 3) := dX5_atom_100
theorem eX5_atom_103 : decode mX5_atom.2.1 103 = .ok (.aload_n 0, 1) := dX5_atom_103
theorem eX5_atom_104 : decode mX5_atom.2.1 104 = .ok (.getfield 37, 3) := dX5_atom_104
theorem eX5_atom_107 : decode mX5_atom.2.1 107 = .ok (.getfield 113, 3) := dX5_atom_107
theorem eX5_atom_110 : decode mX5_atom.2.1 110 = .ok (.invokestatic 116, 3) := dX5_atom_110
theorem eX5_atom_113 : decode mX5_atom.2.1 113 = .ok (.ireturn, 1) := dX5_atom_113
theorem eX5_atom_114 : decode mX5_atom.2.1 114 = .ok (.aload_n 0, 1) := dX5_atom_114
theorem eX5_atom_115 : decode mX5_atom.2.1 115 = .ok (.invokevirtual 49, 3) := dX5_atom_115
theorem eX5_atom_118 : decode mX5_atom.2.1 118 = .ok (.aload_n 0, 1) := dX5_atom_118
theorem eX5_atom_119 : decode mX5_atom.2.1 119 = .ok (.getfield 37, 3) := dX5_atom_119
theorem eX5_atom_122 : decode mX5_atom.2.1 122 = .ok (.invokevirtual 119, 3) := dX5_atom_122
theorem eX5_atom_125 : decode mX5_atom.2.1 125 = .ok (.ireturn, 1) := dX5_atom_125
theorem eX5_atom_126 : decode mX5_atom.2.1 126 = .ok (.aload_n 0, 1) := dX5_atom_126
theorem eX5_atom_127 : decode mX5_atom.2.1 127 = .ok (.invokevirtual 49, 3) := dX5_atom_127
theorem eX5_atom_130 : decode mX5_atom.2.1 130 = .ok (.aload_n 0, 1) := dX5_atom_130
theorem eX5_atom_131 : decode mX5_atom.2.1 131 = .ok (.getfield 37, 3) := dX5_atom_131
theorem eX5_atom_134 : decode mX5_atom.2.1 134 = .ok (.getfield 123, 3) := dX5_atom_134
theorem eX5_atom_137 : decode mX5_atom.2.1 137 = .ok (.ireturn, 1) := dX5_atom_137
theorem eX5_atom_138 : decode mX5_atom.2.1 138 = .ok (.aload_n 0, 1) := dX5_atom_138
theorem eX5_atom_139 : decode mX5_atom.2.1 139 = .ok (.invokevirtual 49, 3) := dX5_atom_139
theorem eX5_atom_142 : decode mX5_atom.2.1 142 = .ok (.aload_n 0, 1) := dX5_atom_142
theorem eX5_atom_143 : decode mX5_atom.2.1 143 = .ok (.getfield 37, 3) := dX5_atom_143
theorem eX5_atom_146 : decode mX5_atom.2.1 146 = .ok (.getfield 126, 3) := dX5_atom_146
theorem eX5_atom_149 : decode mX5_atom.2.1 149 = .ok (.aload_n 0, 1) := dX5_atom_149
theorem eX5_atom_150 : decode mX5_atom.2.1 150 = .ok (.getfield 37, 3) := dX5_atom_150
theorem eX5_atom_153 : decode mX5_atom.2.1 153 = .ok (.getfield 113, 3) := dX5_atom_153
theorem eX5_atom_156 : decode mX5_atom.2.1 156 = .ok (.invokestatic 116, 3) := dX5_atom_156
theorem eX5_atom_159 : decode mX5_atom.2.1 159 = .ok (.ireturn, 1) := dX5_atom_159
theorem eX5_atom_160 : decode mX5_atom.2.1 160 = .ok (.aload_n 0, 1) := dX5_atom_160
theorem eX5_atom_161 : decode mX5_atom.2.1 161 = .ok (.invokevirtual 49, 3) := dX5_atom_161
theorem eX5_atom_164 : decode mX5_atom.2.1 164 = .ok (.aload_n 0, 1) := dX5_atom_164
theorem eX5_atom_165 : decode mX5_atom.2.1 165 = .ok (.getfield 41, 3) := dX5_atom_165
theorem eX5_atom_168 : decode mX5_atom.2.1 168 = .ok (.aload_n 0, 1) := dX5_atom_168
theorem eX5_atom_169 : decode mX5_atom.2.1 169 = .ok (.bipush 7, 2) := dX5_atom_169
theorem eX5_atom_171 : decode mX5_atom.2.1 171 = .ok (.invokevirtual 107, 3) := dX5_atom_171
theorem eX5_atom_174 : decode mX5_atom.2.1 174 = .ok (.invokestatic 65, 3) := dX5_atom_174
theorem eX5_atom_177 : decode mX5_atom.2.1 177 = .ok (.ireturn, 1) := dX5_atom_177
theorem eX5_atom_178 : decode mX5_atom.2.1 178 = .ok (.aload_n 0, 1) := dX5_atom_178
theorem eX5_atom_179 : decode mX5_atom.2.1 179 = .ok (.iload_n 1, 1) := dX5_atom_179
theorem eX5_atom_180 : decode mX5_atom.2.1 180 = .ok (.invokevirtual 129, 3) := dX5_atom_180
theorem eX5_atom_183 : decode mX5_atom.2.1 183 = .ok (.ireturn, 1) := dX5_atom_183
theorem eX5_atom_184 : decode mX5_atom.2.1 184 = .ok (.aload_n 0, 1) := dX5_atom_184
theorem eX5_atom_185 : decode mX5_atom.2.1 185 = .ok (.iconst 1, 1) := dX5_atom_185
theorem eX5_atom_186 : decode mX5_atom.2.1 186 = .ok (.invokevirtual 56, 3) := dX5_atom_186
theorem eX5_atom_189 : decode mX5_atom.2.1 189 = .ok (.iconst 0, 1) := dX5_atom_189
theorem eX5_atom_190 : decode mX5_atom.2.1 190 = .ok (.ireturn, 1) := dX5_atom_190
theorem eX5_byteAt_0 : decode mX5_byteAt.2.1 0 = .ok (.iload_n 1, 1) := dX5_byteAt_0
theorem eX5_byteAt_1 : decode mX5_byteAt.2.1 1 = .ok (.aload_n 0, 1) := dX5_byteAt_1
theorem eX5_byteAt_2 : decode mX5_byteAt.2.1 2 = .ok (.getfield 22, 3) := dX5_byteAt_2
theorem eX5_byteAt_5 : decode mX5_byteAt.2.1 5 = .ok (.if_icmp .ge 17, 3) := dX5_byteAt_5
theorem eX5_byteAt_8 : decode mX5_byteAt.2.1 8 = .ok (.aload_n 0, 1) := dX5_byteAt_8
theorem eX5_byteAt_9 : decode mX5_byteAt.2.1 9 = .ok (.getfield 45, 3) := dX5_byteAt_9
theorem eX5_byteAt_12 : decode mX5_byteAt.2.1 12 = .ok (.getfield 60, 3) := dX5_byteAt_12
theorem eX5_byteAt_15 : decode mX5_byteAt.2.1 15 = .ok (.iload_n 1, 1) := dX5_byteAt_15
theorem eX5_byteAt_16 : decode mX5_byteAt.2.1 16 = .ok (.invokestatic 65, 3) := dX5_byteAt_16
theorem eX5_byteAt_19 : decode mX5_byteAt.2.1 19 = .ok (.goto 6, 3) := dX5_byteAt_19
theorem eX5_byteAt_22 : decode mX5_byteAt.2.1 22 = .ok (.sipush 257, 3) := dX5_byteAt_22
theorem eX5_byteAt_25 : decode mX5_byteAt.2.1 25 = .ok (.ireturn, 1) := dX5_byteAt_25
theorem eX5_changed_0 : decode mX5_changed.2.1 0 = .ok (.iload_n 1, 1) := dX5_changed_0
theorem eX5_changed_1 : decode mX5_changed.2.1 1 = .ok (.bipush 45, 2) := dX5_changed_1
theorem eX5_changed_3 : decode mX5_changed.2.1 3 = .ok (.if_icmp .ne 13, 3) := dX5_changed_3
theorem eX5_changed_6 : decode mX5_changed.2.1 6 = .ok (.aload_n 0, 1) := dX5_changed_6
theorem eX5_changed_7 : decode mX5_changed.2.1 7 = .ok (.getfield 37, 3) := dX5_changed_7
theorem eX5_changed_10 : decode mX5_changed.2.1 10 = .ok (.iconst 0, 1) := dX5_changed_10
theorem eX5_changed_11 : decode mX5_changed.2.1 11 = .ok (.iload_n 2, 1) := dX5_changed_11
theorem eX5_changed_12 : decode mX5_changed.2.1 12 = .ok (.invokevirtual 90, 3) := dX5_changed_12
theorem eX5_changed_15 : decode mX5_changed.2.1 15 = .ok (.ireturn, 1) := dX5_changed_15
theorem eX5_changed_16 : decode mX5_changed.2.1 16 = .ok (.iload_n 1, 1) := dX5_changed_16
theorem eX5_changed_17 : decode mX5_changed.2.1 17 = .ok (.bipush 109, 2) := dX5_changed_17
theorem eX5_changed_19 : decode mX5_changed.2.1 19 = .ok (.if_icmp .ne 12, 3) := dX5_changed_19
theorem eX5_changed_22 : decode mX5_changed.2.1 22 = .ok (.aload_n 0, 1) := dX5_changed_22
theorem eX5_changed_23 : decode mX5_changed.2.1 23 = .ok (.getfield 37, 3) := dX5_changed_23
theorem eX5_changed_26 : decode mX5_changed.2.1 26 = .ok (.iload_n 2, 1) := dX5_changed_26
theorem eX5_changed_27 : decode mX5_changed.2.1 27 = .ok (.invokevirtual 135, 3) := dX5_changed_27
theorem eX5_changed_30 : decode mX5_changed.2.1 30 = .ok (.ireturn, 1) := dX5_changed_30
theorem eX5_changed_31 : decode mX5_changed.2.1 31 = .ok (.iload_n 1, 1) := dX5_changed_31
theorem eX5_changed_32 : decode mX5_changed.2.1 32 = .ok (.bipush 114, 2) := dX5_changed_32
theorem eX5_changed_34 : decode mX5_changed.2.1 34 = .ok (.if_icmp .ne 12, 3) := dX5_changed_34
theorem eX5_changed_37 : decode mX5_changed.2.1 37 = .ok (.aload_n 0, 1) := dX5_changed_37
theorem eX5_changed_38 : decode mX5_changed.2.1 38 = .ok (.getfield 37, 3) := dX5_changed_38
theorem eX5_changed_41 : decode mX5_changed.2.1 41 = .ok (.iload_n 2, 1) := dX5_changed_41
theorem eX5_changed_42 : decode mX5_changed.2.1 42 = .ok (.invokevirtual 138, 3) := dX5_changed_42
theorem eX5_changed_45 : decode mX5_changed.2.1 45 = .ok (.ireturn, 1) := dX5_changed_45
theorem eX5_changed_46 : decode mX5_changed.2.1 46 = .ok (.aload_n 0, 1) := dX5_changed_46
theorem eX5_changed_47 : decode mX5_changed.2.1 47 = .ok (.getfield 37, 3) := dX5_changed_47
theorem eX5_changed_50 : decode mX5_changed.2.1 50 = .ok (.iload_n 2, 1) := dX5_changed_50
theorem eX5_changed_51 : decode mX5_changed.2.1 51 = .ok (.invokevirtual 141, 3) := dX5_changed_51
theorem eX5_changed_54 : decode mX5_changed.2.1 54 = .ok (.ifCond .ne 10, 3) := dX5_changed_54
theorem eX5_changed_57 : decode mX5_changed.2.1 57 = .ok (.aload_n 0, 1) := dX5_changed_57
theorem eX5_changed_58 : decode mX5_changed.2.1 58 = .ok (.iconst 1, 1) := dX5_changed_58
theorem eX5_changed_59 : decode mX5_changed.2.1 59 = .ok (.putfield 18, 3) := dX5_changed_59
theorem eX5_changed_62 : decode mX5_changed.2.1 62 = .ok (.iconst 0, 1) := dX5_changed_62
theorem eX5_changed_63 : decode mX5_changed.2.1 63 = .ok (.ireturn, 1) := dX5_changed_63
theorem eX5_changed_64 : decode mX5_changed.2.1 64 = .ok (.aload_n 0, 1) := dX5_changed_64
theorem eX5_changed_65 : decode mX5_changed.2.1 65 = .ok (.getfield 37, 3) := dX5_changed_65
theorem eX5_changed_68 : decode mX5_changed.2.1 68 = .ok (.iload_n 2, 1) := dX5_changed_68
theorem eX5_changed_69 : decode mX5_changed.2.1 69 = .ok (.invokevirtual 144, 3) := dX5_changed_69
theorem eX5_changed_72 : decode mX5_changed.2.1 72 = .ok (.ireturn, 1) := dX5_changed_72
theorem eX5_factor_0 : decode mX5_factor.2.1 0 = .ok (.aload_n 0, 1) := dX5_factor_0
theorem eX5_factor_1 : decode mX5_factor.2.1 1 = .ok (.iload_n 1, 1) := dX5_factor_1
theorem eX5_factor_2 : decode mX5_factor.2.1 2 = .ok (.invokevirtual 104, 3) := dX5_factor_2
theorem eX5_factor_5 : decode mX5_factor.2.1 5 = .ok (.istore_n 2, 1) := dX5_factor_5
theorem eX5_factor_6 : decode mX5_factor.2.1 6 = .ok (.aload_n 0, 1) := dX5_factor_6
theorem eX5_factor_7 : decode mX5_factor.2.1 7 = .ok (.getfield 9, 3) := dX5_factor_7
theorem eX5_factor_10 : decode mX5_factor.2.1 10 = .ok (.ifCond .ne 32, 3) := dX5_factor_10
theorem eX5_factor_13 : decode mX5_factor.2.1 13 = .ok (.aload_n 0, 1) := dX5_factor_13
theorem eX5_factor_14 : decode mX5_factor.2.1 14 = .ok (.getfield 25, 3) := dX5_factor_14
theorem eX5_factor_17 : decode mX5_factor.2.1 17 = .ok (.bipush 94, 2) := dX5_factor_17
theorem eX5_factor_19 : decode mX5_factor.2.1 19 = .ok (.if_icmp .ne 23, 3) := dX5_factor_19
theorem eX5_factor_22 : decode mX5_factor.2.1 22 = .ok (.aload_n 0, 1) := dX5_factor_22
theorem eX5_factor_23 : decode mX5_factor.2.1 23 = .ok (.invokevirtual 49, 3) := dX5_factor_23
theorem eX5_factor_26 : decode mX5_factor.2.1 26 = .ok (.aload_n 0, 1) := dX5_factor_26
theorem eX5_factor_27 : decode mX5_factor.2.1 27 = .ok (.getfield 37, 3) := dX5_factor_27
theorem eX5_factor_30 : decode mX5_factor.2.1 30 = .ok (.iload_n 2, 1) := dX5_factor_30
theorem eX5_factor_31 : decode mX5_factor.2.1 31 = .ok (.aload_n 0, 1) := dX5_factor_31
theorem eX5_factor_32 : decode mX5_factor.2.1 32 = .ok (.sipush 9999, 3) := dX5_factor_32
theorem eX5_factor_35 : decode mX5_factor.2.1 35 = .ok (.invokevirtual 107, 3) := dX5_factor_35
theorem eX5_factor_38 : decode mX5_factor.2.1 38 = .ok (.invokevirtual 110, 3) := dX5_factor_38
theorem eX5_factor_41 : decode mX5_factor.2.1 41 = .ok (.istore_n 2, 1) := dX5_factor_41
theorem eX5_factor_42 : decode mX5_factor.2.1 42 = .ok (.iload_n 2, 1) := dX5_factor_42
theorem eX5_factor_43 : decode mX5_factor.2.1 43 = .ok (.ireturn, 1) := dX5_factor_43
theorem eX5_factors_0 : decode mX5_factors.2.1 0 = .ok (.aload_n 0, 1) := dX5_factors_0
theorem eX5_factors_1 : decode mX5_factors.2.1 1 = .ok (.iload_n 1, 1) := dX5_factors_1
theorem eX5_factors_2 : decode mX5_factors.2.1 2 = .ok (.invokevirtual 98, 3) := dX5_factors_2
theorem eX5_factors_5 : decode mX5_factors.2.1 5 = .ok (.istore_n 2, 1) := dX5_factors_5
theorem eX5_factors_6 : decode mX5_factors.2.1 6 = .ok (.iconst 0, 1) := dX5_factors_6
theorem eX5_factors_7 : decode mX5_factors.2.1 7 = .ok (.istore_n 3, 1) := dX5_factors_7
theorem eX5_factors_8 : decode mX5_factors.2.1 8 = .ok (.iload_n 3, 1) := dX5_factors_8
theorem eX5_factors_9 : decode mX5_factors.2.1 9 = .ok (.aload_n 0, 1) := dX5_factors_9
theorem eX5_factors_10 : decode mX5_factors.2.1 10 = .ok (.getfield 22, 3) := dX5_factors_10
theorem eX5_factors_13 : decode mX5_factors.2.1 13 = .ok (.if_icmp .ge 43, 3) := dX5_factors_13
theorem eX5_factors_16 : decode mX5_factors.2.1 16 = .ok (.aload_n 0, 1) := dX5_factors_16
theorem eX5_factors_17 : decode mX5_factors.2.1 17 = .ok (.getfield 9, 3) := dX5_factors_17
theorem eX5_factors_20 : decode mX5_factors.2.1 20 = .ok (.ifCond .ne 36, 3) := dX5_factors_20
theorem eX5_factors_23 : decode mX5_factors.2.1 23 = .ok (.aload_n 0, 1) := dX5_factors_23
theorem eX5_factors_24 : decode mX5_factors.2.1 24 = .ok (.getfield 25, 3) := dX5_factors_24
theorem eX5_factors_27 : decode mX5_factors.2.1 27 = .ok (.bipush 42, 2) := dX5_factors_27
theorem eX5_factors_29 : decode mX5_factors.2.1 29 = .ok (.if_icmp .ne 27, 3) := dX5_factors_29
theorem eX5_factors_32 : decode mX5_factors.2.1 32 = .ok (.aload_n 0, 1) := dX5_factors_32
theorem eX5_factors_33 : decode mX5_factors.2.1 33 = .ok (.invokevirtual 49, 3) := dX5_factors_33
theorem eX5_factors_36 : decode mX5_factors.2.1 36 = .ok (.aload_n 0, 1) := dX5_factors_36
theorem eX5_factors_37 : decode mX5_factors.2.1 37 = .ok (.getfield 37, 3) := dX5_factors_37
theorem eX5_factors_40 : decode mX5_factors.2.1 40 = .ok (.iload_n 2, 1) := dX5_factors_40
theorem eX5_factors_41 : decode mX5_factors.2.1 41 = .ok (.aload_n 0, 1) := dX5_factors_41
theorem eX5_factors_42 : decode mX5_factors.2.1 42 = .ok (.iload_n 1, 1) := dX5_factors_42
theorem eX5_factors_43 : decode mX5_factors.2.1 43 = .ok (.invokevirtual 98, 3) := dX5_factors_43
theorem eX5_factors_46 : decode mX5_factors.2.1 46 = .ok (.invokevirtual 101, 3) := dX5_factors_46
theorem eX5_factors_49 : decode mX5_factors.2.1 49 = .ok (.istore_n 2, 1) := dX5_factors_49
theorem eX5_factors_50 : decode mX5_factors.2.1 50 = .ok (.iinc 3 1, 3) := dX5_factors_50
theorem eX5_factors_53 : decode mX5_factors.2.1 53 = .ok (.goto (-45), 3) := dX5_factors_53
theorem eX5_factors_56 : decode mX5_factors.2.1 56 = .ok (.iload_n 2, 1) := dX5_factors_56
theorem eX5_factors_57 : decode mX5_factors.2.1 57 = .ok (.ireturn, 1) := dX5_factors_57
theorem eX5_fail_0 : decode mX5_fail.2.1 0 = .ok (.aload_n 0, 1) := dX5_fail_0
theorem eX5_fail_1 : decode mX5_fail.2.1 1 = .ok (.getfield 9, 3) := dX5_fail_1
theorem eX5_fail_4 : decode mX5_fail.2.1 4 = .ok (.ifCond .ne 16, 3) := dX5_fail_4
theorem eX5_fail_7 : decode mX5_fail.2.1 7 = .ok (.aload_n 0, 1) := dX5_fail_7
theorem eX5_fail_8 : decode mX5_fail.2.1 8 = .ok (.iload_n 1, 1) := dX5_fail_8
theorem eX5_fail_9 : decode mX5_fail.2.1 9 = .ok (.putfield 9, 3) := dX5_fail_9
theorem eX5_fail_12 : decode mX5_fail.2.1 12 = .ok (.aload_n 0, 1) := dX5_fail_12
theorem eX5_fail_13 : decode mX5_fail.2.1 13 = .ok (.aload_n 0, 1) := dX5_fail_13
theorem eX5_fail_14 : decode mX5_fail.2.1 14 = .ok (.getfield 28, 3) := dX5_fail_14
theorem eX5_fail_17 : decode mX5_fail.2.1 17 = .ok (.putfield 15, 3) := dX5_fail_17
theorem eX5_fail_20 : decode mX5_fail.2.1 20 = .ok (.return_, 1) := dX5_fail_20
theorem eX5_figures_0 : decode mX5_figures.2.1 0 = .ok (.aload_n 0, 1) := dX5_figures_0
theorem eX5_figures_1 : decode mX5_figures.2.1 1 = .ok (.getfield 25, 3) := dX5_figures_1
theorem eX5_figures_4 : decode mX5_figures.2.1 4 = .ok (.sipush 256, 3) := dX5_figures_4
theorem eX5_figures_7 : decode mX5_figures.2.1 7 = .ok (.if_icmp .eq 10, 3) := dX5_figures_7
theorem eX5_figures_10 : decode mX5_figures.2.1 10 = .ok (.aload_n 0, 1) := dX5_figures_10
theorem eX5_figures_11 : decode mX5_figures.2.1 11 = .ok (.iconst 1, 1) := dX5_figures_11
theorem eX5_figures_12 : decode mX5_figures.2.1 12 = .ok (.invokevirtual 56, 3) := dX5_figures_12
theorem eX5_figures_15 : decode mX5_figures.2.1 15 = .ok (.iconst 0, 1) := dX5_figures_15
theorem eX5_figures_16 : decode mX5_figures.2.1 16 = .ok (.ireturn, 1) := dX5_figures_16
theorem eX5_figures_17 : decode mX5_figures.2.1 17 = .ok (.aload_n 0, 1) := dX5_figures_17
theorem eX5_figures_18 : decode mX5_figures.2.1 18 = .ok (.getfield 31, 3) := dX5_figures_18
theorem eX5_figures_21 : decode mX5_figures.2.1 21 = .ok (.iload_n 1, 1) := dX5_figures_21
theorem eX5_figures_22 : decode mX5_figures.2.1 22 = .ok (.if_icmp .le 10, 3) := dX5_figures_22
theorem eX5_figures_25 : decode mX5_figures.2.1 25 = .ok (.aload_n 0, 1) := dX5_figures_25
theorem eX5_figures_26 : decode mX5_figures.2.1 26 = .ok (.iconst 2, 1) := dX5_figures_26
theorem eX5_figures_27 : decode mX5_figures.2.1 27 = .ok (.invokevirtual 56, 3) := dX5_figures_27
theorem eX5_figures_30 : decode mX5_figures.2.1 30 = .ok (.iconst 0, 1) := dX5_figures_30
theorem eX5_figures_31 : decode mX5_figures.2.1 31 = .ok (.ireturn, 1) := dX5_figures_31
theorem eX5_figures_32 : decode mX5_figures.2.1 32 = .ok (.aload_n 0, 1) := dX5_figures_32
theorem eX5_figures_33 : decode mX5_figures.2.1 33 = .ok (.getfield 31, 3) := dX5_figures_33
theorem eX5_figures_36 : decode mX5_figures.2.1 36 = .ok (.istore_n 2, 1) := dX5_figures_36
theorem eX5_figures_37 : decode mX5_figures.2.1 37 = .ok (.aload_n 0, 1) := dX5_figures_37
theorem eX5_figures_38 : decode mX5_figures.2.1 38 = .ok (.invokevirtual 49, 3) := dX5_figures_38
theorem eX5_figures_41 : decode mX5_figures.2.1 41 = .ok (.iload_n 2, 1) := dX5_figures_41
theorem eX5_figures_42 : decode mX5_figures.2.1 42 = .ok (.ireturn, 1) := dX5_figures_42
theorem eX5_init_0 : decode mX5_init.2.1 0 = .ok (.aload_n 0, 1) := dX5_init_0
theorem eX5_init_1 : decode mX5_init.2.1 1 = .ok (.invokespecial 3, 3) := dX5_init_1
theorem eX5_init_4 : decode mX5_init.2.1 4 = .ok (.aload_n 0, 1) := dX5_init_4
theorem eX5_init_5 : decode mX5_init.2.1 5 = .ok (.iconst 0, 1) := dX5_init_5
theorem eX5_init_6 : decode mX5_init.2.1 6 = .ok (.putfield 9, 3) := dX5_init_6
theorem eX5_init_9 : decode mX5_init.2.1 9 = .ok (.aload_n 0, 1) := dX5_init_9
theorem eX5_init_10 : decode mX5_init.2.1 10 = .ok (.iconst (-1), 1) := dX5_init_10
theorem eX5_init_11 : decode mX5_init.2.1 11 = .ok (.putfield 15, 3) := dX5_init_11
theorem eX5_init_14 : decode mX5_init.2.1 14 = .ok (.aload_n 0, 1) := dX5_init_14
theorem eX5_init_15 : decode mX5_init.2.1 15 = .ok (.iconst 0, 1) := dX5_init_15
theorem eX5_init_16 : decode mX5_init.2.1 16 = .ok (.putfield 18, 3) := dX5_init_16
theorem eX5_init_19 : decode mX5_init.2.1 19 = .ok (.aload_n 0, 1) := dX5_init_19
theorem eX5_init_20 : decode mX5_init.2.1 20 = .ok (.iconst 0, 1) := dX5_init_20
theorem eX5_init_21 : decode mX5_init.2.1 21 = .ok (.putfield 22, 3) := dX5_init_21
theorem eX5_init_24 : decode mX5_init.2.1 24 = .ok (.aload_n 0, 1) := dX5_init_24
theorem eX5_init_25 : decode mX5_init.2.1 25 = .ok (.sipush 257, 3) := dX5_init_25
theorem eX5_init_28 : decode mX5_init.2.1 28 = .ok (.putfield 25, 3) := dX5_init_28
theorem eX5_init_31 : decode mX5_init.2.1 31 = .ok (.aload_n 0, 1) := dX5_init_31
theorem eX5_init_32 : decode mX5_init.2.1 32 = .ok (.iconst 0, 1) := dX5_init_32
theorem eX5_init_33 : decode mX5_init.2.1 33 = .ok (.putfield 28, 3) := dX5_init_33
theorem eX5_init_36 : decode mX5_init.2.1 36 = .ok (.aload_n 0, 1) := dX5_init_36
theorem eX5_init_37 : decode mX5_init.2.1 37 = .ok (.iconst 0, 1) := dX5_init_37
theorem eX5_init_38 : decode mX5_init.2.1 38 = .ok (.putfield 31, 3) := dX5_init_38
theorem eX5_init_41 : decode mX5_init.2.1 41 = .ok (.aload_n 0, 1) := dX5_init_41
theorem eX5_init_42 : decode mX5_init.2.1 42 = .ok (.iconst 0, 1) := dX5_init_42
theorem eX5_init_43 : decode mX5_init.2.1 43 = .ok (.putfield 34, 3) := dX5_init_43
theorem eX5_init_46 : decode mX5_init.2.1 46 = .ok (.aload_n 0, 1) := dX5_init_46
theorem eX5_init_47 : decode mX5_init.2.1 47 = .ok (.aload_n 1, 1) := dX5_init_47
theorem eX5_init_48 : decode mX5_init.2.1 48 = .ok (.putfield 37, 3) := dX5_init_48
theorem eX5_init_51 : decode mX5_init.2.1 51 = .ok (.aload_n 0, 1) := dX5_init_51
theorem eX5_init_52 : decode mX5_init.2.1 52 = .ok (.aload_n 2, 1) := dX5_init_52
theorem eX5_init_53 : decode mX5_init.2.1 53 = .ok (.putfield 41, 3) := dX5_init_53
theorem eX5_init_56 : decode mX5_init.2.1 56 = .ok (.aload_n 0, 1) := dX5_init_56
theorem eX5_init_57 : decode mX5_init.2.1 57 = .ok (.aload_n 3, 1) := dX5_init_57
theorem eX5_init_58 : decode mX5_init.2.1 58 = .ok (.putfield 45, 3) := dX5_init_58
theorem eX5_init_61 : decode mX5_init.2.1 61 = .ok (.return_, 1) := dX5_init_61
theorem eX5_isFigure_0 : decode mX5_isFigure.2.1 0 = .ok (.iload_n 0, 1) := dX5_isFigure_0
theorem eX5_isFigure_1 : decode mX5_isFigure.2.1 1 = .ok (.bipush 48, 2) := dX5_isFigure_1
theorem eX5_isFigure_3 : decode mX5_isFigure.2.1 3 = .ok (.if_icmp .lt 13, 3) := dX5_isFigure_3
theorem eX5_isFigure_6 : decode mX5_isFigure.2.1 6 = .ok (.iload_n 0, 1) := dX5_isFigure_6
theorem eX5_isFigure_7 : decode mX5_isFigure.2.1 7 = .ok (.bipush 57, 2) := dX5_isFigure_7
theorem eX5_isFigure_9 : decode mX5_isFigure.2.1 9 = .ok (.if_icmp .gt 7, 3) := dX5_isFigure_9
theorem eX5_isFigure_12 : decode mX5_isFigure.2.1 12 = .ok (.iconst 1, 1) := dX5_isFigure_12
theorem eX5_isFigure_13 : decode mX5_isFigure.2.1 13 = .ok (.goto 4, 3) := dX5_isFigure_13
theorem eX5_isFigure_16 : decode mX5_isFigure.2.1 16 = .ok (.iconst 0, 1) := dX5_isFigure_16
theorem eX5_isFigure_17 : decode mX5_isFigure.2.1 17 = .ok (.ireturn, 1) := dX5_isFigure_17
theorem eX5_next_0 : decode mX5_next.2.1 0 = .ok (.aload_n 0, 1) := dX5_next_0
theorem eX5_next_1 : decode mX5_next.2.1 1 = .ok (.aload_n 0, 1) := dX5_next_1
theorem eX5_next_2 : decode mX5_next.2.1 2 = .ok (.getfield 34, 3) := dX5_next_2
theorem eX5_next_5 : decode mX5_next.2.1 5 = .ok (.putfield 28, 3) := dX5_next_5
theorem eX5_next_8 : decode mX5_next.2.1 8 = .ok (.aload_n 0, 1) := dX5_next_8
theorem eX5_next_9 : decode mX5_next.2.1 9 = .ok (.getfield 28, 3) := dX5_next_9
theorem eX5_next_12 : decode mX5_next.2.1 12 = .ok (.aload_n 0, 1) := dX5_next_12
theorem eX5_next_13 : decode mX5_next.2.1 13 = .ok (.getfield 22, 3) := dX5_next_13
theorem eX5_next_16 : decode mX5_next.2.1 16 = .ok (.if_icmp .ge 42, 3) := dX5_next_16
theorem eX5_next_19 : decode mX5_next.2.1 19 = .ok (.aload_n 0, 1) := dX5_next_19
theorem eX5_next_20 : decode mX5_next.2.1 20 = .ok (.aload_n 0, 1) := dX5_next_20
theorem eX5_next_21 : decode mX5_next.2.1 21 = .ok (.getfield 28, 3) := dX5_next_21
theorem eX5_next_24 : decode mX5_next.2.1 24 = .ok (.invokevirtual 71, 3) := dX5_next_24
theorem eX5_next_27 : decode mX5_next.2.1 27 = .ok (.bipush 32, 2) := dX5_next_27
theorem eX5_next_29 : decode mX5_next.2.1 29 = .ok (.if_icmp .eq 16, 3) := dX5_next_29
theorem eX5_next_32 : decode mX5_next.2.1 32 = .ok (.aload_n 0, 1) := dX5_next_32
theorem eX5_next_33 : decode mX5_next.2.1 33 = .ok (.aload_n 0, 1) := dX5_next_33
theorem eX5_next_34 : decode mX5_next.2.1 34 = .ok (.getfield 28, 3) := dX5_next_34
theorem eX5_next_37 : decode mX5_next.2.1 37 = .ok (.invokevirtual 71, 3) := dX5_next_37
theorem eX5_next_40 : decode mX5_next.2.1 40 = .ok (.bipush 10, 2) := dX5_next_40
theorem eX5_next_42 : decode mX5_next.2.1 42 = .ok (.if_icmp .ne 16, 3) := dX5_next_42
theorem eX5_next_45 : decode mX5_next.2.1 45 = .ok (.aload_n 0, 1) := dX5_next_45
theorem eX5_next_46 : decode mX5_next.2.1 46 = .ok (.dup, 1) := dX5_next_46
theorem eX5_next_47 : decode mX5_next.2.1 47 = .ok (.getfield 28, 3) := dX5_next_47
theorem eX5_next_50 : decode mX5_next.2.1 50 = .ok (.iconst 1, 1) := dX5_next_50
theorem eX5_next_51 : decode mX5_next.2.1 51 = .ok (.iadd, 1) := dX5_next_51
theorem eX5_next_52 : decode mX5_next.2.1 52 = .ok (.putfield 28, 3) := dX5_next_52
theorem eX5_next_55 : decode mX5_next.2.1 55 = .ok (.goto (-47), 3) := dX5_next_55
theorem eX5_next_58 : decode mX5_next.2.1 58 = .ok (.aload_n 0, 1) := dX5_next_58
theorem eX5_next_59 : decode mX5_next.2.1 59 = .ok (.aload_n 0, 1) := dX5_next_59
theorem eX5_next_60 : decode mX5_next.2.1 60 = .ok (.aload_n 0, 1) := dX5_next_60
theorem eX5_next_61 : decode mX5_next.2.1 61 = .ok (.getfield 28, 3) := dX5_next_61
theorem eX5_next_64 : decode mX5_next.2.1 64 = .ok (.invokevirtual 71, 3) := dX5_next_64
theorem eX5_next_67 : decode mX5_next.2.1 67 = .ok (.putfield 25, 3) := dX5_next_67
theorem eX5_next_70 : decode mX5_next.2.1 70 = .ok (.aload_n 0, 1) := dX5_next_70
theorem eX5_next_71 : decode mX5_next.2.1 71 = .ok (.aload_n 0, 1) := dX5_next_71
theorem eX5_next_72 : decode mX5_next.2.1 72 = .ok (.getfield 28, 3) := dX5_next_72
theorem eX5_next_75 : decode mX5_next.2.1 75 = .ok (.iconst 1, 1) := dX5_next_75
theorem eX5_next_76 : decode mX5_next.2.1 76 = .ok (.iadd, 1) := dX5_next_76
theorem eX5_next_77 : decode mX5_next.2.1 77 = .ok (.putfield 34, 3) := dX5_next_77
theorem eX5_next_80 : decode mX5_next.2.1 80 = .ok (.aload_n 0, 1) := dX5_next_80
theorem eX5_next_81 : decode mX5_next.2.1 81 = .ok (.getfield 25, 3) := dX5_next_81
theorem eX5_next_84 : decode mX5_next.2.1 84 = .ok (.invokestatic 74, 3) := dX5_next_84
theorem eX5_next_87 : decode mX5_next.2.1 87 = .ok (.ifCond .eq 7, 3) := dX5_next_87
theorem eX5_next_90 : decode mX5_next.2.1 90 = .ok (.aload_n 0, 1) := dX5_next_90
theorem eX5_next_91 : decode mX5_next.2.1 91 = .ok (.invokevirtual 78, 3) := dX5_next_91
theorem eX5_next_94 : decode mX5_next.2.1 94 = .ok (.return_, 1) := dX5_next_94
theorem eX5_opened_0 : decode mX5_opened.2.1 0 = .ok (.iload_n 1, 1) := dX5_opened_0
theorem eX5_opened_1 : decode mX5_opened.2.1 1 = .ok (.bipush 8, 2) := dX5_opened_1
theorem eX5_opened_3 : decode mX5_opened.2.1 3 = .ok (.if_icmp .lt 10, 3) := dX5_opened_3
theorem eX5_opened_6 : decode mX5_opened.2.1 6 = .ok (.aload_n 0, 1) := dX5_opened_6
theorem eX5_opened_7 : decode mX5_opened.2.1 7 = .ok (.iconst 3, 1) := dX5_opened_7
theorem eX5_opened_8 : decode mX5_opened.2.1 8 = .ok (.invokevirtual 56, 3) := dX5_opened_8
theorem eX5_opened_11 : decode mX5_opened.2.1 11 = .ok (.iconst 0, 1) := dX5_opened_11
theorem eX5_opened_12 : decode mX5_opened.2.1 12 = .ok (.ireturn, 1) := dX5_opened_12
theorem eX5_opened_13 : decode mX5_opened.2.1 13 = .ok (.aload_n 0, 1) := dX5_opened_13
theorem eX5_opened_14 : decode mX5_opened.2.1 14 = .ok (.getfield 25, 3) := dX5_opened_14
theorem eX5_opened_17 : decode mX5_opened.2.1 17 = .ok (.istore_n 2, 1) := dX5_opened_17
theorem eX5_opened_18 : decode mX5_opened.2.1 18 = .ok (.aload_n 0, 1) := dX5_opened_18
theorem eX5_opened_19 : decode mX5_opened.2.1 19 = .ok (.invokevirtual 49, 3) := dX5_opened_19
theorem eX5_opened_22 : decode mX5_opened.2.1 22 = .ok (.iload_n 2, 1) := dX5_opened_22
theorem eX5_opened_23 : decode mX5_opened.2.1 23 = .ok (.bipush 40, 2) := dX5_opened_23
theorem eX5_opened_25 : decode mX5_opened.2.1 25 = .ok (.if_icmp .ne 45, 3) := dX5_opened_25
theorem eX5_opened_28 : decode mX5_opened.2.1 28 = .ok (.aload_n 0, 1) := dX5_opened_28
theorem eX5_opened_29 : decode mX5_opened.2.1 29 = .ok (.iload_n 1, 1) := dX5_opened_29
theorem eX5_opened_30 : decode mX5_opened.2.1 30 = .ok (.iconst 1, 1) := dX5_opened_30
theorem eX5_opened_31 : decode mX5_opened.2.1 31 = .ok (.iadd, 1) := dX5_opened_31
theorem eX5_opened_32 : decode mX5_opened.2.1 32 = .ok (.invokevirtual 52, 3) := dX5_opened_32
theorem eX5_opened_35 : decode mX5_opened.2.1 35 = .ok (.istore_n 3, 1) := dX5_opened_35
theorem eX5_opened_36 : decode mX5_opened.2.1 36 = .ok (.aload_n 0, 1) := dX5_opened_36
theorem eX5_opened_37 : decode mX5_opened.2.1 37 = .ok (.getfield 9, 3) := dX5_opened_37
theorem eX5_opened_40 : decode mX5_opened.2.1 40 = .ok (.ifCond .ne 17, 3) := dX5_opened_40
theorem eX5_opened_43 : decode mX5_opened.2.1 43 = .ok (.aload_n 0, 1) := dX5_opened_43
theorem eX5_opened_44 : decode mX5_opened.2.1 44 = .ok (.getfield 25, 3) := dX5_opened_44
theorem eX5_opened_47 : decode mX5_opened.2.1 47 = .ok (.bipush 41, 2) := dX5_opened_47
theorem eX5_opened_49 : decode mX5_opened.2.1 49 = .ok (.if_icmp .eq 8, 3) := dX5_opened_49
theorem eX5_opened_52 : decode mX5_opened.2.1 52 = .ok (.aload_n 0, 1) := dX5_opened_52
theorem eX5_opened_53 : decode mX5_opened.2.1 53 = .ok (.iconst 1, 1) := dX5_opened_53
theorem eX5_opened_54 : decode mX5_opened.2.1 54 = .ok (.invokevirtual 56, 3) := dX5_opened_54
theorem eX5_opened_57 : decode mX5_opened.2.1 57 = .ok (.aload_n 0, 1) := dX5_opened_57
theorem eX5_opened_58 : decode mX5_opened.2.1 58 = .ok (.getfield 9, 3) := dX5_opened_58
theorem eX5_opened_61 : decode mX5_opened.2.1 61 = .ok (.ifCond .ne 7, 3) := dX5_opened_61
theorem eX5_opened_64 : decode mX5_opened.2.1 64 = .ok (.aload_n 0, 1) := dX5_opened_64
theorem eX5_opened_65 : decode mX5_opened.2.1 65 = .ok (.invokevirtual 49, 3) := dX5_opened_65
theorem eX5_opened_68 : decode mX5_opened.2.1 68 = .ok (.iload_n 3, 1) := dX5_opened_68
theorem eX5_opened_69 : decode mX5_opened.2.1 69 = .ok (.ireturn, 1) := dX5_opened_69
theorem eX5_opened_70 : decode mX5_opened.2.1 70 = .ok (.aload_n 0, 1) := dX5_opened_70
theorem eX5_opened_71 : decode mX5_opened.2.1 71 = .ok (.iload_n 2, 1) := dX5_opened_71
theorem eX5_opened_72 : decode mX5_opened.2.1 72 = .ok (.aload_n 0, 1) := dX5_opened_72
theorem eX5_opened_73 : decode mX5_opened.2.1 73 = .ok (.iload_n 1, 1) := dX5_opened_73
theorem eX5_opened_74 : decode mX5_opened.2.1 74 = .ok (.iconst 1, 1) := dX5_opened_74
theorem eX5_opened_75 : decode mX5_opened.2.1 75 = .ok (.iadd, 1) := dX5_opened_75
theorem eX5_opened_76 : decode mX5_opened.2.1 76 = .ok (.invokevirtual 104, 3) := dX5_opened_76
theorem eX5_opened_79 : decode mX5_opened.2.1 79 = .ok (.invokevirtual 132, 3) := dX5_opened_79
theorem eX5_opened_82 : decode mX5_opened.2.1 82 = .ok (.ireturn, 1) := dX5_opened_82
theorem eX5_read_0 : decode mX5_read.2.1 0 = .ok (.aload_n 0, 1) := dX5_read_0
theorem eX5_read_1 : decode mX5_read.2.1 1 = .ok (.iconst 0, 1) := dX5_read_1
theorem eX5_read_2 : decode mX5_read.2.1 2 = .ok (.putfield 9, 3) := dX5_read_2
theorem eX5_read_5 : decode mX5_read.2.1 5 = .ok (.aload_n 0, 1) := dX5_read_5
theorem eX5_read_6 : decode mX5_read.2.1 6 = .ok (.iconst (-1), 1) := dX5_read_6
theorem eX5_read_7 : decode mX5_read.2.1 7 = .ok (.putfield 15, 3) := dX5_read_7
theorem eX5_read_10 : decode mX5_read.2.1 10 = .ok (.aload_n 0, 1) := dX5_read_10
theorem eX5_read_11 : decode mX5_read.2.1 11 = .ok (.iconst 0, 1) := dX5_read_11
theorem eX5_read_12 : decode mX5_read.2.1 12 = .ok (.putfield 18, 3) := dX5_read_12
theorem eX5_read_15 : decode mX5_read.2.1 15 = .ok (.aload_n 0, 1) := dX5_read_15
theorem eX5_read_16 : decode mX5_read.2.1 16 = .ok (.iload_n 1, 1) := dX5_read_16
theorem eX5_read_17 : decode mX5_read.2.1 17 = .ok (.putfield 22, 3) := dX5_read_17
theorem eX5_read_20 : decode mX5_read.2.1 20 = .ok (.aload_n 0, 1) := dX5_read_20
theorem eX5_read_21 : decode mX5_read.2.1 21 = .ok (.iconst 0, 1) := dX5_read_21
theorem eX5_read_22 : decode mX5_read.2.1 22 = .ok (.putfield 34, 3) := dX5_read_22
theorem eX5_read_25 : decode mX5_read.2.1 25 = .ok (.aload_n 0, 1) := dX5_read_25
theorem eX5_read_26 : decode mX5_read.2.1 26 = .ok (.invokevirtual 49, 3) := dX5_read_26
theorem eX5_read_29 : decode mX5_read.2.1 29 = .ok (.aload_n 0, 1) := dX5_read_29
theorem eX5_read_30 : decode mX5_read.2.1 30 = .ok (.iconst 0, 1) := dX5_read_30
theorem eX5_read_31 : decode mX5_read.2.1 31 = .ok (.invokevirtual 52, 3) := dX5_read_31
theorem eX5_read_34 : decode mX5_read.2.1 34 = .ok (.istore_n 2, 1) := dX5_read_34
theorem eX5_read_35 : decode mX5_read.2.1 35 = .ok (.aload_n 0, 1) := dX5_read_35
theorem eX5_read_36 : decode mX5_read.2.1 36 = .ok (.getfield 25, 3) := dX5_read_36
theorem eX5_read_39 : decode mX5_read.2.1 39 = .ok (.sipush 257, 3) := dX5_read_39
theorem eX5_read_42 : decode mX5_read.2.1 42 = .ok (.if_icmp .eq 8, 3) := dX5_read_42
theorem eX5_read_45 : decode mX5_read.2.1 45 = .ok (.aload_n 0, 1) := dX5_read_45
theorem eX5_read_46 : decode mX5_read.2.1 46 = .ok (.iconst 1, 1) := dX5_read_46
theorem eX5_read_47 : decode mX5_read.2.1 47 = .ok (.invokevirtual 56, 3) := dX5_read_47
theorem eX5_read_50 : decode mX5_read.2.1 50 = .ok (.iload_n 2, 1) := dX5_read_50
theorem eX5_read_51 : decode mX5_read.2.1 51 = .ok (.ireturn, 1) := dX5_read_51
theorem eX5_takeFigures_0 : decode mX5_takeFigures.2.1 0 = .ok (.aload_n 0, 1) := dX5_takeFigures_0
theorem eX5_takeFigures_1 : decode mX5_takeFigures.2.1 1 = .ok (.sipush 256, 3) := dX5_takeFigures_1
theorem eX5_takeFigures_4 : decode mX5_takeFigures.2.1 4 = .ok (.putfield 25, 3) := dX5_takeFigures_4
theorem eX5_takeFigures_7 : decode mX5_takeFigures.2.1 7 = .ok (.aload_n 0, 1) := dX5_takeFigures_7
theorem eX5_takeFigures_8 : decode mX5_takeFigures.2.1 8 = .ok (.iconst 0, 1) := dX5_takeFigures_8
theorem eX5_takeFigures_9 : decode mX5_takeFigures.2.1 9 = .ok (.putfield 31, 3) := dX5_takeFigures_9
theorem eX5_takeFigures_12 : decode mX5_takeFigures.2.1 12 = .ok (.aload_n 0, 1) := dX5_takeFigures_12
theorem eX5_takeFigures_13 : decode mX5_takeFigures.2.1 13 = .ok (.aload_n 0, 1) := dX5_takeFigures_13
theorem eX5_takeFigures_14 : decode mX5_takeFigures.2.1 14 = .ok (.getfield 28, 3) := dX5_takeFigures_14
theorem eX5_takeFigures_17 : decode mX5_takeFigures.2.1 17 = .ok (.putfield 34, 3) := dX5_takeFigures_17
theorem eX5_takeFigures_20 : decode mX5_takeFigures.2.1 20 = .ok (.aload_n 0, 1) := dX5_takeFigures_20
theorem eX5_takeFigures_21 : decode mX5_takeFigures.2.1 21 = .ok (.getfield 34, 3) := dX5_takeFigures_21
theorem eX5_takeFigures_24 : decode mX5_takeFigures.2.1 24 = .ok (.aload_n 0, 1) := dX5_takeFigures_24
theorem eX5_takeFigures_25 : decode mX5_takeFigures.2.1 25 = .ok (.getfield 22, 3) := dX5_takeFigures_25
theorem eX5_takeFigures_28 : decode mX5_takeFigures.2.1 28 = .ok (.if_icmp .ge 59, 3) := dX5_takeFigures_28
theorem eX5_takeFigures_31 : decode mX5_takeFigures.2.1 31 = .ok (.aload_n 0, 1) := dX5_takeFigures_31
theorem eX5_takeFigures_32 : decode mX5_takeFigures.2.1 32 = .ok (.aload_n 0, 1) := dX5_takeFigures_32
theorem eX5_takeFigures_33 : decode mX5_takeFigures.2.1 33 = .ok (.getfield 34, 3) := dX5_takeFigures_33
theorem eX5_takeFigures_36 : decode mX5_takeFigures.2.1 36 = .ok (.invokevirtual 71, 3) := dX5_takeFigures_36
theorem eX5_takeFigures_39 : decode mX5_takeFigures.2.1 39 = .ok (.invokestatic 74, 3) := dX5_takeFigures_39
theorem eX5_takeFigures_42 : decode mX5_takeFigures.2.1 42 = .ok (.ifCond .eq 45, 3) := dX5_takeFigures_42
theorem eX5_takeFigures_45 : decode mX5_takeFigures.2.1 45 = .ok (.aload_n 0, 1) := dX5_takeFigures_45
theorem eX5_takeFigures_46 : decode mX5_takeFigures.2.1 46 = .ok (.aload_n 0, 1) := dX5_takeFigures_46
theorem eX5_takeFigures_47 : decode mX5_takeFigures.2.1 47 = .ok (.getfield 31, 3) := dX5_takeFigures_47
theorem eX5_takeFigures_50 : decode mX5_takeFigures.2.1 50 = .ok (.bipush 10, 2) := dX5_takeFigures_50
theorem eX5_takeFigures_52 : decode mX5_takeFigures.2.1 52 = .ok (.imul, 1) := dX5_takeFigures_52
theorem eX5_takeFigures_53 : decode mX5_takeFigures.2.1 53 = .ok (.aload_n 0, 1) := dX5_takeFigures_53
theorem eX5_takeFigures_54 : decode mX5_takeFigures.2.1 54 = .ok (.aload_n 0, 1) := dX5_takeFigures_54
theorem eX5_takeFigures_55 : decode mX5_takeFigures.2.1 55 = .ok (.getfield 34, 3) := dX5_takeFigures_55
theorem eX5_takeFigures_58 : decode mX5_takeFigures.2.1 58 = .ok (.invokevirtual 71, 3) := dX5_takeFigures_58
theorem eX5_takeFigures_61 : decode mX5_takeFigures.2.1 61 = .ok (.iadd, 1) := dX5_takeFigures_61
theorem eX5_takeFigures_62 : decode mX5_takeFigures.2.1 62 = .ok (.bipush 48, 2) := dX5_takeFigures_62
theorem eX5_takeFigures_64 : decode mX5_takeFigures.2.1 64 = .ok (.isub, 1) := dX5_takeFigures_64
theorem eX5_takeFigures_65 : decode mX5_takeFigures.2.1 65 = .ok (.sipush 10000, 3) := dX5_takeFigures_65
theorem eX5_takeFigures_68 : decode mX5_takeFigures.2.1 68 = .ok (.invokestatic 81, 3) := dX5_takeFigures_68
theorem eX5_takeFigures_71 : decode mX5_takeFigures.2.1 71 = .ok (.putfield 31, 3) := dX5_takeFigures_71
theorem eX5_takeFigures_74 : decode mX5_takeFigures.2.1 74 = .ok (.aload_n 0, 1) := dX5_takeFigures_74
theorem eX5_takeFigures_75 : decode mX5_takeFigures.2.1 75 = .ok (.dup, 1) := dX5_takeFigures_75
theorem eX5_takeFigures_76 : decode mX5_takeFigures.2.1 76 = .ok (.getfield 34, 3) := dX5_takeFigures_76
theorem eX5_takeFigures_79 : decode mX5_takeFigures.2.1 79 = .ok (.iconst 1, 1) := dX5_takeFigures_79
theorem eX5_takeFigures_80 : decode mX5_takeFigures.2.1 80 = .ok (.iadd, 1) := dX5_takeFigures_80
theorem eX5_takeFigures_81 : decode mX5_takeFigures.2.1 81 = .ok (.putfield 34, 3) := dX5_takeFigures_81
theorem eX5_takeFigures_84 : decode mX5_takeFigures.2.1 84 = .ok (.goto (-64), 3) := dX5_takeFigures_84
theorem eX5_takeFigures_87 : decode mX5_takeFigures.2.1 87 = .ok (.return_, 1) := dX5_takeFigures_87
theorem eX5_terms_0 : decode mX5_terms.2.1 0 = .ok (.aload_n 0, 1) := dX5_terms_0
theorem eX5_terms_1 : decode mX5_terms.2.1 1 = .ok (.iload_n 1, 1) := dX5_terms_1
theorem eX5_terms_2 : decode mX5_terms.2.1 2 = .ok (.invokevirtual 87, 3) := dX5_terms_2
theorem eX5_terms_5 : decode mX5_terms.2.1 5 = .ok (.istore_n 2, 1) := dX5_terms_5
theorem eX5_terms_6 : decode mX5_terms.2.1 6 = .ok (.iconst 0, 1) := dX5_terms_6
theorem eX5_terms_7 : decode mX5_terms.2.1 7 = .ok (.istore_n 3, 1) := dX5_terms_7
theorem eX5_terms_8 : decode mX5_terms.2.1 8 = .ok (.iload_n 3, 1) := dX5_terms_8
theorem eX5_terms_9 : decode mX5_terms.2.1 9 = .ok (.aload_n 0, 1) := dX5_terms_9
theorem eX5_terms_10 : decode mX5_terms.2.1 10 = .ok (.getfield 22, 3) := dX5_terms_10
theorem eX5_terms_13 : decode mX5_terms.2.1 13 = .ok (.if_icmp .ge 90, 3) := dX5_terms_13
theorem eX5_terms_16 : decode mX5_terms.2.1 16 = .ok (.aload_n 0, 1) := dX5_terms_16
theorem eX5_terms_17 : decode mX5_terms.2.1 17 = .ok (.getfield 9, 3) := dX5_terms_17
theorem eX5_terms_20 : decode mX5_terms.2.1 20 = .ok (.ifCond .ne 83, 3) := dX5_terms_20
theorem eX5_terms_23 : decode mX5_terms.2.1 23 = .ok (.aload_n 0, 1) := dX5_terms_23
theorem eX5_terms_24 : decode mX5_terms.2.1 24 = .ok (.getfield 25, 3) := dX5_terms_24
theorem eX5_terms_27 : decode mX5_terms.2.1 27 = .ok (.bipush 43, 2) := dX5_terms_27
theorem eX5_terms_29 : decode mX5_terms.2.1 29 = .ok (.if_icmp .eq 12, 3) := dX5_terms_29
theorem eX5_terms_32 : decode mX5_terms.2.1 32 = .ok (.aload_n 0, 1) := dX5_terms_32
theorem eX5_terms_33 : decode mX5_terms.2.1 33 = .ok (.getfield 25, 3) := dX5_terms_33
theorem eX5_terms_36 : decode mX5_terms.2.1 36 = .ok (.bipush 45, 2) := dX5_terms_36
theorem eX5_terms_38 : decode mX5_terms.2.1 38 = .ok (.if_icmp .ne 65, 3) := dX5_terms_38
theorem eX5_terms_41 : decode mX5_terms.2.1 41 = .ok (.aload_n 0, 1) := dX5_terms_41
theorem eX5_terms_42 : decode mX5_terms.2.1 42 = .ok (.getfield 25, 3) := dX5_terms_42
theorem eX5_terms_45 : decode mX5_terms.2.1 45 = .ok (.bipush 45, 2) := dX5_terms_45
theorem eX5_terms_47 : decode mX5_terms.2.1 47 = .ok (.if_icmp .ne 7, 3) := dX5_terms_47
theorem eX5_terms_50 : decode mX5_terms.2.1 50 = .ok (.iconst 1, 1) := dX5_terms_50
theorem eX5_terms_51 : decode mX5_terms.2.1 51 = .ok (.goto 4, 3) := dX5_terms_51
theorem eX5_terms_54 : decode mX5_terms.2.1 54 = .ok (.iconst 0, 1) := dX5_terms_54
theorem eX5_terms_55 : decode mX5_terms.2.1 55 = .ok (.istore 4, 2) := dX5_terms_55
theorem eX5_terms_57 : decode mX5_terms.2.1 57 = .ok (.aload_n 0, 1) := dX5_terms_57
theorem eX5_terms_58 : decode mX5_terms.2.1 58 = .ok (.invokevirtual 49, 3) := dX5_terms_58
theorem eX5_terms_61 : decode mX5_terms.2.1 61 = .ok (.aload_n 0, 1) := dX5_terms_61
theorem eX5_terms_62 : decode mX5_terms.2.1 62 = .ok (.iload_n 1, 1) := dX5_terms_62
theorem eX5_terms_63 : decode mX5_terms.2.1 63 = .ok (.invokevirtual 87, 3) := dX5_terms_63
theorem eX5_terms_66 : decode mX5_terms.2.1 66 = .ok (.istore 5, 2) := dX5_terms_66
theorem eX5_terms_68 : decode mX5_terms.2.1 68 = .ok (.iload 4, 2) := dX5_terms_68
theorem eX5_terms_70 : decode mX5_terms.2.1 70 = .ok (.ifCond .eq 16, 3) := dX5_terms_70
theorem eX5_terms_73 : decode mX5_terms.2.1 73 = .ok (.aload_n 0, 1) := dX5_terms_73
theorem eX5_terms_74 : decode mX5_terms.2.1 74 = .ok (.getfield 37, 3) := dX5_terms_74
theorem eX5_terms_77 : decode mX5_terms.2.1 77 = .ok (.iload_n 2, 1) := dX5_terms_77
theorem eX5_terms_78 : decode mX5_terms.2.1 78 = .ok (.iload 5, 2) := dX5_terms_78
theorem eX5_terms_80 : decode mX5_terms.2.1 80 = .ok (.invokevirtual 90, 3) := dX5_terms_80
theorem eX5_terms_83 : decode mX5_terms.2.1 83 = .ok (.goto 13, 3) := dX5_terms_83
theorem eX5_terms_86 : decode mX5_terms.2.1 86 = .ok (.aload_n 0, 1) := dX5_terms_86
theorem eX5_terms_87 : decode mX5_terms.2.1 87 = .ok (.getfield 37, 3) := dX5_terms_87
theorem eX5_terms_90 : decode mX5_terms.2.1 90 = .ok (.iload_n 2, 1) := dX5_terms_90
theorem eX5_terms_91 : decode mX5_terms.2.1 91 = .ok (.iload 5, 2) := dX5_terms_91
theorem eX5_terms_93 : decode mX5_terms.2.1 93 = .ok (.invokevirtual 95, 3) := dX5_terms_93
theorem eX5_terms_96 : decode mX5_terms.2.1 96 = .ok (.istore_n 2, 1) := dX5_terms_96
theorem eX5_terms_97 : decode mX5_terms.2.1 97 = .ok (.iinc 3 1, 3) := dX5_terms_97
theorem eX5_terms_100 : decode mX5_terms.2.1 100 = .ok (.goto (-92), 3) := dX5_terms_100
theorem eX5_terms_103 : decode mX5_terms.2.1 103 = .ok (.iload_n 2, 1) := dX5_terms_103
theorem eX5_terms_104 : decode mX5_terms.2.1 104 = .ok (.ireturn, 1) := dX5_terms_104
theorem eX6_append_0 : decode mX6_append.2.1 0 = .ok (.aload_n 0, 1) := dX6_append_0
theorem eX6_append_1 : decode mX6_append.2.1 1 = .ok (.getfield 15, 3) := dX6_append_1
theorem eX6_append_4 : decode mX6_append.2.1 4 = .ok (.aload_n 0, 1) := dX6_append_4
theorem eX6_append_5 : decode mX6_append.2.1 5 = .ok (.getfield 9, 3) := dX6_append_5
theorem eX6_append_8 : decode mX6_append.2.1 8 = .ok (.iload_n 1, 1) := dX6_append_8
theorem eX6_append_9 : decode mX6_append.2.1 9 = .ok (.invokestatic 39, 3) := dX6_append_9
theorem eX6_append_12 : decode mX6_append.2.1 12 = .ok (.aload_n 0, 1) := dX6_append_12
theorem eX6_append_13 : decode mX6_append.2.1 13 = .ok (.dup, 1) := dX6_append_13
theorem eX6_append_14 : decode mX6_append.2.1 14 = .ok (.getfield 9, 3) := dX6_append_14
theorem eX6_append_17 : decode mX6_append.2.1 17 = .ok (.iconst 1, 1) := dX6_append_17
theorem eX6_append_18 : decode mX6_append.2.1 18 = .ok (.iadd, 1) := dX6_append_18
theorem eX6_append_19 : decode mX6_append.2.1 19 = .ok (.putfield 9, 3) := dX6_append_19
theorem eX6_append_22 : decode mX6_append.2.1 22 = .ok (.return_, 1) := dX6_append_22
theorem eX6_figures_0 : decode mX6_figures.2.1 0 = .ok (.sipush 1000, 3) := dX6_figures_0
theorem eX6_figures_3 : decode mX6_figures.2.1 3 = .ok (.istore_n 2, 1) := dX6_figures_3
theorem eX6_figures_4 : decode mX6_figures.2.1 4 = .ok (.iload_n 2, 1) := dX6_figures_4
theorem eX6_figures_5 : decode mX6_figures.2.1 5 = .ok (.ifCond .le 29, 3) := dX6_figures_5
theorem eX6_figures_8 : decode mX6_figures.2.1 8 = .ok (.iload_n 1, 1) := dX6_figures_8
theorem eX6_figures_9 : decode mX6_figures.2.1 9 = .ok (.iload_n 2, 1) := dX6_figures_9
theorem eX6_figures_10 : decode mX6_figures.2.1 10 = .ok (.if_icmp .lt 16, 3) := dX6_figures_10
theorem eX6_figures_13 : decode mX6_figures.2.1 13 = .ok (.aload_n 0, 1) := dX6_figures_13
theorem eX6_figures_14 : decode mX6_figures.2.1 14 = .ok (.bipush 48, 2) := dX6_figures_14
theorem eX6_figures_16 : decode mX6_figures.2.1 16 = .ok (.iload_n 1, 1) := dX6_figures_16
theorem eX6_figures_17 : decode mX6_figures.2.1 17 = .ok (.iload_n 2, 1) := dX6_figures_17
theorem eX6_figures_18 : decode mX6_figures.2.1 18 = .ok (.idiv, 1) := dX6_figures_18
theorem eX6_figures_19 : decode mX6_figures.2.1 19 = .ok (.bipush 10, 2) := dX6_figures_19
theorem eX6_figures_21 : decode mX6_figures.2.1 21 = .ok (.irem, 1) := dX6_figures_21
theorem eX6_figures_22 : decode mX6_figures.2.1 22 = .ok (.iadd, 1) := dX6_figures_22
theorem eX6_figures_23 : decode mX6_figures.2.1 23 = .ok (.invokevirtual 32, 3) := dX6_figures_23
theorem eX6_figures_26 : decode mX6_figures.2.1 26 = .ok (.iload_n 2, 1) := dX6_figures_26
theorem eX6_figures_27 : decode mX6_figures.2.1 27 = .ok (.bipush 10, 2) := dX6_figures_27
theorem eX6_figures_29 : decode mX6_figures.2.1 29 = .ok (.idiv, 1) := dX6_figures_29
theorem eX6_figures_30 : decode mX6_figures.2.1 30 = .ok (.istore_n 2, 1) := dX6_figures_30
theorem eX6_figures_31 : decode mX6_figures.2.1 31 = .ok (.goto (-27), 3) := dX6_figures_31
theorem eX6_figures_34 : decode mX6_figures.2.1 34 = .ok (.return_, 1) := dX6_figures_34
theorem eX6_init_0 : decode mX6_init.2.1 0 = .ok (.aload_n 0, 1) := dX6_init_0
theorem eX6_init_1 : decode mX6_init.2.1 1 = .ok (.invokespecial 3, 3) := dX6_init_1
theorem eX6_init_4 : decode mX6_init.2.1 4 = .ok (.aload_n 0, 1) := dX6_init_4
theorem eX6_init_5 : decode mX6_init.2.1 5 = .ok (.iconst 0, 1) := dX6_init_5
theorem eX6_init_6 : decode mX6_init.2.1 6 = .ok (.putfield 9, 3) := dX6_init_6
theorem eX6_init_9 : decode mX6_init.2.1 9 = .ok (.aload_n 0, 1) := dX6_init_9
theorem eX6_init_10 : decode mX6_init.2.1 10 = .ok (.sipush 200, 3) := dX6_init_10
theorem eX6_init_13 : decode mX6_init.2.1 13 = .ok (.newarray .int, 2) := dX6_init_13
theorem eX6_init_15 : decode mX6_init.2.1 15 = .ok (.putfield 15, 3) := dX6_init_15
theorem eX6_init_18 : decode mX6_init.2.1 18 = .ok (.aload_n 0, 1) := dX6_init_18
theorem eX6_init_19 : decode mX6_init.2.1 19 = .ok (.bipush 6, 2) := dX6_init_19
theorem eX6_init_21 : decode mX6_init.2.1 21 = .ok (.newarray .int, 2) := dX6_init_21
theorem eX6_init_23 : decode mX6_init.2.1 23 = .ok (.putfield 19, 3) := dX6_init_23
theorem eX6_init_26 : decode mX6_init.2.1 26 = .ok (.return_, 1) := dX6_init_26
theorem eX6_part_0 : decode mX6_part.2.1 0 = .ok (.aload_n 0, 1) := dX6_part_0
theorem eX6_part_1 : decode mX6_part.2.1 1 = .ok (.getfield 9, 3) := dX6_part_1
theorem eX6_part_4 : decode mX6_part.2.1 4 = .ok (.ifCond .le 9, 3) := dX6_part_4
theorem eX6_part_7 : decode mX6_part.2.1 7 = .ok (.aload_n 0, 1) := dX6_part_7
theorem eX6_part_8 : decode mX6_part.2.1 8 = .ok (.bipush 43, 2) := dX6_part_8
theorem eX6_part_10 : decode mX6_part.2.1 10 = .ok (.invokevirtual 32, 3) := dX6_part_10
theorem eX6_part_13 : decode mX6_part.2.1 13 = .ok (.iload_n 1, 1) := dX6_part_13
theorem eX6_part_14 : decode mX6_part.2.1 14 = .ok (.iconst 1, 1) := dX6_part_14
theorem eX6_part_15 : decode mX6_part.2.1 15 = .ok (.if_icmp .gt 7, 3) := dX6_part_15
theorem eX6_part_18 : decode mX6_part.2.1 18 = .ok (.iload_n 2, 1) := dX6_part_18
theorem eX6_part_19 : decode mX6_part.2.1 19 = .ok (.ifCond .ne 8, 3) := dX6_part_19
theorem eX6_part_22 : decode mX6_part.2.1 22 = .ok (.aload_n 0, 1) := dX6_part_22
theorem eX6_part_23 : decode mX6_part.2.1 23 = .ok (.iload_n 1, 1) := dX6_part_23
theorem eX6_part_24 : decode mX6_part.2.1 24 = .ok (.invokevirtual 36, 3) := dX6_part_24
theorem eX6_part_27 : decode mX6_part.2.1 27 = .ok (.iload_n 1, 1) := dX6_part_27
theorem eX6_part_28 : decode mX6_part.2.1 28 = .ok (.iconst 1, 1) := dX6_part_28
theorem eX6_part_29 : decode mX6_part.2.1 29 = .ok (.if_icmp .le 13, 3) := dX6_part_29
theorem eX6_part_32 : decode mX6_part.2.1 32 = .ok (.iload_n 2, 1) := dX6_part_32
theorem eX6_part_33 : decode mX6_part.2.1 33 = .ok (.ifCond .le 9, 3) := dX6_part_33
theorem eX6_part_36 : decode mX6_part.2.1 36 = .ok (.aload_n 0, 1) := dX6_part_36
theorem eX6_part_37 : decode mX6_part.2.1 37 = .ok (.bipush 42, 2) := dX6_part_37
theorem eX6_part_39 : decode mX6_part.2.1 39 = .ok (.invokevirtual 32, 3) := dX6_part_39
theorem eX6_part_42 : decode mX6_part.2.1 42 = .ok (.iload_n 2, 1) := dX6_part_42
theorem eX6_part_43 : decode mX6_part.2.1 43 = .ok (.ifCond .le 9, 3) := dX6_part_43
theorem eX6_part_46 : decode mX6_part.2.1 46 = .ok (.aload_n 0, 1) := dX6_part_46
theorem eX6_part_47 : decode mX6_part.2.1 47 = .ok (.bipush 116, 2) := dX6_part_47
theorem eX6_part_49 : decode mX6_part.2.1 49 = .ok (.invokevirtual 32, 3) := dX6_part_49
theorem eX6_part_52 : decode mX6_part.2.1 52 = .ok (.iload_n 2, 1) := dX6_part_52
theorem eX6_part_53 : decode mX6_part.2.1 53 = .ok (.iconst 1, 1) := dX6_part_53
theorem eX6_part_54 : decode mX6_part.2.1 54 = .ok (.if_icmp .le 14, 3) := dX6_part_54
theorem eX6_part_57 : decode mX6_part.2.1 57 = .ok (.aload_n 0, 1) := dX6_part_57
theorem eX6_part_58 : decode mX6_part.2.1 58 = .ok (.bipush 94, 2) := dX6_part_58
theorem eX6_part_60 : decode mX6_part.2.1 60 = .ok (.invokevirtual 32, 3) := dX6_part_60
theorem eX6_part_63 : decode mX6_part.2.1 63 = .ok (.aload_n 0, 1) := dX6_part_63
theorem eX6_part_64 : decode mX6_part.2.1 64 = .ok (.iload_n 2, 1) := dX6_part_64
theorem eX6_part_65 : decode mX6_part.2.1 65 = .ok (.invokevirtual 36, 3) := dX6_part_65
theorem eX6_part_68 : decode mX6_part.2.1 68 = .ok (.return_, 1) := dX6_part_68
theorem eX6_write_0 : decode mX6_write.2.1 0 = .ok (.aload_n 0, 1) := dX6_write_0
theorem eX6_write_1 : decode mX6_write.2.1 1 = .ok (.iconst 0, 1) := dX6_write_1
theorem eX6_write_2 : decode mX6_write.2.1 2 = .ok (.putfield 9, 3) := dX6_write_2
theorem eX6_write_5 : decode mX6_write.2.1 5 = .ok (.aload_n 1, 1) := dX6_write_5
theorem eX6_write_6 : decode mX6_write.2.1 6 = .ok (.iload_n 2, 1) := dX6_write_6
theorem eX6_write_7 : decode mX6_write.2.1 7 = .ok (.aload_n 0, 1) := dX6_write_7
theorem eX6_write_8 : decode mX6_write.2.1 8 = .ok (.getfield 19, 3) := dX6_write_8
theorem eX6_write_11 : decode mX6_write.2.1 11 = .ok (.invokevirtual 22, 3) := dX6_write_11
theorem eX6_write_14 : decode mX6_write.2.1 14 = .ok (.iconst 5, 1) := dX6_write_14
theorem eX6_write_15 : decode mX6_write.2.1 15 = .ok (.istore_n 3, 1) := dX6_write_15
theorem eX6_write_16 : decode mX6_write.2.1 16 = .ok (.iload_n 3, 1) := dX6_write_16
theorem eX6_write_17 : decode mX6_write.2.1 17 = .ok (.ifCond .lt 29, 3) := dX6_write_17
theorem eX6_write_20 : decode mX6_write.2.1 20 = .ok (.aload_n 0, 1) := dX6_write_20
theorem eX6_write_21 : decode mX6_write.2.1 21 = .ok (.getfield 19, 3) := dX6_write_21
theorem eX6_write_24 : decode mX6_write.2.1 24 = .ok (.iload_n 3, 1) := dX6_write_24
theorem eX6_write_25 : decode mX6_write.2.1 25 = .ok (.iaload, 1) := dX6_write_25
theorem eX6_write_26 : decode mX6_write.2.1 26 = .ok (.ifCond .le 14, 3) := dX6_write_26
theorem eX6_write_29 : decode mX6_write.2.1 29 = .ok (.aload_n 0, 1) := dX6_write_29
theorem eX6_write_30 : decode mX6_write.2.1 30 = .ok (.aload_n 0, 1) := dX6_write_30
theorem eX6_write_31 : decode mX6_write.2.1 31 = .ok (.getfield 19, 3) := dX6_write_31
theorem eX6_write_34 : decode mX6_write.2.1 34 = .ok (.iload_n 3, 1) := dX6_write_34
theorem eX6_write_35 : decode mX6_write.2.1 35 = .ok (.iaload, 1) := dX6_write_35
theorem eX6_write_36 : decode mX6_write.2.1 36 = .ok (.iload_n 3, 1) := dX6_write_36
theorem eX6_write_37 : decode mX6_write.2.1 37 = .ok (.invokevirtual 28, 3) := dX6_write_37
theorem eX6_write_40 : decode mX6_write.2.1 40 = .ok (.iinc 3 (-1), 3) := dX6_write_40
theorem eX6_write_43 : decode mX6_write.2.1 43 = .ok (.goto (-27), 3) := dX6_write_43
theorem eX6_write_46 : decode mX6_write.2.1 46 = .ok (.aload_n 0, 1) := dX6_write_46
theorem eX6_write_47 : decode mX6_write.2.1 47 = .ok (.getfield 9, 3) := dX6_write_47
theorem eX6_write_50 : decode mX6_write.2.1 50 = .ok (.ifCond .ne 9, 3) := dX6_write_50
theorem eX6_write_53 : decode mX6_write.2.1 53 = .ok (.aload_n 0, 1) := dX6_write_53
theorem eX6_write_54 : decode mX6_write.2.1 54 = .ok (.bipush 48, 2) := dX6_write_54
theorem eX6_write_56 : decode mX6_write.2.1 56 = .ok (.invokevirtual 32, 3) := dX6_write_56
theorem eX6_write_59 : decode mX6_write.2.1 59 = .ok (.return_, 1) := dX6_write_59
theorem eX7_add_0 : decode mX7_add.2.1 0 = .ok (.iload_n 1, 1) := dX7_add_0
theorem eX7_add_1 : decode mX7_add.2.1 1 = .ok (.ifCond .lt 16, 3) := dX7_add_1
theorem eX7_add_4 : decode mX7_add.2.1 4 = .ok (.iload_n 1, 1) := dX7_add_4
theorem eX7_add_5 : decode mX7_add.2.1 5 = .ok (.aload_n 0, 1) := dX7_add_5
theorem eX7_add_6 : decode mX7_add.2.1 6 = .ok (.arraylength, 1) := dX7_add_6
theorem eX7_add_7 : decode mX7_add.2.1 7 = .ok (.if_icmp .ge 10, 3) := dX7_add_7
theorem eX7_add_10 : decode mX7_add.2.1 10 = .ok (.aload_n 0, 1) := dX7_add_10
theorem eX7_add_11 : decode mX7_add.2.1 11 = .ok (.iload_n 1, 1) := dX7_add_11
theorem eX7_add_12 : decode mX7_add.2.1 12 = .ok (.dup2, 1) := dX7_add_12
theorem eX7_add_13 : decode mX7_add.2.1 13 = .ok (.iaload, 1) := dX7_add_13
theorem eX7_add_14 : decode mX7_add.2.1 14 = .ok (.iload_n 2, 1) := dX7_add_14
theorem eX7_add_15 : decode mX7_add.2.1 15 = .ok (.iadd, 1) := dX7_add_15
theorem eX7_add_16 : decode mX7_add.2.1 16 = .ok (.iastore, 1) := dX7_add_16
theorem eX7_add_17 : decode mX7_add.2.1 17 = .ok (.return_, 1) := dX7_add_17
theorem eX7_at_0 : decode mX7_at.2.1 0 = .ok (.iload_n 1, 1) := dX7_at_0
theorem eX7_at_1 : decode mX7_at.2.1 1 = .ok (.ifCond .lt 15, 3) := dX7_at_1
theorem eX7_at_4 : decode mX7_at.2.1 4 = .ok (.iload_n 1, 1) := dX7_at_4
theorem eX7_at_5 : decode mX7_at.2.1 5 = .ok (.aload_n 0, 1) := dX7_at_5
theorem eX7_at_6 : decode mX7_at.2.1 6 = .ok (.arraylength, 1) := dX7_at_6
theorem eX7_at_7 : decode mX7_at.2.1 7 = .ok (.if_icmp .ge 9, 3) := dX7_at_7
theorem eX7_at_10 : decode mX7_at.2.1 10 = .ok (.aload_n 0, 1) := dX7_at_10
theorem eX7_at_11 : decode mX7_at.2.1 11 = .ok (.iload_n 1, 1) := dX7_at_11
theorem eX7_at_12 : decode mX7_at.2.1 12 = .ok (.iaload, 1) := dX7_at_12
theorem eX7_at_13 : decode mX7_at.2.1 13 = .ok (.goto 4, 3) := dX7_at_13
theorem eX7_at_16 : decode mX7_at.2.1 16 = .ok (.iconst 0, 1) := dX7_at_16
theorem eX7_at_17 : decode mX7_at.2.1 17 = .ok (.ireturn, 1) := dX7_at_17
theorem eX7_common_0 : decode mX7_common.2.1 0 = .ok (.iload_n 1, 1) := dX7_common_0
theorem eX7_common_1 : decode mX7_common.2.1 1 = .ok (.istore_n 2, 1) := dX7_common_1
theorem eX7_common_2 : decode mX7_common.2.1 2 = .ok (.iload_n 2, 1) := dX7_common_2
theorem eX7_common_3 : decode mX7_common.2.1 3 = .ok (.iconst 1, 1) := dX7_common_3
theorem eX7_common_4 : decode mX7_common.2.1 4 = .ok (.if_icmp .le 23, 3) := dX7_common_4
theorem eX7_common_7 : decode mX7_common.2.1 7 = .ok (.iload_n 0, 1) := dX7_common_7
theorem eX7_common_8 : decode mX7_common.2.1 8 = .ok (.iload_n 2, 1) := dX7_common_8
theorem eX7_common_9 : decode mX7_common.2.1 9 = .ok (.irem, 1) := dX7_common_9
theorem eX7_common_10 : decode mX7_common.2.1 10 = .ok (.ifCond .ne 11, 3) := dX7_common_10
theorem eX7_common_13 : decode mX7_common.2.1 13 = .ok (.iload_n 1, 1) := dX7_common_13
theorem eX7_common_14 : decode mX7_common.2.1 14 = .ok (.iload_n 2, 1) := dX7_common_14
theorem eX7_common_15 : decode mX7_common.2.1 15 = .ok (.irem, 1) := dX7_common_15
theorem eX7_common_16 : decode mX7_common.2.1 16 = .ok (.ifCond .ne 5, 3) := dX7_common_16
theorem eX7_common_19 : decode mX7_common.2.1 19 = .ok (.iload_n 2, 1) := dX7_common_19
theorem eX7_common_20 : decode mX7_common.2.1 20 = .ok (.ireturn, 1) := dX7_common_20
theorem eX7_common_21 : decode mX7_common.2.1 21 = .ok (.iinc 2 (-1), 3) := dX7_common_21
theorem eX7_common_24 : decode mX7_common.2.1 24 = .ok (.goto (-22), 3) := dX7_common_24
theorem eX7_common_27 : decode mX7_common.2.1 27 = .ok (.iconst 1, 1) := dX7_common_27
theorem eX7_common_28 : decode mX7_common.2.1 28 = .ok (.ireturn, 1) := dX7_common_28
theorem eX7_mix_0 : decode mX7_mix.2.1 0 = .ok (.iload_n 3, 1) := dX7_mix_0
theorem eX7_mix_1 : decode mX7_mix.2.1 1 = .ok (.iconst 2, 1) := dX7_mix_1
theorem eX7_mix_2 : decode mX7_mix.2.1 2 = .ok (.if_icmp .ge 5, 3) := dX7_mix_2
theorem eX7_mix_5 : decode mX7_mix.2.1 5 = .ok (.iconst 0, 1) := dX7_mix_5
theorem eX7_mix_6 : decode mX7_mix.2.1 6 = .ok (.ireturn, 1) := dX7_mix_6
theorem eX7_mix_7 : decode mX7_mix.2.1 7 = .ok (.iconst 0, 1) := dX7_mix_7
theorem eX7_mix_8 : decode mX7_mix.2.1 8 = .ok (.istore 4, 2) := dX7_mix_8
theorem eX7_mix_10 : decode mX7_mix.2.1 10 = .ok (.iconst 1, 1) := dX7_mix_10
theorem eX7_mix_11 : decode mX7_mix.2.1 11 = .ok (.istore 5, 2) := dX7_mix_11
theorem eX7_mix_13 : decode mX7_mix.2.1 13 = .ok (.iload_n 0, 1) := dX7_mix_13
theorem eX7_mix_14 : decode mX7_mix.2.1 14 = .ok (.istore 6, 2) := dX7_mix_14
theorem eX7_mix_16 : decode mX7_mix.2.1 16 = .ok (.iload_n 1, 1) := dX7_mix_16
theorem eX7_mix_17 : decode mX7_mix.2.1 17 = .ok (.istore 7, 2) := dX7_mix_17
theorem eX7_mix_19 : decode mX7_mix.2.1 19 = .ok (.iload 6, 2) := dX7_mix_19
theorem eX7_mix_21 : decode mX7_mix.2.1 21 = .ok (.ifCond .gt 8, 3) := dX7_mix_21
theorem eX7_mix_24 : decode mX7_mix.2.1 24 = .ok (.iload 7, 2) := dX7_mix_24
theorem eX7_mix_26 : decode mX7_mix.2.1 26 = .ok (.ifCond .le 45, 3) := dX7_mix_26
theorem eX7_mix_29 : decode mX7_mix.2.1 29 = .ok (.iload 4, 2) := dX7_mix_29
theorem eX7_mix_31 : decode mX7_mix.2.1 31 = .ok (.iload 5, 2) := dX7_mix_31
theorem eX7_mix_33 : decode mX7_mix.2.1 33 = .ok (.iload 6, 2) := dX7_mix_33
theorem eX7_mix_35 : decode mX7_mix.2.1 35 = .ok (.iload_n 3, 1) := dX7_mix_35
theorem eX7_mix_36 : decode mX7_mix.2.1 36 = .ok (.irem, 1) := dX7_mix_36
theorem eX7_mix_37 : decode mX7_mix.2.1 37 = .ok (.iload_n 2, 1) := dX7_mix_37
theorem eX7_mix_38 : decode mX7_mix.2.1 38 = .ok (.iload 7, 2) := dX7_mix_38
theorem eX7_mix_40 : decode mX7_mix.2.1 40 = .ok (.iload_n 3, 1) := dX7_mix_40
theorem eX7_mix_41 : decode mX7_mix.2.1 41 = .ok (.irem, 1) := dX7_mix_41
theorem eX7_mix_42 : decode mX7_mix.2.1 42 = .ok (.imul, 1) := dX7_mix_42
theorem eX7_mix_43 : decode mX7_mix.2.1 43 = .ok (.iadd, 1) := dX7_mix_43
theorem eX7_mix_44 : decode mX7_mix.2.1 44 = .ok (.iload_n 3, 1) := dX7_mix_44
theorem eX7_mix_45 : decode mX7_mix.2.1 45 = .ok (.irem, 1) := dX7_mix_45
theorem eX7_mix_46 : decode mX7_mix.2.1 46 = .ok (.imul, 1) := dX7_mix_46
theorem eX7_mix_47 : decode mX7_mix.2.1 47 = .ok (.iadd, 1) := dX7_mix_47
theorem eX7_mix_48 : decode mX7_mix.2.1 48 = .ok (.istore 4, 2) := dX7_mix_48
theorem eX7_mix_50 : decode mX7_mix.2.1 50 = .ok (.iload 5, 2) := dX7_mix_50
theorem eX7_mix_52 : decode mX7_mix.2.1 52 = .ok (.iload_n 3, 1) := dX7_mix_52
theorem eX7_mix_53 : decode mX7_mix.2.1 53 = .ok (.imul, 1) := dX7_mix_53
theorem eX7_mix_54 : decode mX7_mix.2.1 54 = .ok (.istore 5, 2) := dX7_mix_54
theorem eX7_mix_56 : decode mX7_mix.2.1 56 = .ok (.iload 6, 2) := dX7_mix_56
theorem eX7_mix_58 : decode mX7_mix.2.1 58 = .ok (.iload_n 3, 1) := dX7_mix_58
theorem eX7_mix_59 : decode mX7_mix.2.1 59 = .ok (.idiv, 1) := dX7_mix_59
theorem eX7_mix_60 : decode mX7_mix.2.1 60 = .ok (.istore 6, 2) := dX7_mix_60
theorem eX7_mix_62 : decode mX7_mix.2.1 62 = .ok (.iload 7, 2) := dX7_mix_62
theorem eX7_mix_64 : decode mX7_mix.2.1 64 = .ok (.iload_n 3, 1) := dX7_mix_64
theorem eX7_mix_65 : decode mX7_mix.2.1 65 = .ok (.idiv, 1) := dX7_mix_65
theorem eX7_mix_66 : decode mX7_mix.2.1 66 = .ok (.istore 7, 2) := dX7_mix_66
theorem eX7_mix_68 : decode mX7_mix.2.1 68 = .ok (.goto (-49), 3) := dX7_mix_68
theorem eX7_mix_71 : decode mX7_mix.2.1 71 = .ok (.iload 4, 2) := dX7_mix_71
theorem eX7_mix_73 : decode mX7_mix.2.1 73 = .ok (.ireturn, 1) := dX7_mix_73
theorem eX7_quotient_0 : decode mX7_quotient.2.1 0 = .ok (.iload_n 1, 1) := dX7_quotient_0
theorem eX7_quotient_1 : decode mX7_quotient.2.1 1 = .ok (.ifCond .le 9, 3) := dX7_quotient_1
theorem eX7_quotient_4 : decode mX7_quotient.2.1 4 = .ok (.iload_n 0, 1) := dX7_quotient_4
theorem eX7_quotient_5 : decode mX7_quotient.2.1 5 = .ok (.iload_n 1, 1) := dX7_quotient_5
theorem eX7_quotient_6 : decode mX7_quotient.2.1 6 = .ok (.idiv, 1) := dX7_quotient_6
theorem eX7_quotient_7 : decode mX7_quotient.2.1 7 = .ok (.goto 4, 3) := dX7_quotient_7
theorem eX7_quotient_10 : decode mX7_quotient.2.1 10 = .ok (.iconst 0, 1) := dX7_quotient_10
theorem eX7_quotient_11 : decode mX7_quotient.2.1 11 = .ok (.ireturn, 1) := dX7_quotient_11
theorem eX7_raise_0 : decode mX7_raise.2.1 0 = .ok (.iconst 1, 1) := dX7_raise_0
theorem eX7_raise_1 : decode mX7_raise.2.1 1 = .ok (.istore_n 2, 1) := dX7_raise_1
theorem eX7_raise_2 : decode mX7_raise.2.1 2 = .ok (.iconst 0, 1) := dX7_raise_2
theorem eX7_raise_3 : decode mX7_raise.2.1 3 = .ok (.istore_n 3, 1) := dX7_raise_3
theorem eX7_raise_4 : decode mX7_raise.2.1 4 = .ok (.iload_n 3, 1) := dX7_raise_4
theorem eX7_raise_5 : decode mX7_raise.2.1 5 = .ok (.iload_n 1, 1) := dX7_raise_5
theorem eX7_raise_6 : decode mX7_raise.2.1 6 = .ok (.if_icmp .ge 13, 3) := dX7_raise_6
theorem eX7_raise_9 : decode mX7_raise.2.1 9 = .ok (.iload_n 2, 1) := dX7_raise_9
theorem eX7_raise_10 : decode mX7_raise.2.1 10 = .ok (.iload_n 0, 1) := dX7_raise_10
theorem eX7_raise_11 : decode mX7_raise.2.1 11 = .ok (.imul, 1) := dX7_raise_11
theorem eX7_raise_12 : decode mX7_raise.2.1 12 = .ok (.istore_n 2, 1) := dX7_raise_12
theorem eX7_raise_13 : decode mX7_raise.2.1 13 = .ok (.iinc 3 1, 3) := dX7_raise_13
theorem eX7_raise_16 : decode mX7_raise.2.1 16 = .ok (.goto (-12), 3) := dX7_raise_16
theorem eX7_raise_19 : decode mX7_raise.2.1 19 = .ok (.iload_n 2, 1) := dX7_raise_19
theorem eX7_raise_20 : decode mX7_raise.2.1 20 = .ok (.ireturn, 1) := dX7_raise_20
theorem eX7_remainder_0 : decode mX7_remainder.2.1 0 = .ok (.iload_n 1, 1) := dX7_remainder_0
theorem eX7_remainder_1 : decode mX7_remainder.2.1 1 = .ok (.ifCond .le 9, 3) := dX7_remainder_1
theorem eX7_remainder_4 : decode mX7_remainder.2.1 4 = .ok (.iload_n 0, 1) := dX7_remainder_4
theorem eX7_remainder_5 : decode mX7_remainder.2.1 5 = .ok (.iload_n 1, 1) := dX7_remainder_5
theorem eX7_remainder_6 : decode mX7_remainder.2.1 6 = .ok (.irem, 1) := dX7_remainder_6
theorem eX7_remainder_7 : decode mX7_remainder.2.1 7 = .ok (.goto 4, 3) := dX7_remainder_7
theorem eX7_remainder_10 : decode mX7_remainder.2.1 10 = .ok (.iconst 0, 1) := dX7_remainder_10
theorem eX7_remainder_11 : decode mX7_remainder.2.1 11 = .ok (.ireturn, 1) := dX7_remainder_11
theorem eX7_set_0 : decode mX7_set.2.1 0 = .ok (.iload_n 1, 1) := dX7_set_0
theorem eX7_set_1 : decode mX7_set.2.1 1 = .ok (.ifCond .lt 13, 3) := dX7_set_1
theorem eX7_set_4 : decode mX7_set.2.1 4 = .ok (.iload_n 1, 1) := dX7_set_4
theorem eX7_set_5 : decode mX7_set.2.1 5 = .ok (.aload_n 0, 1) := dX7_set_5
theorem eX7_set_6 : decode mX7_set.2.1 6 = .ok (.arraylength, 1) := dX7_set_6
theorem eX7_set_7 : decode mX7_set.2.1 7 = .ok (.if_icmp .ge 7, 3) := dX7_set_7
theorem eX7_set_10 : decode mX7_set.2.1 10 = .ok (.aload_n 0, 1) := dX7_set_10
theorem eX7_set_11 : decode mX7_set.2.1 11 = .ok (.iload_n 1, 1) := dX7_set_11
theorem eX7_set_12 : decode mX7_set.2.1 12 = .ok (.iload_n 2, 1) := dX7_set_12
theorem eX7_set_13 : decode mX7_set.2.1 13 = .ok (.iastore, 1) := dX7_set_13
theorem eX7_set_14 : decode mX7_set.2.1 14 = .ok (.return_, 1) := dX7_set_14
theorem eX8_append_0 : decode mX8_append.2.1 0 = .ok (.bipush 24, 2) := dX8_append_0
theorem eX8_append_2 : decode mX8_append.2.1 2 = .ok (.istore_n 2, 1) := dX8_append_2
theorem eX8_append_3 : decode mX8_append.2.1 3 = .ok (.iload_n 2, 1) := dX8_append_3
theorem eX8_append_4 : decode mX8_append.2.1 4 = .ok (.ifCond .lt 37, 3) := dX8_append_4
theorem eX8_append_7 : decode mX8_append.2.1 7 = .ok (.aload_n 0, 1) := dX8_append_7
theorem eX8_append_8 : decode mX8_append.2.1 8 = .ok (.getfield 15, 3) := dX8_append_8
theorem eX8_append_11 : decode mX8_append.2.1 11 = .ok (.aload_n 0, 1) := dX8_append_11
theorem eX8_append_12 : decode mX8_append.2.1 12 = .ok (.getfield 9, 3) := dX8_append_12
theorem eX8_append_15 : decode mX8_append.2.1 15 = .ok (.iload_n 1, 1) := dX8_append_15
theorem eX8_append_16 : decode mX8_append.2.1 16 = .ok (.iload_n 2, 1) := dX8_append_16
theorem eX8_append_17 : decode mX8_append.2.1 17 = .ok (.ishr, 1) := dX8_append_17
theorem eX8_append_18 : decode mX8_append.2.1 18 = .ok (.sipush 255, 3) := dX8_append_18
theorem eX8_append_21 : decode mX8_append.2.1 21 = .ok (.iand, 1) := dX8_append_21
theorem eX8_append_22 : decode mX8_append.2.1 22 = .ok (.invokestatic 19, 3) := dX8_append_22
theorem eX8_append_25 : decode mX8_append.2.1 25 = .ok (.aload_n 0, 1) := dX8_append_25
theorem eX8_append_26 : decode mX8_append.2.1 26 = .ok (.dup, 1) := dX8_append_26
theorem eX8_append_27 : decode mX8_append.2.1 27 = .ok (.getfield 9, 3) := dX8_append_27
theorem eX8_append_30 : decode mX8_append.2.1 30 = .ok (.iconst 1, 1) := dX8_append_30
theorem eX8_append_31 : decode mX8_append.2.1 31 = .ok (.iadd, 1) := dX8_append_31
theorem eX8_append_32 : decode mX8_append.2.1 32 = .ok (.putfield 9, 3) := dX8_append_32
theorem eX8_append_35 : decode mX8_append.2.1 35 = .ok (.iinc 2 (-8), 3) := dX8_append_35
theorem eX8_append_38 : decode mX8_append.2.1 38 = .ok (.goto (-35), 3) := dX8_append_38
theorem eX8_append_41 : decode mX8_append.2.1 41 = .ok (.return_, 1) := dX8_append_41
theorem eX8_init_0 : decode mX8_init.2.1 0 = .ok (.aload_n 0, 1) := dX8_init_0
theorem eX8_init_1 : decode mX8_init.2.1 1 = .ok (.invokespecial 3, 3) := dX8_init_1
theorem eX8_init_4 : decode mX8_init.2.1 4 = .ok (.aload_n 0, 1) := dX8_init_4
theorem eX8_init_5 : decode mX8_init.2.1 5 = .ok (.iconst 0, 1) := dX8_init_5
theorem eX8_init_6 : decode mX8_init.2.1 6 = .ok (.putfield 9, 3) := dX8_init_6
theorem eX8_init_9 : decode mX8_init.2.1 9 = .ok (.aload_n 0, 1) := dX8_init_9
theorem eX8_init_10 : decode mX8_init.2.1 10 = .ok (.sipush 200, 3) := dX8_init_10
theorem eX8_init_13 : decode mX8_init.2.1 13 = .ok (.newarray .int, 2) := dX8_init_13
theorem eX8_init_15 : decode mX8_init.2.1 15 = .ok (.putfield 15, 3) := dX8_init_15
theorem eX8_init_18 : decode mX8_init.2.1 18 = .ok (.return_, 1) := dX8_init_18
theorem eX8_isBelow_0 : decode mX8_isBelow.2.1 0 = .ok (.iconst 0, 1) := dX8_isBelow_0
theorem eX8_isBelow_1 : decode mX8_isBelow.2.1 1 = .ok (.istore_n 3, 1) := dX8_isBelow_1
theorem eX8_isBelow_2 : decode mX8_isBelow.2.1 2 = .ok (.iload_n 3, 1) := dX8_isBelow_2
theorem eX8_isBelow_3 : decode mX8_isBelow.2.1 3 = .ok (.iload_n 1, 1) := dX8_isBelow_3
theorem eX8_isBelow_4 : decode mX8_isBelow.2.1 4 = .ok (.if_icmp .ge 23, 3) := dX8_isBelow_4
theorem eX8_isBelow_7 : decode mX8_isBelow.2.1 7 = .ok (.aload_n 0, 1) := dX8_isBelow_7
theorem eX8_isBelow_8 : decode mX8_isBelow.2.1 8 = .ok (.getfield 15, 3) := dX8_isBelow_8
theorem eX8_isBelow_11 : decode mX8_isBelow.2.1 11 = .ok (.iload_n 3, 1) := dX8_isBelow_11
theorem eX8_isBelow_12 : decode mX8_isBelow.2.1 12 = .ok (.invokestatic 25, 3) := dX8_isBelow_12
theorem eX8_isBelow_15 : decode mX8_isBelow.2.1 15 = .ok (.iload_n 2, 1) := dX8_isBelow_15
theorem eX8_isBelow_16 : decode mX8_isBelow.2.1 16 = .ok (.if_icmp .lt 5, 3) := dX8_isBelow_16
theorem eX8_isBelow_19 : decode mX8_isBelow.2.1 19 = .ok (.iconst 0, 1) := dX8_isBelow_19
theorem eX8_isBelow_20 : decode mX8_isBelow.2.1 20 = .ok (.ireturn, 1) := dX8_isBelow_20
theorem eX8_isBelow_21 : decode mX8_isBelow.2.1 21 = .ok (.iinc 3 1, 3) := dX8_isBelow_21
theorem eX8_isBelow_24 : decode mX8_isBelow.2.1 24 = .ok (.goto (-22), 3) := dX8_isBelow_24
theorem eX8_isBelow_27 : decode mX8_isBelow.2.1 27 = .ok (.iconst 1, 1) := dX8_isBelow_27
theorem eX8_isBelow_28 : decode mX8_isBelow.2.1 28 = .ok (.ireturn, 1) := dX8_isBelow_28
theorem eX9_addMaker_0 : decode mX9_addMaker.2.1 0 = .ok (.aload_n 0, 1) := dX9_addMaker_0
theorem eX9_addMaker_1 : decode mX9_addMaker.2.1 1 = .ok (.getfield 18, 3) := dX9_addMaker_1
theorem eX9_addMaker_4 : decode mX9_addMaker.2.1 4 = .ok (.getfield 38, 3) := dX9_addMaker_4
theorem eX9_addMaker_7 : decode mX9_addMaker.2.1 7 = .ok (.getfield 42, 3) := dX9_addMaker_7
theorem eX9_addMaker_10 : decode mX9_addMaker.2.1 10 = .ok (.istore_n 2, 1) := dX9_addMaker_10
theorem eX9_addMaker_11 : decode mX9_addMaker.2.1 11 = .ok (.iconst 0, 1) := dX9_addMaker_11
theorem eX9_addMaker_12 : decode mX9_addMaker.2.1 12 = .ok (.istore_n 3, 1) := dX9_addMaker_12
theorem eX9_addMaker_13 : decode mX9_addMaker.2.1 13 = .ok (.iload_n 3, 1) := dX9_addMaker_13
theorem eX9_addMaker_14 : decode mX9_addMaker.2.1 14 = .ok (.aload_n 0, 1) := dX9_addMaker_14
theorem eX9_addMaker_15 : decode mX9_addMaker.2.1 15 = .ok (.getfield 18, 3) := dX9_addMaker_15
theorem eX9_addMaker_18 : decode mX9_addMaker.2.1 18 = .ok (.getfield 47, 3) := dX9_addMaker_18
theorem eX9_addMaker_21 : decode mX9_addMaker.2.1 21 = .ok (.if_icmp .gt 65, 3) := dX9_addMaker_21
theorem eX9_addMaker_24 : decode mX9_addMaker.2.1 24 = .ok (.iload_n 1, 1) := dX9_addMaker_24
theorem eX9_addMaker_25 : decode mX9_addMaker.2.1 25 = .ok (.iload_n 3, 1) := dX9_addMaker_25
theorem eX9_addMaker_26 : decode mX9_addMaker.2.1 26 = .ok (.iadd, 1) := dX9_addMaker_26
theorem eX9_addMaker_27 : decode mX9_addMaker.2.1 27 = .ok (.aload_n 0, 1) := dX9_addMaker_27
theorem eX9_addMaker_28 : decode mX9_addMaker.2.1 28 = .ok (.getfield 9, 3) := dX9_addMaker_28
theorem eX9_addMaker_31 : decode mX9_addMaker.2.1 31 = .ok (.arraylength, 1) := dX9_addMaker_31
theorem eX9_addMaker_32 : decode mX9_addMaker.2.1 32 = .ok (.if_icmp .ge 54, 3) := dX9_addMaker_32
theorem eX9_addMaker_35 : decode mX9_addMaker.2.1 35 = .ok (.aload_n 0, 1) := dX9_addMaker_35
theorem eX9_addMaker_36 : decode mX9_addMaker.2.1 36 = .ok (.getfield 9, 3) := dX9_addMaker_36
theorem eX9_addMaker_39 : decode mX9_addMaker.2.1 39 = .ok (.iload_n 1, 1) := dX9_addMaker_39
theorem eX9_addMaker_40 : decode mX9_addMaker.2.1 40 = .ok (.iload_n 3, 1) := dX9_addMaker_40
theorem eX9_addMaker_41 : decode mX9_addMaker.2.1 41 = .ok (.iadd, 1) := dX9_addMaker_41
theorem eX9_addMaker_42 : decode mX9_addMaker.2.1 42 = .ok (.iaload, 1) := dX9_addMaker_42
theorem eX9_addMaker_43 : decode mX9_addMaker.2.1 43 = .ok (.aload_n 0, 1) := dX9_addMaker_43
theorem eX9_addMaker_44 : decode mX9_addMaker.2.1 44 = .ok (.getfield 18, 3) := dX9_addMaker_44
theorem eX9_addMaker_47 : decode mX9_addMaker.2.1 47 = .ok (.getfield 50, 3) := dX9_addMaker_47
theorem eX9_addMaker_50 : decode mX9_addMaker.2.1 50 = .ok (.iload_n 3, 1) := dX9_addMaker_50
theorem eX9_addMaker_51 : decode mX9_addMaker.2.1 51 = .ok (.invokestatic 53, 3) := dX9_addMaker_51
theorem eX9_addMaker_54 : decode mX9_addMaker.2.1 54 = .ok (.iadd, 1) := dX9_addMaker_54
theorem eX9_addMaker_55 : decode mX9_addMaker.2.1 55 = .ok (.istore 4, 2) := dX9_addMaker_55
theorem eX9_addMaker_57 : decode mX9_addMaker.2.1 57 = .ok (.aload_n 0, 1) := dX9_addMaker_57
theorem eX9_addMaker_58 : decode mX9_addMaker.2.1 58 = .ok (.getfield 9, 3) := dX9_addMaker_58
theorem eX9_addMaker_61 : decode mX9_addMaker.2.1 61 = .ok (.iload_n 1, 1) := dX9_addMaker_61
theorem eX9_addMaker_62 : decode mX9_addMaker.2.1 62 = .ok (.iload_n 3, 1) := dX9_addMaker_62
theorem eX9_addMaker_63 : decode mX9_addMaker.2.1 63 = .ok (.iadd, 1) := dX9_addMaker_63
theorem eX9_addMaker_64 : decode mX9_addMaker.2.1 64 = .ok (.iload 4, 2) := dX9_addMaker_64
theorem eX9_addMaker_66 : decode mX9_addMaker.2.1 66 = .ok (.iload_n 2, 1) := dX9_addMaker_66
theorem eX9_addMaker_67 : decode mX9_addMaker.2.1 67 = .ok (.if_icmp .ge 8, 3) := dX9_addMaker_67
theorem eX9_addMaker_70 : decode mX9_addMaker.2.1 70 = .ok (.iload 4, 2) := dX9_addMaker_70
theorem eX9_addMaker_72 : decode mX9_addMaker.2.1 72 = .ok (.goto 7, 3) := dX9_addMaker_72
theorem eX9_addMaker_75 : decode mX9_addMaker.2.1 75 = .ok (.iload 4, 2) := dX9_addMaker_75
theorem eX9_addMaker_77 : decode mX9_addMaker.2.1 77 = .ok (.iload_n 2, 1) := dX9_addMaker_77
theorem eX9_addMaker_78 : decode mX9_addMaker.2.1 78 = .ok (.isub, 1) := dX9_addMaker_78
theorem eX9_addMaker_79 : decode mX9_addMaker.2.1 79 = .ok (.iastore, 1) := dX9_addMaker_79
theorem eX9_addMaker_80 : decode mX9_addMaker.2.1 80 = .ok (.iinc 3 1, 3) := dX9_addMaker_80
theorem eX9_addMaker_83 : decode mX9_addMaker.2.1 83 = .ok (.goto (-70), 3) := dX9_addMaker_83
theorem eX9_addMaker_86 : decode mX9_addMaker.2.1 86 = .ok (.return_, 1) := dX9_addMaker_86
theorem eX9_init_0 : decode mX9_init.2.1 0 = .ok (.aload_n 0, 1) := dX9_init_0
theorem eX9_init_1 : decode mX9_init.2.1 1 = .ok (.invokespecial 3, 3) := dX9_init_1
theorem eX9_init_4 : decode mX9_init.2.1 4 = .ok (.aload_n 0, 1) := dX9_init_4
theorem eX9_init_5 : decode mX9_init.2.1 5 = .ok (.bipush 63, 2) := dX9_init_5
theorem eX9_init_7 : decode mX9_init.2.1 7 = .ok (.newarray .int, 2) := dX9_init_7
theorem eX9_init_9 : decode mX9_init.2.1 9 = .ok (.putfield 9, 3) := dX9_init_9
theorem eX9_init_12 : decode mX9_init.2.1 12 = .ok (.aload_n 0, 1) := dX9_init_12
theorem eX9_init_13 : decode mX9_init.2.1 13 = .ok (.bipush 63, 2) := dX9_init_13
theorem eX9_init_15 : decode mX9_init.2.1 15 = .ok (.newarray .int, 2) := dX9_init_15
theorem eX9_init_17 : decode mX9_init.2.1 17 = .ok (.putfield 15, 3) := dX9_init_17
theorem eX9_init_20 : decode mX9_init.2.1 20 = .ok (.aload_n 0, 1) := dX9_init_20
theorem eX9_init_21 : decode mX9_init.2.1 21 = .ok (.aload_n 1, 1) := dX9_init_21
theorem eX9_init_22 : decode mX9_init.2.1 22 = .ok (.putfield 18, 3) := dX9_init_22
theorem eX9_init_25 : decode mX9_init.2.1 25 = .ok (.return_, 1) := dX9_init_25
theorem eX9_start_0 : decode mX9_start.2.1 0 = .ok (.aload_n 0, 1) := dX9_start_0
theorem eX9_start_1 : decode mX9_start.2.1 1 = .ok (.getfield 9, 3) := dX9_start_1
theorem eX9_start_4 : decode mX9_start.2.1 4 = .ok (.iconst 0, 1) := dX9_start_4
theorem eX9_start_5 : decode mX9_start.2.1 5 = .ok (.invokestatic 22, 3) := dX9_start_5
theorem eX9_start_8 : decode mX9_start.2.1 8 = .ok (.aload_n 0, 1) := dX9_start_8
theorem eX9_start_9 : decode mX9_start.2.1 9 = .ok (.getfield 15, 3) := dX9_start_9
theorem eX9_start_12 : decode mX9_start.2.1 12 = .ok (.iconst 0, 1) := dX9_start_12
theorem eX9_start_13 : decode mX9_start.2.1 13 = .ok (.invokestatic 22, 3) := dX9_start_13
theorem eX9_start_16 : decode mX9_start.2.1 16 = .ok (.return_, 1) := dX9_start_16
theorem eX9_step_0 : decode mX9_step.2.1 0 = .ok (.iconst 0, 1) := dX9_step_0
theorem eX9_step_1 : decode mX9_step.2.1 1 = .ok (.istore_n 1, 1) := dX9_step_1
theorem eX9_step_2 : decode mX9_step.2.1 2 = .ok (.iload_n 1, 1) := dX9_step_2
theorem eX9_step_3 : decode mX9_step.2.1 3 = .ok (.aload_n 0, 1) := dX9_step_3
theorem eX9_step_4 : decode mX9_step.2.1 4 = .ok (.getfield 18, 3) := dX9_step_4
theorem eX9_step_7 : decode mX9_step.2.1 7 = .ok (.getfield 28, 3) := dX9_step_7
theorem eX9_step_10 : decode mX9_step.2.1 10 = .ok (.if_icmp .ge 60, 3) := dX9_step_10
theorem eX9_step_13 : decode mX9_step.2.1 13 = .ok (.iload_n 1, 1) := dX9_step_13
theorem eX9_step_14 : decode mX9_step.2.1 14 = .ok (.aload_n 0, 1) := dX9_step_14
theorem eX9_step_15 : decode mX9_step.2.1 15 = .ok (.getfield 15, 3) := dX9_step_15
theorem eX9_step_18 : decode mX9_step.2.1 18 = .ok (.arraylength, 1) := dX9_step_18
theorem eX9_step_19 : decode mX9_step.2.1 19 = .ok (.if_icmp .ge 51, 3) := dX9_step_19
theorem eX9_step_22 : decode mX9_step.2.1 22 = .ok (.aload_n 0, 1) := dX9_step_22
theorem eX9_step_23 : decode mX9_step.2.1 23 = .ok (.iload_n 1, 1) := dX9_step_23
theorem eX9_step_24 : decode mX9_step.2.1 24 = .ok (.invokevirtual 34, 3) := dX9_step_24
theorem eX9_step_27 : decode mX9_step.2.1 27 = .ok (.aload_n 0, 1) := dX9_step_27
theorem eX9_step_28 : decode mX9_step.2.1 28 = .ok (.getfield 15, 3) := dX9_step_28
theorem eX9_step_31 : decode mX9_step.2.1 31 = .ok (.iload_n 1, 1) := dX9_step_31
theorem eX9_step_32 : decode mX9_step.2.1 32 = .ok (.dup2, 1) := dX9_step_32
theorem eX9_step_33 : decode mX9_step.2.1 33 = .ok (.iaload, 1) := dX9_step_33
theorem eX9_step_34 : decode mX9_step.2.1 34 = .ok (.iconst 1, 1) := dX9_step_34
theorem eX9_step_35 : decode mX9_step.2.1 35 = .ok (.iadd, 1) := dX9_step_35
theorem eX9_step_36 : decode mX9_step.2.1 36 = .ok (.iastore, 1) := dX9_step_36
theorem eX9_step_37 : decode mX9_step.2.1 37 = .ok (.aload_n 0, 1) := dX9_step_37
theorem eX9_step_38 : decode mX9_step.2.1 38 = .ok (.getfield 15, 3) := dX9_step_38
theorem eX9_step_41 : decode mX9_step.2.1 41 = .ok (.iload_n 1, 1) := dX9_step_41
theorem eX9_step_42 : decode mX9_step.2.1 42 = .ok (.iaload, 1) := dX9_step_42
theorem eX9_step_43 : decode mX9_step.2.1 43 = .ok (.aload_n 0, 1) := dX9_step_43
theorem eX9_step_44 : decode mX9_step.2.1 44 = .ok (.getfield 18, 3) := dX9_step_44
theorem eX9_step_47 : decode mX9_step.2.1 47 = .ok (.getfield 38, 3) := dX9_step_47
theorem eX9_step_50 : decode mX9_step.2.1 50 = .ok (.getfield 42, 3) := dX9_step_50
theorem eX9_step_53 : decode mX9_step.2.1 53 = .ok (.if_icmp .ge 4, 3) := dX9_step_53
theorem eX9_step_56 : decode mX9_step.2.1 56 = .ok (.return_, 1) := dX9_step_56
theorem eX9_step_57 : decode mX9_step.2.1 57 = .ok (.aload_n 0, 1) := dX9_step_57
theorem eX9_step_58 : decode mX9_step.2.1 58 = .ok (.getfield 15, 3) := dX9_step_58
theorem eX9_step_61 : decode mX9_step.2.1 61 = .ok (.iload_n 1, 1) := dX9_step_61
theorem eX9_step_62 : decode mX9_step.2.1 62 = .ok (.iconst 0, 1) := dX9_step_62
theorem eX9_step_63 : decode mX9_step.2.1 63 = .ok (.iastore, 1) := dX9_step_63
theorem eX9_step_64 : decode mX9_step.2.1 64 = .ok (.iinc 1 1, 3) := dX9_step_64
theorem eX9_step_67 : decode mX9_step.2.1 67 = .ok (.goto (-65), 3) := dX9_step_67
theorem eX9_step_70 : decode mX9_step.2.1 70 = .ok (.return_, 1) := dX9_step_70
theorem eX10_init_0 : decode mX10_init.2.1 0 = .ok (.aload_n 0, 1) := dX10_init_0
theorem eX10_init_1 : decode mX10_init.2.1 1 = .ok (.invokespecial 3, 3) := dX10_init_1
theorem eX10_init_4 : decode mX10_init.2.1 4 = .ok (.aload_n 0, 1) := dX10_init_4
theorem eX10_init_5 : decode mX10_init.2.1 5 = .ok (.iconst 0, 1) := dX10_init_5
theorem eX10_init_6 : decode mX10_init.2.1 6 = .ok (.putfield 9, 3) := dX10_init_6
theorem eX10_init_9 : decode mX10_init.2.1 9 = .ok (.aload_n 0, 1) := dX10_init_9
theorem eX10_init_10 : decode mX10_init.2.1 10 = .ok (.bipush 64, 2) := dX10_init_10
theorem eX10_init_12 : decode mX10_init.2.1 12 = .ok (.newarray .int, 2) := dX10_init_12
theorem eX10_init_14 : decode mX10_init.2.1 14 = .ok (.putfield 15, 3) := dX10_init_14
theorem eX10_init_17 : decode mX10_init.2.1 17 = .ok (.aload_n 0, 1) := dX10_init_17
theorem eX10_init_18 : decode mX10_init.2.1 18 = .ok (.sipush 7201, 3) := dX10_init_18
theorem eX10_init_21 : decode mX10_init.2.1 21 = .ok (.newarray .int, 2) := dX10_init_21
theorem eX10_init_23 : decode mX10_init.2.1 23 = .ok (.putfield 19, 3) := dX10_init_23
theorem eX10_init_26 : decode mX10_init.2.1 26 = .ok (.aload_n 0, 1) := dX10_init_26
theorem eX10_init_27 : decode mX10_init.2.1 27 = .ok (.aload_n 1, 1) := dX10_init_27
theorem eX10_init_28 : decode mX10_init.2.1 28 = .ok (.putfield 22, 3) := dX10_init_28
theorem eX10_init_31 : decode mX10_init.2.1 31 = .ok (.aload_n 0, 1) := dX10_init_31
theorem eX10_init_32 : decode mX10_init.2.1 32 = .ok (.new 26, 3) := dX10_init_32
theorem eX10_init_35 : decode mX10_init.2.1 35 = .ok (.dup, 1) := dX10_init_35
theorem eX10_init_36 : decode mX10_init.2.1 36 = .ok (.aload_n 1, 1) := dX10_init_36
theorem eX10_init_37 : decode mX10_init.2.1 37 = .ok (.invokespecial 28, 3) := dX10_init_37
theorem eX10_init_40 : decode mX10_init.2.1 40 = .ok (.putfield 31, 3) := dX10_init_40
theorem eX10_init_43 : decode mX10_init.2.1 43 = .ok (.return_, 1) := dX10_init_43
theorem eX10_least_0 : decode mX10_least.2.1 0 = .ok (.iconst 1, 1) := dX10_least_0
theorem eX10_least_1 : decode mX10_least.2.1 1 = .ok (.istore_n 1, 1) := dX10_least_1
theorem eX10_least_2 : decode mX10_least.2.1 2 = .ok (.iload_n 1, 1) := dX10_least_2
theorem eX10_least_3 : decode mX10_least.2.1 3 = .ok (.aload_n 0, 1) := dX10_least_3
theorem eX10_least_4 : decode mX10_least.2.1 4 = .ok (.arraylength, 1) := dX10_least_4
theorem eX10_least_5 : decode mX10_least.2.1 5 = .ok (.if_icmp .ge 17, 3) := dX10_least_5
theorem eX10_least_8 : decode mX10_least.2.1 8 = .ok (.aload_n 0, 1) := dX10_least_8
theorem eX10_least_9 : decode mX10_least.2.1 9 = .ok (.iload_n 1, 1) := dX10_least_9
theorem eX10_least_10 : decode mX10_least.2.1 10 = .ok (.iaload, 1) := dX10_least_10
theorem eX10_least_11 : decode mX10_least.2.1 11 = .ok (.ifCond .le 5, 3) := dX10_least_11
theorem eX10_least_14 : decode mX10_least.2.1 14 = .ok (.iload_n 1, 1) := dX10_least_14
theorem eX10_least_15 : decode mX10_least.2.1 15 = .ok (.ireturn, 1) := dX10_least_15
theorem eX10_least_16 : decode mX10_least.2.1 16 = .ok (.iinc 1 1, 3) := dX10_least_16
theorem eX10_least_19 : decode mX10_least.2.1 19 = .ok (.goto (-17), 3) := dX10_least_19
theorem eX10_least_22 : decode mX10_least.2.1 22 = .ok (.iconst (-1), 1) := dX10_least_22
theorem eX10_least_23 : decode mX10_least.2.1 23 = .ok (.ireturn, 1) := dX10_least_23
theorem eX10_weigh_0 : decode mX10_weigh.2.1 0 = .ok (.aload_n 0, 1) := dX10_weigh_0
theorem eX10_weigh_1 : decode mX10_weigh.2.1 1 = .ok (.getfield 9, 3) := dX10_weigh_1
theorem eX10_weigh_4 : decode mX10_weigh.2.1 4 = .ok (.ifCond .eq 4, 3) := dX10_weigh_4
theorem eX10_weigh_7 : decode mX10_weigh.2.1 7 = .ok (.return_, 1) := dX10_weigh_7
theorem eX10_weigh_8 : decode mX10_weigh.2.1 8 = .ok (.aload_n 0, 1) := dX10_weigh_8
theorem eX10_weigh_9 : decode mX10_weigh.2.1 9 = .ok (.getfield 15, 3) := dX10_weigh_9
theorem eX10_weigh_12 : decode mX10_weigh.2.1 12 = .ok (.iconst 0, 1) := dX10_weigh_12
theorem eX10_weigh_13 : decode mX10_weigh.2.1 13 = .ok (.invokestatic 35, 3) := dX10_weigh_13
theorem eX10_weigh_16 : decode mX10_weigh.2.1 16 = .ok (.aload_n 0, 1) := dX10_weigh_16
theorem eX10_weigh_17 : decode mX10_weigh.2.1 17 = .ok (.getfield 19, 3) := dX10_weigh_17
theorem eX10_weigh_20 : decode mX10_weigh.2.1 20 = .ok (.iconst 0, 1) := dX10_weigh_20
theorem eX10_weigh_21 : decode mX10_weigh.2.1 21 = .ok (.invokestatic 35, 3) := dX10_weigh_21
theorem eX10_weigh_24 : decode mX10_weigh.2.1 24 = .ok (.aload_n 0, 1) := dX10_weigh_24
theorem eX10_weigh_25 : decode mX10_weigh.2.1 25 = .ok (.getfield 31, 3) := dX10_weigh_25
theorem eX10_weigh_28 : decode mX10_weigh.2.1 28 = .ok (.invokevirtual 41, 3) := dX10_weigh_28
theorem eX10_weigh_31 : decode mX10_weigh.2.1 31 = .ok (.iconst 0, 1) := dX10_weigh_31
theorem eX10_weigh_32 : decode mX10_weigh.2.1 32 = .ok (.istore_n 1, 1) := dX10_weigh_32
theorem eX10_weigh_33 : decode mX10_weigh.2.1 33 = .ok (.iload_n 1, 1) := dX10_weigh_33
theorem eX10_weigh_34 : decode mX10_weigh.2.1 34 = .ok (.aload_n 0, 1) := dX10_weigh_34
theorem eX10_weigh_35 : decode mX10_weigh.2.1 35 = .ok (.getfield 22, 3) := dX10_weigh_35
theorem eX10_weigh_38 : decode mX10_weigh.2.1 38 = .ok (.getfield 44, 3) := dX10_weigh_38
theorem eX10_weigh_41 : decode mX10_weigh.2.1 41 = .ok (.if_icmp .ge 27, 3) := dX10_weigh_41
theorem eX10_weigh_44 : decode mX10_weigh.2.1 44 = .ok (.aload_n 0, 1) := dX10_weigh_44
theorem eX10_weigh_45 : decode mX10_weigh.2.1 45 = .ok (.aload_n 0, 1) := dX10_weigh_45
theorem eX10_weigh_46 : decode mX10_weigh.2.1 46 = .ok (.getfield 31, 3) := dX10_weigh_46
theorem eX10_weigh_49 : decode mX10_weigh.2.1 49 = .ok (.getfield 50, 3) := dX10_weigh_49
theorem eX10_weigh_52 : decode mX10_weigh.2.1 52 = .ok (.invokevirtual 53, 3) := dX10_weigh_52
theorem eX10_weigh_55 : decode mX10_weigh.2.1 55 = .ok (.aload_n 0, 1) := dX10_weigh_55
theorem eX10_weigh_56 : decode mX10_weigh.2.1 56 = .ok (.getfield 31, 3) := dX10_weigh_56
theorem eX10_weigh_59 : decode mX10_weigh.2.1 59 = .ok (.invokevirtual 57, 3) := dX10_weigh_59
theorem eX10_weigh_62 : decode mX10_weigh.2.1 62 = .ok (.iinc 1 1, 3) := dX10_weigh_62
theorem eX10_weigh_65 : decode mX10_weigh.2.1 65 = .ok (.goto (-32), 3) := dX10_weigh_65
theorem eX10_weigh_68 : decode mX10_weigh.2.1 68 = .ok (.aload_n 0, 1) := dX10_weigh_68
theorem eX10_weigh_69 : decode mX10_weigh.2.1 69 = .ok (.iconst 1, 1) := dX10_weigh_69
theorem eX10_weigh_70 : decode mX10_weigh.2.1 70 = .ok (.putfield 9, 3) := dX10_weigh_70
theorem eX10_weigh_73 : decode mX10_weigh.2.1 73 = .ok (.return_, 1) := dX10_weigh_73
theorem eX10_weighOne_0 : decode mX10_weighOne.2.1 0 = .ok (.aload_n 0, 1) := dX10_weighOne_0
theorem eX10_weighOne_1 : decode mX10_weighOne.2.1 1 = .ok (.getfield 22, 3) := dX10_weighOne_1
theorem eX10_weighOne_4 : decode mX10_weighOne.2.1 4 = .ok (.getfield 60, 3) := dX10_weighOne_4
theorem eX10_weighOne_7 : decode mX10_weighOne.2.1 7 = .ok (.getfield 64, 3) := dX10_weighOne_7
theorem eX10_weighOne_10 : decode mX10_weighOne.2.1 10 = .ok (.istore_n 2, 1) := dX10_weighOne_10
theorem eX10_weighOne_11 : decode mX10_weighOne.2.1 11 = .ok (.iconst 0, 1) := dX10_weighOne_11
theorem eX10_weighOne_12 : decode mX10_weighOne.2.1 12 = .ok (.istore_n 3, 1) := dX10_weighOne_12
theorem eX10_weighOne_13 : decode mX10_weighOne.2.1 13 = .ok (.iconst 0, 1) := dX10_weighOne_13
theorem eX10_weighOne_14 : decode mX10_weighOne.2.1 14 = .ok (.istore 4, 2) := dX10_weighOne_14
theorem eX10_weighOne_16 : decode mX10_weighOne.2.1 16 = .ok (.iconst 0, 1) := dX10_weighOne_16
theorem eX10_weighOne_17 : decode mX10_weighOne.2.1 17 = .ok (.istore 5, 2) := dX10_weighOne_17
theorem eX10_weighOne_19 : decode mX10_weighOne.2.1 19 = .ok (.iload 5, 2) := dX10_weighOne_19
theorem eX10_weighOne_21 : decode mX10_weighOne.2.1 21 = .ok (.aload_n 1, 1) := dX10_weighOne_21
theorem eX10_weighOne_22 : decode mX10_weighOne.2.1 22 = .ok (.arraylength, 1) := dX10_weighOne_22
theorem eX10_weighOne_23 : decode mX10_weighOne.2.1 23 = .ok (.if_icmp .ge 46, 3) := dX10_weighOne_23
theorem eX10_weighOne_26 : decode mX10_weighOne.2.1 26 = .ok (.aload_n 1, 1) := dX10_weighOne_26
theorem eX10_weighOne_27 : decode mX10_weighOne.2.1 27 = .ok (.iload 5, 2) := dX10_weighOne_27
theorem eX10_weighOne_29 : decode mX10_weighOne.2.1 29 = .ok (.iaload, 1) := dX10_weighOne_29
theorem eX10_weighOne_30 : decode mX10_weighOne.2.1 30 = .ok (.istore 6, 2) := dX10_weighOne_30
theorem eX10_weighOne_32 : decode mX10_weighOne.2.1 32 = .ok (.iload 6, 2) := dX10_weighOne_32
theorem eX10_weighOne_34 : decode mX10_weighOne.2.1 34 = .ok (.ifCond .le 29, 3) := dX10_weighOne_34
theorem eX10_weighOne_37 : decode mX10_weighOne.2.1 37 = .ok (.iinc 3 1, 3) := dX10_weighOne_37
theorem eX10_weighOne_40 : decode mX10_weighOne.2.1 40 = .ok (.iload 4, 2) := dX10_weighOne_40
theorem eX10_weighOne_42 : decode mX10_weighOne.2.1 42 = .ok (.iload 6, 2) := dX10_weighOne_42
theorem eX10_weighOne_44 : decode mX10_weighOne.2.1 44 = .ok (.iload_n 2, 1) := dX10_weighOne_44
theorem eX10_weighOne_45 : decode mX10_weighOne.2.1 45 = .ok (.iload 6, 2) := dX10_weighOne_45
theorem eX10_weighOne_47 : decode mX10_weighOne.2.1 47 = .ok (.isub, 1) := dX10_weighOne_47
theorem eX10_weighOne_48 : decode mX10_weighOne.2.1 48 = .ok (.if_icmp .ge 8, 3) := dX10_weighOne_48
theorem eX10_weighOne_51 : decode mX10_weighOne.2.1 51 = .ok (.iload 6, 2) := dX10_weighOne_51
theorem eX10_weighOne_53 : decode mX10_weighOne.2.1 53 = .ok (.goto 7, 3) := dX10_weighOne_53
theorem eX10_weighOne_56 : decode mX10_weighOne.2.1 56 = .ok (.iload_n 2, 1) := dX10_weighOne_56
theorem eX10_weighOne_57 : decode mX10_weighOne.2.1 57 = .ok (.iload 6, 2) := dX10_weighOne_57
theorem eX10_weighOne_59 : decode mX10_weighOne.2.1 59 = .ok (.isub, 1) := dX10_weighOne_59
theorem eX10_weighOne_60 : decode mX10_weighOne.2.1 60 = .ok (.iadd, 1) := dX10_weighOne_60
theorem eX10_weighOne_61 : decode mX10_weighOne.2.1 61 = .ok (.istore 4, 2) := dX10_weighOne_61
theorem eX10_weighOne_63 : decode mX10_weighOne.2.1 63 = .ok (.iinc 5 1, 3) := dX10_weighOne_63
theorem eX10_weighOne_66 : decode mX10_weighOne.2.1 66 = .ok (.goto (-47), 3) := dX10_weighOne_66
theorem eX10_weighOne_69 : decode mX10_weighOne.2.1 69 = .ok (.aload_n 0, 1) := dX10_weighOne_69
theorem eX10_weighOne_70 : decode mX10_weighOne.2.1 70 = .ok (.getfield 15, 3) := dX10_weighOne_70
theorem eX10_weighOne_73 : decode mX10_weighOne.2.1 73 = .ok (.iload_n 3, 1) := dX10_weighOne_73
theorem eX10_weighOne_74 : decode mX10_weighOne.2.1 74 = .ok (.iconst 1, 1) := dX10_weighOne_74
theorem eX10_weighOne_75 : decode mX10_weighOne.2.1 75 = .ok (.invokestatic 69, 3) := dX10_weighOne_75
theorem eX10_weighOne_78 : decode mX10_weighOne.2.1 78 = .ok (.aload_n 0, 1) := dX10_weighOne_78
theorem eX10_weighOne_79 : decode mX10_weighOne.2.1 79 = .ok (.getfield 19, 3) := dX10_weighOne_79
theorem eX10_weighOne_82 : decode mX10_weighOne.2.1 82 = .ok (.iload 4, 2) := dX10_weighOne_82
theorem eX10_weighOne_84 : decode mX10_weighOne.2.1 84 = .ok (.iconst 1, 1) := dX10_weighOne_84
theorem eX10_weighOne_85 : decode mX10_weighOne.2.1 85 = .ok (.invokestatic 69, 3) := dX10_weighOne_85
theorem eX10_weighOne_88 : decode mX10_weighOne.2.1 88 = .ok (.return_, 1) := dX10_weighOne_88
theorem eX11_canStand_0 : decode mX11_canStand.2.1 0 = .ok (.iload_n 1, 1) := dX11_canStand_0
theorem eX11_canStand_1 : decode mX11_canStand.2.1 1 = .ok (.iconst (-1), 1) := dX11_canStand_1
theorem eX11_canStand_2 : decode mX11_canStand.2.1 2 = .ok (.if_icmp .eq 31, 3) := dX11_canStand_2
theorem eX11_canStand_5 : decode mX11_canStand.2.1 5 = .ok (.iload_n 2, 1) := dX11_canStand_5
theorem eX11_canStand_6 : decode mX11_canStand.2.1 6 = .ok (.aload_n 0, 1) := dX11_canStand_6
theorem eX11_canStand_7 : decode mX11_canStand.2.1 7 = .ok (.getfield 10, 3) := dX11_canStand_7
theorem eX11_canStand_10 : decode mX11_canStand.2.1 10 = .ok (.getfield 134, 3) := dX11_canStand_10
theorem eX11_canStand_13 : decode mX11_canStand.2.1 13 = .ok (.if_icmp .ge 24, 3) := dX11_canStand_13
theorem eX11_canStand_16 : decode mX11_canStand.2.1 16 = .ok (.iload_n 1, 1) := dX11_canStand_16
theorem eX11_canStand_17 : decode mX11_canStand.2.1 17 = .ok (.ifCond .lt 20, 3) := dX11_canStand_17
theorem eX11_canStand_20 : decode mX11_canStand.2.1 20 = .ok (.iload_n 1, 1) := dX11_canStand_20
theorem eX11_canStand_21 : decode mX11_canStand.2.1 21 = .ok (.aload_n 0, 1) := dX11_canStand_21
theorem eX11_canStand_22 : decode mX11_canStand.2.1 22 = .ok (.getfield 10, 3) := dX11_canStand_22
theorem eX11_canStand_25 : decode mX11_canStand.2.1 25 = .ok (.getfield 143, 3) := dX11_canStand_25
theorem eX11_canStand_28 : decode mX11_canStand.2.1 28 = .ok (.iconst 2, 1) := dX11_canStand_28
theorem eX11_canStand_29 : decode mX11_canStand.2.1 29 = .ok (.isub, 1) := dX11_canStand_29
theorem eX11_canStand_30 : decode mX11_canStand.2.1 30 = .ok (.if_icmp .gt 7, 3) := dX11_canStand_30
theorem eX11_canStand_33 : decode mX11_canStand.2.1 33 = .ok (.iconst 1, 1) := dX11_canStand_33
theorem eX11_canStand_34 : decode mX11_canStand.2.1 34 = .ok (.goto 4, 3) := dX11_canStand_34
theorem eX11_canStand_37 : decode mX11_canStand.2.1 37 = .ok (.iconst 0, 1) := dX11_canStand_37
theorem eX11_canStand_38 : decode mX11_canStand.2.1 38 = .ok (.ireturn, 1) := dX11_canStand_38
theorem eX11_choose_0 : decode mX11_choose.2.1 0 = .ok (.aload_n 0, 1) := dX11_choose_0
theorem eX11_choose_1 : decode mX11_choose.2.1 1 = .ok (.getfield 58, 3) := dX11_choose_1
theorem eX11_choose_4 : decode mX11_choose.2.1 4 = .ok (.aload_n 0, 1) := dX11_choose_4
theorem eX11_choose_5 : decode mX11_choose.2.1 5 = .ok (.getfield 40, 3) := dX11_choose_5
theorem eX11_choose_8 : decode mX11_choose.2.1 8 = .ok (.iload_n 1, 1) := dX11_choose_8
theorem eX11_choose_9 : decode mX11_choose.2.1 9 = .ok (.invokevirtual 354, 3) := dX11_choose_9
theorem eX11_choose_12 : decode mX11_choose.2.1 12 = .ok (.aload_n 0, 1) := dX11_choose_12
theorem eX11_choose_13 : decode mX11_choose.2.1 13 = .ok (.getfield 67, 3) := dX11_choose_13
theorem eX11_choose_16 : decode mX11_choose.2.1 16 = .ok (.iconst 0, 1) := dX11_choose_16
theorem eX11_choose_17 : decode mX11_choose.2.1 17 = .ok (.putfield 357, 3) := dX11_choose_17
theorem eX11_choose_20 : decode mX11_choose.2.1 20 = .ok (.aload_n 0, 1) := dX11_choose_20
theorem eX11_choose_21 : decode mX11_choose.2.1 21 = .ok (.getfield 74, 3) := dX11_choose_21
theorem eX11_choose_24 : decode mX11_choose.2.1 24 = .ok (.iconst 0, 1) := dX11_choose_24
theorem eX11_choose_25 : decode mX11_choose.2.1 25 = .ok (.putfield 315, 3) := dX11_choose_25
theorem eX11_choose_28 : decode mX11_choose.2.1 28 = .ok (.return_, 1) := dX11_choose_28
theorem eX11_classes_0 : decode mX11_classes.2.1 0 = .ok (.aload_n 0, 1) := dX11_classes_0
theorem eX11_classes_1 : decode mX11_classes.2.1 1 = .ok (.getfield 10, 3) := dX11_classes_1
theorem eX11_classes_4 : decode mX11_classes.2.1 4 = .ok (.iload_n 1, 1) := dX11_classes_4
theorem eX11_classes_5 : decode mX11_classes.2.1 5 = .ok (.invokevirtual 259, 3) := dX11_classes_5
theorem eX11_classes_8 : decode mX11_classes.2.1 8 = .ok (.invokestatic 117, 3) := dX11_classes_8
theorem eX11_classes_11 : decode mX11_classes.2.1 11 = .ok (.aload_n 0, 1) := dX11_classes_11
theorem eX11_classes_12 : decode mX11_classes.2.1 12 = .ok (.getfield 40, 3) := dX11_classes_12
theorem eX11_classes_15 : decode mX11_classes.2.1 15 = .ok (.iload_n 1, 1) := dX11_classes_15
theorem eX11_classes_16 : decode mX11_classes.2.1 16 = .ok (.aload_n 0, 1) := dX11_classes_16
theorem eX11_classes_17 : decode mX11_classes.2.1 17 = .ok (.getfield 10, 3) := dX11_classes_17
theorem eX11_classes_20 : decode mX11_classes.2.1 20 = .ok (.getfield 131, 3) := dX11_classes_20
theorem eX11_classes_23 : decode mX11_classes.2.1 23 = .ok (.invokevirtual 262, 3) := dX11_classes_23
theorem eX11_classes_26 : decode mX11_classes.2.1 26 = .ok (.iload_n 2, 1) := dX11_classes_26
theorem eX11_classes_27 : decode mX11_classes.2.1 27 = .ok (.iconst (-1), 1) := dX11_classes_27
theorem eX11_classes_28 : decode mX11_classes.2.1 28 = .ok (.if_icmp .ne 11, 3) := dX11_classes_28
theorem eX11_classes_31 : decode mX11_classes.2.1 31 = .ok (.aload_n 0, 1) := dX11_classes_31
theorem eX11_classes_32 : decode mX11_classes.2.1 32 = .ok (.getfield 40, 3) := dX11_classes_32
theorem eX11_classes_35 : decode mX11_classes.2.1 35 = .ok (.getfield 265, 3) := dX11_classes_35
theorem eX11_classes_38 : decode mX11_classes.2.1 38 = .ok (.ireturn, 1) := dX11_classes_38
theorem eX11_classes_39 : decode mX11_classes.2.1 39 = .ok (.iload_n 2, 1) := dX11_classes_39
theorem eX11_classes_40 : decode mX11_classes.2.1 40 = .ok (.ifCond .lt 18, 3) := dX11_classes_40
theorem eX11_classes_43 : decode mX11_classes.2.1 43 = .ok (.iload_n 2, 1) := dX11_classes_43
theorem eX11_classes_44 : decode mX11_classes.2.1 44 = .ok (.aload_n 0, 1) := dX11_classes_44
theorem eX11_classes_45 : decode mX11_classes.2.1 45 = .ok (.getfield 40, 3) := dX11_classes_45
theorem eX11_classes_48 : decode mX11_classes.2.1 48 = .ok (.getfield 265, 3) := dX11_classes_48
theorem eX11_classes_51 : decode mX11_classes.2.1 51 = .ok (.if_icmp .ge 7, 3) := dX11_classes_51
theorem eX11_classes_54 : decode mX11_classes.2.1 54 = .ok (.iconst 1, 1) := dX11_classes_54
theorem eX11_classes_55 : decode mX11_classes.2.1 55 = .ok (.goto 4, 3) := dX11_classes_55
theorem eX11_classes_58 : decode mX11_classes.2.1 58 = .ok (.iconst 0, 1) := dX11_classes_58
theorem eX11_classes_59 : decode mX11_classes.2.1 59 = .ok (.invokestatic 117, 3) := dX11_classes_59
theorem eX11_classes_62 : decode mX11_classes.2.1 62 = .ok (.iload_n 3, 1) := dX11_classes_62
theorem eX11_classes_63 : decode mX11_classes.2.1 63 = .ok (.iconst (-1), 1) := dX11_classes_63
theorem eX11_classes_64 : decode mX11_classes.2.1 64 = .ok (.if_icmp .ne 12, 3) := dX11_classes_64
theorem eX11_classes_67 : decode mX11_classes.2.1 67 = .ok (.aload_n 0, 1) := dX11_classes_67
theorem eX11_classes_68 : decode mX11_classes.2.1 68 = .ok (.getfield 40, 3) := dX11_classes_68
theorem eX11_classes_71 : decode mX11_classes.2.1 71 = .ok (.iload_n 2, 1) := dX11_classes_71
theorem eX11_classes_72 : decode mX11_classes.2.1 72 = .ok (.invokevirtual 268, 3) := dX11_classes_72
theorem eX11_classes_75 : decode mX11_classes.2.1 75 = .ok (.ireturn, 1) := dX11_classes_75
theorem eX11_classes_76 : decode mX11_classes.2.1 76 = .ok (.iload_n 3, 1) := dX11_classes_76
theorem eX11_classes_77 : decode mX11_classes.2.1 77 = .ok (.ifCond .lt 19, 3) := dX11_classes_77
theorem eX11_classes_80 : decode mX11_classes.2.1 80 = .ok (.iload_n 3, 1) := dX11_classes_80
theorem eX11_classes_81 : decode mX11_classes.2.1 81 = .ok (.aload_n 0, 1) := dX11_classes_81
theorem eX11_classes_82 : decode mX11_classes.2.1 82 = .ok (.getfield 40, 3) := dX11_classes_82
theorem eX11_classes_85 : decode mX11_classes.2.1 85 = .ok (.iload_n 2, 1) := dX11_classes_85
theorem eX11_classes_86 : decode mX11_classes.2.1 86 = .ok (.invokevirtual 268, 3) := dX11_classes_86
theorem eX11_classes_89 : decode mX11_classes.2.1 89 = .ok (.if_icmp .ge 7, 3) := dX11_classes_89
theorem eX11_classes_92 : decode mX11_classes.2.1 92 = .ok (.iconst 1, 1) := dX11_classes_92
theorem eX11_classes_93 : decode mX11_classes.2.1 93 = .ok (.goto 4, 3) := dX11_classes_93
theorem eX11_classes_96 : decode mX11_classes.2.1 96 = .ok (.iconst 0, 1) := dX11_classes_96
theorem eX11_classes_97 : decode mX11_classes.2.1 97 = .ok (.invokestatic 117, 3) := dX11_classes_97
theorem eX11_classes_100 : decode mX11_classes.2.1 100 = .ok (.aload_n 0, 1) := dX11_classes_100
theorem eX11_classes_101 : decode mX11_classes.2.1 101 = .ok (.getfield 40, 3) := dX11_classes_101
theorem eX11_classes_104 : decode mX11_classes.2.1 104 = .ok (.iload_n 2, 1) := dX11_classes_104
theorem eX11_classes_105 : decode mX11_classes.2.1 105 = .ok (.iload_n 3, 1) := dX11_classes_105
theorem eX11_classes_106 : decode mX11_classes.2.1 106 = .ok (.invokevirtual 271, 3) := dX11_classes_106
theorem eX11_classes_109 : decode mX11_classes.2.1 109 = .ok (.ireturn, 1) := dX11_classes_109
theorem eX11_clear_0 : decode mX11_clear.2.1 0 = .ok (.aload_n 0, 1) := dX11_clear_0
theorem eX11_clear_1 : decode mX11_clear.2.1 1 = .ok (.getfield 16, 3) := dX11_clear_1
theorem eX11_clear_4 : decode mX11_clear.2.1 4 = .ok (.iconst 0, 1) := dX11_clear_4
theorem eX11_clear_5 : decode mX11_clear.2.1 5 = .ok (.invokestatic 348, 3) := dX11_clear_5
theorem eX11_clear_8 : decode mX11_clear.2.1 8 = .ok (.aload_n 0, 1) := dX11_clear_8
theorem eX11_clear_9 : decode mX11_clear.2.1 9 = .ok (.getfield 40, 3) := dX11_clear_9
theorem eX11_clear_12 : decode mX11_clear.2.1 12 = .ok (.iconst 1, 1) := dX11_clear_12
theorem eX11_clear_13 : decode mX11_clear.2.1 13 = .ok (.aload_n 0, 1) := dX11_clear_13
theorem eX11_clear_14 : decode mX11_clear.2.1 14 = .ok (.getfield 10, 3) := dX11_clear_14
theorem eX11_clear_17 : decode mX11_clear.2.1 17 = .ok (.getfield 131, 3) := dX11_clear_17
theorem eX11_clear_20 : decode mX11_clear.2.1 20 = .ok (.invokevirtual 262, 3) := dX11_clear_20
theorem eX11_clear_23 : decode mX11_clear.2.1 23 = .ok (.aload_n 0, 1) := dX11_clear_23
theorem eX11_clear_24 : decode mX11_clear.2.1 24 = .ok (.iconst 0, 1) := dX11_clear_24
theorem eX11_clear_25 : decode mX11_clear.2.1 25 = .ok (.invokevirtual 274, 3) := dX11_clear_25
theorem eX11_clear_28 : decode mX11_clear.2.1 28 = .ok (.return_, 1) := dX11_clear_28
theorem eX11_code_0 : decode mX11_code.2.1 0 = .ok (.aload_n 0, 1) := dX11_code_0
theorem eX11_code_1 : decode mX11_code.2.1 1 = .ok (.getfield 10, 3) := dX11_code_1
theorem eX11_code_4 : decode mX11_code.2.1 4 = .ok (.iload_n 1, 1) := dX11_code_4
theorem eX11_code_5 : decode mX11_code.2.1 5 = .ok (.invokevirtual 259, 3) := dX11_code_5
theorem eX11_code_8 : decode mX11_code.2.1 8 = .ok (.ifCond .eq 7, 3) := dX11_code_8
theorem eX11_code_11 : decode mX11_code.2.1 11 = .ok (.iload_n 2, 1) := dX11_code_11
theorem eX11_code_12 : decode mX11_code.2.1 12 = .ok (.ifCond .ge 5, 3) := dX11_code_12
theorem eX11_code_15 : decode mX11_code.2.1 15 = .ok (.iconst (-1), 1) := dX11_code_15
theorem eX11_code_16 : decode mX11_code.2.1 16 = .ok (.ireturn, 1) := dX11_code_16
theorem eX11_code_17 : decode mX11_code.2.1 17 = .ok (.aload_n 0, 1) := dX11_code_17
theorem eX11_code_18 : decode mX11_code.2.1 18 = .ok (.getfield 40, 3) := dX11_code_18
theorem eX11_code_21 : decode mX11_code.2.1 21 = .ok (.iload_n 1, 1) := dX11_code_21
theorem eX11_code_22 : decode mX11_code.2.1 22 = .ok (.aload_n 0, 1) := dX11_code_22
theorem eX11_code_23 : decode mX11_code.2.1 23 = .ok (.getfield 10, 3) := dX11_code_23
theorem eX11_code_26 : decode mX11_code.2.1 26 = .ok (.getfield 131, 3) := dX11_code_26
theorem eX11_code_29 : decode mX11_code.2.1 29 = .ok (.invokevirtual 262, 3) := dX11_code_29
theorem eX11_code_32 : decode mX11_code.2.1 32 = .ok (.aload_n 0, 1) := dX11_code_32
theorem eX11_code_33 : decode mX11_code.2.1 33 = .ok (.getfield 40, 3) := dX11_code_33
theorem eX11_code_36 : decode mX11_code.2.1 36 = .ok (.getfield 265, 3) := dX11_code_36
theorem eX11_code_39 : decode mX11_code.2.1 39 = .ok (.bipush 30, 2) := dX11_code_39
theorem eX11_code_41 : decode mX11_code.2.1 41 = .ok (.if_icmp .gt 17, 3) := dX11_code_41
theorem eX11_code_44 : decode mX11_code.2.1 44 = .ok (.iload_n 2, 1) := dX11_code_44
theorem eX11_code_45 : decode mX11_code.2.1 45 = .ok (.aload_n 0, 1) := dX11_code_45
theorem eX11_code_46 : decode mX11_code.2.1 46 = .ok (.getfield 40, 3) := dX11_code_46
theorem eX11_code_49 : decode mX11_code.2.1 49 = .ok (.getfield 265, 3) := dX11_code_49
theorem eX11_code_52 : decode mX11_code.2.1 52 = .ok (.ishr, 1) := dX11_code_52
theorem eX11_code_53 : decode mX11_code.2.1 53 = .ok (.ifCond .eq 5, 3) := dX11_code_53
theorem eX11_code_56 : decode mX11_code.2.1 56 = .ok (.iconst (-1), 1) := dX11_code_56
theorem eX11_code_57 : decode mX11_code.2.1 57 = .ok (.ireturn, 1) := dX11_code_57
theorem eX11_code_58 : decode mX11_code.2.1 58 = .ok (.aload_n 0, 1) := dX11_code_58
theorem eX11_code_59 : decode mX11_code.2.1 59 = .ok (.iload_n 2, 1) := dX11_code_59
theorem eX11_code_60 : decode mX11_code.2.1 60 = .ok (.invokevirtual 274, 3) := dX11_code_60
theorem eX11_code_63 : decode mX11_code.2.1 63 = .ok (.aload_n 0, 1) := dX11_code_63
theorem eX11_code_64 : decode mX11_code.2.1 64 = .ok (.getfield 58, 3) := dX11_code_64
theorem eX11_code_67 : decode mX11_code.2.1 67 = .ok (.getfield 156, 3) := dX11_code_67
theorem eX11_code_70 : decode mX11_code.2.1 70 = .ok (.ireturn, 1) := dX11_code_70
theorem eX11_coefficient_0 : decode mX11_coefficient.2.1 0 = .ok (.iload_n 1, 1) := dX11_coefficient_0
theorem eX11_coefficient_1 : decode mX11_coefficient.2.1 1 = .ok (.ifCond .eq 8, 3) := dX11_coefficient_1
theorem eX11_coefficient_4 : decode mX11_coefficient.2.1 4 = .ok (.iload_n 1, 1) := dX11_coefficient_4
theorem eX11_coefficient_5 : decode mX11_coefficient.2.1 5 = .ok (.iconst 1, 1) := dX11_coefficient_5
theorem eX11_coefficient_6 : decode mX11_coefficient.2.1 6 = .ok (.if_icmp .ne 7, 3) := dX11_coefficient_6
theorem eX11_coefficient_9 : decode mX11_coefficient.2.1 9 = .ok (.iconst 1, 1) := dX11_coefficient_9
theorem eX11_coefficient_10 : decode mX11_coefficient.2.1 10 = .ok (.goto 4, 3) := dX11_coefficient_10
theorem eX11_coefficient_13 : decode mX11_coefficient.2.1 13 = .ok (.iconst 0, 1) := dX11_coefficient_13
theorem eX11_coefficient_14 : decode mX11_coefficient.2.1 14 = .ok (.invokestatic 117, 3) := dX11_coefficient_14
theorem eX11_coefficient_17 : decode mX11_coefficient.2.1 17 = .ok (.iload_n 1, 1) := dX11_coefficient_17
theorem eX11_coefficient_18 : decode mX11_coefficient.2.1 18 = .ok (.ifCond .ne 13, 3) := dX11_coefficient_18
theorem eX11_coefficient_21 : decode mX11_coefficient.2.1 21 = .ok (.aload_n 0, 1) := dX11_coefficient_21
theorem eX11_coefficient_22 : decode mX11_coefficient.2.1 22 = .ok (.getfield 58, 3) := dX11_coefficient_22
theorem eX11_coefficient_25 : decode mX11_coefficient.2.1 25 = .ok (.getfield 277, 3) := dX11_coefficient_25
theorem eX11_coefficient_28 : decode mX11_coefficient.2.1 28 = .ok (.goto 18, 3) := dX11_coefficient_28
theorem eX11_coefficient_31 : decode mX11_coefficient.2.1 31 = .ok (.aload_n 0, 1) := dX11_coefficient_31
theorem eX11_coefficient_32 : decode mX11_coefficient.2.1 32 = .ok (.getfield 58, 3) := dX11_coefficient_32
theorem eX11_coefficient_35 : decode mX11_coefficient.2.1 35 = .ok (.getfield 153, 3) := dX11_coefficient_35
theorem eX11_coefficient_38 : decode mX11_coefficient.2.1 38 = .ok (.aload_n 0, 1) := dX11_coefficient_38
theorem eX11_coefficient_39 : decode mX11_coefficient.2.1 39 = .ok (.getfield 58, 3) := dX11_coefficient_39
theorem eX11_coefficient_42 : decode mX11_coefficient.2.1 42 = .ok (.getfield 277, 3) := dX11_coefficient_42
theorem eX11_coefficient_45 : decode mX11_coefficient.2.1 45 = .ok (.isub, 1) := dX11_coefficient_45
theorem eX11_coefficient_46 : decode mX11_coefficient.2.1 46 = .ok (.istore_n 3, 1) := dX11_coefficient_46
theorem eX11_coefficient_47 : decode mX11_coefficient.2.1 47 = .ok (.iload_n 2, 1) := dX11_coefficient_47
theorem eX11_coefficient_48 : decode mX11_coefficient.2.1 48 = .ok (.iconst (-1), 1) := dX11_coefficient_48
theorem eX11_coefficient_49 : decode mX11_coefficient.2.1 49 = .ok (.if_icmp .ne 5, 3) := dX11_coefficient_49
theorem eX11_coefficient_52 : decode mX11_coefficient.2.1 52 = .ok (.iload_n 3, 1) := dX11_coefficient_52
theorem eX11_coefficient_53 : decode mX11_coefficient.2.1 53 = .ok (.ireturn, 1) := dX11_coefficient_53
theorem eX11_coefficient_54 : decode mX11_coefficient.2.1 54 = .ok (.iload_n 2, 1) := dX11_coefficient_54
theorem eX11_coefficient_55 : decode mX11_coefficient.2.1 55 = .ok (.ifCond .lt 12, 3) := dX11_coefficient_55
theorem eX11_coefficient_58 : decode mX11_coefficient.2.1 58 = .ok (.iload_n 2, 1) := dX11_coefficient_58
theorem eX11_coefficient_59 : decode mX11_coefficient.2.1 59 = .ok (.iload_n 3, 1) := dX11_coefficient_59
theorem eX11_coefficient_60 : decode mX11_coefficient.2.1 60 = .ok (.if_icmp .gt 7, 3) := dX11_coefficient_60
theorem eX11_coefficient_63 : decode mX11_coefficient.2.1 63 = .ok (.iconst 1, 1) := dX11_coefficient_63
theorem eX11_coefficient_64 : decode mX11_coefficient.2.1 64 = .ok (.goto 4, 3) := dX11_coefficient_64
theorem eX11_coefficient_67 : decode mX11_coefficient.2.1 67 = .ok (.iconst 0, 1) := dX11_coefficient_67
theorem eX11_coefficient_68 : decode mX11_coefficient.2.1 68 = .ok (.invokestatic 117, 3) := dX11_coefficient_68
theorem eX11_coefficient_71 : decode mX11_coefficient.2.1 71 = .ok (.iload_n 1, 1) := dX11_coefficient_71
theorem eX11_coefficient_72 : decode mX11_coefficient.2.1 72 = .ok (.ifCond .ne 13, 3) := dX11_coefficient_72
theorem eX11_coefficient_75 : decode mX11_coefficient.2.1 75 = .ok (.aload_n 0, 1) := dX11_coefficient_75
theorem eX11_coefficient_76 : decode mX11_coefficient.2.1 76 = .ok (.getfield 58, 3) := dX11_coefficient_76
theorem eX11_coefficient_79 : decode mX11_coefficient.2.1 79 = .ok (.getfield 280, 3) := dX11_coefficient_79
theorem eX11_coefficient_82 : decode mX11_coefficient.2.1 82 = .ok (.goto 10, 3) := dX11_coefficient_82
theorem eX11_coefficient_85 : decode mX11_coefficient.2.1 85 = .ok (.aload_n 0, 1) := dX11_coefficient_85
theorem eX11_coefficient_86 : decode mX11_coefficient.2.1 86 = .ok (.getfield 58, 3) := dX11_coefficient_86
theorem eX11_coefficient_89 : decode mX11_coefficient.2.1 89 = .ok (.getfield 283, 3) := dX11_coefficient_89
theorem eX11_coefficient_92 : decode mX11_coefficient.2.1 92 = .ok (.iload_n 2, 1) := dX11_coefficient_92
theorem eX11_coefficient_93 : decode mX11_coefficient.2.1 93 = .ok (.invokestatic 121, 3) := dX11_coefficient_93
theorem eX11_coefficient_96 : decode mX11_coefficient.2.1 96 = .ok (.ireturn, 1) := dX11_coefficient_96
theorem eX11_count_0 : decode mX11_count.2.1 0 = .ok (.iload_n 1, 1) := dX11_count_0
theorem eX11_count_1 : decode mX11_count.2.1 1 = .ok (.tableswitch 192 0 12 #[67, 75, 83, 91, 99, 107, 115, 141, 149, 157, 165, 173, 184], 67) := dX11_count_1
theorem eX11_count_68 : decode mX11_count.2.1 68 = .ok (.aload_n 0, 1) := dX11_count_68
theorem eX11_count_69 : decode mX11_count.2.1 69 = .ok (.getfield 10, 3) := dX11_count_69
theorem eX11_count_72 : decode mX11_count.2.1 72 = .ok (.getfield 131, 3) := dX11_count_72
theorem eX11_count_75 : decode mX11_count.2.1 75 = .ok (.ireturn, 1) := dX11_count_75
theorem eX11_count_76 : decode mX11_count.2.1 76 = .ok (.aload_n 0, 1) := dX11_count_76
theorem eX11_count_77 : decode mX11_count.2.1 77 = .ok (.getfield 10, 3) := dX11_count_77
theorem eX11_count_80 : decode mX11_count.2.1 80 = .ok (.getfield 134, 3) := dX11_count_80
theorem eX11_count_83 : decode mX11_count.2.1 83 = .ok (.ireturn, 1) := dX11_count_83
theorem eX11_count_84 : decode mX11_count.2.1 84 = .ok (.aload_n 0, 1) := dX11_count_84
theorem eX11_count_85 : decode mX11_count.2.1 85 = .ok (.getfield 10, 3) := dX11_count_85
theorem eX11_count_88 : decode mX11_count.2.1 88 = .ok (.getfield 137, 3) := dX11_count_88
theorem eX11_count_91 : decode mX11_count.2.1 91 = .ok (.ireturn, 1) := dX11_count_91
theorem eX11_count_92 : decode mX11_count.2.1 92 = .ok (.aload_n 0, 1) := dX11_count_92
theorem eX11_count_93 : decode mX11_count.2.1 93 = .ok (.getfield 10, 3) := dX11_count_93
theorem eX11_count_96 : decode mX11_count.2.1 96 = .ok (.getfield 140, 3) := dX11_count_96
theorem eX11_count_99 : decode mX11_count.2.1 99 = .ok (.ireturn, 1) := dX11_count_99
theorem eX11_count_100 : decode mX11_count.2.1 100 = .ok (.aload_n 0, 1) := dX11_count_100
theorem eX11_count_101 : decode mX11_count.2.1 101 = .ok (.getfield 10, 3) := dX11_count_101
theorem eX11_count_104 : decode mX11_count.2.1 104 = .ok (.getfield 143, 3) := dX11_count_104
theorem eX11_count_107 : decode mX11_count.2.1 107 = .ok (.ireturn, 1) := dX11_count_107
theorem eX11_count_108 : decode mX11_count.2.1 108 = .ok (.aload_n 0, 1) := dX11_count_108
theorem eX11_count_109 : decode mX11_count.2.1 109 = .ok (.getfield 10, 3) := dX11_count_109
theorem eX11_count_112 : decode mX11_count.2.1 112 = .ok (.getfield 85, 3) := dX11_count_112
theorem eX11_count_115 : decode mX11_count.2.1 115 = .ok (.ireturn, 1) := dX11_count_115
theorem eX11_count_116 : decode mX11_count.2.1 116 = .ok (.aload_n 0, 1) := dX11_count_116
theorem eX11_count_117 : decode mX11_count.2.1 117 = .ok (.getfield 10, 3) := dX11_count_117
theorem eX11_count_120 : decode mX11_count.2.1 120 = .ok (.getfield 85, 3) := dX11_count_120
theorem eX11_count_123 : decode mX11_count.2.1 123 = .ok (.aload_n 0, 1) := dX11_count_123
theorem eX11_count_124 : decode mX11_count.2.1 124 = .ok (.getfield 10, 3) := dX11_count_124
theorem eX11_count_127 : decode mX11_count.2.1 127 = .ok (.getfield 85, 3) := dX11_count_127
theorem eX11_count_130 : decode mX11_count.2.1 130 = .ok (.aload_n 0, 1) := dX11_count_130
theorem eX11_count_131 : decode mX11_count.2.1 131 = .ok (.getfield 10, 3) := dX11_count_131
theorem eX11_count_134 : decode mX11_count.2.1 134 = .ok (.getfield 143, 3) := dX11_count_134
theorem eX11_count_137 : decode mX11_count.2.1 137 = .ok (.invokestatic 146, 3) := dX11_count_137
theorem eX11_count_140 : decode mX11_count.2.1 140 = .ok (.isub, 1) := dX11_count_140
theorem eX11_count_141 : decode mX11_count.2.1 141 = .ok (.ireturn, 1) := dX11_count_141
theorem eX11_count_142 : decode mX11_count.2.1 142 = .ok (.aload_n 0, 1) := dX11_count_142
theorem eX11_count_143 : decode mX11_count.2.1 143 = .ok (.getfield 10, 3) := dX11_count_143
theorem eX11_count_146 : decode mX11_count.2.1 146 = .ok (.getfield 150, 3) := dX11_count_146
theorem eX11_count_149 : decode mX11_count.2.1 149 = .ok (.ireturn, 1) := dX11_count_149
theorem eX11_count_150 : decode mX11_count.2.1 150 = .ok (.aload_n 0, 1) := dX11_count_150
theorem eX11_count_151 : decode mX11_count.2.1 151 = .ok (.getfield 58, 3) := dX11_count_151
theorem eX11_count_154 : decode mX11_count.2.1 154 = .ok (.getfield 153, 3) := dX11_count_154
theorem eX11_count_157 : decode mX11_count.2.1 157 = .ok (.ireturn, 1) := dX11_count_157
theorem eX11_count_158 : decode mX11_count.2.1 158 = .ok (.aload_n 0, 1) := dX11_count_158
theorem eX11_count_159 : decode mX11_count.2.1 159 = .ok (.getfield 58, 3) := dX11_count_159
theorem eX11_count_162 : decode mX11_count.2.1 162 = .ok (.getfield 156, 3) := dX11_count_162
theorem eX11_count_165 : decode mX11_count.2.1 165 = .ok (.ireturn, 1) := dX11_count_165
theorem eX11_count_166 : decode mX11_count.2.1 166 = .ok (.aload_n 0, 1) := dX11_count_166
theorem eX11_count_167 : decode mX11_count.2.1 167 = .ok (.getfield 26, 3) := dX11_count_167
theorem eX11_count_170 : decode mX11_count.2.1 170 = .ok (.getfield 89, 3) := dX11_count_170
theorem eX11_count_173 : decode mX11_count.2.1 173 = .ok (.ireturn, 1) := dX11_count_173
theorem eX11_count_174 : decode mX11_count.2.1 174 = .ok (.aload_n 0, 1) := dX11_count_174
theorem eX11_count_175 : decode mX11_count.2.1 175 = .ok (.getfield 10, 3) := dX11_count_175
theorem eX11_count_178 : decode mX11_count.2.1 178 = .ok (.getfield 137, 3) := dX11_count_178
theorem eX11_count_181 : decode mX11_count.2.1 181 = .ok (.invokestatic 159, 3) := dX11_count_181
theorem eX11_count_184 : decode mX11_count.2.1 184 = .ok (.ireturn, 1) := dX11_count_184
theorem eX11_count_185 : decode mX11_count.2.1 185 = .ok (.aload_n 0, 1) := dX11_count_185
theorem eX11_count_186 : decode mX11_count.2.1 186 = .ok (.getfield 10, 3) := dX11_count_186
theorem eX11_count_189 : decode mX11_count.2.1 189 = .ok (.invokevirtual 162, 3) := dX11_count_189
theorem eX11_count_192 : decode mX11_count.2.1 192 = .ok (.ireturn, 1) := dX11_count_192
theorem eX11_count_193 : decode mX11_count.2.1 193 = .ok (.new 166, 3) := dX11_count_193
theorem eX11_count_196 : decode mX11_count.2.1 196 = .ok (.dup, 1) := dX11_count_196
theorem eX11_count_197 : decode mX11_count.2.1 197 = .ok (.invokespecial 168, 3) := dX11_count_197
theorem eX11_count_200 : decode mX11_count.2.1 200 = .ok (.athrow, 1) := dX11_count_200
theorem eX11_digit_0 : decode mX11_digit.2.1 0 = .ok (.aload_n 0, 1) := dX11_digit_0
theorem eX11_digit_1 : decode mX11_digit.2.1 1 = .ok (.getfield 10, 3) := dX11_digit_1
theorem eX11_digit_4 : decode mX11_digit.2.1 4 = .ok (.iload_n 1, 1) := dX11_digit_4
theorem eX11_digit_5 : decode mX11_digit.2.1 5 = .ok (.invokevirtual 113, 3) := dX11_digit_5
theorem eX11_digit_8 : decode mX11_digit.2.1 8 = .ok (.ifCond .eq 22, 3) := dX11_digit_8
theorem eX11_digit_11 : decode mX11_digit.2.1 11 = .ok (.iload_n 2, 1) := dX11_digit_11
theorem eX11_digit_12 : decode mX11_digit.2.1 12 = .ok (.ifCond .lt 18, 3) := dX11_digit_12
theorem eX11_digit_15 : decode mX11_digit.2.1 15 = .ok (.iload_n 2, 1) := dX11_digit_15
theorem eX11_digit_16 : decode mX11_digit.2.1 16 = .ok (.aload_n 0, 1) := dX11_digit_16
theorem eX11_digit_17 : decode mX11_digit.2.1 17 = .ok (.getfield 10, 3) := dX11_digit_17
theorem eX11_digit_20 : decode mX11_digit.2.1 20 = .ok (.getfield 134, 3) := dX11_digit_20
theorem eX11_digit_23 : decode mX11_digit.2.1 23 = .ok (.if_icmp .ge 7, 3) := dX11_digit_23
theorem eX11_digit_26 : decode mX11_digit.2.1 26 = .ok (.iconst 1, 1) := dX11_digit_26
theorem eX11_digit_27 : decode mX11_digit.2.1 27 = .ok (.goto 4, 3) := dX11_digit_27
theorem eX11_digit_30 : decode mX11_digit.2.1 30 = .ok (.iconst 0, 1) := dX11_digit_30
theorem eX11_digit_31 : decode mX11_digit.2.1 31 = .ok (.invokestatic 117, 3) := dX11_digit_31
theorem eX11_digit_34 : decode mX11_digit.2.1 34 = .ok (.aload_n 0, 1) := dX11_digit_34
theorem eX11_digit_35 : decode mX11_digit.2.1 35 = .ok (.getfield 10, 3) := dX11_digit_35
theorem eX11_digit_38 : decode mX11_digit.2.1 38 = .ok (.iload_n 1, 1) := dX11_digit_38
theorem eX11_digit_39 : decode mX11_digit.2.1 39 = .ok (.iload_n 2, 1) := dX11_digit_39
theorem eX11_digit_40 : decode mX11_digit.2.1 40 = .ok (.invokevirtual 211, 3) := dX11_digit_40
theorem eX11_digit_43 : decode mX11_digit.2.1 43 = .ok (.ireturn, 1) := dX11_digit_43
theorem eX11_divisors_0 : decode mX11_divisors.2.1 0 = .ok (.iconst 0, 1) := dX11_divisors_0
theorem eX11_divisors_1 : decode mX11_divisors.2.1 1 = .ok (.istore_n 1, 1) := dX11_divisors_1
theorem eX11_divisors_2 : decode mX11_divisors.2.1 2 = .ok (.iconst 1, 1) := dX11_divisors_2
theorem eX11_divisors_3 : decode mX11_divisors.2.1 3 = .ok (.istore_n 2, 1) := dX11_divisors_3
theorem eX11_divisors_4 : decode mX11_divisors.2.1 4 = .ok (.iload_n 2, 1) := dX11_divisors_4
theorem eX11_divisors_5 : decode mX11_divisors.2.1 5 = .ok (.iload_n 0, 1) := dX11_divisors_5
theorem eX11_divisors_6 : decode mX11_divisors.2.1 6 = .ok (.if_icmp .gt 25, 3) := dX11_divisors_6
theorem eX11_divisors_9 : decode mX11_divisors.2.1 9 = .ok (.iload_n 1, 1) := dX11_divisors_9
theorem eX11_divisors_10 : decode mX11_divisors.2.1 10 = .ok (.iload_n 0, 1) := dX11_divisors_10
theorem eX11_divisors_11 : decode mX11_divisors.2.1 11 = .ok (.iload_n 2, 1) := dX11_divisors_11
theorem eX11_divisors_12 : decode mX11_divisors.2.1 12 = .ok (.invokestatic 238, 3) := dX11_divisors_12
theorem eX11_divisors_15 : decode mX11_divisors.2.1 15 = .ok (.ifCond .ne 7, 3) := dX11_divisors_15
theorem eX11_divisors_18 : decode mX11_divisors.2.1 18 = .ok (.iconst 1, 1) := dX11_divisors_18
theorem eX11_divisors_19 : decode mX11_divisors.2.1 19 = .ok (.goto 4, 3) := dX11_divisors_19
theorem eX11_divisors_22 : decode mX11_divisors.2.1 22 = .ok (.iconst 0, 1) := dX11_divisors_22
theorem eX11_divisors_23 : decode mX11_divisors.2.1 23 = .ok (.iadd, 1) := dX11_divisors_23
theorem eX11_divisors_24 : decode mX11_divisors.2.1 24 = .ok (.istore_n 1, 1) := dX11_divisors_24
theorem eX11_divisors_25 : decode mX11_divisors.2.1 25 = .ok (.iinc 2 1, 3) := dX11_divisors_25
theorem eX11_divisors_28 : decode mX11_divisors.2.1 28 = .ok (.goto (-24), 3) := dX11_divisors_28
theorem eX11_divisors_31 : decode mX11_divisors.2.1 31 = .ok (.iload_n 1, 1) := dX11_divisors_31
theorem eX11_divisors_32 : decode mX11_divisors.2.1 32 = .ok (.ireturn, 1) := dX11_divisors_32
theorem eX11_element_0 : decode mX11_element.2.1 0 = .ok (.aload_n 0, 1) := dX11_element_0
theorem eX11_element_1 : decode mX11_element.2.1 1 = .ok (.getfield 10, 3) := dX11_element_1
theorem eX11_element_4 : decode mX11_element.2.1 4 = .ok (.iload_n 2, 1) := dX11_element_4
theorem eX11_element_5 : decode mX11_element.2.1 5 = .ok (.invokevirtual 113, 3) := dX11_element_5
theorem eX11_element_8 : decode mX11_element.2.1 8 = .ok (.ifCond .eq 18, 3) := dX11_element_8
theorem eX11_element_11 : decode mX11_element.2.1 11 = .ok (.aload_n 0, 1) := dX11_element_11
theorem eX11_element_12 : decode mX11_element.2.1 12 = .ok (.getfield 10, 3) := dX11_element_12
theorem eX11_element_15 : decode mX11_element.2.1 15 = .ok (.iload_n 3, 1) := dX11_element_15
theorem eX11_element_16 : decode mX11_element.2.1 16 = .ok (.invokevirtual 113, 3) := dX11_element_16
theorem eX11_element_19 : decode mX11_element.2.1 19 = .ok (.ifCond .eq 7, 3) := dX11_element_19
theorem eX11_element_22 : decode mX11_element.2.1 22 = .ok (.iconst 1, 1) := dX11_element_22
theorem eX11_element_23 : decode mX11_element.2.1 23 = .ok (.goto 4, 3) := dX11_element_23
theorem eX11_element_26 : decode mX11_element.2.1 26 = .ok (.iconst 0, 1) := dX11_element_26
theorem eX11_element_27 : decode mX11_element.2.1 27 = .ok (.invokestatic 117, 3) := dX11_element_27
theorem eX11_element_30 : decode mX11_element.2.1 30 = .ok (.iload_n 1, 1) := dX11_element_30
theorem eX11_element_31 : decode mX11_element.2.1 31 = .ok (.tableswitch 87 0 3 #[29, 39, 49, 59], 29) := dX11_element_31
theorem eX11_element_60 : decode mX11_element.2.1 60 = .ok (.aload_n 0, 1) := dX11_element_60
theorem eX11_element_61 : decode mX11_element.2.1 61 = .ok (.getfield 10, 3) := dX11_element_61
theorem eX11_element_64 : decode mX11_element.2.1 64 = .ok (.iload_n 2, 1) := dX11_element_64
theorem eX11_element_65 : decode mX11_element.2.1 65 = .ok (.iload_n 3, 1) := dX11_element_65
theorem eX11_element_66 : decode mX11_element.2.1 66 = .ok (.invokevirtual 172, 3) := dX11_element_66
theorem eX11_element_69 : decode mX11_element.2.1 69 = .ok (.ireturn, 1) := dX11_element_69
theorem eX11_element_70 : decode mX11_element.2.1 70 = .ok (.aload_n 0, 1) := dX11_element_70
theorem eX11_element_71 : decode mX11_element.2.1 71 = .ok (.getfield 10, 3) := dX11_element_71
theorem eX11_element_74 : decode mX11_element.2.1 74 = .ok (.iload_n 2, 1) := dX11_element_74
theorem eX11_element_75 : decode mX11_element.2.1 75 = .ok (.iload_n 3, 1) := dX11_element_75
theorem eX11_element_76 : decode mX11_element.2.1 76 = .ok (.invokevirtual 175, 3) := dX11_element_76
theorem eX11_element_79 : decode mX11_element.2.1 79 = .ok (.ireturn, 1) := dX11_element_79
theorem eX11_element_80 : decode mX11_element.2.1 80 = .ok (.aload_n 0, 1) := dX11_element_80
theorem eX11_element_81 : decode mX11_element.2.1 81 = .ok (.getfield 10, 3) := dX11_element_81
theorem eX11_element_84 : decode mX11_element.2.1 84 = .ok (.iload_n 2, 1) := dX11_element_84
theorem eX11_element_85 : decode mX11_element.2.1 85 = .ok (.iload_n 3, 1) := dX11_element_85
theorem eX11_element_86 : decode mX11_element.2.1 86 = .ok (.invokevirtual 178, 3) := dX11_element_86
theorem eX11_element_89 : decode mX11_element.2.1 89 = .ok (.ireturn, 1) := dX11_element_89
theorem eX11_element_90 : decode mX11_element.2.1 90 = .ok (.aload_n 0, 1) := dX11_element_90
theorem eX11_element_91 : decode mX11_element.2.1 91 = .ok (.getfield 10, 3) := dX11_element_91
theorem eX11_element_94 : decode mX11_element.2.1 94 = .ok (.iload_n 3, 1) := dX11_element_94
theorem eX11_element_95 : decode mX11_element.2.1 95 = .ok (.invokevirtual 181, 3) := dX11_element_95
theorem eX11_element_98 : decode mX11_element.2.1 98 = .ok (.invokestatic 117, 3) := dX11_element_98
theorem eX11_element_101 : decode mX11_element.2.1 101 = .ok (.aload_n 0, 1) := dX11_element_101
theorem eX11_element_102 : decode mX11_element.2.1 102 = .ok (.getfield 10, 3) := dX11_element_102
theorem eX11_element_105 : decode mX11_element.2.1 105 = .ok (.iload_n 2, 1) := dX11_element_105
theorem eX11_element_106 : decode mX11_element.2.1 106 = .ok (.aload_n 0, 1) := dX11_element_106
theorem eX11_element_107 : decode mX11_element.2.1 107 = .ok (.getfield 10, 3) := dX11_element_107
theorem eX11_element_110 : decode mX11_element.2.1 110 = .ok (.iload_n 3, 1) := dX11_element_110
theorem eX11_element_111 : decode mX11_element.2.1 111 = .ok (.invokevirtual 184, 3) := dX11_element_111
theorem eX11_element_114 : decode mX11_element.2.1 114 = .ok (.invokevirtual 178, 3) := dX11_element_114
theorem eX11_element_117 : decode mX11_element.2.1 117 = .ok (.ireturn, 1) := dX11_element_117
theorem eX11_element_118 : decode mX11_element.2.1 118 = .ok (.new 166, 3) := dX11_element_118
theorem eX11_element_121 : decode mX11_element.2.1 121 = .ok (.dup, 1) := dX11_element_121
theorem eX11_element_122 : decode mX11_element.2.1 122 = .ok (.invokespecial 168, 3) := dX11_element_122
theorem eX11_element_125 : decode mX11_element.2.1 125 = .ok (.athrow, 1) := dX11_element_125
theorem eX11_fault_0 : decode mX11_fault.2.1 0 = .ok (.aload_n 0, 1) := dX11_fault_0
theorem eX11_fault_1 : decode mX11_fault.2.1 1 = .ok (.getfield 49, 3) := dX11_fault_1
theorem eX11_fault_4 : decode mX11_fault.2.1 4 = .ok (.getfield 110, 3) := dX11_fault_4
theorem eX11_fault_7 : decode mX11_fault.2.1 7 = .ok (.ireturn, 1) := dX11_fault_7
theorem eX11_feed_0 : decode mX11_feed.2.1 0 = .ok (.aload_n 0, 1) := dX11_feed_0
theorem eX11_feed_1 : decode mX11_feed.2.1 1 = .ok (.getfield 26, 3) := dX11_feed_1
theorem eX11_feed_4 : decode mX11_feed.2.1 4 = .ok (.getfield 89, 3) := dX11_feed_4
theorem eX11_feed_7 : decode mX11_feed.2.1 7 = .ok (.bipush 20, 2) := dX11_feed_7
theorem eX11_feed_9 : decode mX11_feed.2.1 9 = .ok (.iadd, 1) := dX11_feed_9
theorem eX11_feed_10 : decode mX11_feed.2.1 10 = .ok (.sipush 200, 3) := dX11_feed_10
theorem eX11_feed_13 : decode mX11_feed.2.1 13 = .ok (.if_icmp .le 5, 3) := dX11_feed_13
theorem eX11_feed_16 : decode mX11_feed.2.1 16 = .ok (.iconst (-1), 1) := dX11_feed_16
theorem eX11_feed_17 : decode mX11_feed.2.1 17 = .ok (.ireturn, 1) := dX11_feed_17
theorem eX11_feed_18 : decode mX11_feed.2.1 18 = .ok (.aload_n 0, 1) := dX11_feed_18
theorem eX11_feed_19 : decode mX11_feed.2.1 19 = .ok (.getfield 26, 3) := dX11_feed_19
theorem eX11_feed_22 : decode mX11_feed.2.1 22 = .ok (.iload_n 1, 1) := dX11_feed_22
theorem eX11_feed_23 : decode mX11_feed.2.1 23 = .ok (.invokevirtual 92, 3) := dX11_feed_23
theorem eX11_feed_26 : decode mX11_feed.2.1 26 = .ok (.aload_n 0, 1) := dX11_feed_26
theorem eX11_feed_27 : decode mX11_feed.2.1 27 = .ok (.getfield 26, 3) := dX11_feed_27
theorem eX11_feed_30 : decode mX11_feed.2.1 30 = .ok (.iload_n 2, 1) := dX11_feed_30
theorem eX11_feed_31 : decode mX11_feed.2.1 31 = .ok (.invokevirtual 92, 3) := dX11_feed_31
theorem eX11_feed_34 : decode mX11_feed.2.1 34 = .ok (.aload_n 0, 1) := dX11_feed_34
theorem eX11_feed_35 : decode mX11_feed.2.1 35 = .ok (.getfield 26, 3) := dX11_feed_35
theorem eX11_feed_38 : decode mX11_feed.2.1 38 = .ok (.iload_n 3, 1) := dX11_feed_38
theorem eX11_feed_39 : decode mX11_feed.2.1 39 = .ok (.invokevirtual 92, 3) := dX11_feed_39
theorem eX11_feed_42 : decode mX11_feed.2.1 42 = .ok (.aload_n 0, 1) := dX11_feed_42
theorem eX11_feed_43 : decode mX11_feed.2.1 43 = .ok (.getfield 26, 3) := dX11_feed_43
theorem eX11_feed_46 : decode mX11_feed.2.1 46 = .ok (.iload 4, 2) := dX11_feed_46
theorem eX11_feed_48 : decode mX11_feed.2.1 48 = .ok (.invokevirtual 92, 3) := dX11_feed_48
theorem eX11_feed_51 : decode mX11_feed.2.1 51 = .ok (.aload_n 0, 1) := dX11_feed_51
theorem eX11_feed_52 : decode mX11_feed.2.1 52 = .ok (.getfield 26, 3) := dX11_feed_52
theorem eX11_feed_55 : decode mX11_feed.2.1 55 = .ok (.iload 5, 2) := dX11_feed_55
theorem eX11_feed_57 : decode mX11_feed.2.1 57 = .ok (.invokevirtual 92, 3) := dX11_feed_57
theorem eX11_feed_60 : decode mX11_feed.2.1 60 = .ok (.aload_n 0, 1) := dX11_feed_60
theorem eX11_feed_61 : decode mX11_feed.2.1 61 = .ok (.getfield 26, 3) := dX11_feed_61
theorem eX11_feed_64 : decode mX11_feed.2.1 64 = .ok (.getfield 89, 3) := dX11_feed_64
theorem eX11_feed_67 : decode mX11_feed.2.1 67 = .ok (.ireturn, 1) := dX11_feed_67
theorem eX11_init_0 : decode mX11_init.2.1 0 = .ok (.aload_n 0, 1) := dX11_init_0
theorem eX11_init_1 : decode mX11_init.2.1 1 = .ok (.invokespecial 1, 3) := dX11_init_1
theorem eX11_init_4 : decode mX11_init.2.1 4 = .ok (.aload_n 0, 1) := dX11_init_4
theorem eX11_init_5 : decode mX11_init.2.1 5 = .ok (.new 7, 3) := dX11_init_5
theorem eX11_init_8 : decode mX11_init.2.1 8 = .ok (.dup, 1) := dX11_init_8
theorem eX11_init_9 : decode mX11_init.2.1 9 = .ok (.invokespecial 9, 3) := dX11_init_9
theorem eX11_init_12 : decode mX11_init.2.1 12 = .ok (.putfield 10, 3) := dX11_init_12
theorem eX11_init_15 : decode mX11_init.2.1 15 = .ok (.aload_n 0, 1) := dX11_init_15
theorem eX11_init_16 : decode mX11_init.2.1 16 = .ok (.bipush 8, 2) := dX11_init_16
theorem eX11_init_18 : decode mX11_init.2.1 18 = .ok (.newarray .int, 2) := dX11_init_18
theorem eX11_init_20 : decode mX11_init.2.1 20 = .ok (.putfield 16, 3) := dX11_init_20
theorem eX11_init_23 : decode mX11_init.2.1 23 = .ok (.aload_n 0, 1) := dX11_init_23
theorem eX11_init_24 : decode mX11_init.2.1 24 = .ok (.sipush 4096, 3) := dX11_init_24
theorem eX11_init_27 : decode mX11_init.2.1 27 = .ok (.newarray .int, 2) := dX11_init_27
theorem eX11_init_29 : decode mX11_init.2.1 29 = .ok (.putfield 20, 3) := dX11_init_29
theorem eX11_init_32 : decode mX11_init.2.1 32 = .ok (.aload_n 0, 1) := dX11_init_32
theorem eX11_init_33 : decode mX11_init.2.1 33 = .ok (.new 23, 3) := dX11_init_33
theorem eX11_init_36 : decode mX11_init.2.1 36 = .ok (.dup, 1) := dX11_init_36
theorem eX11_init_37 : decode mX11_init.2.1 37 = .ok (.invokespecial 25, 3) := dX11_init_37
theorem eX11_init_40 : decode mX11_init.2.1 40 = .ok (.putfield 26, 3) := dX11_init_40
theorem eX11_init_43 : decode mX11_init.2.1 43 = .ok (.aload_n 0, 1) := dX11_init_43
theorem eX11_init_44 : decode mX11_init.2.1 44 = .ok (.new 30, 3) := dX11_init_44
theorem eX11_init_47 : decode mX11_init.2.1 47 = .ok (.dup, 1) := dX11_init_47
theorem eX11_init_48 : decode mX11_init.2.1 48 = .ok (.invokespecial 32, 3) := dX11_init_48
theorem eX11_init_51 : decode mX11_init.2.1 51 = .ok (.putfield 33, 3) := dX11_init_51
theorem eX11_init_54 : decode mX11_init.2.1 54 = .ok (.aload_n 0, 1) := dX11_init_54
theorem eX11_init_55 : decode mX11_init.2.1 55 = .ok (.new 37, 3) := dX11_init_55
theorem eX11_init_58 : decode mX11_init.2.1 58 = .ok (.dup, 1) := dX11_init_58
theorem eX11_init_59 : decode mX11_init.2.1 59 = .ok (.invokespecial 39, 3) := dX11_init_59
theorem eX11_init_62 : decode mX11_init.2.1 62 = .ok (.putfield 40, 3) := dX11_init_62
theorem eX11_init_65 : decode mX11_init.2.1 65 = .ok (.aload_n 0, 1) := dX11_init_65
theorem eX11_init_66 : decode mX11_init.2.1 66 = .ok (.new 44, 3) := dX11_init_66
theorem eX11_init_69 : decode mX11_init.2.1 69 = .ok (.dup, 1) := dX11_init_69
theorem eX11_init_70 : decode mX11_init.2.1 70 = .ok (.aload_n 0, 1) := dX11_init_70
theorem eX11_init_71 : decode mX11_init.2.1 71 = .ok (.getfield 10, 3) := dX11_init_71
theorem eX11_init_74 : decode mX11_init.2.1 74 = .ok (.aload_n 0, 1) := dX11_init_74
theorem eX11_init_75 : decode mX11_init.2.1 75 = .ok (.getfield 16, 3) := dX11_init_75
theorem eX11_init_78 : decode mX11_init.2.1 78 = .ok (.aload_n 0, 1) := dX11_init_78
theorem eX11_init_79 : decode mX11_init.2.1 79 = .ok (.getfield 26, 3) := dX11_init_79
theorem eX11_init_82 : decode mX11_init.2.1 82 = .ok (.invokespecial 46, 3) := dX11_init_82
theorem eX11_init_85 : decode mX11_init.2.1 85 = .ok (.putfield 49, 3) := dX11_init_85
theorem eX11_init_88 : decode mX11_init.2.1 88 = .ok (.aload_n 0, 1) := dX11_init_88
theorem eX11_init_89 : decode mX11_init.2.1 89 = .ok (.new 53, 3) := dX11_init_89
theorem eX11_init_92 : decode mX11_init.2.1 92 = .ok (.dup, 1) := dX11_init_92
theorem eX11_init_93 : decode mX11_init.2.1 93 = .ok (.aload_n 0, 1) := dX11_init_93
theorem eX11_init_94 : decode mX11_init.2.1 94 = .ok (.getfield 10, 3) := dX11_init_94
theorem eX11_init_97 : decode mX11_init.2.1 97 = .ok (.invokespecial 55, 3) := dX11_init_97
theorem eX11_init_100 : decode mX11_init.2.1 100 = .ok (.putfield 58, 3) := dX11_init_100
theorem eX11_init_103 : decode mX11_init.2.1 103 = .ok (.aload_n 0, 1) := dX11_init_103
theorem eX11_init_104 : decode mX11_init.2.1 104 = .ok (.new 62, 3) := dX11_init_104
theorem eX11_init_107 : decode mX11_init.2.1 107 = .ok (.dup, 1) := dX11_init_107
theorem eX11_init_108 : decode mX11_init.2.1 108 = .ok (.aload_n 0, 1) := dX11_init_108
theorem eX11_init_109 : decode mX11_init.2.1 109 = .ok (.getfield 58, 3) := dX11_init_109
theorem eX11_init_112 : decode mX11_init.2.1 112 = .ok (.invokespecial 64, 3) := dX11_init_112
theorem eX11_init_115 : decode mX11_init.2.1 115 = .ok (.putfield 67, 3) := dX11_init_115
theorem eX11_init_118 : decode mX11_init.2.1 118 = .ok (.aload_n 0, 1) := dX11_init_118
theorem eX11_init_119 : decode mX11_init.2.1 119 = .ok (.new 71, 3) := dX11_init_119
theorem eX11_init_122 : decode mX11_init.2.1 122 = .ok (.dup, 1) := dX11_init_122
theorem eX11_init_123 : decode mX11_init.2.1 123 = .ok (.aload_n 0, 1) := dX11_init_123
theorem eX11_init_124 : decode mX11_init.2.1 124 = .ok (.getfield 58, 3) := dX11_init_124
theorem eX11_init_127 : decode mX11_init.2.1 127 = .ok (.invokespecial 73, 3) := dX11_init_127
theorem eX11_init_130 : decode mX11_init.2.1 130 = .ok (.putfield 74, 3) := dX11_init_130
theorem eX11_init_133 : decode mX11_init.2.1 133 = .ok (.aload_n 0, 1) := dX11_init_133
theorem eX11_init_134 : decode mX11_init.2.1 134 = .ok (.getfield 10, 3) := dX11_init_134
theorem eX11_init_137 : decode mX11_init.2.1 137 = .ok (.iconst 2, 1) := dX11_init_137
theorem eX11_init_138 : decode mX11_init.2.1 138 = .ok (.iconst 1, 1) := dX11_init_138
theorem eX11_init_139 : decode mX11_init.2.1 139 = .ok (.iconst 1, 1) := dX11_init_139
theorem eX11_init_140 : decode mX11_init.2.1 140 = .ok (.invokevirtual 78, 3) := dX11_init_140
theorem eX11_init_143 : decode mX11_init.2.1 143 = .ok (.pop, 1) := dX11_init_143
theorem eX11_init_144 : decode mX11_init.2.1 144 = .ok (.aload_n 0, 1) := dX11_init_144
theorem eX11_init_145 : decode mX11_init.2.1 145 = .ok (.invokevirtual 82, 3) := dX11_init_145
theorem eX11_init_148 : decode mX11_init.2.1 148 = .ok (.return_, 1) := dX11_init_148
theorem eX11_lightest_0 : decode mX11_lightest.2.1 0 = .ok (.aload_n 0, 1) := dX11_lightest_0
theorem eX11_lightest_1 : decode mX11_lightest.2.1 1 = .ok (.getfield 58, 3) := dX11_lightest_1
theorem eX11_lightest_4 : decode mX11_lightest.2.1 4 = .ok (.getfield 286, 3) := dX11_lightest_4
theorem eX11_lightest_7 : decode mX11_lightest.2.1 7 = .ok (.ifCond .ne 5, 3) := dX11_lightest_7
theorem eX11_lightest_10 : decode mX11_lightest.2.1 10 = .ok (.iconst (-1), 1) := dX11_lightest_10
theorem eX11_lightest_11 : decode mX11_lightest.2.1 11 = .ok (.ireturn, 1) := dX11_lightest_11
theorem eX11_lightest_12 : decode mX11_lightest.2.1 12 = .ok (.aload_n 0, 1) := dX11_lightest_12
theorem eX11_lightest_13 : decode mX11_lightest.2.1 13 = .ok (.getfield 67, 3) := dX11_lightest_13
theorem eX11_lightest_16 : decode mX11_lightest.2.1 16 = .ok (.invokevirtual 289, 3) := dX11_lightest_16
theorem eX11_lightest_19 : decode mX11_lightest.2.1 19 = .ok (.iload_n 1, 1) := dX11_lightest_19
theorem eX11_lightest_20 : decode mX11_lightest.2.1 20 = .ok (.ifCond .eq 13, 3) := dX11_lightest_20
theorem eX11_lightest_23 : decode mX11_lightest.2.1 23 = .ok (.aload_n 0, 1) := dX11_lightest_23
theorem eX11_lightest_24 : decode mX11_lightest.2.1 24 = .ok (.getfield 67, 3) := dX11_lightest_24
theorem eX11_lightest_27 : decode mX11_lightest.2.1 27 = .ok (.getfield 292, 3) := dX11_lightest_27
theorem eX11_lightest_30 : decode mX11_lightest.2.1 30 = .ok (.goto 10, 3) := dX11_lightest_30
theorem eX11_lightest_33 : decode mX11_lightest.2.1 33 = .ok (.aload_n 0, 1) := dX11_lightest_33
theorem eX11_lightest_34 : decode mX11_lightest.2.1 34 = .ok (.getfield 67, 3) := dX11_lightest_34
theorem eX11_lightest_37 : decode mX11_lightest.2.1 37 = .ok (.getfield 295, 3) := dX11_lightest_37
theorem eX11_lightest_40 : decode mX11_lightest.2.1 40 = .ok (.invokestatic 298, 3) := dX11_lightest_40
theorem eX11_lightest_43 : decode mX11_lightest.2.1 43 = .ok (.ireturn, 1) := dX11_lightest_43
theorem eX11_many_0 : decode mX11_many.2.1 0 = .ok (.iload_n 2, 1) := dX11_many_0
theorem eX11_many_1 : decode mX11_many.2.1 1 = .ok (.ifCond .lt 7, 3) := dX11_many_1
theorem eX11_many_4 : decode mX11_many.2.1 4 = .ok (.iconst 1, 1) := dX11_many_4
theorem eX11_many_5 : decode mX11_many.2.1 5 = .ok (.goto 4, 3) := dX11_many_5
theorem eX11_many_8 : decode mX11_many.2.1 8 = .ok (.iconst 0, 1) := dX11_many_8
theorem eX11_many_9 : decode mX11_many.2.1 9 = .ok (.invokestatic 117, 3) := dX11_many_9
theorem eX11_many_12 : decode mX11_many.2.1 12 = .ok (.iload_n 1, 1) := dX11_many_12
theorem eX11_many_13 : decode mX11_many.2.1 13 = .ok (.tableswitch 104 0 3 #[31, 40, 73, 82], 31) := dX11_many_13
theorem eX11_many_44 : decode mX11_many.2.1 44 = .ok (.aload_n 0, 1) := dX11_many_44
theorem eX11_many_45 : decode mX11_many.2.1 45 = .ok (.getfield 10, 3) := dX11_many_45
theorem eX11_many_48 : decode mX11_many.2.1 48 = .ok (.iload_n 2, 1) := dX11_many_48
theorem eX11_many_49 : decode mX11_many.2.1 49 = .ok (.invokevirtual 247, 3) := dX11_many_49
theorem eX11_many_52 : decode mX11_many.2.1 52 = .ok (.ireturn, 1) := dX11_many_52
theorem eX11_many_53 : decode mX11_many.2.1 53 = .ok (.iload_n 2, 1) := dX11_many_53
theorem eX11_many_54 : decode mX11_many.2.1 54 = .ok (.aload_n 0, 1) := dX11_many_54
theorem eX11_many_55 : decode mX11_many.2.1 55 = .ok (.getfield 10, 3) := dX11_many_55
theorem eX11_many_58 : decode mX11_many.2.1 58 = .ok (.getfield 140, 3) := dX11_many_58
theorem eX11_many_61 : decode mX11_many.2.1 61 = .ok (.if_icmp .ge 23, 3) := dX11_many_61
theorem eX11_many_64 : decode mX11_many.2.1 64 = .ok (.aload_n 0, 1) := dX11_many_64
theorem eX11_many_65 : decode mX11_many.2.1 65 = .ok (.getfield 10, 3) := dX11_many_65
theorem eX11_many_68 : decode mX11_many.2.1 68 = .ok (.getfield 85, 3) := dX11_many_68
theorem eX11_many_71 : decode mX11_many.2.1 71 = .ok (.aload_n 0, 1) := dX11_many_71
theorem eX11_many_72 : decode mX11_many.2.1 72 = .ok (.getfield 10, 3) := dX11_many_72
theorem eX11_many_75 : decode mX11_many.2.1 75 = .ok (.getfield 140, 3) := dX11_many_75
theorem eX11_many_78 : decode mX11_many.2.1 78 = .ok (.invokestatic 146, 3) := dX11_many_78
theorem eX11_many_81 : decode mX11_many.2.1 81 = .ok (.goto 4, 3) := dX11_many_81
theorem eX11_many_84 : decode mX11_many.2.1 84 = .ok (.iconst 0, 1) := dX11_many_84
theorem eX11_many_85 : decode mX11_many.2.1 85 = .ok (.ireturn, 1) := dX11_many_85
theorem eX11_many_86 : decode mX11_many.2.1 86 = .ok (.aload_n 0, 1) := dX11_many_86
theorem eX11_many_87 : decode mX11_many.2.1 87 = .ok (.getfield 10, 3) := dX11_many_87
theorem eX11_many_90 : decode mX11_many.2.1 90 = .ok (.iload_n 2, 1) := dX11_many_90
theorem eX11_many_91 : decode mX11_many.2.1 91 = .ok (.invokevirtual 250, 3) := dX11_many_91
theorem eX11_many_94 : decode mX11_many.2.1 94 = .ok (.ireturn, 1) := dX11_many_94
theorem eX11_many_95 : decode mX11_many.2.1 95 = .ok (.aload_n 0, 1) := dX11_many_95
theorem eX11_many_96 : decode mX11_many.2.1 96 = .ok (.getfield 10, 3) := dX11_many_96
theorem eX11_many_99 : decode mX11_many.2.1 99 = .ok (.getfield 140, 3) := dX11_many_99
theorem eX11_many_102 : decode mX11_many.2.1 102 = .ok (.iload_n 2, 1) := dX11_many_102
theorem eX11_many_103 : decode mX11_many.2.1 103 = .ok (.aload_n 0, 1) := dX11_many_103
theorem eX11_many_104 : decode mX11_many.2.1 104 = .ok (.getfield 10, 3) := dX11_many_104
theorem eX11_many_107 : decode mX11_many.2.1 107 = .ok (.getfield 137, 3) := dX11_many_107
theorem eX11_many_110 : decode mX11_many.2.1 110 = .ok (.invokestatic 253, 3) := dX11_many_110
theorem eX11_many_113 : decode mX11_many.2.1 113 = .ok (.invokestatic 256, 3) := dX11_many_113
theorem eX11_many_116 : decode mX11_many.2.1 116 = .ok (.ireturn, 1) := dX11_many_116
theorem eX11_many_117 : decode mX11_many.2.1 117 = .ok (.new 166, 3) := dX11_many_117
theorem eX11_many_120 : decode mX11_many.2.1 120 = .ok (.dup, 1) := dX11_many_120
theorem eX11_many_121 : decode mX11_many.2.1 121 = .ok (.invokespecial 168, 3) := dX11_many_121
theorem eX11_many_124 : decode mX11_many.2.1 124 = .ok (.athrow, 1) := dX11_many_124
theorem eX11_manyOrOne_0 : decode mX11_manyOrOne.2.1 0 = .ok (.iload_n 2, 1) := dX11_manyOrOne_0
theorem eX11_manyOrOne_1 : decode mX11_manyOrOne.2.1 1 = .ok (.iconst (-1), 1) := dX11_manyOrOne_1
theorem eX11_manyOrOne_2 : decode mX11_manyOrOne.2.1 2 = .ok (.if_icmp .ne 5, 3) := dX11_manyOrOne_2
theorem eX11_manyOrOne_5 : decode mX11_manyOrOne.2.1 5 = .ok (.iload_n 1, 1) := dX11_manyOrOne_5
theorem eX11_manyOrOne_6 : decode mX11_manyOrOne.2.1 6 = .ok (.ireturn, 1) := dX11_manyOrOne_6
theorem eX11_manyOrOne_7 : decode mX11_manyOrOne.2.1 7 = .ok (.iload_n 2, 1) := dX11_manyOrOne_7
theorem eX11_manyOrOne_8 : decode mX11_manyOrOne.2.1 8 = .ok (.ifCond .lt 12, 3) := dX11_manyOrOne_8
theorem eX11_manyOrOne_11 : decode mX11_manyOrOne.2.1 11 = .ok (.iload_n 2, 1) := dX11_manyOrOne_11
theorem eX11_manyOrOne_12 : decode mX11_manyOrOne.2.1 12 = .ok (.iload_n 1, 1) := dX11_manyOrOne_12
theorem eX11_manyOrOne_13 : decode mX11_manyOrOne.2.1 13 = .ok (.if_icmp .ge 7, 3) := dX11_manyOrOne_13
theorem eX11_manyOrOne_16 : decode mX11_manyOrOne.2.1 16 = .ok (.iconst 1, 1) := dX11_manyOrOne_16
theorem eX11_manyOrOne_17 : decode mX11_manyOrOne.2.1 17 = .ok (.goto 4, 3) := dX11_manyOrOne_17
theorem eX11_manyOrOne_20 : decode mX11_manyOrOne.2.1 20 = .ok (.iconst 0, 1) := dX11_manyOrOne_20
theorem eX11_manyOrOne_21 : decode mX11_manyOrOne.2.1 21 = .ok (.invokestatic 117, 3) := dX11_manyOrOne_21
theorem eX11_manyOrOne_24 : decode mX11_manyOrOne.2.1 24 = .ok (.aload_n 0, 1) := dX11_manyOrOne_24
theorem eX11_manyOrOne_25 : decode mX11_manyOrOne.2.1 25 = .ok (.getfield 20, 3) := dX11_manyOrOne_25
theorem eX11_manyOrOne_28 : decode mX11_manyOrOne.2.1 28 = .ok (.iload_n 2, 1) := dX11_manyOrOne_28
theorem eX11_manyOrOne_29 : decode mX11_manyOrOne.2.1 29 = .ok (.invokestatic 121, 3) := dX11_manyOrOne_29
theorem eX11_manyOrOne_32 : decode mX11_manyOrOne.2.1 32 = .ok (.ireturn, 1) := dX11_manyOrOne_32
theorem eX11_mend_0 : decode mX11_mend.2.1 0 = .ok (.aload_n 0, 1) := dX11_mend_0
theorem eX11_mend_1 : decode mX11_mend.2.1 1 = .ok (.getfield 74, 3) := dX11_mend_1
theorem eX11_mend_4 : decode mX11_mend.2.1 4 = .ok (.getfield 315, 3) := dX11_mend_4
theorem eX11_mend_7 : decode mX11_mend.2.1 7 = .ok (.invokestatic 117, 3) := dX11_mend_7
theorem eX11_mend_10 : decode mX11_mend.2.1 10 = .ok (.iload_n 1, 1) := dX11_mend_10
theorem eX11_mend_11 : decode mX11_mend.2.1 11 = .ok (.tableswitch 49 0 2 #[25, 33, 41], 25) := dX11_mend_11
theorem eX11_mend_36 : decode mX11_mend.2.1 36 = .ok (.aload_n 0, 1) := dX11_mend_36
theorem eX11_mend_37 : decode mX11_mend.2.1 37 = .ok (.getfield 74, 3) := dX11_mend_37
theorem eX11_mend_40 : decode mX11_mend.2.1 40 = .ok (.getfield 324, 3) := dX11_mend_40
theorem eX11_mend_43 : decode mX11_mend.2.1 43 = .ok (.ireturn, 1) := dX11_mend_43
theorem eX11_mend_44 : decode mX11_mend.2.1 44 = .ok (.aload_n 0, 1) := dX11_mend_44
theorem eX11_mend_45 : decode mX11_mend.2.1 45 = .ok (.getfield 74, 3) := dX11_mend_45
theorem eX11_mend_48 : decode mX11_mend.2.1 48 = .ok (.getfield 327, 3) := dX11_mend_48
theorem eX11_mend_51 : decode mX11_mend.2.1 51 = .ok (.ireturn, 1) := dX11_mend_51
theorem eX11_mend_52 : decode mX11_mend.2.1 52 = .ok (.aload_n 0, 1) := dX11_mend_52
theorem eX11_mend_53 : decode mX11_mend.2.1 53 = .ok (.getfield 74, 3) := dX11_mend_53
theorem eX11_mend_56 : decode mX11_mend.2.1 56 = .ok (.getfield 330, 3) := dX11_mend_56
theorem eX11_mend_59 : decode mX11_mend.2.1 59 = .ok (.ireturn, 1) := dX11_mend_59
theorem eX11_mend_60 : decode mX11_mend.2.1 60 = .ok (.new 166, 3) := dX11_mend_60
theorem eX11_mend_63 : decode mX11_mend.2.1 63 = .ok (.dup, 1) := dX11_mend_63
theorem eX11_mend_64 : decode mX11_mend.2.1 64 = .ok (.invokespecial 168, 3) := dX11_mend_64
theorem eX11_mend_67 : decode mX11_mend.2.1 67 = .ok (.athrow, 1) := dX11_mend_67
theorem eX11_modulus_0 : decode mX11_modulus.2.1 0 = .ok (.iload_n 1, 1) := dX11_modulus_0
theorem eX11_modulus_1 : decode mX11_modulus.2.1 1 = .ok (.ifCond .lt 18, 3) := dX11_modulus_1
theorem eX11_modulus_4 : decode mX11_modulus.2.1 4 = .ok (.iload_n 1, 1) := dX11_modulus_4
theorem eX11_modulus_5 : decode mX11_modulus.2.1 5 = .ok (.aload_n 0, 1) := dX11_modulus_5
theorem eX11_modulus_6 : decode mX11_modulus.2.1 6 = .ok (.getfield 10, 3) := dX11_modulus_6
theorem eX11_modulus_9 : decode mX11_modulus.2.1 9 = .ok (.getfield 137, 3) := dX11_modulus_9
theorem eX11_modulus_12 : decode mX11_modulus.2.1 12 = .ok (.if_icmp .gt 7, 3) := dX11_modulus_12
theorem eX11_modulus_15 : decode mX11_modulus.2.1 15 = .ok (.iconst 1, 1) := dX11_modulus_15
theorem eX11_modulus_16 : decode mX11_modulus.2.1 16 = .ok (.goto 4, 3) := dX11_modulus_16
theorem eX11_modulus_19 : decode mX11_modulus.2.1 19 = .ok (.iconst 0, 1) := dX11_modulus_19
theorem eX11_modulus_20 : decode mX11_modulus.2.1 20 = .ok (.invokestatic 117, 3) := dX11_modulus_20
theorem eX11_modulus_23 : decode mX11_modulus.2.1 23 = .ok (.aload_n 0, 1) := dX11_modulus_23
theorem eX11_modulus_24 : decode mX11_modulus.2.1 24 = .ok (.getfield 10, 3) := dX11_modulus_24
theorem eX11_modulus_27 : decode mX11_modulus.2.1 27 = .ok (.getfield 169, 3) := dX11_modulus_27
theorem eX11_modulus_30 : decode mX11_modulus.2.1 30 = .ok (.iload_n 1, 1) := dX11_modulus_30
theorem eX11_modulus_31 : decode mX11_modulus.2.1 31 = .ok (.invokestatic 121, 3) := dX11_modulus_31
theorem eX11_modulus_34 : decode mX11_modulus.2.1 34 = .ok (.ireturn, 1) := dX11_modulus_34
theorem eX11_nearest_0 : decode mX11_nearest.2.1 0 = .ok (.aload_n 0, 1) := dX11_nearest_0
theorem eX11_nearest_1 : decode mX11_nearest.2.1 1 = .ok (.getfield 74, 3) := dX11_nearest_1
theorem eX11_nearest_4 : decode mX11_nearest.2.1 4 = .ok (.getfield 315, 3) := dX11_nearest_4
theorem eX11_nearest_7 : decode mX11_nearest.2.1 7 = .ok (.ifCond .eq 23, 3) := dX11_nearest_7
theorem eX11_nearest_10 : decode mX11_nearest.2.1 10 = .ok (.iload_n 1, 1) := dX11_nearest_10
theorem eX11_nearest_11 : decode mX11_nearest.2.1 11 = .ok (.iconst (-1), 1) := dX11_nearest_11
theorem eX11_nearest_12 : decode mX11_nearest.2.1 12 = .ok (.if_icmp .lt 18, 3) := dX11_nearest_12
theorem eX11_nearest_15 : decode mX11_nearest.2.1 15 = .ok (.iload_n 1, 1) := dX11_nearest_15
theorem eX11_nearest_16 : decode mX11_nearest.2.1 16 = .ok (.aload_n 0, 1) := dX11_nearest_16
theorem eX11_nearest_17 : decode mX11_nearest.2.1 17 = .ok (.getfield 58, 3) := dX11_nearest_17
theorem eX11_nearest_20 : decode mX11_nearest.2.1 20 = .ok (.getfield 153, 3) := dX11_nearest_20
theorem eX11_nearest_23 : decode mX11_nearest.2.1 23 = .ok (.if_icmp .ge 7, 3) := dX11_nearest_23
theorem eX11_nearest_26 : decode mX11_nearest.2.1 26 = .ok (.iconst 1, 1) := dX11_nearest_26
theorem eX11_nearest_27 : decode mX11_nearest.2.1 27 = .ok (.goto 4, 3) := dX11_nearest_27
theorem eX11_nearest_30 : decode mX11_nearest.2.1 30 = .ok (.iconst 0, 1) := dX11_nearest_30
theorem eX11_nearest_31 : decode mX11_nearest.2.1 31 = .ok (.invokestatic 117, 3) := dX11_nearest_31
theorem eX11_nearest_34 : decode mX11_nearest.2.1 34 = .ok (.aload_n 0, 1) := dX11_nearest_34
theorem eX11_nearest_35 : decode mX11_nearest.2.1 35 = .ok (.getfield 58, 3) := dX11_nearest_35
theorem eX11_nearest_38 : decode mX11_nearest.2.1 38 = .ok (.getfield 286, 3) := dX11_nearest_38
theorem eX11_nearest_41 : decode mX11_nearest.2.1 41 = .ok (.ifCond .ne 5, 3) := dX11_nearest_41
theorem eX11_nearest_44 : decode mX11_nearest.2.1 44 = .ok (.iconst (-1), 1) := dX11_nearest_44
theorem eX11_nearest_45 : decode mX11_nearest.2.1 45 = .ok (.ireturn, 1) := dX11_nearest_45
theorem eX11_nearest_46 : decode mX11_nearest.2.1 46 = .ok (.aload_n 0, 1) := dX11_nearest_46
theorem eX11_nearest_47 : decode mX11_nearest.2.1 47 = .ok (.getfield 74, 3) := dX11_nearest_47
theorem eX11_nearest_50 : decode mX11_nearest.2.1 50 = .ok (.invokevirtual 333, 3) := dX11_nearest_50
theorem eX11_nearest_53 : decode mX11_nearest.2.1 53 = .ok (.iload_n 1, 1) := dX11_nearest_53
theorem eX11_nearest_54 : decode mX11_nearest.2.1 54 = .ok (.iconst (-1), 1) := dX11_nearest_54
theorem eX11_nearest_55 : decode mX11_nearest.2.1 55 = .ok (.if_icmp .ne 13, 3) := dX11_nearest_55
theorem eX11_nearest_58 : decode mX11_nearest.2.1 58 = .ok (.aload_n 0, 1) := dX11_nearest_58
theorem eX11_nearest_59 : decode mX11_nearest.2.1 59 = .ok (.getfield 74, 3) := dX11_nearest_59
theorem eX11_nearest_62 : decode mX11_nearest.2.1 62 = .ok (.getfield 336, 3) := dX11_nearest_62
theorem eX11_nearest_65 : decode mX11_nearest.2.1 65 = .ok (.goto 14, 3) := dX11_nearest_65
theorem eX11_nearest_68 : decode mX11_nearest.2.1 68 = .ok (.aload_n 0, 1) := dX11_nearest_68
theorem eX11_nearest_69 : decode mX11_nearest.2.1 69 = .ok (.getfield 74, 3) := dX11_nearest_69
theorem eX11_nearest_72 : decode mX11_nearest.2.1 72 = .ok (.getfield 339, 3) := dX11_nearest_72
theorem eX11_nearest_75 : decode mX11_nearest.2.1 75 = .ok (.iload_n 1, 1) := dX11_nearest_75
theorem eX11_nearest_76 : decode mX11_nearest.2.1 76 = .ok (.invokestatic 121, 3) := dX11_nearest_76
theorem eX11_nearest_79 : decode mX11_nearest.2.1 79 = .ok (.ireturn, 1) := dX11_nearest_79
theorem eX11_need_0 : decode mX11_need.2.1 0 = .ok (.iload_n 0, 1) := dX11_need_0
theorem eX11_need_1 : decode mX11_need.2.1 1 = .ok (.ifCond .ne 11, 3) := dX11_need_1
theorem eX11_need_4 : decode mX11_need.2.1 4 = .ok (.new 166, 3) := dX11_need_4
theorem eX11_need_7 : decode mX11_need.2.1 7 = .ok (.dup, 1) := dX11_need_7
theorem eX11_need_8 : decode mX11_need.2.1 8 = .ok (.invokespecial 168, 3) := dX11_need_8
theorem eX11_need_11 : decode mX11_need.2.1 11 = .ok (.athrow, 1) := dX11_need_11
theorem eX11_need_12 : decode mX11_need.2.1 12 = .ok (.return_, 1) := dX11_need_12
theorem eX11_number_0 : decode mX11_number.2.1 0 = .ok (.aload_n 0, 1) := dX11_number_0
theorem eX11_number_1 : decode mX11_number.2.1 1 = .ok (.getfield 74, 3) := dX11_number_1
theorem eX11_number_4 : decode mX11_number.2.1 4 = .ok (.getfield 315, 3) := dX11_number_4
theorem eX11_number_7 : decode mX11_number.2.1 7 = .ok (.ifCond .eq 22, 3) := dX11_number_7
theorem eX11_number_10 : decode mX11_number.2.1 10 = .ok (.iload_n 1, 1) := dX11_number_10
theorem eX11_number_11 : decode mX11_number.2.1 11 = .ok (.ifCond .lt 18, 3) := dX11_number_11
theorem eX11_number_14 : decode mX11_number.2.1 14 = .ok (.iload_n 1, 1) := dX11_number_14
theorem eX11_number_15 : decode mX11_number.2.1 15 = .ok (.aload_n 0, 1) := dX11_number_15
theorem eX11_number_16 : decode mX11_number.2.1 16 = .ok (.getfield 58, 3) := dX11_number_16
theorem eX11_number_19 : decode mX11_number.2.1 19 = .ok (.getfield 153, 3) := dX11_number_19
theorem eX11_number_22 : decode mX11_number.2.1 22 = .ok (.if_icmp .ge 7, 3) := dX11_number_22
theorem eX11_number_25 : decode mX11_number.2.1 25 = .ok (.iconst 1, 1) := dX11_number_25
theorem eX11_number_26 : decode mX11_number.2.1 26 = .ok (.goto 4, 3) := dX11_number_26
theorem eX11_number_29 : decode mX11_number.2.1 29 = .ok (.iconst 0, 1) := dX11_number_29
theorem eX11_number_30 : decode mX11_number.2.1 30 = .ok (.invokestatic 117, 3) := dX11_number_30
theorem eX11_number_33 : decode mX11_number.2.1 33 = .ok (.aload_n 0, 1) := dX11_number_33
theorem eX11_number_34 : decode mX11_number.2.1 34 = .ok (.getfield 74, 3) := dX11_number_34
theorem eX11_number_37 : decode mX11_number.2.1 37 = .ok (.getfield 318, 3) := dX11_number_37
theorem eX11_number_40 : decode mX11_number.2.1 40 = .ok (.iload_n 1, 1) := dX11_number_40
theorem eX11_number_41 : decode mX11_number.2.1 41 = .ok (.invokestatic 121, 3) := dX11_number_41
theorem eX11_number_44 : decode mX11_number.2.1 44 = .ok (.ireturn, 1) := dX11_number_44
theorem eX11_of_0 : decode mX11_of.2.1 0 = .ok (.aload_n 0, 1) := dX11_of_0
theorem eX11_of_1 : decode mX11_of.2.1 1 = .ok (.getfield 10, 3) := dX11_of_1
theorem eX11_of_4 : decode mX11_of.2.1 4 = .ok (.iload_n 1, 1) := dX11_of_4
theorem eX11_of_5 : decode mX11_of.2.1 5 = .ok (.invokevirtual 113, 3) := dX11_of_5
theorem eX11_of_8 : decode mX11_of.2.1 8 = .ok (.invokestatic 117, 3) := dX11_of_8
theorem eX11_of_11 : decode mX11_of.2.1 11 = .ok (.iload_n 2, 1) := dX11_of_11
theorem eX11_of_12 : decode mX11_of.2.1 12 = .ok (.tableswitch 178 0 8 #[52, 61, 70, 79, 88, 97, 106, 130, 154], 52) := dX11_of_12
theorem eX11_of_64 : decode mX11_of.2.1 64 = .ok (.aload_n 0, 1) := dX11_of_64
theorem eX11_of_65 : decode mX11_of.2.1 65 = .ok (.getfield 10, 3) := dX11_of_65
theorem eX11_of_68 : decode mX11_of.2.1 68 = .ok (.iload_n 1, 1) := dX11_of_68
theorem eX11_of_69 : decode mX11_of.2.1 69 = .ok (.invokevirtual 187, 3) := dX11_of_69
theorem eX11_of_72 : decode mX11_of.2.1 72 = .ok (.ireturn, 1) := dX11_of_72
theorem eX11_of_73 : decode mX11_of.2.1 73 = .ok (.aload_n 0, 1) := dX11_of_73
theorem eX11_of_74 : decode mX11_of.2.1 74 = .ok (.getfield 10, 3) := dX11_of_74
theorem eX11_of_77 : decode mX11_of.2.1 77 = .ok (.iload_n 1, 1) := dX11_of_77
theorem eX11_of_78 : decode mX11_of.2.1 78 = .ok (.invokevirtual 190, 3) := dX11_of_78
theorem eX11_of_81 : decode mX11_of.2.1 81 = .ok (.ireturn, 1) := dX11_of_81
theorem eX11_of_82 : decode mX11_of.2.1 82 = .ok (.aload_n 0, 1) := dX11_of_82
theorem eX11_of_83 : decode mX11_of.2.1 83 = .ok (.getfield 10, 3) := dX11_of_83
theorem eX11_of_86 : decode mX11_of.2.1 86 = .ok (.iload_n 1, 1) := dX11_of_86
theorem eX11_of_87 : decode mX11_of.2.1 87 = .ok (.invokevirtual 193, 3) := dX11_of_87
theorem eX11_of_90 : decode mX11_of.2.1 90 = .ok (.ireturn, 1) := dX11_of_90
theorem eX11_of_91 : decode mX11_of.2.1 91 = .ok (.aload_n 0, 1) := dX11_of_91
theorem eX11_of_92 : decode mX11_of.2.1 92 = .ok (.getfield 10, 3) := dX11_of_92
theorem eX11_of_95 : decode mX11_of.2.1 95 = .ok (.iload_n 1, 1) := dX11_of_95
theorem eX11_of_96 : decode mX11_of.2.1 96 = .ok (.invokevirtual 196, 3) := dX11_of_96
theorem eX11_of_99 : decode mX11_of.2.1 99 = .ok (.ireturn, 1) := dX11_of_99
theorem eX11_of_100 : decode mX11_of.2.1 100 = .ok (.aload_n 0, 1) := dX11_of_100
theorem eX11_of_101 : decode mX11_of.2.1 101 = .ok (.getfield 10, 3) := dX11_of_101
theorem eX11_of_104 : decode mX11_of.2.1 104 = .ok (.iload_n 1, 1) := dX11_of_104
theorem eX11_of_105 : decode mX11_of.2.1 105 = .ok (.invokevirtual 199, 3) := dX11_of_105
theorem eX11_of_108 : decode mX11_of.2.1 108 = .ok (.ireturn, 1) := dX11_of_108
theorem eX11_of_109 : decode mX11_of.2.1 109 = .ok (.aload_n 0, 1) := dX11_of_109
theorem eX11_of_110 : decode mX11_of.2.1 110 = .ok (.getfield 10, 3) := dX11_of_110
theorem eX11_of_113 : decode mX11_of.2.1 113 = .ok (.iload_n 1, 1) := dX11_of_113
theorem eX11_of_114 : decode mX11_of.2.1 114 = .ok (.invokevirtual 202, 3) := dX11_of_114
theorem eX11_of_117 : decode mX11_of.2.1 117 = .ok (.ireturn, 1) := dX11_of_117
theorem eX11_of_118 : decode mX11_of.2.1 118 = .ok (.aload_n 0, 1) := dX11_of_118
theorem eX11_of_119 : decode mX11_of.2.1 119 = .ok (.getfield 10, 3) := dX11_of_119
theorem eX11_of_122 : decode mX11_of.2.1 122 = .ok (.iload_n 1, 1) := dX11_of_122
theorem eX11_of_123 : decode mX11_of.2.1 123 = .ok (.invokevirtual 181, 3) := dX11_of_123
theorem eX11_of_126 : decode mX11_of.2.1 126 = .ok (.ifCond .eq 14, 3) := dX11_of_126
theorem eX11_of_129 : decode mX11_of.2.1 129 = .ok (.aload_n 0, 1) := dX11_of_129
theorem eX11_of_130 : decode mX11_of.2.1 130 = .ok (.getfield 10, 3) := dX11_of_130
theorem eX11_of_133 : decode mX11_of.2.1 133 = .ok (.iload_n 1, 1) := dX11_of_133
theorem eX11_of_134 : decode mX11_of.2.1 134 = .ok (.invokevirtual 205, 3) := dX11_of_134
theorem eX11_of_137 : decode mX11_of.2.1 137 = .ok (.goto 4, 3) := dX11_of_137
theorem eX11_of_140 : decode mX11_of.2.1 140 = .ok (.iconst (-1), 1) := dX11_of_140
theorem eX11_of_141 : decode mX11_of.2.1 141 = .ok (.ireturn, 1) := dX11_of_141
theorem eX11_of_142 : decode mX11_of.2.1 142 = .ok (.aload_n 0, 1) := dX11_of_142
theorem eX11_of_143 : decode mX11_of.2.1 143 = .ok (.getfield 10, 3) := dX11_of_143
theorem eX11_of_146 : decode mX11_of.2.1 146 = .ok (.iload_n 1, 1) := dX11_of_146
theorem eX11_of_147 : decode mX11_of.2.1 147 = .ok (.invokevirtual 181, 3) := dX11_of_147
theorem eX11_of_150 : decode mX11_of.2.1 150 = .ok (.ifCond .eq 14, 3) := dX11_of_150
theorem eX11_of_153 : decode mX11_of.2.1 153 = .ok (.aload_n 0, 1) := dX11_of_153
theorem eX11_of_154 : decode mX11_of.2.1 154 = .ok (.getfield 10, 3) := dX11_of_154
theorem eX11_of_157 : decode mX11_of.2.1 157 = .ok (.iload_n 1, 1) := dX11_of_157
theorem eX11_of_158 : decode mX11_of.2.1 158 = .ok (.invokevirtual 208, 3) := dX11_of_158
theorem eX11_of_161 : decode mX11_of.2.1 161 = .ok (.goto 4, 3) := dX11_of_161
theorem eX11_of_164 : decode mX11_of.2.1 164 = .ok (.iconst (-1), 1) := dX11_of_164
theorem eX11_of_165 : decode mX11_of.2.1 165 = .ok (.ireturn, 1) := dX11_of_165
theorem eX11_of_166 : decode mX11_of.2.1 166 = .ok (.aload_n 0, 1) := dX11_of_166
theorem eX11_of_167 : decode mX11_of.2.1 167 = .ok (.getfield 10, 3) := dX11_of_167
theorem eX11_of_170 : decode mX11_of.2.1 170 = .ok (.iload_n 1, 1) := dX11_of_170
theorem eX11_of_171 : decode mX11_of.2.1 171 = .ok (.invokevirtual 181, 3) := dX11_of_171
theorem eX11_of_174 : decode mX11_of.2.1 174 = .ok (.ifCond .eq 14, 3) := dX11_of_174
theorem eX11_of_177 : decode mX11_of.2.1 177 = .ok (.aload_n 0, 1) := dX11_of_177
theorem eX11_of_178 : decode mX11_of.2.1 178 = .ok (.getfield 10, 3) := dX11_of_178
theorem eX11_of_181 : decode mX11_of.2.1 181 = .ok (.iload_n 1, 1) := dX11_of_181
theorem eX11_of_182 : decode mX11_of.2.1 182 = .ok (.invokevirtual 184, 3) := dX11_of_182
theorem eX11_of_185 : decode mX11_of.2.1 185 = .ok (.goto 4, 3) := dX11_of_185
theorem eX11_of_188 : decode mX11_of.2.1 188 = .ok (.iconst (-1), 1) := dX11_of_188
theorem eX11_of_189 : decode mX11_of.2.1 189 = .ok (.ireturn, 1) := dX11_of_189
theorem eX11_of_190 : decode mX11_of.2.1 190 = .ok (.new 166, 3) := dX11_of_190
theorem eX11_of_193 : decode mX11_of.2.1 193 = .ok (.dup, 1) := dX11_of_193
theorem eX11_of_194 : decode mX11_of.2.1 194 = .ok (.invokespecial 168, 3) := dX11_of_194
theorem eX11_of_197 : decode mX11_of.2.1 197 = .ok (.athrow, 1) := dX11_of_197
theorem eX11_put_0 : decode mX11_put.2.1 0 = .ok (.iload_n 1, 1) := dX11_put_0
theorem eX11_put_1 : decode mX11_put.2.1 1 = .ok (.ifCond .lt 24, 3) := dX11_put_1
theorem eX11_put_4 : decode mX11_put.2.1 4 = .ok (.iload_n 1, 1) := dX11_put_4
theorem eX11_put_5 : decode mX11_put.2.1 5 = .ok (.bipush 8, 2) := dX11_put_5
theorem eX11_put_7 : decode mX11_put.2.1 7 = .ok (.if_icmp .ge 18, 3) := dX11_put_7
theorem eX11_put_10 : decode mX11_put.2.1 10 = .ok (.aload_n 0, 1) := dX11_put_10
theorem eX11_put_11 : decode mX11_put.2.1 11 = .ok (.getfield 10, 3) := dX11_put_11
theorem eX11_put_14 : decode mX11_put.2.1 14 = .ok (.iload_n 2, 1) := dX11_put_14
theorem eX11_put_15 : decode mX11_put.2.1 15 = .ok (.invokevirtual 113, 3) := dX11_put_15
theorem eX11_put_18 : decode mX11_put.2.1 18 = .ok (.ifCond .eq 7, 3) := dX11_put_18
theorem eX11_put_21 : decode mX11_put.2.1 21 = .ok (.iconst 1, 1) := dX11_put_21
theorem eX11_put_22 : decode mX11_put.2.1 22 = .ok (.goto 4, 3) := dX11_put_22
theorem eX11_put_25 : decode mX11_put.2.1 25 = .ok (.iconst 0, 1) := dX11_put_25
theorem eX11_put_26 : decode mX11_put.2.1 26 = .ok (.invokestatic 117, 3) := dX11_put_26
theorem eX11_put_29 : decode mX11_put.2.1 29 = .ok (.aload_n 0, 1) := dX11_put_29
theorem eX11_put_30 : decode mX11_put.2.1 30 = .ok (.getfield 16, 3) := dX11_put_30
theorem eX11_put_33 : decode mX11_put.2.1 33 = .ok (.iload_n 1, 1) := dX11_put_33
theorem eX11_put_34 : decode mX11_put.2.1 34 = .ok (.invokestatic 121, 3) := dX11_put_34
theorem eX11_put_37 : decode mX11_put.2.1 37 = .ok (.istore_n 3, 1) := dX11_put_37
theorem eX11_put_38 : decode mX11_put.2.1 38 = .ok (.aload_n 0, 1) := dX11_put_38
theorem eX11_put_39 : decode mX11_put.2.1 39 = .ok (.getfield 16, 3) := dX11_put_39
theorem eX11_put_42 : decode mX11_put.2.1 42 = .ok (.iload_n 1, 1) := dX11_put_42
theorem eX11_put_43 : decode mX11_put.2.1 43 = .ok (.iload_n 2, 1) := dX11_put_43
theorem eX11_put_44 : decode mX11_put.2.1 44 = .ok (.invokestatic 127, 3) := dX11_put_44
theorem eX11_put_47 : decode mX11_put.2.1 47 = .ok (.iload_n 3, 1) := dX11_put_47
theorem eX11_put_48 : decode mX11_put.2.1 48 = .ok (.ireturn, 1) := dX11_put_48
theorem eX11_rest_0 : decode mX11_rest.2.1 0 = .ok (.aload_n 0, 1) := dX11_rest_0
theorem eX11_rest_1 : decode mX11_rest.2.1 1 = .ok (.getfield 74, 3) := dX11_rest_1
theorem eX11_rest_4 : decode mX11_rest.2.1 4 = .ok (.getfield 315, 3) := dX11_rest_4
theorem eX11_rest_7 : decode mX11_rest.2.1 7 = .ok (.ifCond .eq 22, 3) := dX11_rest_7
theorem eX11_rest_10 : decode mX11_rest.2.1 10 = .ok (.iload_n 1, 1) := dX11_rest_10
theorem eX11_rest_11 : decode mX11_rest.2.1 11 = .ok (.ifCond .lt 18, 3) := dX11_rest_11
theorem eX11_rest_14 : decode mX11_rest.2.1 14 = .ok (.iload_n 1, 1) := dX11_rest_14
theorem eX11_rest_15 : decode mX11_rest.2.1 15 = .ok (.aload_n 0, 1) := dX11_rest_15
theorem eX11_rest_16 : decode mX11_rest.2.1 16 = .ok (.getfield 58, 3) := dX11_rest_16
theorem eX11_rest_19 : decode mX11_rest.2.1 19 = .ok (.getfield 277, 3) := dX11_rest_19
theorem eX11_rest_22 : decode mX11_rest.2.1 22 = .ok (.if_icmp .ge 7, 3) := dX11_rest_22
theorem eX11_rest_25 : decode mX11_rest.2.1 25 = .ok (.iconst 1, 1) := dX11_rest_25
theorem eX11_rest_26 : decode mX11_rest.2.1 26 = .ok (.goto 4, 3) := dX11_rest_26
theorem eX11_rest_29 : decode mX11_rest.2.1 29 = .ok (.iconst 0, 1) := dX11_rest_29
theorem eX11_rest_30 : decode mX11_rest.2.1 30 = .ok (.invokestatic 117, 3) := dX11_rest_30
theorem eX11_rest_33 : decode mX11_rest.2.1 33 = .ok (.aload_n 0, 1) := dX11_rest_33
theorem eX11_rest_34 : decode mX11_rest.2.1 34 = .ok (.getfield 74, 3) := dX11_rest_34
theorem eX11_rest_37 : decode mX11_rest.2.1 37 = .ok (.getfield 321, 3) := dX11_rest_37
theorem eX11_rest_40 : decode mX11_rest.2.1 40 = .ok (.iload_n 1, 1) := dX11_rest_40
theorem eX11_rest_41 : decode mX11_rest.2.1 41 = .ok (.invokestatic 121, 3) := dX11_rest_41
theorem eX11_rest_44 : decode mX11_rest.2.1 44 = .ok (.ireturn, 1) := dX11_rest_44
theorem eX11_ring_0 : decode mX11_ring.2.1 0 = .ok (.aload_n 0, 1) := dX11_ring_0
theorem eX11_ring_1 : decode mX11_ring.2.1 1 = .ok (.getfield 10, 3) := dX11_ring_1
theorem eX11_ring_4 : decode mX11_ring.2.1 4 = .ok (.iload_n 1, 1) := dX11_ring_4
theorem eX11_ring_5 : decode mX11_ring.2.1 5 = .ok (.iload_n 2, 1) := dX11_ring_5
theorem eX11_ring_6 : decode mX11_ring.2.1 6 = .ok (.iload_n 3, 1) := dX11_ring_6
theorem eX11_ring_7 : decode mX11_ring.2.1 7 = .ok (.invokevirtual 78, 3) := dX11_ring_7
theorem eX11_ring_10 : decode mX11_ring.2.1 10 = .ok (.ifCond .ne 5, 3) := dX11_ring_10
theorem eX11_ring_13 : decode mX11_ring.2.1 13 = .ok (.iconst (-1), 1) := dX11_ring_13
theorem eX11_ring_14 : decode mX11_ring.2.1 14 = .ok (.ireturn, 1) := dX11_ring_14
theorem eX11_ring_15 : decode mX11_ring.2.1 15 = .ok (.aload_n 0, 1) := dX11_ring_15
theorem eX11_ring_16 : decode mX11_ring.2.1 16 = .ok (.invokevirtual 82, 3) := dX11_ring_16
theorem eX11_ring_19 : decode mX11_ring.2.1 19 = .ok (.aload_n 0, 1) := dX11_ring_19
theorem eX11_ring_20 : decode mX11_ring.2.1 20 = .ok (.getfield 10, 3) := dX11_ring_20
theorem eX11_ring_23 : decode mX11_ring.2.1 23 = .ok (.getfield 85, 3) := dX11_ring_23
theorem eX11_ring_26 : decode mX11_ring.2.1 26 = .ok (.ireturn, 1) := dX11_ring_26
theorem eX11_roots_0 : decode mX11_roots.2.1 0 = .ok (.aload_n 0, 1) := dX11_roots_0
theorem eX11_roots_1 : decode mX11_roots.2.1 1 = .ok (.getfield 10, 3) := dX11_roots_1
theorem eX11_roots_4 : decode mX11_roots.2.1 4 = .ok (.iload_n 1, 1) := dX11_roots_4
theorem eX11_roots_5 : decode mX11_roots.2.1 5 = .ok (.invokevirtual 113, 3) := dX11_roots_5
theorem eX11_roots_8 : decode mX11_roots.2.1 8 = .ok (.ifCond .eq 18, 3) := dX11_roots_8
theorem eX11_roots_11 : decode mX11_roots.2.1 11 = .ok (.iload_n 2, 1) := dX11_roots_11
theorem eX11_roots_12 : decode mX11_roots.2.1 12 = .ok (.iconst 1, 1) := dX11_roots_12
theorem eX11_roots_13 : decode mX11_roots.2.1 13 = .ok (.if_icmp .lt 13, 3) := dX11_roots_13
theorem eX11_roots_16 : decode mX11_roots.2.1 16 = .ok (.iload_n 2, 1) := dX11_roots_16
theorem eX11_roots_17 : decode mX11_roots.2.1 17 = .ok (.bipush 30, 2) := dX11_roots_17
theorem eX11_roots_19 : decode mX11_roots.2.1 19 = .ok (.if_icmp .gt 7, 3) := dX11_roots_19
theorem eX11_roots_22 : decode mX11_roots.2.1 22 = .ok (.iconst 1, 1) := dX11_roots_22
theorem eX11_roots_23 : decode mX11_roots.2.1 23 = .ok (.goto 4, 3) := dX11_roots_23
theorem eX11_roots_26 : decode mX11_roots.2.1 26 = .ok (.iconst 0, 1) := dX11_roots_26
theorem eX11_roots_27 : decode mX11_roots.2.1 27 = .ok (.invokestatic 117, 3) := dX11_roots_27
theorem eX11_roots_30 : decode mX11_roots.2.1 30 = .ok (.iconst 0, 1) := dX11_roots_30
theorem eX11_roots_31 : decode mX11_roots.2.1 31 = .ok (.istore 4, 2) := dX11_roots_31
theorem eX11_roots_33 : decode mX11_roots.2.1 33 = .ok (.iconst 0, 1) := dX11_roots_33
theorem eX11_roots_34 : decode mX11_roots.2.1 34 = .ok (.istore 5, 2) := dX11_roots_34
theorem eX11_roots_36 : decode mX11_roots.2.1 36 = .ok (.iload 5, 2) := dX11_roots_36
theorem eX11_roots_38 : decode mX11_roots.2.1 38 = .ok (.aload_n 0, 1) := dX11_roots_38
theorem eX11_roots_39 : decode mX11_roots.2.1 39 = .ok (.getfield 10, 3) := dX11_roots_39
theorem eX11_roots_42 : decode mX11_roots.2.1 42 = .ok (.getfield 85, 3) := dX11_roots_42
theorem eX11_roots_45 : decode mX11_roots.2.1 45 = .ok (.if_icmp .ge 59, 3) := dX11_roots_45
theorem eX11_roots_48 : decode mX11_roots.2.1 48 = .ok (.iload 4, 2) := dX11_roots_48
theorem eX11_roots_50 : decode mX11_roots.2.1 50 = .ok (.aload_n 0, 1) := dX11_roots_50
theorem eX11_roots_51 : decode mX11_roots.2.1 51 = .ok (.getfield 20, 3) := dX11_roots_51
theorem eX11_roots_54 : decode mX11_roots.2.1 54 = .ok (.arraylength, 1) := dX11_roots_54
theorem eX11_roots_55 : decode mX11_roots.2.1 55 = .ok (.if_icmp .ge 49, 3) := dX11_roots_55
theorem eX11_roots_58 : decode mX11_roots.2.1 58 = .ok (.aload_n 0, 1) := dX11_roots_58
theorem eX11_roots_59 : decode mX11_roots.2.1 59 = .ok (.getfield 10, 3) := dX11_roots_59
theorem eX11_roots_62 : decode mX11_roots.2.1 62 = .ok (.iload 5, 2) := dX11_roots_62
theorem eX11_roots_64 : decode mX11_roots.2.1 64 = .ok (.iload_n 2, 1) := dX11_roots_64
theorem eX11_roots_65 : decode mX11_roots.2.1 65 = .ok (.iload_n 1, 1) := dX11_roots_65
theorem eX11_roots_66 : decode mX11_roots.2.1 66 = .ok (.invokevirtual 225, 3) := dX11_roots_66
theorem eX11_roots_69 : decode mX11_roots.2.1 69 = .ok (.ifCond .eq 29, 3) := dX11_roots_69
theorem eX11_roots_72 : decode mX11_roots.2.1 72 = .ok (.aload_n 0, 1) := dX11_roots_72
theorem eX11_roots_73 : decode mX11_roots.2.1 73 = .ok (.getfield 10, 3) := dX11_roots_73
theorem eX11_roots_76 : decode mX11_roots.2.1 76 = .ok (.iload 5, 2) := dX11_roots_76
theorem eX11_roots_78 : decode mX11_roots.2.1 78 = .ok (.iload_n 2, 1) := dX11_roots_78
theorem eX11_roots_79 : decode mX11_roots.2.1 79 = .ok (.invokevirtual 228, 3) := dX11_roots_79
theorem eX11_roots_82 : decode mX11_roots.2.1 82 = .ok (.iload_n 1, 1) := dX11_roots_82
theorem eX11_roots_83 : decode mX11_roots.2.1 83 = .ok (.if_icmp .ne 15, 3) := dX11_roots_83
theorem eX11_roots_86 : decode mX11_roots.2.1 86 = .ok (.aload_n 0, 1) := dX11_roots_86
theorem eX11_roots_87 : decode mX11_roots.2.1 87 = .ok (.getfield 20, 3) := dX11_roots_87
theorem eX11_roots_90 : decode mX11_roots.2.1 90 = .ok (.iload 4, 2) := dX11_roots_90
theorem eX11_roots_92 : decode mX11_roots.2.1 92 = .ok (.iload 5, 2) := dX11_roots_92
theorem eX11_roots_94 : decode mX11_roots.2.1 94 = .ok (.iastore, 1) := dX11_roots_94
theorem eX11_roots_95 : decode mX11_roots.2.1 95 = .ok (.iinc 4 1, 3) := dX11_roots_95
theorem eX11_roots_98 : decode mX11_roots.2.1 98 = .ok (.iinc 5 1, 3) := dX11_roots_98
theorem eX11_roots_101 : decode mX11_roots.2.1 101 = .ok (.goto (-65), 3) := dX11_roots_101
theorem eX11_roots_104 : decode mX11_roots.2.1 104 = .ok (.aload_n 0, 1) := dX11_roots_104
theorem eX11_roots_105 : decode mX11_roots.2.1 105 = .ok (.iload 4, 2) := dX11_roots_105
theorem eX11_roots_107 : decode mX11_roots.2.1 107 = .ok (.iload_n 3, 1) := dX11_roots_107
theorem eX11_roots_108 : decode mX11_roots.2.1 108 = .ok (.invokevirtual 231, 3) := dX11_roots_108
theorem eX11_roots_111 : decode mX11_roots.2.1 111 = .ok (.ireturn, 1) := dX11_roots_111
theorem eX11_said_0 : decode mX11_said.2.1 0 = .ok (.iload_n 1, 1) := dX11_said_0
theorem eX11_said_1 : decode mX11_said.2.1 1 = .ok (.ifCond .lt 28, 3) := dX11_said_1
theorem eX11_said_4 : decode mX11_said.2.1 4 = .ok (.iload_n 1, 1) := dX11_said_4
theorem eX11_said_5 : decode mX11_said.2.1 5 = .ok (.aload_n 0, 1) := dX11_said_5
theorem eX11_said_6 : decode mX11_said.2.1 6 = .ok (.getfield 33, 3) := dX11_said_6
theorem eX11_said_9 : decode mX11_said.2.1 9 = .ok (.getfield 346, 3) := dX11_said_9
theorem eX11_said_12 : decode mX11_said.2.1 12 = .ok (.if_icmp .ge 17, 3) := dX11_said_12
theorem eX11_said_15 : decode mX11_said.2.1 15 = .ok (.aload_n 0, 1) := dX11_said_15
theorem eX11_said_16 : decode mX11_said.2.1 16 = .ok (.getfield 33, 3) := dX11_said_16
theorem eX11_said_19 : decode mX11_said.2.1 19 = .ok (.getfield 347, 3) := dX11_said_19
theorem eX11_said_22 : decode mX11_said.2.1 22 = .ok (.iload_n 1, 1) := dX11_said_22
theorem eX11_said_23 : decode mX11_said.2.1 23 = .ok (.invokestatic 121, 3) := dX11_said_23
theorem eX11_said_26 : decode mX11_said.2.1 26 = .ok (.goto 4, 3) := dX11_said_26
theorem eX11_said_29 : decode mX11_said.2.1 29 = .ok (.iconst (-1), 1) := dX11_said_29
theorem eX11_said_30 : decode mX11_said.2.1 30 = .ok (.ireturn, 1) := dX11_said_30
theorem eX11_say_0 : decode mX11_say.2.1 0 = .ok (.aload_n 0, 1) := dX11_say_0
theorem eX11_say_1 : decode mX11_say.2.1 1 = .ok (.getfield 10, 3) := dX11_say_1
theorem eX11_say_4 : decode mX11_say.2.1 4 = .ok (.iload_n 1, 1) := dX11_say_4
theorem eX11_say_5 : decode mX11_say.2.1 5 = .ok (.invokevirtual 113, 3) := dX11_say_5
theorem eX11_say_8 : decode mX11_say.2.1 8 = .ok (.invokestatic 117, 3) := dX11_say_8
theorem eX11_say_11 : decode mX11_say.2.1 11 = .ok (.aload_n 0, 1) := dX11_say_11
theorem eX11_say_12 : decode mX11_say.2.1 12 = .ok (.getfield 33, 3) := dX11_say_12
theorem eX11_say_15 : decode mX11_say.2.1 15 = .ok (.aload_n 0, 1) := dX11_say_15
theorem eX11_say_16 : decode mX11_say.2.1 16 = .ok (.getfield 10, 3) := dX11_say_16
theorem eX11_say_19 : decode mX11_say.2.1 19 = .ok (.iload_n 1, 1) := dX11_say_19
theorem eX11_say_20 : decode mX11_say.2.1 20 = .ok (.invokevirtual 342, 3) := dX11_say_20
theorem eX11_say_23 : decode mX11_say.2.1 23 = .ok (.aload_n 0, 1) := dX11_say_23
theorem eX11_say_24 : decode mX11_say.2.1 24 = .ok (.getfield 33, 3) := dX11_say_24
theorem eX11_say_27 : decode mX11_say.2.1 27 = .ok (.getfield 346, 3) := dX11_say_27
theorem eX11_say_30 : decode mX11_say.2.1 30 = .ok (.ireturn, 1) := dX11_say_30
theorem eX11_sum_0 : decode mX11_sum.2.1 0 = .ok (.iload_n 1, 1) := dX11_sum_0
theorem eX11_sum_1 : decode mX11_sum.2.1 1 = .ok (.ifCond .lt 35, 3) := dX11_sum_1
theorem eX11_sum_4 : decode mX11_sum.2.1 4 = .ok (.iload_n 1, 1) := dX11_sum_4
theorem eX11_sum_5 : decode mX11_sum.2.1 5 = .ok (.aload_n 0, 1) := dX11_sum_5
theorem eX11_sum_6 : decode mX11_sum.2.1 6 = .ok (.getfield 10, 3) := dX11_sum_6
theorem eX11_sum_9 : decode mX11_sum.2.1 9 = .ok (.getfield 143, 3) := dX11_sum_9
theorem eX11_sum_12 : decode mX11_sum.2.1 12 = .ok (.iconst 2, 1) := dX11_sum_12
theorem eX11_sum_13 : decode mX11_sum.2.1 13 = .ok (.isub, 1) := dX11_sum_13
theorem eX11_sum_14 : decode mX11_sum.2.1 14 = .ok (.if_icmp .gt 22, 3) := dX11_sum_14
theorem eX11_sum_17 : decode mX11_sum.2.1 17 = .ok (.iload_n 2, 1) := dX11_sum_17
theorem eX11_sum_18 : decode mX11_sum.2.1 18 = .ok (.ifCond .lt 18, 3) := dX11_sum_18
theorem eX11_sum_21 : decode mX11_sum.2.1 21 = .ok (.iload_n 2, 1) := dX11_sum_21
theorem eX11_sum_22 : decode mX11_sum.2.1 22 = .ok (.aload_n 0, 1) := dX11_sum_22
theorem eX11_sum_23 : decode mX11_sum.2.1 23 = .ok (.getfield 10, 3) := dX11_sum_23
theorem eX11_sum_26 : decode mX11_sum.2.1 26 = .ok (.getfield 134, 3) := dX11_sum_26
theorem eX11_sum_29 : decode mX11_sum.2.1 29 = .ok (.if_icmp .ge 7, 3) := dX11_sum_29
theorem eX11_sum_32 : decode mX11_sum.2.1 32 = .ok (.iconst 1, 1) := dX11_sum_32
theorem eX11_sum_33 : decode mX11_sum.2.1 33 = .ok (.goto 4, 3) := dX11_sum_33
theorem eX11_sum_36 : decode mX11_sum.2.1 36 = .ok (.iconst 0, 1) := dX11_sum_36
theorem eX11_sum_37 : decode mX11_sum.2.1 37 = .ok (.invokestatic 117, 3) := dX11_sum_37
theorem eX11_sum_40 : decode mX11_sum.2.1 40 = .ok (.aload_n 0, 1) := dX11_sum_40
theorem eX11_sum_41 : decode mX11_sum.2.1 41 = .ok (.getfield 10, 3) := dX11_sum_41
theorem eX11_sum_44 : decode mX11_sum.2.1 44 = .ok (.aload_n 0, 1) := dX11_sum_44
theorem eX11_sum_45 : decode mX11_sum.2.1 45 = .ok (.getfield 10, 3) := dX11_sum_45
theorem eX11_sum_48 : decode mX11_sum.2.1 48 = .ok (.iconst 1, 1) := dX11_sum_48
theorem eX11_sum_49 : decode mX11_sum.2.1 49 = .ok (.aload_n 0, 1) := dX11_sum_49
theorem eX11_sum_50 : decode mX11_sum.2.1 50 = .ok (.getfield 10, 3) := dX11_sum_50
theorem eX11_sum_53 : decode mX11_sum.2.1 53 = .ok (.getfield 222, 3) := dX11_sum_53
theorem eX11_sum_56 : decode mX11_sum.2.1 56 = .ok (.iload_n 1, 1) := dX11_sum_56
theorem eX11_sum_57 : decode mX11_sum.2.1 57 = .ok (.invokestatic 121, 3) := dX11_sum_57
theorem eX11_sum_60 : decode mX11_sum.2.1 60 = .ok (.invokevirtual 172, 3) := dX11_sum_60
theorem eX11_sum_63 : decode mX11_sum.2.1 63 = .ok (.iload_n 2, 1) := dX11_sum_63
theorem eX11_sum_64 : decode mX11_sum.2.1 64 = .ok (.invokevirtual 211, 3) := dX11_sum_64
theorem eX11_sum_67 : decode mX11_sum.2.1 67 = .ok (.ireturn, 1) := dX11_sum_67
theorem eX11_tell_0 : decode mX11_tell.2.1 0 = .ok (.iload_n 1, 1) := dX11_tell_0
theorem eX11_tell_1 : decode mX11_tell.2.1 1 = .ok (.ifCond .lt 24, 3) := dX11_tell_1
theorem eX11_tell_4 : decode mX11_tell.2.1 4 = .ok (.iload_n 1, 1) := dX11_tell_4
theorem eX11_tell_5 : decode mX11_tell.2.1 5 = .ok (.bipush 8, 2) := dX11_tell_5
theorem eX11_tell_7 : decode mX11_tell.2.1 7 = .ok (.if_icmp .ge 18, 3) := dX11_tell_7
theorem eX11_tell_10 : decode mX11_tell.2.1 10 = .ok (.iload_n 2, 1) := dX11_tell_10
theorem eX11_tell_11 : decode mX11_tell.2.1 11 = .ok (.ifCond .lt 14, 3) := dX11_tell_11
theorem eX11_tell_14 : decode mX11_tell.2.1 14 = .ok (.iload_n 2, 1) := dX11_tell_14
theorem eX11_tell_15 : decode mX11_tell.2.1 15 = .ok (.aload_n 0, 1) := dX11_tell_15
theorem eX11_tell_16 : decode mX11_tell.2.1 16 = .ok (.getfield 26, 3) := dX11_tell_16
theorem eX11_tell_19 : decode mX11_tell.2.1 19 = .ok (.getfield 89, 3) := dX11_tell_19
theorem eX11_tell_22 : decode mX11_tell.2.1 22 = .ok (.if_icmp .le 11, 3) := dX11_tell_22
theorem eX11_tell_25 : decode mX11_tell.2.1 25 = .ok (.new 96, 3) := dX11_tell_25
theorem eX11_tell_28 : decode mX11_tell.2.1 28 = .ok (.dup, 1) := dX11_tell_28
theorem eX11_tell_29 : decode mX11_tell.2.1 29 = .ok (.invokespecial 98, 3) := dX11_tell_29
theorem eX11_tell_32 : decode mX11_tell.2.1 32 = .ok (.athrow, 1) := dX11_tell_32
theorem eX11_tell_33 : decode mX11_tell.2.1 33 = .ok (.aload_n 0, 1) := dX11_tell_33
theorem eX11_tell_34 : decode mX11_tell.2.1 34 = .ok (.getfield 49, 3) := dX11_tell_34
theorem eX11_tell_37 : decode mX11_tell.2.1 37 = .ok (.iload_n 2, 1) := dX11_tell_37
theorem eX11_tell_38 : decode mX11_tell.2.1 38 = .ok (.invokevirtual 99, 3) := dX11_tell_38
theorem eX11_tell_41 : decode mX11_tell.2.1 41 = .ok (.istore_n 3, 1) := dX11_tell_41
theorem eX11_tell_42 : decode mX11_tell.2.1 42 = .ok (.aload_n 0, 1) := dX11_tell_42
theorem eX11_tell_43 : decode mX11_tell.2.1 43 = .ok (.getfield 26, 3) := dX11_tell_43
theorem eX11_tell_46 : decode mX11_tell.2.1 46 = .ok (.iconst 0, 1) := dX11_tell_46
theorem eX11_tell_47 : decode mX11_tell.2.1 47 = .ok (.putfield 89, 3) := dX11_tell_47
theorem eX11_tell_50 : decode mX11_tell.2.1 50 = .ok (.aload_n 0, 1) := dX11_tell_50
theorem eX11_tell_51 : decode mX11_tell.2.1 51 = .ok (.getfield 49, 3) := dX11_tell_51
theorem eX11_tell_54 : decode mX11_tell.2.1 54 = .ok (.getfield 103, 3) := dX11_tell_54
theorem eX11_tell_57 : decode mX11_tell.2.1 57 = .ok (.ifCond .le 14, 3) := dX11_tell_57
theorem eX11_tell_60 : decode mX11_tell.2.1 60 = .ok (.bipush (-10), 2) := dX11_tell_60
theorem eX11_tell_62 : decode mX11_tell.2.1 62 = .ok (.aload_n 0, 1) := dX11_tell_62
theorem eX11_tell_63 : decode mX11_tell.2.1 63 = .ok (.getfield 49, 3) := dX11_tell_63
theorem eX11_tell_66 : decode mX11_tell.2.1 66 = .ok (.getfield 103, 3) := dX11_tell_66
theorem eX11_tell_69 : decode mX11_tell.2.1 69 = .ok (.isub, 1) := dX11_tell_69
theorem eX11_tell_70 : decode mX11_tell.2.1 70 = .ok (.ireturn, 1) := dX11_tell_70
theorem eX11_tell_71 : decode mX11_tell.2.1 71 = .ok (.aload_n 0, 1) := dX11_tell_71
theorem eX11_tell_72 : decode mX11_tell.2.1 72 = .ok (.getfield 49, 3) := dX11_tell_72
theorem eX11_tell_75 : decode mX11_tell.2.1 75 = .ok (.getfield 106, 3) := dX11_tell_75
theorem eX11_tell_78 : decode mX11_tell.2.1 78 = .ok (.ifCond .eq 6, 3) := dX11_tell_78
theorem eX11_tell_81 : decode mX11_tell.2.1 81 = .ok (.bipush (-2), 2) := dX11_tell_81
theorem eX11_tell_83 : decode mX11_tell.2.1 83 = .ok (.ireturn, 1) := dX11_tell_83
theorem eX11_tell_84 : decode mX11_tell.2.1 84 = .ok (.aload_n 0, 1) := dX11_tell_84
theorem eX11_tell_85 : decode mX11_tell.2.1 85 = .ok (.getfield 16, 3) := dX11_tell_85
theorem eX11_tell_88 : decode mX11_tell.2.1 88 = .ok (.iload_n 1, 1) := dX11_tell_88
theorem eX11_tell_89 : decode mX11_tell.2.1 89 = .ok (.iload_n 3, 1) := dX11_tell_89
theorem eX11_tell_90 : decode mX11_tell.2.1 90 = .ok (.iastore, 1) := dX11_tell_90
theorem eX11_tell_91 : decode mX11_tell.2.1 91 = .ok (.iload_n 3, 1) := dX11_tell_91
theorem eX11_tell_92 : decode mX11_tell.2.1 92 = .ok (.ireturn, 1) := dX11_tell_92
theorem eX11_units_0 : decode mX11_units.2.1 0 = .ok (.iload_n 1, 1) := dX11_units_0
theorem eX11_units_1 : decode mX11_units.2.1 1 = .ok (.iconst 1, 1) := dX11_units_1
theorem eX11_units_2 : decode mX11_units.2.1 2 = .ok (.if_icmp .lt 14, 3) := dX11_units_2
theorem eX11_units_5 : decode mX11_units.2.1 5 = .ok (.iload_n 1, 1) := dX11_units_5
theorem eX11_units_6 : decode mX11_units.2.1 6 = .ok (.sipush 9999, 3) := dX11_units_6
theorem eX11_units_9 : decode mX11_units.2.1 9 = .ok (.if_icmp .gt 7, 3) := dX11_units_9
theorem eX11_units_12 : decode mX11_units.2.1 12 = .ok (.iconst 1, 1) := dX11_units_12
theorem eX11_units_13 : decode mX11_units.2.1 13 = .ok (.goto 4, 3) := dX11_units_13
theorem eX11_units_16 : decode mX11_units.2.1 16 = .ok (.iconst 0, 1) := dX11_units_16
theorem eX11_units_17 : decode mX11_units.2.1 17 = .ok (.invokestatic 117, 3) := dX11_units_17
theorem eX11_units_20 : decode mX11_units.2.1 20 = .ok (.aload_n 0, 1) := dX11_units_20
theorem eX11_units_21 : decode mX11_units.2.1 21 = .ok (.getfield 10, 3) := dX11_units_21
theorem eX11_units_24 : decode mX11_units.2.1 24 = .ok (.iload_n 1, 1) := dX11_units_24
theorem eX11_units_25 : decode mX11_units.2.1 25 = .ok (.invokevirtual 244, 3) := dX11_units_25
theorem eX11_units_28 : decode mX11_units.2.1 28 = .ok (.ireturn, 1) := dX11_units_28
theorem eX11_weighing_0 : decode mX11_weighing.2.1 0 = .ok (.aload_n 0, 1) := dX11_weighing_0
theorem eX11_weighing_1 : decode mX11_weighing.2.1 1 = .ok (.getfield 58, 3) := dX11_weighing_1
theorem eX11_weighing_4 : decode mX11_weighing.2.1 4 = .ok (.getfield 286, 3) := dX11_weighing_4
theorem eX11_weighing_7 : decode mX11_weighing.2.1 7 = .ok (.ifCond .eq 7, 3) := dX11_weighing_7
theorem eX11_weighing_10 : decode mX11_weighing.2.1 10 = .ok (.iload_n 2, 1) := dX11_weighing_10
theorem eX11_weighing_11 : decode mX11_weighing.2.1 11 = .ok (.ifCond .ge 5, 3) := dX11_weighing_11
theorem eX11_weighing_14 : decode mX11_weighing.2.1 14 = .ok (.iconst (-1), 1) := dX11_weighing_14
theorem eX11_weighing_15 : decode mX11_weighing.2.1 15 = .ok (.ireturn, 1) := dX11_weighing_15
theorem eX11_weighing_16 : decode mX11_weighing.2.1 16 = .ok (.aload_n 0, 1) := dX11_weighing_16
theorem eX11_weighing_17 : decode mX11_weighing.2.1 17 = .ok (.getfield 67, 3) := dX11_weighing_17
theorem eX11_weighing_20 : decode mX11_weighing.2.1 20 = .ok (.invokevirtual 289, 3) := dX11_weighing_20
theorem eX11_weighing_23 : decode mX11_weighing.2.1 23 = .ok (.iload_n 1, 1) := dX11_weighing_23
theorem eX11_weighing_24 : decode mX11_weighing.2.1 24 = .ok (.ifCond .eq 13, 3) := dX11_weighing_24
theorem eX11_weighing_27 : decode mX11_weighing.2.1 27 = .ok (.aload_n 0, 1) := dX11_weighing_27
theorem eX11_weighing_28 : decode mX11_weighing.2.1 28 = .ok (.getfield 67, 3) := dX11_weighing_28
theorem eX11_weighing_31 : decode mX11_weighing.2.1 31 = .ok (.getfield 292, 3) := dX11_weighing_31
theorem eX11_weighing_34 : decode mX11_weighing.2.1 34 = .ok (.goto 10, 3) := dX11_weighing_34
theorem eX11_weighing_37 : decode mX11_weighing.2.1 37 = .ok (.aload_n 0, 1) := dX11_weighing_37
theorem eX11_weighing_38 : decode mX11_weighing.2.1 38 = .ok (.getfield 67, 3) := dX11_weighing_38
theorem eX11_weighing_41 : decode mX11_weighing.2.1 41 = .ok (.getfield 295, 3) := dX11_weighing_41
theorem eX11_weighing_44 : decode mX11_weighing.2.1 44 = .ok (.iload_n 2, 1) := dX11_weighing_44
theorem eX11_weighing_45 : decode mX11_weighing.2.1 45 = .ok (.invokestatic 121, 3) := dX11_weighing_45
theorem eX11_weighing_48 : decode mX11_weighing.2.1 48 = .ok (.ireturn, 1) := dX11_weighing_48
theorem eX11_whole_0 : decode mX11_whole.2.1 0 = .ok (.aload_n 0, 1) := dX11_whole_0
theorem eX11_whole_1 : decode mX11_whole.2.1 1 = .ok (.iload_n 1, 1) := dX11_whole_1
theorem eX11_whole_2 : decode mX11_whole.2.1 2 = .ok (.iconst 0, 1) := dX11_whole_2
theorem eX11_whole_3 : decode mX11_whole.2.1 3 = .ok (.invokevirtual 214, 3) := dX11_whole_3
theorem eX11_whole_6 : decode mX11_whole.2.1 6 = .ok (.ifCond .eq 35, 3) := dX11_whole_6
theorem eX11_whole_9 : decode mX11_whole.2.1 9 = .ok (.aload_n 0, 1) := dX11_whole_9
theorem eX11_whole_10 : decode mX11_whole.2.1 10 = .ok (.iload_n 2, 1) := dX11_whole_10
theorem eX11_whole_11 : decode mX11_whole.2.1 11 = .ok (.iconst 1, 1) := dX11_whole_11
theorem eX11_whole_12 : decode mX11_whole.2.1 12 = .ok (.invokevirtual 214, 3) := dX11_whole_12
theorem eX11_whole_15 : decode mX11_whole.2.1 15 = .ok (.ifCond .eq 26, 3) := dX11_whole_15
theorem eX11_whole_18 : decode mX11_whole.2.1 18 = .ok (.aload_n 0, 1) := dX11_whole_18
theorem eX11_whole_19 : decode mX11_whole.2.1 19 = .ok (.iload_n 3, 1) := dX11_whole_19
theorem eX11_whole_20 : decode mX11_whole.2.1 20 = .ok (.iconst 2, 1) := dX11_whole_20
theorem eX11_whole_21 : decode mX11_whole.2.1 21 = .ok (.invokevirtual 214, 3) := dX11_whole_21
theorem eX11_whole_24 : decode mX11_whole.2.1 24 = .ok (.ifCond .eq 17, 3) := dX11_whole_24
theorem eX11_whole_27 : decode mX11_whole.2.1 27 = .ok (.aload_n 0, 1) := dX11_whole_27
theorem eX11_whole_28 : decode mX11_whole.2.1 28 = .ok (.iload 4, 2) := dX11_whole_28
theorem eX11_whole_30 : decode mX11_whole.2.1 30 = .ok (.iconst 3, 1) := dX11_whole_30
theorem eX11_whole_31 : decode mX11_whole.2.1 31 = .ok (.invokevirtual 214, 3) := dX11_whole_31
theorem eX11_whole_34 : decode mX11_whole.2.1 34 = .ok (.ifCond .eq 7, 3) := dX11_whole_34
theorem eX11_whole_37 : decode mX11_whole.2.1 37 = .ok (.iconst 1, 1) := dX11_whole_37
theorem eX11_whole_38 : decode mX11_whole.2.1 38 = .ok (.goto 4, 3) := dX11_whole_38
theorem eX11_whole_41 : decode mX11_whole.2.1 41 = .ok (.iconst 0, 1) := dX11_whole_41
theorem eX11_whole_42 : decode mX11_whole.2.1 42 = .ok (.invokestatic 117, 3) := dX11_whole_42
theorem eX11_whole_45 : decode mX11_whole.2.1 45 = .ok (.aload_n 0, 1) := dX11_whole_45
theorem eX11_whole_46 : decode mX11_whole.2.1 46 = .ok (.getfield 10, 3) := dX11_whole_46
theorem eX11_whole_49 : decode mX11_whole.2.1 49 = .ok (.iconst 0, 1) := dX11_whole_49
theorem eX11_whole_50 : decode mX11_whole.2.1 50 = .ok (.iconst 0, 1) := dX11_whole_50
theorem eX11_whole_51 : decode mX11_whole.2.1 51 = .ok (.iload_n 1, 1) := dX11_whole_51
theorem eX11_whole_52 : decode mX11_whole.2.1 52 = .ok (.invokevirtual 218, 3) := dX11_whole_52
theorem eX11_whole_55 : decode mX11_whole.2.1 55 = .ok (.istore 5, 2) := dX11_whole_55
theorem eX11_whole_57 : decode mX11_whole.2.1 57 = .ok (.aload_n 0, 1) := dX11_whole_57
theorem eX11_whole_58 : decode mX11_whole.2.1 58 = .ok (.getfield 10, 3) := dX11_whole_58
theorem eX11_whole_61 : decode mX11_whole.2.1 61 = .ok (.iload 5, 2) := dX11_whole_61
theorem eX11_whole_63 : decode mX11_whole.2.1 63 = .ok (.iconst 1, 1) := dX11_whole_63
theorem eX11_whole_64 : decode mX11_whole.2.1 64 = .ok (.iload_n 2, 1) := dX11_whole_64
theorem eX11_whole_65 : decode mX11_whole.2.1 65 = .ok (.invokevirtual 218, 3) := dX11_whole_65
theorem eX11_whole_68 : decode mX11_whole.2.1 68 = .ok (.istore 5, 2) := dX11_whole_68
theorem eX11_whole_70 : decode mX11_whole.2.1 70 = .ok (.aload_n 0, 1) := dX11_whole_70
theorem eX11_whole_71 : decode mX11_whole.2.1 71 = .ok (.getfield 10, 3) := dX11_whole_71
theorem eX11_whole_74 : decode mX11_whole.2.1 74 = .ok (.iload 5, 2) := dX11_whole_74
theorem eX11_whole_76 : decode mX11_whole.2.1 76 = .ok (.iconst 2, 1) := dX11_whole_76
theorem eX11_whole_77 : decode mX11_whole.2.1 77 = .ok (.iload_n 3, 1) := dX11_whole_77
theorem eX11_whole_78 : decode mX11_whole.2.1 78 = .ok (.invokevirtual 218, 3) := dX11_whole_78
theorem eX11_whole_81 : decode mX11_whole.2.1 81 = .ok (.istore 5, 2) := dX11_whole_81
theorem eX11_whole_83 : decode mX11_whole.2.1 83 = .ok (.aload_n 0, 1) := dX11_whole_83
theorem eX11_whole_84 : decode mX11_whole.2.1 84 = .ok (.getfield 10, 3) := dX11_whole_84
theorem eX11_whole_87 : decode mX11_whole.2.1 87 = .ok (.iload 5, 2) := dX11_whole_87
theorem eX11_whole_89 : decode mX11_whole.2.1 89 = .ok (.iconst 3, 1) := dX11_whole_89
theorem eX11_whole_90 : decode mX11_whole.2.1 90 = .ok (.iload 4, 2) := dX11_whole_90
theorem eX11_whole_92 : decode mX11_whole.2.1 92 = .ok (.invokevirtual 218, 3) := dX11_whole_92
theorem eX11_whole_95 : decode mX11_whole.2.1 95 = .ok (.ireturn, 1) := dX11_whole_95
theorem eX11_within_0 : decode mX11_within.2.1 0 = .ok (.iload_n 1, 1) := dX11_within_0
theorem eX11_within_1 : decode mX11_within.2.1 1 = .ok (.iconst 1, 1) := dX11_within_1
theorem eX11_within_2 : decode mX11_within.2.1 2 = .ok (.if_icmp .lt 32, 3) := dX11_within_2
theorem eX11_within_5 : decode mX11_within.2.1 5 = .ok (.iload_n 1, 1) := dX11_within_5
theorem eX11_within_6 : decode mX11_within.2.1 6 = .ok (.aload_n 0, 1) := dX11_within_6
theorem eX11_within_7 : decode mX11_within.2.1 7 = .ok (.getfield 10, 3) := dX11_within_7
theorem eX11_within_10 : decode mX11_within.2.1 10 = .ok (.getfield 137, 3) := dX11_within_10
theorem eX11_within_13 : decode mX11_within.2.1 13 = .ok (.if_icmp .gt 21, 3) := dX11_within_13
theorem eX11_within_16 : decode mX11_within.2.1 16 = .ok (.aload_n 0, 1) := dX11_within_16
theorem eX11_within_17 : decode mX11_within.2.1 17 = .ok (.getfield 10, 3) := dX11_within_17
theorem eX11_within_20 : decode mX11_within.2.1 20 = .ok (.getfield 137, 3) := dX11_within_20
theorem eX11_within_23 : decode mX11_within.2.1 23 = .ok (.iload_n 1, 1) := dX11_within_23
theorem eX11_within_24 : decode mX11_within.2.1 24 = .ok (.invokestatic 238, 3) := dX11_within_24
theorem eX11_within_27 : decode mX11_within.2.1 27 = .ok (.ifCond .ne 7, 3) := dX11_within_27
theorem eX11_within_30 : decode mX11_within.2.1 30 = .ok (.iconst 1, 1) := dX11_within_30
theorem eX11_within_31 : decode mX11_within.2.1 31 = .ok (.goto 4, 3) := dX11_within_31
theorem eX11_within_34 : decode mX11_within.2.1 34 = .ok (.iconst 0, 1) := dX11_within_34
theorem eX11_within_35 : decode mX11_within.2.1 35 = .ok (.invokestatic 117, 3) := dX11_within_35
theorem eX11_within_38 : decode mX11_within.2.1 38 = .ok (.iconst 0, 1) := dX11_within_38
theorem eX11_within_39 : decode mX11_within.2.1 39 = .ok (.istore_n 3, 1) := dX11_within_39
theorem eX11_within_40 : decode mX11_within.2.1 40 = .ok (.iconst 0, 1) := dX11_within_40
theorem eX11_within_41 : decode mX11_within.2.1 41 = .ok (.istore 4, 2) := dX11_within_41
theorem eX11_within_43 : decode mX11_within.2.1 43 = .ok (.iload 4, 2) := dX11_within_43
theorem eX11_within_45 : decode mX11_within.2.1 45 = .ok (.aload_n 0, 1) := dX11_within_45
theorem eX11_within_46 : decode mX11_within.2.1 46 = .ok (.getfield 10, 3) := dX11_within_46
theorem eX11_within_49 : decode mX11_within.2.1 49 = .ok (.getfield 85, 3) := dX11_within_49
theorem eX11_within_52 : decode mX11_within.2.1 52 = .ok (.if_icmp .ge 42, 3) := dX11_within_52
theorem eX11_within_55 : decode mX11_within.2.1 55 = .ok (.iload_n 3, 1) := dX11_within_55
theorem eX11_within_56 : decode mX11_within.2.1 56 = .ok (.aload_n 0, 1) := dX11_within_56
theorem eX11_within_57 : decode mX11_within.2.1 57 = .ok (.getfield 20, 3) := dX11_within_57
theorem eX11_within_60 : decode mX11_within.2.1 60 = .ok (.arraylength, 1) := dX11_within_60
theorem eX11_within_61 : decode mX11_within.2.1 61 = .ok (.if_icmp .ge 33, 3) := dX11_within_61
theorem eX11_within_64 : decode mX11_within.2.1 64 = .ok (.aload_n 0, 1) := dX11_within_64
theorem eX11_within_65 : decode mX11_within.2.1 65 = .ok (.getfield 10, 3) := dX11_within_65
theorem eX11_within_68 : decode mX11_within.2.1 68 = .ok (.iload 4, 2) := dX11_within_68
theorem eX11_within_70 : decode mX11_within.2.1 70 = .ok (.iload_n 1, 1) := dX11_within_70
theorem eX11_within_71 : decode mX11_within.2.1 71 = .ok (.invokevirtual 241, 3) := dX11_within_71
theorem eX11_within_74 : decode mX11_within.2.1 74 = .ok (.ifCond .eq 14, 3) := dX11_within_74
theorem eX11_within_77 : decode mX11_within.2.1 77 = .ok (.aload_n 0, 1) := dX11_within_77
theorem eX11_within_78 : decode mX11_within.2.1 78 = .ok (.getfield 20, 3) := dX11_within_78
theorem eX11_within_81 : decode mX11_within.2.1 81 = .ok (.iload_n 3, 1) := dX11_within_81
theorem eX11_within_82 : decode mX11_within.2.1 82 = .ok (.iload 4, 2) := dX11_within_82
theorem eX11_within_84 : decode mX11_within.2.1 84 = .ok (.iastore, 1) := dX11_within_84
theorem eX11_within_85 : decode mX11_within.2.1 85 = .ok (.iinc 3 1, 3) := dX11_within_85
theorem eX11_within_88 : decode mX11_within.2.1 88 = .ok (.iinc 4 1, 3) := dX11_within_88
theorem eX11_within_91 : decode mX11_within.2.1 91 = .ok (.goto (-48), 3) := dX11_within_91
theorem eX11_within_94 : decode mX11_within.2.1 94 = .ok (.aload_n 0, 1) := dX11_within_94
theorem eX11_within_95 : decode mX11_within.2.1 95 = .ok (.iload_n 3, 1) := dX11_within_95
theorem eX11_within_96 : decode mX11_within.2.1 96 = .ok (.iload_n 2, 1) := dX11_within_96
theorem eX11_within_97 : decode mX11_within.2.1 97 = .ok (.invokevirtual 231, 3) := dX11_within_97
theorem eX11_within_100 : decode mX11_within.2.1 100 = .ok (.ireturn, 1) := dX11_within_100
theorem eX11_word_0 : decode mX11_word.2.1 0 = .ok (.aload_n 0, 1) := dX11_word_0
theorem eX11_word_1 : decode mX11_word.2.1 1 = .ok (.getfield 26, 3) := dX11_word_1
theorem eX11_word_4 : decode mX11_word.2.1 4 = .ok (.getfield 89, 3) := dX11_word_4
theorem eX11_word_7 : decode mX11_word.2.1 7 = .ok (.aload_n 0, 1) := dX11_word_7
theorem eX11_word_8 : decode mX11_word.2.1 8 = .ok (.getfield 58, 3) := dX11_word_8
theorem eX11_word_11 : decode mX11_word.2.1 11 = .ok (.getfield 153, 3) := dX11_word_11
theorem eX11_word_14 : decode mX11_word.2.1 14 = .ok (.if_icmp .ge 11, 3) := dX11_word_14
theorem eX11_word_17 : decode mX11_word.2.1 17 = .ok (.new 96, 3) := dX11_word_17
theorem eX11_word_20 : decode mX11_word.2.1 20 = .ok (.dup, 1) := dX11_word_20
theorem eX11_word_21 : decode mX11_word.2.1 21 = .ok (.invokespecial 98, 3) := dX11_word_21
theorem eX11_word_24 : decode mX11_word.2.1 24 = .ok (.athrow, 1) := dX11_word_24
theorem eX11_word_25 : decode mX11_word.2.1 25 = .ok (.aload_n 0, 1) := dX11_word_25
theorem eX11_word_26 : decode mX11_word.2.1 26 = .ok (.getfield 26, 3) := dX11_word_26
theorem eX11_word_29 : decode mX11_word.2.1 29 = .ok (.iconst 0, 1) := dX11_word_29
theorem eX11_word_30 : decode mX11_word.2.1 30 = .ok (.putfield 89, 3) := dX11_word_30
theorem eX11_word_33 : decode mX11_word.2.1 33 = .ok (.aload_n 0, 1) := dX11_word_33
theorem eX11_word_34 : decode mX11_word.2.1 34 = .ok (.getfield 26, 3) := dX11_word_34
theorem eX11_word_37 : decode mX11_word.2.1 37 = .ok (.aload_n 0, 1) := dX11_word_37
theorem eX11_word_38 : decode mX11_word.2.1 38 = .ok (.getfield 58, 3) := dX11_word_38
theorem eX11_word_41 : decode mX11_word.2.1 41 = .ok (.getfield 153, 3) := dX11_word_41
theorem eX11_word_44 : decode mX11_word.2.1 44 = .ok (.aload_n 0, 1) := dX11_word_44
theorem eX11_word_45 : decode mX11_word.2.1 45 = .ok (.getfield 10, 3) := dX11_word_45
theorem eX11_word_48 : decode mX11_word.2.1 48 = .ok (.getfield 140, 3) := dX11_word_48
theorem eX11_word_51 : decode mX11_word.2.1 51 = .ok (.invokevirtual 302, 3) := dX11_word_51
theorem eX11_word_54 : decode mX11_word.2.1 54 = .ok (.ifCond .ne 5, 3) := dX11_word_54
theorem eX11_word_57 : decode mX11_word.2.1 57 = .ok (.iconst (-1), 1) := dX11_word_57
theorem eX11_word_58 : decode mX11_word.2.1 58 = .ok (.ireturn, 1) := dX11_word_58
theorem eX11_word_59 : decode mX11_word.2.1 59 = .ok (.aload_n 0, 1) := dX11_word_59
theorem eX11_word_60 : decode mX11_word.2.1 60 = .ok (.getfield 74, 3) := dX11_word_60
theorem eX11_word_63 : decode mX11_word.2.1 63 = .ok (.aload_n 0, 1) := dX11_word_63
theorem eX11_word_64 : decode mX11_word.2.1 64 = .ok (.getfield 26, 3) := dX11_word_64
theorem eX11_word_67 : decode mX11_word.2.1 67 = .ok (.getfield 305, 3) := dX11_word_67
theorem eX11_word_70 : decode mX11_word.2.1 70 = .ok (.invokevirtual 308, 3) := dX11_word_70
theorem eX11_word_73 : decode mX11_word.2.1 73 = .ok (.aload_n 0, 1) := dX11_word_73
theorem eX11_word_74 : decode mX11_word.2.1 74 = .ok (.getfield 74, 3) := dX11_word_74
theorem eX11_word_77 : decode mX11_word.2.1 77 = .ok (.getfield 312, 3) := dX11_word_77
theorem eX11_word_80 : decode mX11_word.2.1 80 = .ok (.ifCond .eq 7, 3) := dX11_word_80
theorem eX11_word_83 : decode mX11_word.2.1 83 = .ok (.iconst 0, 1) := dX11_word_83
theorem eX11_word_84 : decode mX11_word.2.1 84 = .ok (.goto 4, 3) := dX11_word_84
theorem eX11_word_87 : decode mX11_word.2.1 87 = .ok (.iconst 1, 1) := dX11_word_87
theorem eX11_word_88 : decode mX11_word.2.1 88 = .ok (.ireturn, 1) := dX11_word_88
theorem eX11_zeros_0 : decode mX11_zeros.2.1 0 = .ok (.iload_n 1, 1) := dX11_zeros_0
theorem eX11_zeros_1 : decode mX11_zeros.2.1 1 = .ok (.ifCond .lt 13, 3) := dX11_zeros_1
theorem eX11_zeros_4 : decode mX11_zeros.2.1 4 = .ok (.iload_n 1, 1) := dX11_zeros_4
theorem eX11_zeros_5 : decode mX11_zeros.2.1 5 = .ok (.bipush 8, 2) := dX11_zeros_5
theorem eX11_zeros_7 : decode mX11_zeros.2.1 7 = .ok (.if_icmp .ge 7, 3) := dX11_zeros_7
theorem eX11_zeros_10 : decode mX11_zeros.2.1 10 = .ok (.iconst 1, 1) := dX11_zeros_10
theorem eX11_zeros_11 : decode mX11_zeros.2.1 11 = .ok (.goto 4, 3) := dX11_zeros_11
theorem eX11_zeros_14 : decode mX11_zeros.2.1 14 = .ok (.iconst 0, 1) := dX11_zeros_14
theorem eX11_zeros_15 : decode mX11_zeros.2.1 15 = .ok (.invokestatic 117, 3) := dX11_zeros_15
theorem eX11_zeros_18 : decode mX11_zeros.2.1 18 = .ok (.iconst 0, 1) := dX11_zeros_18
theorem eX11_zeros_19 : decode mX11_zeros.2.1 19 = .ok (.istore_n 3, 1) := dX11_zeros_19
theorem eX11_zeros_20 : decode mX11_zeros.2.1 20 = .ok (.iconst 0, 1) := dX11_zeros_20
theorem eX11_zeros_21 : decode mX11_zeros.2.1 21 = .ok (.istore 4, 2) := dX11_zeros_21
theorem eX11_zeros_23 : decode mX11_zeros.2.1 23 = .ok (.iload 4, 2) := dX11_zeros_23
theorem eX11_zeros_25 : decode mX11_zeros.2.1 25 = .ok (.aload_n 0, 1) := dX11_zeros_25
theorem eX11_zeros_26 : decode mX11_zeros.2.1 26 = .ok (.getfield 10, 3) := dX11_zeros_26
theorem eX11_zeros_29 : decode mX11_zeros.2.1 29 = .ok (.getfield 85, 3) := dX11_zeros_29
theorem eX11_zeros_32 : decode mX11_zeros.2.1 32 = .ok (.if_icmp .ge 46, 3) := dX11_zeros_32
theorem eX11_zeros_35 : decode mX11_zeros.2.1 35 = .ok (.iload_n 3, 1) := dX11_zeros_35
theorem eX11_zeros_36 : decode mX11_zeros.2.1 36 = .ok (.aload_n 0, 1) := dX11_zeros_36
theorem eX11_zeros_37 : decode mX11_zeros.2.1 37 = .ok (.getfield 20, 3) := dX11_zeros_37
theorem eX11_zeros_40 : decode mX11_zeros.2.1 40 = .ok (.arraylength, 1) := dX11_zeros_40
theorem eX11_zeros_41 : decode mX11_zeros.2.1 41 = .ok (.if_icmp .ge 37, 3) := dX11_zeros_41
theorem eX11_zeros_44 : decode mX11_zeros.2.1 44 = .ok (.aload_n 0, 1) := dX11_zeros_44
theorem eX11_zeros_45 : decode mX11_zeros.2.1 45 = .ok (.getfield 10, 3) := dX11_zeros_45
theorem eX11_zeros_48 : decode mX11_zeros.2.1 48 = .ok (.aload_n 0, 1) := dX11_zeros_48
theorem eX11_zeros_49 : decode mX11_zeros.2.1 49 = .ok (.getfield 16, 3) := dX11_zeros_49
theorem eX11_zeros_52 : decode mX11_zeros.2.1 52 = .ok (.iload_n 1, 1) := dX11_zeros_52
theorem eX11_zeros_53 : decode mX11_zeros.2.1 53 = .ok (.iload 4, 2) := dX11_zeros_53
theorem eX11_zeros_55 : decode mX11_zeros.2.1 55 = .ok (.invokevirtual 234, 3) := dX11_zeros_55
theorem eX11_zeros_58 : decode mX11_zeros.2.1 58 = .ok (.ifCond .ne 14, 3) := dX11_zeros_58
theorem eX11_zeros_61 : decode mX11_zeros.2.1 61 = .ok (.aload_n 0, 1) := dX11_zeros_61
theorem eX11_zeros_62 : decode mX11_zeros.2.1 62 = .ok (.getfield 20, 3) := dX11_zeros_62
theorem eX11_zeros_65 : decode mX11_zeros.2.1 65 = .ok (.iload_n 3, 1) := dX11_zeros_65
theorem eX11_zeros_66 : decode mX11_zeros.2.1 66 = .ok (.iload 4, 2) := dX11_zeros_66
theorem eX11_zeros_68 : decode mX11_zeros.2.1 68 = .ok (.iastore, 1) := dX11_zeros_68
theorem eX11_zeros_69 : decode mX11_zeros.2.1 69 = .ok (.iinc 3 1, 3) := dX11_zeros_69
theorem eX11_zeros_72 : decode mX11_zeros.2.1 72 = .ok (.iinc 4 1, 3) := dX11_zeros_72
theorem eX11_zeros_75 : decode mX11_zeros.2.1 75 = .ok (.goto (-52), 3) := dX11_zeros_75
theorem eX11_zeros_78 : decode mX11_zeros.2.1 78 = .ok (.aload_n 0, 1) := dX11_zeros_78
theorem eX11_zeros_79 : decode mX11_zeros.2.1 79 = .ok (.iload_n 3, 1) := dX11_zeros_79
theorem eX11_zeros_80 : decode mX11_zeros.2.1 80 = .ok (.iload_n 2, 1) := dX11_zeros_80
theorem eX11_zeros_81 : decode mX11_zeros.2.1 81 = .ok (.invokevirtual 231, 3) := dX11_zeros_81
theorem eX11_zeros_84 : decode mX11_zeros.2.1 84 = .ok (.ireturn, 1) := dX11_zeros_84
theorem eX12_added_0 : decode mX12_added.2.1 0 = .ok (.aload_n 0, 1) := dX12_added_0
theorem eX12_added_1 : decode mX12_added.2.1 1 = .ok (.aload_n 0, 1) := dX12_added_1
theorem eX12_added_2 : decode mX12_added.2.1 2 = .ok (.getfield 50, 3) := dX12_added_2
theorem eX12_added_5 : decode mX12_added.2.1 5 = .ok (.iload_n 1, 1) := dX12_added_5
theorem eX12_added_6 : decode mX12_added.2.1 6 = .ok (.invokevirtual 122, 3) := dX12_added_6
theorem eX12_added_9 : decode mX12_added.2.1 9 = .ok (.aload_n 0, 1) := dX12_added_9
theorem eX12_added_10 : decode mX12_added.2.1 10 = .ok (.aload_n 0, 1) := dX12_added_10
theorem eX12_added_11 : decode mX12_added.2.1 11 = .ok (.getfield 53, 3) := dX12_added_11
theorem eX12_added_14 : decode mX12_added.2.1 14 = .ok (.iload_n 2, 1) := dX12_added_14
theorem eX12_added_15 : decode mX12_added.2.1 15 = .ok (.invokevirtual 122, 3) := dX12_added_15
theorem eX12_added_18 : decode mX12_added.2.1 18 = .ok (.iconst 0, 1) := dX12_added_18
theorem eX12_added_19 : decode mX12_added.2.1 19 = .ok (.istore 4, 2) := dX12_added_19
theorem eX12_added_21 : decode mX12_added.2.1 21 = .ok (.iload 4, 2) := dX12_added_21
theorem eX12_added_23 : decode mX12_added.2.1 23 = .ok (.aload_n 0, 1) := dX12_added_23
theorem eX12_added_24 : decode mX12_added.2.1 24 = .ok (.getfield 19, 3) := dX12_added_24
theorem eX12_added_27 : decode mX12_added.2.1 27 = .ok (.if_icmp .ge 40, 3) := dX12_added_27
theorem eX12_added_30 : decode mX12_added.2.1 30 = .ok (.aload_n 0, 1) := dX12_added_30
theorem eX12_added_31 : decode mX12_added.2.1 31 = .ok (.getfield 50, 3) := dX12_added_31
theorem eX12_added_34 : decode mX12_added.2.1 34 = .ok (.iload 4, 2) := dX12_added_34
theorem eX12_added_36 : decode mX12_added.2.1 36 = .ok (.aload_n 0, 1) := dX12_added_36
theorem eX12_added_37 : decode mX12_added.2.1 37 = .ok (.getfield 50, 3) := dX12_added_37
theorem eX12_added_40 : decode mX12_added.2.1 40 = .ok (.iload 4, 2) := dX12_added_40
theorem eX12_added_42 : decode mX12_added.2.1 42 = .ok (.iaload, 1) := dX12_added_42
theorem eX12_added_43 : decode mX12_added.2.1 43 = .ok (.iload_n 3, 1) := dX12_added_43
theorem eX12_added_44 : decode mX12_added.2.1 44 = .ok (.aload_n 0, 1) := dX12_added_44
theorem eX12_added_45 : decode mX12_added.2.1 45 = .ok (.getfield 53, 3) := dX12_added_45
theorem eX12_added_48 : decode mX12_added.2.1 48 = .ok (.iload 4, 2) := dX12_added_48
theorem eX12_added_50 : decode mX12_added.2.1 50 = .ok (.iaload, 1) := dX12_added_50
theorem eX12_added_51 : decode mX12_added.2.1 51 = .ok (.imul, 1) := dX12_added_51
theorem eX12_added_52 : decode mX12_added.2.1 52 = .ok (.iadd, 1) := dX12_added_52
theorem eX12_added_53 : decode mX12_added.2.1 53 = .ok (.aload_n 0, 1) := dX12_added_53
theorem eX12_added_54 : decode mX12_added.2.1 54 = .ok (.getfield 22, 3) := dX12_added_54
theorem eX12_added_57 : decode mX12_added.2.1 57 = .ok (.invokestatic 109, 3) := dX12_added_57
theorem eX12_added_60 : decode mX12_added.2.1 60 = .ok (.iastore, 1) := dX12_added_60
theorem eX12_added_61 : decode mX12_added.2.1 61 = .ok (.iinc 4 1, 3) := dX12_added_61
theorem eX12_added_64 : decode mX12_added.2.1 64 = .ok (.goto (-43), 3) := dX12_added_64
theorem eX12_added_67 : decode mX12_added.2.1 67 = .ok (.aload_n 0, 1) := dX12_added_67
theorem eX12_added_68 : decode mX12_added.2.1 68 = .ok (.aload_n 0, 1) := dX12_added_68
theorem eX12_added_69 : decode mX12_added.2.1 69 = .ok (.getfield 50, 3) := dX12_added_69
theorem eX12_added_72 : decode mX12_added.2.1 72 = .ok (.invokevirtual 126, 3) := dX12_added_72
theorem eX12_added_75 : decode mX12_added.2.1 75 = .ok (.ireturn, 1) := dX12_added_75
theorem eX12_atom_0 : decode mX12_atom.2.1 0 = .ok (.aload_n 0, 1) := dX12_atom_0
theorem eX12_atom_1 : decode mX12_atom.2.1 1 = .ok (.getfield 236, 3) := dX12_atom_1
theorem eX12_atom_4 : decode mX12_atom.2.1 4 = .ok (.istore_n 1, 1) := dX12_atom_4
theorem eX12_atom_5 : decode mX12_atom.2.1 5 = .ok (.iload_n 1, 1) := dX12_atom_5
theorem eX12_atom_6 : decode mX12_atom.2.1 6 = .ok (.sipush 1000, 3) := dX12_atom_6
theorem eX12_atom_9 : decode mX12_atom.2.1 9 = .ok (.if_icmp .ne 16, 3) := dX12_atom_9
theorem eX12_atom_12 : decode mX12_atom.2.1 12 = .ok (.aload_n 0, 1) := dX12_atom_12
theorem eX12_atom_13 : decode mX12_atom.2.1 13 = .ok (.sipush 9999, 3) := dX12_atom_13
theorem eX12_atom_16 : decode mX12_atom.2.1 16 = .ok (.invokevirtual 269, 3) := dX12_atom_16
theorem eX12_atom_19 : decode mX12_atom.2.1 19 = .ok (.aload_n 0, 1) := dX12_atom_19
theorem eX12_atom_20 : decode mX12_atom.2.1 20 = .ok (.getfield 22, 3) := dX12_atom_20
theorem eX12_atom_23 : decode mX12_atom.2.1 23 = .ok (.irem, 1) := dX12_atom_23
theorem eX12_atom_24 : decode mX12_atom.2.1 24 = .ok (.ireturn, 1) := dX12_atom_24
theorem eX12_atom_25 : decode mX12_atom.2.1 25 = .ok (.iload_n 1, 1) := dX12_atom_25
theorem eX12_atom_26 : decode mX12_atom.2.1 26 = .ok (.bipush 116, 2) := dX12_atom_26
theorem eX12_atom_28 : decode mX12_atom.2.1 28 = .ok (.if_icmp .eq 15, 3) := dX12_atom_28
theorem eX12_atom_31 : decode mX12_atom.2.1 31 = .ok (.iload_n 1, 1) := dX12_atom_31
theorem eX12_atom_32 : decode mX12_atom.2.1 32 = .ok (.bipush 103, 2) := dX12_atom_32
theorem eX12_atom_34 : decode mX12_atom.2.1 34 = .ok (.if_icmp .eq 9, 3) := dX12_atom_34
theorem eX12_atom_37 : decode mX12_atom.2.1 37 = .ok (.iload_n 1, 1) := dX12_atom_37
theorem eX12_atom_38 : decode mX12_atom.2.1 38 = .ok (.bipush 112, 2) := dX12_atom_38
theorem eX12_atom_40 : decode mX12_atom.2.1 40 = .ok (.if_icmp .ne 55, 3) := dX12_atom_40
theorem eX12_atom_43 : decode mX12_atom.2.1 43 = .ok (.aload_n 0, 1) := dX12_atom_43
theorem eX12_atom_44 : decode mX12_atom.2.1 44 = .ok (.invokevirtual 263, 3) := dX12_atom_44
theorem eX12_atom_47 : decode mX12_atom.2.1 47 = .ok (.iload_n 1, 1) := dX12_atom_47
theorem eX12_atom_48 : decode mX12_atom.2.1 48 = .ok (.bipush 116, 2) := dX12_atom_48
theorem eX12_atom_50 : decode mX12_atom.2.1 50 = .ok (.if_icmp .ne 22, 3) := dX12_atom_50
theorem eX12_atom_53 : decode mX12_atom.2.1 53 = .ok (.aload_n 0, 1) := dX12_atom_53
theorem eX12_atom_54 : decode mX12_atom.2.1 54 = .ok (.getfield 19, 3) := dX12_atom_54
theorem eX12_atom_57 : decode mX12_atom.2.1 57 = .ok (.iconst 1, 1) := dX12_atom_57
theorem eX12_atom_58 : decode mX12_atom.2.1 58 = .ok (.if_icmp .ne 7, 3) := dX12_atom_58
theorem eX12_atom_61 : decode mX12_atom.2.1 61 = .ok (.iconst 0, 1) := dX12_atom_61
theorem eX12_atom_62 : decode mX12_atom.2.1 62 = .ok (.goto 32, 3) := dX12_atom_62
theorem eX12_atom_65 : decode mX12_atom.2.1 65 = .ok (.aload_n 0, 1) := dX12_atom_65
theorem eX12_atom_66 : decode mX12_atom.2.1 66 = .ok (.getfield 22, 3) := dX12_atom_66
theorem eX12_atom_69 : decode mX12_atom.2.1 69 = .ok (.goto 25, 3) := dX12_atom_69
theorem eX12_atom_72 : decode mX12_atom.2.1 72 = .ok (.iload_n 1, 1) := dX12_atom_72
theorem eX12_atom_73 : decode mX12_atom.2.1 73 = .ok (.bipush 103, 2) := dX12_atom_73
theorem eX12_atom_75 : decode mX12_atom.2.1 75 = .ok (.if_icmp .ne 10, 3) := dX12_atom_75
theorem eX12_atom_78 : decode mX12_atom.2.1 78 = .ok (.aload_n 0, 1) := dX12_atom_78
theorem eX12_atom_79 : decode mX12_atom.2.1 79 = .ok (.getfield 179, 3) := dX12_atom_79
theorem eX12_atom_82 : decode mX12_atom.2.1 82 = .ok (.goto 12, 3) := dX12_atom_82
theorem eX12_atom_85 : decode mX12_atom.2.1 85 = .ok (.aload_n 0, 1) := dX12_atom_85
theorem eX12_atom_86 : decode mX12_atom.2.1 86 = .ok (.getfield 13, 3) := dX12_atom_86
theorem eX12_atom_89 : decode mX12_atom.2.1 89 = .ok (.aload_n 0, 1) := dX12_atom_89
theorem eX12_atom_90 : decode mX12_atom.2.1 90 = .ok (.getfield 22, 3) := dX12_atom_90
theorem eX12_atom_93 : decode mX12_atom.2.1 93 = .ok (.irem, 1) := dX12_atom_93
theorem eX12_atom_94 : decode mX12_atom.2.1 94 = .ok (.ireturn, 1) := dX12_atom_94
theorem eX12_atom_95 : decode mX12_atom.2.1 95 = .ok (.iload_n 1, 1) := dX12_atom_95
theorem eX12_atom_96 : decode mX12_atom.2.1 96 = .ok (.bipush 35, 2) := dX12_atom_96
theorem eX12_atom_98 : decode mX12_atom.2.1 98 = .ok (.if_icmp .ne 21, 3) := dX12_atom_98
theorem eX12_atom_101 : decode mX12_atom.2.1 101 = .ok (.aload_n 0, 1) := dX12_atom_101
theorem eX12_atom_102 : decode mX12_atom.2.1 102 = .ok (.invokevirtual 263, 3) := dX12_atom_102
theorem eX12_atom_105 : decode mX12_atom.2.1 105 = .ok (.aload_n 0, 1) := dX12_atom_105
theorem eX12_atom_106 : decode mX12_atom.2.1 106 = .ok (.bipush 7, 2) := dX12_atom_106
theorem eX12_atom_108 : decode mX12_atom.2.1 108 = .ok (.invokevirtual 269, 3) := dX12_atom_108
theorem eX12_atom_111 : decode mX12_atom.2.1 111 = .ok (.istore_n 2, 1) := dX12_atom_111
theorem eX12_atom_112 : decode mX12_atom.2.1 112 = .ok (.aload_n 0, 1) := dX12_atom_112
theorem eX12_atom_113 : decode mX12_atom.2.1 113 = .ok (.getfield 44, 3) := dX12_atom_113
theorem eX12_atom_116 : decode mX12_atom.2.1 116 = .ok (.iload_n 2, 1) := dX12_atom_116
theorem eX12_atom_117 : decode mX12_atom.2.1 117 = .ok (.iaload, 1) := dX12_atom_117
theorem eX12_atom_118 : decode mX12_atom.2.1 118 = .ok (.ireturn, 1) := dX12_atom_118
theorem eX12_atom_119 : decode mX12_atom.2.1 119 = .ok (.aload_n 0, 1) := dX12_atom_119
theorem eX12_atom_120 : decode mX12_atom.2.1 120 = .ok (.iload_n 1, 1) := dX12_atom_120
theorem eX12_atom_121 : decode mX12_atom.2.1 121 = .ok (.bipush 40, 2) := dX12_atom_121
theorem eX12_atom_123 : decode mX12_atom.2.1 123 = .ok (.if_icmp .eq 27, 3) := dX12_atom_123
theorem eX12_atom_126 : decode mX12_atom.2.1 126 = .ok (.iload_n 1, 1) := dX12_atom_126
theorem eX12_atom_127 : decode mX12_atom.2.1 127 = .ok (.bipush 45, 2) := dX12_atom_127
theorem eX12_atom_129 : decode mX12_atom.2.1 129 = .ok (.if_icmp .eq 21, 3) := dX12_atom_129
theorem eX12_atom_132 : decode mX12_atom.2.1 132 = .ok (.iload_n 1, 1) := dX12_atom_132
theorem eX12_atom_133 : decode mX12_atom.2.1 133 = .ok (.bipush 109, 2) := dX12_atom_133
theorem eX12_atom_135 : decode mX12_atom.2.1 135 = .ok (.if_icmp .eq 15, 3) := dX12_atom_135
theorem eX12_atom_138 : decode mX12_atom.2.1 138 = .ok (.iload_n 1, 1) := dX12_atom_138
theorem eX12_atom_139 : decode mX12_atom.2.1 139 = .ok (.bipush 114, 2) := dX12_atom_139
theorem eX12_atom_141 : decode mX12_atom.2.1 141 = .ok (.if_icmp .eq 9, 3) := dX12_atom_141
theorem eX12_atom_144 : decode mX12_atom.2.1 144 = .ok (.iload_n 1, 1) := dX12_atom_144
theorem eX12_atom_145 : decode mX12_atom.2.1 145 = .ok (.bipush 105, 2) := dX12_atom_145
theorem eX12_atom_147 : decode mX12_atom.2.1 147 = .ok (.if_icmp .ne 7, 3) := dX12_atom_147
theorem eX12_atom_150 : decode mX12_atom.2.1 150 = .ok (.iconst 1, 1) := dX12_atom_150
theorem eX12_atom_151 : decode mX12_atom.2.1 151 = .ok (.goto 4, 3) := dX12_atom_151
theorem eX12_atom_154 : decode mX12_atom.2.1 154 = .ok (.iconst 0, 1) := dX12_atom_154
theorem eX12_atom_155 : decode mX12_atom.2.1 155 = .ok (.iconst 1, 1) := dX12_atom_155
theorem eX12_atom_156 : decode mX12_atom.2.1 156 = .ok (.invokevirtual 259, 3) := dX12_atom_156
theorem eX12_atom_159 : decode mX12_atom.2.1 159 = .ok (.ifCond .eq 10, 3) := dX12_atom_159
theorem eX12_atom_162 : decode mX12_atom.2.1 162 = .ok (.aload_n 0, 1) := dX12_atom_162
theorem eX12_atom_163 : decode mX12_atom.2.1 163 = .ok (.invokevirtual 272, 3) := dX12_atom_163
theorem eX12_atom_166 : decode mX12_atom.2.1 166 = .ok (.ifCond .ne 5, 3) := dX12_atom_166
theorem eX12_atom_169 : decode mX12_atom.2.1 169 = .ok (.iconst 0, 1) := dX12_atom_169
theorem eX12_atom_170 : decode mX12_atom.2.1 170 = .ok (.ireturn, 1) := dX12_atom_170
theorem eX12_atom_171 : decode mX12_atom.2.1 171 = .ok (.iload_n 1, 1) := dX12_atom_171
theorem eX12_atom_172 : decode mX12_atom.2.1 172 = .ok (.bipush 40, 2) := dX12_atom_172
theorem eX12_atom_174 : decode mX12_atom.2.1 174 = .ok (.if_icmp .ne 10, 3) := dX12_atom_174
theorem eX12_atom_177 : decode mX12_atom.2.1 177 = .ok (.aload_n 0, 1) := dX12_atom_177
theorem eX12_atom_178 : decode mX12_atom.2.1 178 = .ok (.invokevirtual 275, 3) := dX12_atom_178
theorem eX12_atom_181 : decode mX12_atom.2.1 181 = .ok (.goto 7, 3) := dX12_atom_181
theorem eX12_atom_184 : decode mX12_atom.2.1 184 = .ok (.aload_n 0, 1) := dX12_atom_184
theorem eX12_atom_185 : decode mX12_atom.2.1 185 = .ok (.invokevirtual 278, 3) := dX12_atom_185
theorem eX12_atom_188 : decode mX12_atom.2.1 188 = .ok (.istore_n 2, 1) := dX12_atom_188
theorem eX12_atom_189 : decode mX12_atom.2.1 189 = .ok (.iload_n 1, 1) := dX12_atom_189
theorem eX12_atom_190 : decode mX12_atom.2.1 190 = .ok (.bipush 40, 2) := dX12_atom_190
theorem eX12_atom_192 : decode mX12_atom.2.1 192 = .ok (.if_icmp .ne 29, 3) := dX12_atom_192
theorem eX12_atom_195 : decode mX12_atom.2.1 195 = .ok (.aload_n 0, 1) := dX12_atom_195
theorem eX12_atom_196 : decode mX12_atom.2.1 196 = .ok (.aload_n 0, 1) := dX12_atom_196
theorem eX12_atom_197 : decode mX12_atom.2.1 197 = .ok (.getfield 236, 3) := dX12_atom_197
theorem eX12_atom_200 : decode mX12_atom.2.1 200 = .ok (.bipush 41, 2) := dX12_atom_200
theorem eX12_atom_202 : decode mX12_atom.2.1 202 = .ok (.if_icmp .ne 7, 3) := dX12_atom_202
theorem eX12_atom_205 : decode mX12_atom.2.1 205 = .ok (.iconst 1, 1) := dX12_atom_205
theorem eX12_atom_206 : decode mX12_atom.2.1 206 = .ok (.goto 4, 3) := dX12_atom_206
theorem eX12_atom_209 : decode mX12_atom.2.1 209 = .ok (.iconst 0, 1) := dX12_atom_209
theorem eX12_atom_210 : decode mX12_atom.2.1 210 = .ok (.iconst 1, 1) := dX12_atom_210
theorem eX12_atom_211 : decode mX12_atom.2.1 211 = .ok (.invokevirtual 259, 3) := dX12_atom_211
theorem eX12_atom_214 : decode mX12_atom.2.1 214 = .ok (.ifCond .eq 7, 3) := dX12_atom_214
theorem eX12_atom_217 : decode mX12_atom.2.1 217 = .ok (.aload_n 0, 1) := dX12_atom_217
theorem eX12_atom_218 : decode mX12_atom.2.1 218 = .ok (.invokevirtual 263, 3) := dX12_atom_218
theorem eX12_atom_221 : decode mX12_atom.2.1 221 = .ok (.aload_n 0, 1) := dX12_atom_221
theorem eX12_atom_222 : decode mX12_atom.2.1 222 = .ok (.dup, 1) := dX12_atom_222
theorem eX12_atom_223 : decode mX12_atom.2.1 223 = .ok (.getfield 266, 3) := dX12_atom_223
theorem eX12_atom_226 : decode mX12_atom.2.1 226 = .ok (.iconst 1, 1) := dX12_atom_226
theorem eX12_atom_227 : decode mX12_atom.2.1 227 = .ok (.isub, 1) := dX12_atom_227
theorem eX12_atom_228 : decode mX12_atom.2.1 228 = .ok (.putfield 266, 3) := dX12_atom_228
theorem eX12_atom_231 : decode mX12_atom.2.1 231 = .ok (.aload_n 0, 1) := dX12_atom_231
theorem eX12_atom_232 : decode mX12_atom.2.1 232 = .ok (.invokevirtual 255, 3) := dX12_atom_232
theorem eX12_atom_235 : decode mX12_atom.2.1 235 = .ok (.ifCond .eq 19, 3) := dX12_atom_235
theorem eX12_atom_238 : decode mX12_atom.2.1 238 = .ok (.aload_n 0, 1) := dX12_atom_238
theorem eX12_atom_239 : decode mX12_atom.2.1 239 = .ok (.getfield 281, 3) := dX12_atom_239
theorem eX12_atom_242 : decode mX12_atom.2.1 242 = .ok (.ifCond .eq 12, 3) := dX12_atom_242
theorem eX12_atom_245 : decode mX12_atom.2.1 245 = .ok (.aload_n 0, 1) := dX12_atom_245
theorem eX12_atom_246 : decode mX12_atom.2.1 246 = .ok (.iload_n 1, 1) := dX12_atom_246
theorem eX12_atom_247 : decode mX12_atom.2.1 247 = .ok (.iload_n 2, 1) := dX12_atom_247
theorem eX12_atom_248 : decode mX12_atom.2.1 248 = .ok (.invokevirtual 284, 3) := dX12_atom_248
theorem eX12_atom_251 : decode mX12_atom.2.1 251 = .ok (.goto 4, 3) := dX12_atom_251
theorem eX12_atom_254 : decode mX12_atom.2.1 254 = .ok (.iconst 0, 1) := dX12_atom_254
theorem eX12_atom_255 : decode mX12_atom.2.1 255 = .ok (.ireturn, 1) := dX12_atom_255
theorem eX12_begins_0 : decode mX12_begins.2.1 0 = .ok (.aload_n 0, 1) := dX12_begins_0
theorem eX12_begins_1 : decode mX12_begins.2.1 1 = .ok (.iconst 0, 1) := dX12_begins_1
theorem eX12_begins_2 : decode mX12_begins.2.1 2 = .ok (.putfield 352, 3) := dX12_begins_2
theorem eX12_begins_5 : decode mX12_begins.2.1 5 = .ok (.aload_n 0, 1) := dX12_begins_5
theorem eX12_begins_6 : decode mX12_begins.2.1 6 = .ok (.iload_n 1, 1) := dX12_begins_6
theorem eX12_begins_7 : decode mX12_begins.2.1 7 = .ok (.putfield 355, 3) := dX12_begins_7
theorem eX12_begins_10 : decode mX12_begins.2.1 10 = .ok (.aload_n 0, 1) := dX12_begins_10
theorem eX12_begins_11 : decode mX12_begins.2.1 11 = .ok (.iconst (-1), 1) := dX12_begins_11
theorem eX12_begins_12 : decode mX12_begins.2.1 12 = .ok (.putfield 358, 3) := dX12_begins_12
theorem eX12_begins_15 : decode mX12_begins.2.1 15 = .ok (.return_, 1) := dX12_begins_15
theorem eX12_beginsRing_0 : decode mX12_beginsRing.2.1 0 = .ok (.aload_n 0, 1) := dX12_beginsRing_0
theorem eX12_beginsRing_1 : decode mX12_beginsRing.2.1 1 = .ok (.iload_n 1, 1) := dX12_beginsRing_1
theorem eX12_beginsRing_2 : decode mX12_beginsRing.2.1 2 = .ok (.putfield 13, 3) := dX12_beginsRing_2
theorem eX12_beginsRing_5 : decode mX12_beginsRing.2.1 5 = .ok (.aload_n 0, 1) := dX12_beginsRing_5
theorem eX12_beginsRing_6 : decode mX12_beginsRing.2.1 6 = .ok (.iload_n 2, 1) := dX12_beginsRing_6
theorem eX12_beginsRing_7 : decode mX12_beginsRing.2.1 7 = .ok (.putfield 16, 3) := dX12_beginsRing_7
theorem eX12_beginsRing_10 : decode mX12_beginsRing.2.1 10 = .ok (.aload_n 0, 1) := dX12_beginsRing_10
theorem eX12_beginsRing_11 : decode mX12_beginsRing.2.1 11 = .ok (.iload_n 3, 1) := dX12_beginsRing_11
theorem eX12_beginsRing_12 : decode mX12_beginsRing.2.1 12 = .ok (.putfield 19, 3) := dX12_beginsRing_12
theorem eX12_beginsRing_15 : decode mX12_beginsRing.2.1 15 = .ok (.aload_n 0, 1) := dX12_beginsRing_15
theorem eX12_beginsRing_16 : decode mX12_beginsRing.2.1 16 = .ok (.aload_n 0, 1) := dX12_beginsRing_16
theorem eX12_beginsRing_17 : decode mX12_beginsRing.2.1 17 = .ok (.getfield 13, 3) := dX12_beginsRing_17
theorem eX12_beginsRing_20 : decode mX12_beginsRing.2.1 20 = .ok (.aload_n 0, 1) := dX12_beginsRing_20
theorem eX12_beginsRing_21 : decode mX12_beginsRing.2.1 21 = .ok (.getfield 16, 3) := dX12_beginsRing_21
theorem eX12_beginsRing_24 : decode mX12_beginsRing.2.1 24 = .ok (.invokestatic 115, 3) := dX12_beginsRing_24
theorem eX12_beginsRing_27 : decode mX12_beginsRing.2.1 27 = .ok (.putfield 22, 3) := dX12_beginsRing_27
theorem eX12_beginsRing_30 : decode mX12_beginsRing.2.1 30 = .ok (.aload_n 0, 1) := dX12_beginsRing_30
theorem eX12_beginsRing_31 : decode mX12_beginsRing.2.1 31 = .ok (.aload_n 0, 1) := dX12_beginsRing_31
theorem eX12_beginsRing_32 : decode mX12_beginsRing.2.1 32 = .ok (.getfield 13, 3) := dX12_beginsRing_32
theorem eX12_beginsRing_35 : decode mX12_beginsRing.2.1 35 = .ok (.aload_n 0, 1) := dX12_beginsRing_35
theorem eX12_beginsRing_36 : decode mX12_beginsRing.2.1 36 = .ok (.getfield 19, 3) := dX12_beginsRing_36
theorem eX12_beginsRing_39 : decode mX12_beginsRing.2.1 39 = .ok (.invokestatic 115, 3) := dX12_beginsRing_39
theorem eX12_beginsRing_42 : decode mX12_beginsRing.2.1 42 = .ok (.putfield 25, 3) := dX12_beginsRing_42
theorem eX12_beginsRing_45 : decode mX12_beginsRing.2.1 45 = .ok (.aload_n 0, 1) := dX12_beginsRing_45
theorem eX12_beginsRing_46 : decode mX12_beginsRing.2.1 46 = .ok (.aload_n 0, 1) := dX12_beginsRing_46
theorem eX12_beginsRing_47 : decode mX12_beginsRing.2.1 47 = .ok (.getfield 22, 3) := dX12_beginsRing_47
theorem eX12_beginsRing_50 : decode mX12_beginsRing.2.1 50 = .ok (.aload_n 0, 1) := dX12_beginsRing_50
theorem eX12_beginsRing_51 : decode mX12_beginsRing.2.1 51 = .ok (.getfield 19, 3) := dX12_beginsRing_51
theorem eX12_beginsRing_54 : decode mX12_beginsRing.2.1 54 = .ok (.invokestatic 115, 3) := dX12_beginsRing_54
theorem eX12_beginsRing_57 : decode mX12_beginsRing.2.1 57 = .ok (.putfield 28, 3) := dX12_beginsRing_57
theorem eX12_beginsRing_60 : decode mX12_beginsRing.2.1 60 = .ok (.aload_n 0, 1) := dX12_beginsRing_60
theorem eX12_beginsRing_61 : decode mX12_beginsRing.2.1 61 = .ok (.invokevirtual 151, 3) := dX12_beginsRing_61
theorem eX12_beginsRing_64 : decode mX12_beginsRing.2.1 64 = .ok (.aload_n 0, 1) := dX12_beginsRing_64
theorem eX12_beginsRing_65 : decode mX12_beginsRing.2.1 65 = .ok (.invokevirtual 154, 3) := dX12_beginsRing_65
theorem eX12_beginsRing_68 : decode mX12_beginsRing.2.1 68 = .ok (.iconst 0, 1) := dX12_beginsRing_68
theorem eX12_beginsRing_69 : decode mX12_beginsRing.2.1 69 = .ok (.istore 4, 2) := dX12_beginsRing_69
theorem eX12_beginsRing_71 : decode mX12_beginsRing.2.1 71 = .ok (.iload 4, 2) := dX12_beginsRing_71
theorem eX12_beginsRing_73 : decode mX12_beginsRing.2.1 73 = .ok (.bipush 8, 2) := dX12_beginsRing_73
theorem eX12_beginsRing_75 : decode mX12_beginsRing.2.1 75 = .ok (.if_icmp .ge 17, 3) := dX12_beginsRing_75
theorem eX12_beginsRing_78 : decode mX12_beginsRing.2.1 78 = .ok (.aload_n 0, 1) := dX12_beginsRing_78
theorem eX12_beginsRing_79 : decode mX12_beginsRing.2.1 79 = .ok (.getfield 44, 3) := dX12_beginsRing_79
theorem eX12_beginsRing_82 : decode mX12_beginsRing.2.1 82 = .ok (.iload 4, 2) := dX12_beginsRing_82
theorem eX12_beginsRing_84 : decode mX12_beginsRing.2.1 84 = .ok (.iconst 0, 1) := dX12_beginsRing_84
theorem eX12_beginsRing_85 : decode mX12_beginsRing.2.1 85 = .ok (.iastore, 1) := dX12_beginsRing_85
theorem eX12_beginsRing_86 : decode mX12_beginsRing.2.1 86 = .ok (.iinc 4 1, 3) := dX12_beginsRing_86
theorem eX12_beginsRing_89 : decode mX12_beginsRing.2.1 89 = .ok (.goto (-18), 3) := dX12_beginsRing_89
theorem eX12_beginsRing_92 : decode mX12_beginsRing.2.1 92 = .ok (.aload_n 0, 1) := dX12_beginsRing_92
theorem eX12_beginsRing_93 : decode mX12_beginsRing.2.1 93 = .ok (.iconst 1, 1) := dX12_beginsRing_93
theorem eX12_beginsRing_94 : decode mX12_beginsRing.2.1 94 = .ok (.putfield 69, 3) := dX12_beginsRing_94
theorem eX12_beginsRing_97 : decode mX12_beginsRing.2.1 97 = .ok (.aload_n 0, 1) := dX12_beginsRing_97
theorem eX12_beginsRing_98 : decode mX12_beginsRing.2.1 98 = .ok (.iconst 0, 1) := dX12_beginsRing_98
theorem eX12_beginsRing_99 : decode mX12_beginsRing.2.1 99 = .ok (.putfield 157, 3) := dX12_beginsRing_99
theorem eX12_beginsRing_102 : decode mX12_beginsRing.2.1 102 = .ok (.aload_n 0, 1) := dX12_beginsRing_102
theorem eX12_beginsRing_103 : decode mX12_beginsRing.2.1 103 = .ok (.iconst 0, 1) := dX12_beginsRing_103
theorem eX12_beginsRing_104 : decode mX12_beginsRing.2.1 104 = .ok (.putfield 160, 3) := dX12_beginsRing_104
theorem eX12_beginsRing_107 : decode mX12_beginsRing.2.1 107 = .ok (.aload_n 0, 1) := dX12_beginsRing_107
theorem eX12_beginsRing_108 : decode mX12_beginsRing.2.1 108 = .ok (.invokevirtual 164, 3) := dX12_beginsRing_108
theorem eX12_beginsRing_111 : decode mX12_beginsRing.2.1 111 = .ok (.return_, 1) := dX12_beginsRing_111
theorem eX12_byP_0 : decode mX12_byP.2.1 0 = .ok (.aload_n 0, 1) := dX12_byP_0
theorem eX12_byP_1 : decode mX12_byP.2.1 1 = .ok (.aload_n 0, 1) := dX12_byP_1
theorem eX12_byP_2 : decode mX12_byP.2.1 2 = .ok (.getfield 50, 3) := dX12_byP_2
theorem eX12_byP_5 : decode mX12_byP.2.1 5 = .ok (.iload_n 1, 1) := dX12_byP_5
theorem eX12_byP_6 : decode mX12_byP.2.1 6 = .ok (.invokevirtual 122, 3) := dX12_byP_6
theorem eX12_byP_9 : decode mX12_byP.2.1 9 = .ok (.iconst 0, 1) := dX12_byP_9
theorem eX12_byP_10 : decode mX12_byP.2.1 10 = .ok (.istore_n 2, 1) := dX12_byP_10
theorem eX12_byP_11 : decode mX12_byP.2.1 11 = .ok (.iload_n 2, 1) := dX12_byP_11
theorem eX12_byP_12 : decode mX12_byP.2.1 12 = .ok (.aload_n 0, 1) := dX12_byP_12
theorem eX12_byP_13 : decode mX12_byP.2.1 13 = .ok (.getfield 19, 3) := dX12_byP_13
theorem eX12_byP_16 : decode mX12_byP.2.1 16 = .ok (.if_icmp .ge 22, 3) := dX12_byP_16
theorem eX12_byP_19 : decode mX12_byP.2.1 19 = .ok (.aload_n 0, 1) := dX12_byP_19
theorem eX12_byP_20 : decode mX12_byP.2.1 20 = .ok (.getfield 50, 3) := dX12_byP_20
theorem eX12_byP_23 : decode mX12_byP.2.1 23 = .ok (.iload_n 2, 1) := dX12_byP_23
theorem eX12_byP_24 : decode mX12_byP.2.1 24 = .ok (.dup2, 1) := dX12_byP_24
theorem eX12_byP_25 : decode mX12_byP.2.1 25 = .ok (.iaload, 1) := dX12_byP_25
theorem eX12_byP_26 : decode mX12_byP.2.1 26 = .ok (.aload_n 0, 1) := dX12_byP_26
theorem eX12_byP_27 : decode mX12_byP.2.1 27 = .ok (.getfield 13, 3) := dX12_byP_27
theorem eX12_byP_30 : decode mX12_byP.2.1 30 = .ok (.idiv, 1) := dX12_byP_30
theorem eX12_byP_31 : decode mX12_byP.2.1 31 = .ok (.iastore, 1) := dX12_byP_31
theorem eX12_byP_32 : decode mX12_byP.2.1 32 = .ok (.iinc 2 1, 3) := dX12_byP_32
theorem eX12_byP_35 : decode mX12_byP.2.1 35 = .ok (.goto (-24), 3) := dX12_byP_35
theorem eX12_byP_38 : decode mX12_byP.2.1 38 = .ok (.aload_n 0, 1) := dX12_byP_38
theorem eX12_byP_39 : decode mX12_byP.2.1 39 = .ok (.aload_n 0, 1) := dX12_byP_39
theorem eX12_byP_40 : decode mX12_byP.2.1 40 = .ok (.getfield 50, 3) := dX12_byP_40
theorem eX12_byP_43 : decode mX12_byP.2.1 43 = .ok (.invokevirtual 126, 3) := dX12_byP_43
theorem eX12_byP_46 : decode mX12_byP.2.1 46 = .ok (.ireturn, 1) := dX12_byP_46
theorem eX12_byteAt_0 : decode mX12_byteAt.2.1 0 = .ok (.iload_n 1, 1) := dX12_byteAt_0
theorem eX12_byteAt_1 : decode mX12_byteAt.2.1 1 = .ok (.aload_n 0, 1) := dX12_byteAt_1
theorem eX12_byteAt_2 : decode mX12_byteAt.2.1 2 = .ok (.getfield 220, 3) := dX12_byteAt_2
theorem eX12_byteAt_5 : decode mX12_byteAt.2.1 5 = .ok (.if_icmp .ge 16, 3) := dX12_byteAt_5
theorem eX12_byteAt_8 : decode mX12_byteAt.2.1 8 = .ok (.aload_n 0, 1) := dX12_byteAt_8
theorem eX12_byteAt_9 : decode mX12_byteAt.2.1 9 = .ok (.getfield 62, 3) := dX12_byteAt_9
theorem eX12_byteAt_12 : decode mX12_byteAt.2.1 12 = .ok (.iload_n 1, 1) := dX12_byteAt_12
theorem eX12_byteAt_13 : decode mX12_byteAt.2.1 13 = .ok (.baload, 1) := dX12_byteAt_13
theorem eX12_byteAt_14 : decode mX12_byteAt.2.1 14 = .ok (.sipush 255, 3) := dX12_byteAt_14
theorem eX12_byteAt_17 : decode mX12_byteAt.2.1 17 = .ok (.iand, 1) := dX12_byteAt_17
theorem eX12_byteAt_18 : decode mX12_byteAt.2.1 18 = .ok (.goto 4, 3) := dX12_byteAt_18
theorem eX12_byteAt_21 : decode mX12_byteAt.2.1 21 = .ok (.iconst 0, 1) := dX12_byteAt_21
theorem eX12_byteAt_22 : decode mX12_byteAt.2.1 22 = .ok (.ireturn, 1) := dX12_byteAt_22
theorem eX12_check_0 : decode mX12_check.2.1 0 = .ok (.aload_n 0, 1) := dX12_check_0
theorem eX12_check_1 : decode mX12_check.2.1 1 = .ok (.invokevirtual 255, 3) := dX12_check_1
theorem eX12_check_4 : decode mX12_check.2.1 4 = .ok (.ifCond .eq 20, 3) := dX12_check_4
theorem eX12_check_7 : decode mX12_check.2.1 7 = .ok (.iload_n 1, 1) := dX12_check_7
theorem eX12_check_8 : decode mX12_check.2.1 8 = .ok (.ifCond .ne 16, 3) := dX12_check_8
theorem eX12_check_11 : decode mX12_check.2.1 11 = .ok (.aload_n 0, 1) := dX12_check_11
theorem eX12_check_12 : decode mX12_check.2.1 12 = .ok (.iload_n 2, 1) := dX12_check_12
theorem eX12_check_13 : decode mX12_check.2.1 13 = .ok (.putfield 252, 3) := dX12_check_13
theorem eX12_check_16 : decode mX12_check.2.1 16 = .ok (.aload_n 0, 1) := dX12_check_16
theorem eX12_check_17 : decode mX12_check.2.1 17 = .ok (.aload_n 0, 1) := dX12_check_17
theorem eX12_check_18 : decode mX12_check.2.1 18 = .ok (.getfield 233, 3) := dX12_check_18
theorem eX12_check_21 : decode mX12_check.2.1 21 = .ok (.putfield 66, 3) := dX12_check_21
theorem eX12_check_24 : decode mX12_check.2.1 24 = .ok (.aload_n 0, 1) := dX12_check_24
theorem eX12_check_25 : decode mX12_check.2.1 25 = .ok (.invokevirtual 255, 3) := dX12_check_25
theorem eX12_check_28 : decode mX12_check.2.1 28 = .ok (.ireturn, 1) := dX12_check_28
theorem eX12_classAt_0 : decode mX12_classAt.2.1 0 = .ok (.iload_n 2, 1) := dX12_classAt_0
theorem eX12_classAt_1 : decode mX12_classAt.2.1 1 = .ok (.istore_n 3, 1) := dX12_classAt_1
theorem eX12_classAt_2 : decode mX12_classAt.2.1 2 = .ok (.iconst 0, 1) := dX12_classAt_2
theorem eX12_classAt_3 : decode mX12_classAt.2.1 3 = .ok (.istore 4, 2) := dX12_classAt_3
theorem eX12_classAt_5 : decode mX12_classAt.2.1 5 = .ok (.iload 4, 2) := dX12_classAt_5
theorem eX12_classAt_7 : decode mX12_classAt.2.1 7 = .ok (.iload_n 1, 1) := dX12_classAt_7
theorem eX12_classAt_8 : decode mX12_classAt.2.1 8 = .ok (.if_icmp .ge 31, 3) := dX12_classAt_8
theorem eX12_classAt_11 : decode mX12_classAt.2.1 11 = .ok (.aload_n 0, 1) := dX12_classAt_11
theorem eX12_classAt_12 : decode mX12_classAt.2.1 12 = .ok (.iload_n 1, 1) := dX12_classAt_12
theorem eX12_classAt_13 : decode mX12_classAt.2.1 13 = .ok (.iload 4, 2) := dX12_classAt_13
theorem eX12_classAt_15 : decode mX12_classAt.2.1 15 = .ok (.invokevirtual 376, 3) := dX12_classAt_15
theorem eX12_classAt_18 : decode mX12_classAt.2.1 18 = .ok (.iload 4, 2) := dX12_classAt_18
theorem eX12_classAt_20 : decode mX12_classAt.2.1 20 = .ok (.if_icmp .ne 13, 3) := dX12_classAt_20
theorem eX12_classAt_23 : decode mX12_classAt.2.1 23 = .ok (.iload_n 3, 1) := dX12_classAt_23
theorem eX12_classAt_24 : decode mX12_classAt.2.1 24 = .ok (.ifCond .ne 6, 3) := dX12_classAt_24
theorem eX12_classAt_27 : decode mX12_classAt.2.1 27 = .ok (.iload 4, 2) := dX12_classAt_27
theorem eX12_classAt_29 : decode mX12_classAt.2.1 29 = .ok (.ireturn, 1) := dX12_classAt_29
theorem eX12_classAt_30 : decode mX12_classAt.2.1 30 = .ok (.iinc 3 (-1), 3) := dX12_classAt_30
theorem eX12_classAt_33 : decode mX12_classAt.2.1 33 = .ok (.iinc 4 1, 3) := dX12_classAt_33
theorem eX12_classAt_36 : decode mX12_classAt.2.1 36 = .ok (.goto (-31), 3) := dX12_classAt_36
theorem eX12_classAt_39 : decode mX12_classAt.2.1 39 = .ok (.iconst (-1), 1) := dX12_classAt_39
theorem eX12_classAt_40 : decode mX12_classAt.2.1 40 = .ok (.ireturn, 1) := dX12_classAt_40
theorem eX12_classMany_0 : decode mX12_classMany.2.1 0 = .ok (.iconst 0, 1) := dX12_classMany_0
theorem eX12_classMany_1 : decode mX12_classMany.2.1 1 = .ok (.istore_n 2, 1) := dX12_classMany_1
theorem eX12_classMany_2 : decode mX12_classMany.2.1 2 = .ok (.iconst 0, 1) := dX12_classMany_2
theorem eX12_classMany_3 : decode mX12_classMany.2.1 3 = .ok (.istore_n 3, 1) := dX12_classMany_3
theorem eX12_classMany_4 : decode mX12_classMany.2.1 4 = .ok (.iload_n 3, 1) := dX12_classMany_4
theorem eX12_classMany_5 : decode mX12_classMany.2.1 5 = .ok (.iload_n 1, 1) := dX12_classMany_5
theorem eX12_classMany_6 : decode mX12_classMany.2.1 6 = .ok (.if_icmp .ge 27, 3) := dX12_classMany_6
theorem eX12_classMany_9 : decode mX12_classMany.2.1 9 = .ok (.iload_n 2, 1) := dX12_classMany_9
theorem eX12_classMany_10 : decode mX12_classMany.2.1 10 = .ok (.aload_n 0, 1) := dX12_classMany_10
theorem eX12_classMany_11 : decode mX12_classMany.2.1 11 = .ok (.iload_n 1, 1) := dX12_classMany_11
theorem eX12_classMany_12 : decode mX12_classMany.2.1 12 = .ok (.iload_n 3, 1) := dX12_classMany_12
theorem eX12_classMany_13 : decode mX12_classMany.2.1 13 = .ok (.invokevirtual 376, 3) := dX12_classMany_13
theorem eX12_classMany_16 : decode mX12_classMany.2.1 16 = .ok (.iload_n 3, 1) := dX12_classMany_16
theorem eX12_classMany_17 : decode mX12_classMany.2.1 17 = .ok (.if_icmp .ne 7, 3) := dX12_classMany_17
theorem eX12_classMany_20 : decode mX12_classMany.2.1 20 = .ok (.iconst 1, 1) := dX12_classMany_20
theorem eX12_classMany_21 : decode mX12_classMany.2.1 21 = .ok (.goto 4, 3) := dX12_classMany_21
theorem eX12_classMany_24 : decode mX12_classMany.2.1 24 = .ok (.iconst 0, 1) := dX12_classMany_24
theorem eX12_classMany_25 : decode mX12_classMany.2.1 25 = .ok (.iadd, 1) := dX12_classMany_25
theorem eX12_classMany_26 : decode mX12_classMany.2.1 26 = .ok (.istore_n 2, 1) := dX12_classMany_26
theorem eX12_classMany_27 : decode mX12_classMany.2.1 27 = .ok (.iinc 3 1, 3) := dX12_classMany_27
theorem eX12_classMany_30 : decode mX12_classMany.2.1 30 = .ok (.goto (-26), 3) := dX12_classMany_30
theorem eX12_classMany_33 : decode mX12_classMany.2.1 33 = .ok (.iload_n 2, 1) := dX12_classMany_33
theorem eX12_classMany_34 : decode mX12_classMany.2.1 34 = .ok (.ireturn, 1) := dX12_classMany_34
theorem eX12_classOf_0 : decode mX12_classOf.2.1 0 = .ok (.iconst 0, 1) := dX12_classOf_0
theorem eX12_classOf_1 : decode mX12_classOf.2.1 1 = .ok (.istore_n 3, 1) := dX12_classOf_1
theorem eX12_classOf_2 : decode mX12_classOf.2.1 2 = .ok (.iconst 0, 1) := dX12_classOf_2
theorem eX12_classOf_3 : decode mX12_classOf.2.1 3 = .ok (.istore 4, 2) := dX12_classOf_3
theorem eX12_classOf_5 : decode mX12_classOf.2.1 5 = .ok (.iload 4, 2) := dX12_classOf_5
theorem eX12_classOf_7 : decode mX12_classOf.2.1 7 = .ok (.aload_n 0, 1) := dX12_classOf_7
theorem eX12_classOf_8 : decode mX12_classOf.2.1 8 = .ok (.iload_n 1, 1) := dX12_classOf_8
theorem eX12_classOf_9 : decode mX12_classOf.2.1 9 = .ok (.iload_n 2, 1) := dX12_classOf_9
theorem eX12_classOf_10 : decode mX12_classOf.2.1 10 = .ok (.invokevirtual 376, 3) := dX12_classOf_10
theorem eX12_classOf_13 : decode mX12_classOf.2.1 13 = .ok (.if_icmp .ge 29, 3) := dX12_classOf_13
theorem eX12_classOf_16 : decode mX12_classOf.2.1 16 = .ok (.iload_n 3, 1) := dX12_classOf_16
theorem eX12_classOf_17 : decode mX12_classOf.2.1 17 = .ok (.aload_n 0, 1) := dX12_classOf_17
theorem eX12_classOf_18 : decode mX12_classOf.2.1 18 = .ok (.iload_n 1, 1) := dX12_classOf_18
theorem eX12_classOf_19 : decode mX12_classOf.2.1 19 = .ok (.iload 4, 2) := dX12_classOf_19
theorem eX12_classOf_21 : decode mX12_classOf.2.1 21 = .ok (.invokevirtual 376, 3) := dX12_classOf_21
theorem eX12_classOf_24 : decode mX12_classOf.2.1 24 = .ok (.iload 4, 2) := dX12_classOf_24
theorem eX12_classOf_26 : decode mX12_classOf.2.1 26 = .ok (.if_icmp .ne 7, 3) := dX12_classOf_26
theorem eX12_classOf_29 : decode mX12_classOf.2.1 29 = .ok (.iconst 1, 1) := dX12_classOf_29
theorem eX12_classOf_30 : decode mX12_classOf.2.1 30 = .ok (.goto 4, 3) := dX12_classOf_30
theorem eX12_classOf_33 : decode mX12_classOf.2.1 33 = .ok (.iconst 0, 1) := dX12_classOf_33
theorem eX12_classOf_34 : decode mX12_classOf.2.1 34 = .ok (.iadd, 1) := dX12_classOf_34
theorem eX12_classOf_35 : decode mX12_classOf.2.1 35 = .ok (.istore_n 3, 1) := dX12_classOf_35
theorem eX12_classOf_36 : decode mX12_classOf.2.1 36 = .ok (.iinc 4 1, 3) := dX12_classOf_36
theorem eX12_classOf_39 : decode mX12_classOf.2.1 39 = .ok (.goto (-34), 3) := dX12_classOf_39
theorem eX12_classOf_42 : decode mX12_classOf.2.1 42 = .ok (.iload_n 3, 1) := dX12_classOf_42
theorem eX12_classOf_43 : decode mX12_classOf.2.1 43 = .ok (.ireturn, 1) := dX12_classOf_43
theorem eX12_classes_0 : decode mX12_classes.2.1 0 = .ok (.aload_n 0, 1) := dX12_classes_0
theorem eX12_classes_1 : decode mX12_classes.2.1 1 = .ok (.iconst 0, 1) := dX12_classes_1
theorem eX12_classes_2 : decode mX12_classes.2.1 2 = .ok (.putfield 1, 3) := dX12_classes_2
theorem eX12_classes_5 : decode mX12_classes.2.1 5 = .ok (.aload_n 0, 1) := dX12_classes_5
theorem eX12_classes_6 : decode mX12_classes.2.1 6 = .ok (.aload_n 0, 1) := dX12_classes_6
theorem eX12_classes_7 : decode mX12_classes.2.1 7 = .ok (.iload_n 1, 1) := dX12_classes_7
theorem eX12_classes_8 : decode mX12_classes.2.1 8 = .ok (.invokevirtual 379, 3) := dX12_classes_8
theorem eX12_classes_11 : decode mX12_classes.2.1 11 = .ok (.ifCond .eq 26, 3) := dX12_classes_11
theorem eX12_classes_14 : decode mX12_classes.2.1 14 = .ok (.iload_n 2, 1) := dX12_classes_14
theorem eX12_classes_15 : decode mX12_classes.2.1 15 = .ok (.i2l, 1) := dX12_classes_15
theorem eX12_classes_16 : decode mX12_classes.2.1 16 = .ok (.ldc2_w 350, 3) := dX12_classes_16
theorem eX12_classes_19 : decode mX12_classes.2.1 19 = .ok (.aload_n 0, 1) := dX12_classes_19
theorem eX12_classes_20 : decode mX12_classes.2.1 20 = .ok (.iload_n 1, 1) := dX12_classes_20
theorem eX12_classes_21 : decode mX12_classes.2.1 21 = .ok (.invokevirtual 382, 3) := dX12_classes_21
theorem eX12_classes_24 : decode mX12_classes.2.1 24 = .ok (.iconst 1, 1) := dX12_classes_24
theorem eX12_classes_25 : decode mX12_classes.2.1 25 = .ok (.isub, 1) := dX12_classes_25
theorem eX12_classes_26 : decode mX12_classes.2.1 26 = .ok (.i2l, 1) := dX12_classes_26
theorem eX12_classes_27 : decode mX12_classes.2.1 27 = .ok (.invokestatic 206, 3) := dX12_classes_27
theorem eX12_classes_30 : decode mX12_classes.2.1 30 = .ok (.ifCond .eq 7, 3) := dX12_classes_30
theorem eX12_classes_33 : decode mX12_classes.2.1 33 = .ok (.iconst 1, 1) := dX12_classes_33
theorem eX12_classes_34 : decode mX12_classes.2.1 34 = .ok (.goto 4, 3) := dX12_classes_34
theorem eX12_classes_37 : decode mX12_classes.2.1 37 = .ok (.iconst 0, 1) := dX12_classes_37
theorem eX12_classes_38 : decode mX12_classes.2.1 38 = .ok (.iconst 1, 1) := dX12_classes_38
theorem eX12_classes_39 : decode mX12_classes.2.1 39 = .ok (.invokevirtual 304, 3) := dX12_classes_39
theorem eX12_classes_42 : decode mX12_classes.2.1 42 = .ok (.ifCond .ne 5, 3) := dX12_classes_42
theorem eX12_classes_45 : decode mX12_classes.2.1 45 = .ok (.iconst 0, 1) := dX12_classes_45
theorem eX12_classes_46 : decode mX12_classes.2.1 46 = .ok (.ireturn, 1) := dX12_classes_46
theorem eX12_classes_47 : decode mX12_classes.2.1 47 = .ok (.iload_n 2, 1) := dX12_classes_47
theorem eX12_classes_48 : decode mX12_classes.2.1 48 = .ok (.iconst (-1), 1) := dX12_classes_48
theorem eX12_classes_49 : decode mX12_classes.2.1 49 = .ok (.if_icmp .ne 9, 3) := dX12_classes_49
theorem eX12_classes_52 : decode mX12_classes.2.1 52 = .ok (.aload_n 0, 1) := dX12_classes_52
theorem eX12_classes_53 : decode mX12_classes.2.1 53 = .ok (.iload_n 1, 1) := dX12_classes_53
theorem eX12_classes_54 : decode mX12_classes.2.1 54 = .ok (.invokevirtual 382, 3) := dX12_classes_54
theorem eX12_classes_57 : decode mX12_classes.2.1 57 = .ok (.ireturn, 1) := dX12_classes_57
theorem eX12_classes_58 : decode mX12_classes.2.1 58 = .ok (.aload_n 0, 1) := dX12_classes_58
theorem eX12_classes_59 : decode mX12_classes.2.1 59 = .ok (.iload_n 3, 1) := dX12_classes_59
theorem eX12_classes_60 : decode mX12_classes.2.1 60 = .ok (.iconst (-1), 1) := dX12_classes_60
theorem eX12_classes_61 : decode mX12_classes.2.1 61 = .ok (.if_icmp .lt 7, 3) := dX12_classes_61
theorem eX12_classes_64 : decode mX12_classes.2.1 64 = .ok (.iconst 1, 1) := dX12_classes_64
theorem eX12_classes_65 : decode mX12_classes.2.1 65 = .ok (.goto 4, 3) := dX12_classes_65
theorem eX12_classes_68 : decode mX12_classes.2.1 68 = .ok (.iconst 0, 1) := dX12_classes_68
theorem eX12_classes_69 : decode mX12_classes.2.1 69 = .ok (.iconst 1, 1) := dX12_classes_69
theorem eX12_classes_70 : decode mX12_classes.2.1 70 = .ok (.invokevirtual 304, 3) := dX12_classes_70
theorem eX12_classes_73 : decode mX12_classes.2.1 73 = .ok (.ifCond .ne 5, 3) := dX12_classes_73
theorem eX12_classes_76 : decode mX12_classes.2.1 76 = .ok (.iconst 0, 1) := dX12_classes_76
theorem eX12_classes_77 : decode mX12_classes.2.1 77 = .ok (.ireturn, 1) := dX12_classes_77
theorem eX12_classes_78 : decode mX12_classes.2.1 78 = .ok (.aload_n 0, 1) := dX12_classes_78
theorem eX12_classes_79 : decode mX12_classes.2.1 79 = .ok (.iload_n 1, 1) := dX12_classes_79
theorem eX12_classes_80 : decode mX12_classes.2.1 80 = .ok (.iload_n 2, 1) := dX12_classes_80
theorem eX12_classes_81 : decode mX12_classes.2.1 81 = .ok (.invokevirtual 385, 3) := dX12_classes_81
theorem eX12_classes_84 : decode mX12_classes.2.1 84 = .ok (.istore 4, 2) := dX12_classes_84
theorem eX12_classes_86 : decode mX12_classes.2.1 86 = .ok (.aload_n 0, 1) := dX12_classes_86
theorem eX12_classes_87 : decode mX12_classes.2.1 87 = .ok (.iload_n 3, 1) := dX12_classes_87
theorem eX12_classes_88 : decode mX12_classes.2.1 88 = .ok (.invokevirtual 363, 3) := dX12_classes_88
theorem eX12_classes_91 : decode mX12_classes.2.1 91 = .ok (.iconst 0, 1) := dX12_classes_91
theorem eX12_classes_92 : decode mX12_classes.2.1 92 = .ok (.istore 5, 2) := dX12_classes_92
theorem eX12_classes_94 : decode mX12_classes.2.1 94 = .ok (.iload 5, 2) := dX12_classes_94
theorem eX12_classes_96 : decode mX12_classes.2.1 96 = .ok (.iload_n 1, 1) := dX12_classes_96
theorem eX12_classes_97 : decode mX12_classes.2.1 97 = .ok (.if_icmp .ge 27, 3) := dX12_classes_97
theorem eX12_classes_100 : decode mX12_classes.2.1 100 = .ok (.aload_n 0, 1) := dX12_classes_100
theorem eX12_classes_101 : decode mX12_classes.2.1 101 = .ok (.iload_n 1, 1) := dX12_classes_101
theorem eX12_classes_102 : decode mX12_classes.2.1 102 = .ok (.iload 5, 2) := dX12_classes_102
theorem eX12_classes_104 : decode mX12_classes.2.1 104 = .ok (.invokevirtual 376, 3) := dX12_classes_104
theorem eX12_classes_107 : decode mX12_classes.2.1 107 = .ok (.iload 4, 2) := dX12_classes_107
theorem eX12_classes_109 : decode mX12_classes.2.1 109 = .ok (.if_icmp .ne 9, 3) := dX12_classes_109
theorem eX12_classes_112 : decode mX12_classes.2.1 112 = .ok (.aload_n 0, 1) := dX12_classes_112
theorem eX12_classes_113 : decode mX12_classes.2.1 113 = .ok (.iload 5, 2) := dX12_classes_113
theorem eX12_classes_115 : decode mX12_classes.2.1 115 = .ok (.invokevirtual 366, 3) := dX12_classes_115
theorem eX12_classes_118 : decode mX12_classes.2.1 118 = .ok (.iinc 5 1, 3) := dX12_classes_118
theorem eX12_classes_121 : decode mX12_classes.2.1 121 = .ok (.goto (-27), 3) := dX12_classes_121
theorem eX12_classes_124 : decode mX12_classes.2.1 124 = .ok (.aload_n 0, 1) := dX12_classes_124
theorem eX12_classes_125 : decode mX12_classes.2.1 125 = .ok (.invokevirtual 369, 3) := dX12_classes_125
theorem eX12_classes_128 : decode mX12_classes.2.1 128 = .ok (.ireturn, 1) := dX12_classes_128
theorem eX12_code_0 : decode mX12_code.2.1 0 = .ok (.aload_n 0, 1) := dX12_code_0
theorem eX12_code_1 : decode mX12_code.2.1 1 = .ok (.iconst 0, 1) := dX12_code_1
theorem eX12_code_2 : decode mX12_code.2.1 2 = .ok (.putfield 1, 3) := dX12_code_2
theorem eX12_code_5 : decode mX12_code.2.1 5 = .ok (.aload_n 0, 1) := dX12_code_5
theorem eX12_code_6 : decode mX12_code.2.1 6 = .ok (.iload_n 1, 1) := dX12_code_6
theorem eX12_code_7 : decode mX12_code.2.1 7 = .ok (.invokevirtual 379, 3) := dX12_code_7
theorem eX12_code_10 : decode mX12_code.2.1 10 = .ok (.ifCond .eq 7, 3) := dX12_code_10
theorem eX12_code_13 : decode mX12_code.2.1 13 = .ok (.iload_n 2, 1) := dX12_code_13
theorem eX12_code_14 : decode mX12_code.2.1 14 = .ok (.ifCond .ge 5, 3) := dX12_code_14
theorem eX12_code_17 : decode mX12_code.2.1 17 = .ok (.iconst (-1), 1) := dX12_code_17
theorem eX12_code_18 : decode mX12_code.2.1 18 = .ok (.ireturn, 1) := dX12_code_18
theorem eX12_code_19 : decode mX12_code.2.1 19 = .ok (.aload_n 0, 1) := dX12_code_19
theorem eX12_code_20 : decode mX12_code.2.1 20 = .ok (.iload_n 1, 1) := dX12_code_20
theorem eX12_code_21 : decode mX12_code.2.1 21 = .ok (.invokevirtual 382, 3) := dX12_code_21
theorem eX12_code_24 : decode mX12_code.2.1 24 = .ok (.istore_n 3, 1) := dX12_code_24
theorem eX12_code_25 : decode mX12_code.2.1 25 = .ok (.iload_n 3, 1) := dX12_code_25
theorem eX12_code_26 : decode mX12_code.2.1 26 = .ok (.bipush 31, 2) := dX12_code_26
theorem eX12_code_28 : decode mX12_code.2.1 28 = .ok (.if_icmp .ge 11, 3) := dX12_code_28
theorem eX12_code_31 : decode mX12_code.2.1 31 = .ok (.iload_n 2, 1) := dX12_code_31
theorem eX12_code_32 : decode mX12_code.2.1 32 = .ok (.iload_n 3, 1) := dX12_code_32
theorem eX12_code_33 : decode mX12_code.2.1 33 = .ok (.ishr, 1) := dX12_code_33
theorem eX12_code_34 : decode mX12_code.2.1 34 = .ok (.ifCond .eq 5, 3) := dX12_code_34
theorem eX12_code_37 : decode mX12_code.2.1 37 = .ok (.iconst (-1), 1) := dX12_code_37
theorem eX12_code_38 : decode mX12_code.2.1 38 = .ok (.ireturn, 1) := dX12_code_38
theorem eX12_code_39 : decode mX12_code.2.1 39 = .ok (.aload_n 0, 1) := dX12_code_39
theorem eX12_code_40 : decode mX12_code.2.1 40 = .ok (.iload_n 1, 1) := dX12_code_40
theorem eX12_code_41 : decode mX12_code.2.1 41 = .ok (.putfield 69, 3) := dX12_code_41
theorem eX12_code_44 : decode mX12_code.2.1 44 = .ok (.aload_n 0, 1) := dX12_code_44
theorem eX12_code_45 : decode mX12_code.2.1 45 = .ok (.iload_n 2, 1) := dX12_code_45
theorem eX12_code_46 : decode mX12_code.2.1 46 = .ok (.putfield 157, 3) := dX12_code_46
theorem eX12_code_49 : decode mX12_code.2.1 49 = .ok (.aload_n 0, 1) := dX12_code_49
theorem eX12_code_50 : decode mX12_code.2.1 50 = .ok (.iconst 0, 1) := dX12_code_50
theorem eX12_code_51 : decode mX12_code.2.1 51 = .ok (.putfield 160, 3) := dX12_code_51
theorem eX12_code_54 : decode mX12_code.2.1 54 = .ok (.aload_n 0, 1) := dX12_code_54
theorem eX12_code_55 : decode mX12_code.2.1 55 = .ok (.invokevirtual 164, 3) := dX12_code_55
theorem eX12_code_58 : decode mX12_code.2.1 58 = .ok (.aload_n 0, 1) := dX12_code_58
theorem eX12_code_59 : decode mX12_code.2.1 59 = .ok (.getfield 69, 3) := dX12_code_59
theorem eX12_code_62 : decode mX12_code.2.1 62 = .ok (.aload_n 0, 1) := dX12_code_62
theorem eX12_code_63 : decode mX12_code.2.1 63 = .ok (.getfield 322, 3) := dX12_code_63
theorem eX12_code_66 : decode mX12_code.2.1 66 = .ok (.isub, 1) := dX12_code_66
theorem eX12_code_67 : decode mX12_code.2.1 67 = .ok (.ireturn, 1) := dX12_code_67
theorem eX12_coefficient_0 : decode mX12_coefficient.2.1 0 = .ok (.aload_n 0, 1) := dX12_coefficient_0
theorem eX12_coefficient_1 : decode mX12_coefficient.2.1 1 = .ok (.iconst 0, 1) := dX12_coefficient_1
theorem eX12_coefficient_2 : decode mX12_coefficient.2.1 2 = .ok (.putfield 1, 3) := dX12_coefficient_2
theorem eX12_coefficient_5 : decode mX12_coefficient.2.1 5 = .ok (.iload_n 1, 1) := dX12_coefficient_5
theorem eX12_coefficient_6 : decode mX12_coefficient.2.1 6 = .ok (.ifCond .ne 10, 3) := dX12_coefficient_6
theorem eX12_coefficient_9 : decode mX12_coefficient.2.1 9 = .ok (.aload_n 0, 1) := dX12_coefficient_9
theorem eX12_coefficient_10 : decode mX12_coefficient.2.1 10 = .ok (.getfield 322, 3) := dX12_coefficient_10
theorem eX12_coefficient_13 : decode mX12_coefficient.2.1 13 = .ok (.goto 12, 3) := dX12_coefficient_13
theorem eX12_coefficient_16 : decode mX12_coefficient.2.1 16 = .ok (.aload_n 0, 1) := dX12_coefficient_16
theorem eX12_coefficient_17 : decode mX12_coefficient.2.1 17 = .ok (.getfield 69, 3) := dX12_coefficient_17
theorem eX12_coefficient_20 : decode mX12_coefficient.2.1 20 = .ok (.aload_n 0, 1) := dX12_coefficient_20
theorem eX12_coefficient_21 : decode mX12_coefficient.2.1 21 = .ok (.getfield 322, 3) := dX12_coefficient_21
theorem eX12_coefficient_24 : decode mX12_coefficient.2.1 24 = .ok (.isub, 1) := dX12_coefficient_24
theorem eX12_coefficient_25 : decode mX12_coefficient.2.1 25 = .ok (.istore_n 3, 1) := dX12_coefficient_25
theorem eX12_coefficient_26 : decode mX12_coefficient.2.1 26 = .ok (.aload_n 0, 1) := dX12_coefficient_26
theorem eX12_coefficient_27 : decode mX12_coefficient.2.1 27 = .ok (.iload_n 1, 1) := dX12_coefficient_27
theorem eX12_coefficient_28 : decode mX12_coefficient.2.1 28 = .ok (.i2l, 1) := dX12_coefficient_28
theorem eX12_coefficient_29 : decode mX12_coefficient.2.1 29 = .ok (.lconst 0, 1) := dX12_coefficient_29
theorem eX12_coefficient_30 : decode mX12_coefficient.2.1 30 = .ok (.lconst 1, 1) := dX12_coefficient_30
theorem eX12_coefficient_31 : decode mX12_coefficient.2.1 31 = .ok (.invokestatic 206, 3) := dX12_coefficient_31
theorem eX12_coefficient_34 : decode mX12_coefficient.2.1 34 = .ok (.ifCond .eq 20, 3) := dX12_coefficient_34
theorem eX12_coefficient_37 : decode mX12_coefficient.2.1 37 = .ok (.iload_n 2, 1) := dX12_coefficient_37
theorem eX12_coefficient_38 : decode mX12_coefficient.2.1 38 = .ok (.i2l, 1) := dX12_coefficient_38
theorem eX12_coefficient_39 : decode mX12_coefficient.2.1 39 = .ok (.ldc2_w 350, 3) := dX12_coefficient_39
theorem eX12_coefficient_42 : decode mX12_coefficient.2.1 42 = .ok (.iload_n 3, 1) := dX12_coefficient_42
theorem eX12_coefficient_43 : decode mX12_coefficient.2.1 43 = .ok (.i2l, 1) := dX12_coefficient_43
theorem eX12_coefficient_44 : decode mX12_coefficient.2.1 44 = .ok (.invokestatic 206, 3) := dX12_coefficient_44
theorem eX12_coefficient_47 : decode mX12_coefficient.2.1 47 = .ok (.ifCond .eq 7, 3) := dX12_coefficient_47
theorem eX12_coefficient_50 : decode mX12_coefficient.2.1 50 = .ok (.iconst 1, 1) := dX12_coefficient_50
theorem eX12_coefficient_51 : decode mX12_coefficient.2.1 51 = .ok (.goto 4, 3) := dX12_coefficient_51
theorem eX12_coefficient_54 : decode mX12_coefficient.2.1 54 = .ok (.iconst 0, 1) := dX12_coefficient_54
theorem eX12_coefficient_55 : decode mX12_coefficient.2.1 55 = .ok (.iconst 1, 1) := dX12_coefficient_55
theorem eX12_coefficient_56 : decode mX12_coefficient.2.1 56 = .ok (.invokevirtual 304, 3) := dX12_coefficient_56
theorem eX12_coefficient_59 : decode mX12_coefficient.2.1 59 = .ok (.ifCond .ne 5, 3) := dX12_coefficient_59
theorem eX12_coefficient_62 : decode mX12_coefficient.2.1 62 = .ok (.iconst 0, 1) := dX12_coefficient_62
theorem eX12_coefficient_63 : decode mX12_coefficient.2.1 63 = .ok (.ireturn, 1) := dX12_coefficient_63
theorem eX12_coefficient_64 : decode mX12_coefficient.2.1 64 = .ok (.iload_n 2, 1) := dX12_coefficient_64
theorem eX12_coefficient_65 : decode mX12_coefficient.2.1 65 = .ok (.iconst (-1), 1) := dX12_coefficient_65
theorem eX12_coefficient_66 : decode mX12_coefficient.2.1 66 = .ok (.if_icmp .ne 7, 3) := dX12_coefficient_66
theorem eX12_coefficient_69 : decode mX12_coefficient.2.1 69 = .ok (.iload_n 3, 1) := dX12_coefficient_69
theorem eX12_coefficient_70 : decode mX12_coefficient.2.1 70 = .ok (.goto 22, 3) := dX12_coefficient_70
theorem eX12_coefficient_73 : decode mX12_coefficient.2.1 73 = .ok (.iload_n 1, 1) := dX12_coefficient_73
theorem eX12_coefficient_74 : decode mX12_coefficient.2.1 74 = .ok (.ifCond .ne 12, 3) := dX12_coefficient_74
theorem eX12_coefficient_77 : decode mX12_coefficient.2.1 77 = .ok (.aload_n 0, 1) := dX12_coefficient_77
theorem eX12_coefficient_78 : decode mX12_coefficient.2.1 78 = .ok (.getfield 72, 3) := dX12_coefficient_78
theorem eX12_coefficient_81 : decode mX12_coefficient.2.1 81 = .ok (.iload_n 2, 1) := dX12_coefficient_81
theorem eX12_coefficient_82 : decode mX12_coefficient.2.1 82 = .ok (.iaload, 1) := dX12_coefficient_82
theorem eX12_coefficient_83 : decode mX12_coefficient.2.1 83 = .ok (.goto 9, 3) := dX12_coefficient_83
theorem eX12_coefficient_86 : decode mX12_coefficient.2.1 86 = .ok (.aload_n 0, 1) := dX12_coefficient_86
theorem eX12_coefficient_87 : decode mX12_coefficient.2.1 87 = .ok (.getfield 75, 3) := dX12_coefficient_87
theorem eX12_coefficient_90 : decode mX12_coefficient.2.1 90 = .ok (.iload_n 2, 1) := dX12_coefficient_90
theorem eX12_coefficient_91 : decode mX12_coefficient.2.1 91 = .ok (.iaload, 1) := dX12_coefficient_91
theorem eX12_coefficient_92 : decode mX12_coefficient.2.1 92 = .ok (.ireturn, 1) := dX12_coefficient_92
theorem eX12_comes_0 : decode mX12_comes.2.1 0 = .ok (.bipush 24, 2) := dX12_comes_0
theorem eX12_comes_2 : decode mX12_comes.2.1 2 = .ok (.istore_n 2, 1) := dX12_comes_2
theorem eX12_comes_3 : decode mX12_comes.2.1 3 = .ok (.iload_n 2, 1) := dX12_comes_3
theorem eX12_comes_4 : decode mX12_comes.2.1 4 = .ok (.ifCond .lt 32, 3) := dX12_comes_4
theorem eX12_comes_7 : decode mX12_comes.2.1 7 = .ok (.aload_n 0, 1) := dX12_comes_7
theorem eX12_comes_8 : decode mX12_comes.2.1 8 = .ok (.getfield 62, 3) := dX12_comes_8
theorem eX12_comes_11 : decode mX12_comes.2.1 11 = .ok (.aload_n 0, 1) := dX12_comes_11
theorem eX12_comes_12 : decode mX12_comes.2.1 12 = .ok (.getfield 214, 3) := dX12_comes_12
theorem eX12_comes_15 : decode mX12_comes.2.1 15 = .ok (.iload_n 1, 1) := dX12_comes_15
theorem eX12_comes_16 : decode mX12_comes.2.1 16 = .ok (.iload_n 2, 1) := dX12_comes_16
theorem eX12_comes_17 : decode mX12_comes.2.1 17 = .ok (.ishr, 1) := dX12_comes_17
theorem eX12_comes_18 : decode mX12_comes.2.1 18 = .ok (.i2b, 1) := dX12_comes_18
theorem eX12_comes_19 : decode mX12_comes.2.1 19 = .ok (.bastore, 1) := dX12_comes_19
theorem eX12_comes_20 : decode mX12_comes.2.1 20 = .ok (.aload_n 0, 1) := dX12_comes_20
theorem eX12_comes_21 : decode mX12_comes.2.1 21 = .ok (.dup, 1) := dX12_comes_21
theorem eX12_comes_22 : decode mX12_comes.2.1 22 = .ok (.getfield 214, 3) := dX12_comes_22
theorem eX12_comes_25 : decode mX12_comes.2.1 25 = .ok (.iconst 1, 1) := dX12_comes_25
theorem eX12_comes_26 : decode mX12_comes.2.1 26 = .ok (.iadd, 1) := dX12_comes_26
theorem eX12_comes_27 : decode mX12_comes.2.1 27 = .ok (.putfield 214, 3) := dX12_comes_27
theorem eX12_comes_30 : decode mX12_comes.2.1 30 = .ok (.iinc 2 (-8), 3) := dX12_comes_30
theorem eX12_comes_33 : decode mX12_comes.2.1 33 = .ok (.goto (-30), 3) := dX12_comes_33
theorem eX12_comes_36 : decode mX12_comes.2.1 36 = .ok (.return_, 1) := dX12_comes_36
theorem eX12_common_0 : decode mX12_common.2.1 0 = .ok (.iload_n 0, 1) := dX12_common_0
theorem eX12_common_1 : decode mX12_common.2.1 1 = .ok (.istore_n 2, 1) := dX12_common_1
theorem eX12_common_2 : decode mX12_common.2.1 2 = .ok (.iload_n 1, 1) := dX12_common_2
theorem eX12_common_3 : decode mX12_common.2.1 3 = .ok (.istore_n 3, 1) := dX12_common_3
theorem eX12_common_4 : decode mX12_common.2.1 4 = .ok (.iload_n 3, 1) := dX12_common_4
theorem eX12_common_5 : decode mX12_common.2.1 5 = .ok (.ifCond .eq 16, 3) := dX12_common_5
theorem eX12_common_8 : decode mX12_common.2.1 8 = .ok (.iload_n 2, 1) := dX12_common_8
theorem eX12_common_9 : decode mX12_common.2.1 9 = .ok (.iload_n 3, 1) := dX12_common_9
theorem eX12_common_10 : decode mX12_common.2.1 10 = .ok (.irem, 1) := dX12_common_10
theorem eX12_common_11 : decode mX12_common.2.1 11 = .ok (.istore 4, 2) := dX12_common_11
theorem eX12_common_13 : decode mX12_common.2.1 13 = .ok (.iload_n 3, 1) := dX12_common_13
theorem eX12_common_14 : decode mX12_common.2.1 14 = .ok (.istore_n 2, 1) := dX12_common_14
theorem eX12_common_15 : decode mX12_common.2.1 15 = .ok (.iload 4, 2) := dX12_common_15
theorem eX12_common_17 : decode mX12_common.2.1 17 = .ok (.istore_n 3, 1) := dX12_common_17
theorem eX12_common_18 : decode mX12_common.2.1 18 = .ok (.goto (-14), 3) := dX12_common_18
theorem eX12_common_21 : decode mX12_common.2.1 21 = .ok (.iload_n 2, 1) := dX12_common_21
theorem eX12_common_22 : decode mX12_common.2.1 22 = .ok (.ireturn, 1) := dX12_common_22
theorem eX12_count_0 : decode mX12_count.2.1 0 = .ok (.aload_n 0, 1) := dX12_count_0
theorem eX12_count_1 : decode mX12_count.2.1 1 = .ok (.iconst 0, 1) := dX12_count_1
theorem eX12_count_2 : decode mX12_count.2.1 2 = .ok (.putfield 1, 3) := dX12_count_2
theorem eX12_count_5 : decode mX12_count.2.1 5 = .ok (.aload_n 0, 1) := dX12_count_5
theorem eX12_count_6 : decode mX12_count.2.1 6 = .ok (.iload_n 1, 1) := dX12_count_6
theorem eX12_count_7 : decode mX12_count.2.1 7 = .ok (.i2l, 1) := dX12_count_7
theorem eX12_count_8 : decode mX12_count.2.1 8 = .ok (.lconst 0, 1) := dX12_count_8
theorem eX12_count_9 : decode mX12_count.2.1 9 = .ok (.ldc2_w 320, 3) := dX12_count_9
theorem eX12_count_12 : decode mX12_count.2.1 12 = .ok (.invokestatic 206, 3) := dX12_count_12
theorem eX12_count_15 : decode mX12_count.2.1 15 = .ok (.iconst 1, 1) := dX12_count_15
theorem eX12_count_16 : decode mX12_count.2.1 16 = .ok (.invokevirtual 304, 3) := dX12_count_16
theorem eX12_count_19 : decode mX12_count.2.1 19 = .ok (.ifCond .ne 5, 3) := dX12_count_19
theorem eX12_count_22 : decode mX12_count.2.1 22 = .ok (.iconst 0, 1) := dX12_count_22
theorem eX12_count_23 : decode mX12_count.2.1 23 = .ok (.ireturn, 1) := dX12_count_23
theorem eX12_count_24 : decode mX12_count.2.1 24 = .ok (.iload_n 1, 1) := dX12_count_24
theorem eX12_count_25 : decode mX12_count.2.1 25 = .ok (.tableswitch 128 0 11 #[63, 68, 73, 78, 83, 88, 93, 98, 103, 108, 118, 123], 63) := dX12_count_25
theorem eX12_count_88 : decode mX12_count.2.1 88 = .ok (.aload_n 0, 1) := dX12_count_88
theorem eX12_count_89 : decode mX12_count.2.1 89 = .ok (.getfield 13, 3) := dX12_count_89
theorem eX12_count_92 : decode mX12_count.2.1 92 = .ok (.ireturn, 1) := dX12_count_92
theorem eX12_count_93 : decode mX12_count.2.1 93 = .ok (.aload_n 0, 1) := dX12_count_93
theorem eX12_count_94 : decode mX12_count.2.1 94 = .ok (.getfield 16, 3) := dX12_count_94
theorem eX12_count_97 : decode mX12_count.2.1 97 = .ok (.ireturn, 1) := dX12_count_97
theorem eX12_count_98 : decode mX12_count.2.1 98 = .ok (.aload_n 0, 1) := dX12_count_98
theorem eX12_count_99 : decode mX12_count.2.1 99 = .ok (.getfield 19, 3) := dX12_count_99
theorem eX12_count_102 : decode mX12_count.2.1 102 = .ok (.ireturn, 1) := dX12_count_102
theorem eX12_count_103 : decode mX12_count.2.1 103 = .ok (.aload_n 0, 1) := dX12_count_103
theorem eX12_count_104 : decode mX12_count.2.1 104 = .ok (.getfield 22, 3) := dX12_count_104
theorem eX12_count_107 : decode mX12_count.2.1 107 = .ok (.ireturn, 1) := dX12_count_107
theorem eX12_count_108 : decode mX12_count.2.1 108 = .ok (.aload_n 0, 1) := dX12_count_108
theorem eX12_count_109 : decode mX12_count.2.1 109 = .ok (.getfield 25, 3) := dX12_count_109
theorem eX12_count_112 : decode mX12_count.2.1 112 = .ok (.ireturn, 1) := dX12_count_112
theorem eX12_count_113 : decode mX12_count.2.1 113 = .ok (.aload_n 0, 1) := dX12_count_113
theorem eX12_count_114 : decode mX12_count.2.1 114 = .ok (.getfield 28, 3) := dX12_count_114
theorem eX12_count_117 : decode mX12_count.2.1 117 = .ok (.ireturn, 1) := dX12_count_117
theorem eX12_count_118 : decode mX12_count.2.1 118 = .ok (.aload_n 0, 1) := dX12_count_118
theorem eX12_count_119 : decode mX12_count.2.1 119 = .ok (.invokevirtual 143, 3) := dX12_count_119
theorem eX12_count_122 : decode mX12_count.2.1 122 = .ok (.ireturn, 1) := dX12_count_122
theorem eX12_count_123 : decode mX12_count.2.1 123 = .ok (.aload_n 0, 1) := dX12_count_123
theorem eX12_count_124 : decode mX12_count.2.1 124 = .ok (.getfield 179, 3) := dX12_count_124
theorem eX12_count_127 : decode mX12_count.2.1 127 = .ok (.ireturn, 1) := dX12_count_127
theorem eX12_count_128 : decode mX12_count.2.1 128 = .ok (.aload_n 0, 1) := dX12_count_128
theorem eX12_count_129 : decode mX12_count.2.1 129 = .ok (.getfield 69, 3) := dX12_count_129
theorem eX12_count_132 : decode mX12_count.2.1 132 = .ok (.ireturn, 1) := dX12_count_132
theorem eX12_count_133 : decode mX12_count.2.1 133 = .ok (.aload_n 0, 1) := dX12_count_133
theorem eX12_count_134 : decode mX12_count.2.1 134 = .ok (.getfield 69, 3) := dX12_count_134
theorem eX12_count_137 : decode mX12_count.2.1 137 = .ok (.aload_n 0, 1) := dX12_count_137
theorem eX12_count_138 : decode mX12_count.2.1 138 = .ok (.getfield 322, 3) := dX12_count_138
theorem eX12_count_141 : decode mX12_count.2.1 141 = .ok (.isub, 1) := dX12_count_141
theorem eX12_count_142 : decode mX12_count.2.1 142 = .ok (.ireturn, 1) := dX12_count_142
theorem eX12_count_143 : decode mX12_count.2.1 143 = .ok (.aload_n 0, 1) := dX12_count_143
theorem eX12_count_144 : decode mX12_count.2.1 144 = .ok (.getfield 214, 3) := dX12_count_144
theorem eX12_count_147 : decode mX12_count.2.1 147 = .ok (.ireturn, 1) := dX12_count_147
theorem eX12_count_148 : decode mX12_count.2.1 148 = .ok (.aload_n 0, 1) := dX12_count_148
theorem eX12_count_149 : decode mX12_count.2.1 149 = .ok (.invokevirtual 325, 3) := dX12_count_149
theorem eX12_count_152 : decode mX12_count.2.1 152 = .ok (.ireturn, 1) := dX12_count_152
theorem eX12_count_153 : decode mX12_count.2.1 153 = .ok (.aload_n 0, 1) := dX12_count_153
theorem eX12_count_154 : decode mX12_count.2.1 154 = .ok (.invokevirtual 328, 3) := dX12_count_154
theorem eX12_count_157 : decode mX12_count.2.1 157 = .ok (.ireturn, 1) := dX12_count_157
theorem eX12_counts_0 : decode mX12_counts.2.1 0 = .ok (.aload_n 0, 1) := dX12_counts_0
theorem eX12_counts_1 : decode mX12_counts.2.1 1 = .ok (.getfield 352, 3) := dX12_counts_1
theorem eX12_counts_4 : decode mX12_counts.2.1 4 = .ok (.aload_n 0, 1) := dX12_counts_4
theorem eX12_counts_5 : decode mX12_counts.2.1 5 = .ok (.getfield 355, 3) := dX12_counts_5
theorem eX12_counts_8 : decode mX12_counts.2.1 8 = .ok (.if_icmp .ne 8, 3) := dX12_counts_8
theorem eX12_counts_11 : decode mX12_counts.2.1 11 = .ok (.aload_n 0, 1) := dX12_counts_11
theorem eX12_counts_12 : decode mX12_counts.2.1 12 = .ok (.iload_n 1, 1) := dX12_counts_12
theorem eX12_counts_13 : decode mX12_counts.2.1 13 = .ok (.putfield 358, 3) := dX12_counts_13
theorem eX12_counts_16 : decode mX12_counts.2.1 16 = .ok (.aload_n 0, 1) := dX12_counts_16
theorem eX12_counts_17 : decode mX12_counts.2.1 17 = .ok (.dup, 1) := dX12_counts_17
theorem eX12_counts_18 : decode mX12_counts.2.1 18 = .ok (.getfield 352, 3) := dX12_counts_18
theorem eX12_counts_21 : decode mX12_counts.2.1 21 = .ok (.iconst 1, 1) := dX12_counts_21
theorem eX12_counts_22 : decode mX12_counts.2.1 22 = .ok (.iadd, 1) := dX12_counts_22
theorem eX12_counts_23 : decode mX12_counts.2.1 23 = .ok (.putfield 352, 3) := dX12_counts_23
theorem eX12_counts_26 : decode mX12_counts.2.1 26 = .ok (.return_, 1) := dX12_counts_26
theorem eX12_digit_0 : decode mX12_digit.2.1 0 = .ok (.aload_n 0, 1) := dX12_digit_0
theorem eX12_digit_1 : decode mX12_digit.2.1 1 = .ok (.iconst 0, 1) := dX12_digit_1
theorem eX12_digit_2 : decode mX12_digit.2.1 2 = .ok (.putfield 1, 3) := dX12_digit_2
theorem eX12_digit_5 : decode mX12_digit.2.1 5 = .ok (.aload_n 0, 1) := dX12_digit_5
theorem eX12_digit_6 : decode mX12_digit.2.1 6 = .ok (.aload_n 0, 1) := dX12_digit_6
theorem eX12_digit_7 : decode mX12_digit.2.1 7 = .ok (.iload_n 1, 1) := dX12_digit_7
theorem eX12_digit_8 : decode mX12_digit.2.1 8 = .ok (.invokevirtual 311, 3) := dX12_digit_8
theorem eX12_digit_11 : decode mX12_digit.2.1 11 = .ok (.ifCond .eq 23, 3) := dX12_digit_11
theorem eX12_digit_14 : decode mX12_digit.2.1 14 = .ok (.iload_n 2, 1) := dX12_digit_14
theorem eX12_digit_15 : decode mX12_digit.2.1 15 = .ok (.i2l, 1) := dX12_digit_15
theorem eX12_digit_16 : decode mX12_digit.2.1 16 = .ok (.lconst 0, 1) := dX12_digit_16
theorem eX12_digit_17 : decode mX12_digit.2.1 17 = .ok (.aload_n 0, 1) := dX12_digit_17
theorem eX12_digit_18 : decode mX12_digit.2.1 18 = .ok (.getfield 16, 3) := dX12_digit_18
theorem eX12_digit_21 : decode mX12_digit.2.1 21 = .ok (.iconst 1, 1) := dX12_digit_21
theorem eX12_digit_22 : decode mX12_digit.2.1 22 = .ok (.isub, 1) := dX12_digit_22
theorem eX12_digit_23 : decode mX12_digit.2.1 23 = .ok (.i2l, 1) := dX12_digit_23
theorem eX12_digit_24 : decode mX12_digit.2.1 24 = .ok (.invokestatic 206, 3) := dX12_digit_24
theorem eX12_digit_27 : decode mX12_digit.2.1 27 = .ok (.ifCond .eq 7, 3) := dX12_digit_27
theorem eX12_digit_30 : decode mX12_digit.2.1 30 = .ok (.iconst 1, 1) := dX12_digit_30
theorem eX12_digit_31 : decode mX12_digit.2.1 31 = .ok (.goto 4, 3) := dX12_digit_31
theorem eX12_digit_34 : decode mX12_digit.2.1 34 = .ok (.iconst 0, 1) := dX12_digit_34
theorem eX12_digit_35 : decode mX12_digit.2.1 35 = .ok (.iconst 1, 1) := dX12_digit_35
theorem eX12_digit_36 : decode mX12_digit.2.1 36 = .ok (.invokevirtual 304, 3) := dX12_digit_36
theorem eX12_digit_39 : decode mX12_digit.2.1 39 = .ok (.ifCond .ne 5, 3) := dX12_digit_39
theorem eX12_digit_42 : decode mX12_digit.2.1 42 = .ok (.iconst 0, 1) := dX12_digit_42
theorem eX12_digit_43 : decode mX12_digit.2.1 43 = .ok (.ireturn, 1) := dX12_digit_43
theorem eX12_digit_44 : decode mX12_digit.2.1 44 = .ok (.aload_n 0, 1) := dX12_digit_44
theorem eX12_digit_45 : decode mX12_digit.2.1 45 = .ok (.iload_n 1, 1) := dX12_digit_45
theorem eX12_digit_46 : decode mX12_digit.2.1 46 = .ok (.invokevirtual 191, 3) := dX12_digit_46
theorem eX12_digit_49 : decode mX12_digit.2.1 49 = .ok (.aload_n 0, 1) := dX12_digit_49
theorem eX12_digit_50 : decode mX12_digit.2.1 50 = .ok (.getfield 59, 3) := dX12_digit_50
theorem eX12_digit_53 : decode mX12_digit.2.1 53 = .ok (.iload_n 2, 1) := dX12_digit_53
theorem eX12_digit_54 : decode mX12_digit.2.1 54 = .ok (.iaload, 1) := dX12_digit_54
theorem eX12_digit_55 : decode mX12_digit.2.1 55 = .ok (.ireturn, 1) := dX12_digit_55
theorem eX12_divisors_0 : decode mX12_divisors.2.1 0 = .ok (.iconst 0, 1) := dX12_divisors_0
theorem eX12_divisors_1 : decode mX12_divisors.2.1 1 = .ok (.istore_n 1, 1) := dX12_divisors_1
theorem eX12_divisors_2 : decode mX12_divisors.2.1 2 = .ok (.iconst 1, 1) := dX12_divisors_2
theorem eX12_divisors_3 : decode mX12_divisors.2.1 3 = .ok (.istore_n 2, 1) := dX12_divisors_3
theorem eX12_divisors_4 : decode mX12_divisors.2.1 4 = .ok (.iload_n 2, 1) := dX12_divisors_4
theorem eX12_divisors_5 : decode mX12_divisors.2.1 5 = .ok (.aload_n 0, 1) := dX12_divisors_5
theorem eX12_divisors_6 : decode mX12_divisors.2.1 6 = .ok (.getfield 19, 3) := dX12_divisors_6
theorem eX12_divisors_9 : decode mX12_divisors.2.1 9 = .ok (.if_icmp .gt 26, 3) := dX12_divisors_9
theorem eX12_divisors_12 : decode mX12_divisors.2.1 12 = .ok (.iload_n 1, 1) := dX12_divisors_12
theorem eX12_divisors_13 : decode mX12_divisors.2.1 13 = .ok (.aload_n 0, 1) := dX12_divisors_13
theorem eX12_divisors_14 : decode mX12_divisors.2.1 14 = .ok (.getfield 19, 3) := dX12_divisors_14
theorem eX12_divisors_17 : decode mX12_divisors.2.1 17 = .ok (.iload_n 2, 1) := dX12_divisors_17
theorem eX12_divisors_18 : decode mX12_divisors.2.1 18 = .ok (.irem, 1) := dX12_divisors_18
theorem eX12_divisors_19 : decode mX12_divisors.2.1 19 = .ok (.ifCond .ne 7, 3) := dX12_divisors_19
theorem eX12_divisors_22 : decode mX12_divisors.2.1 22 = .ok (.iconst 1, 1) := dX12_divisors_22
theorem eX12_divisors_23 : decode mX12_divisors.2.1 23 = .ok (.goto 4, 3) := dX12_divisors_23
theorem eX12_divisors_26 : decode mX12_divisors.2.1 26 = .ok (.iconst 0, 1) := dX12_divisors_26
theorem eX12_divisors_27 : decode mX12_divisors.2.1 27 = .ok (.iadd, 1) := dX12_divisors_27
theorem eX12_divisors_28 : decode mX12_divisors.2.1 28 = .ok (.istore_n 1, 1) := dX12_divisors_28
theorem eX12_divisors_29 : decode mX12_divisors.2.1 29 = .ok (.iinc 2 1, 3) := dX12_divisors_29
theorem eX12_divisors_32 : decode mX12_divisors.2.1 32 = .ok (.goto (-28), 3) := dX12_divisors_32
theorem eX12_divisors_35 : decode mX12_divisors.2.1 35 = .ok (.iload_n 1, 1) := dX12_divisors_35
theorem eX12_divisors_36 : decode mX12_divisors.2.1 36 = .ok (.ireturn, 1) := dX12_divisors_36
theorem eX12_done_0 : decode mX12_done.2.1 0 = .ok (.iload_n 1, 1) := dX12_done_0
theorem eX12_done_1 : decode mX12_done.2.1 1 = .ok (.bipush 45, 2) := dX12_done_1
theorem eX12_done_3 : decode mX12_done.2.1 3 = .ok (.if_icmp .ne 11, 3) := dX12_done_3
theorem eX12_done_6 : decode mX12_done.2.1 6 = .ok (.aload_n 0, 1) := dX12_done_6
theorem eX12_done_7 : decode mX12_done.2.1 7 = .ok (.iconst 0, 1) := dX12_done_7
theorem eX12_done_8 : decode mX12_done.2.1 8 = .ok (.iload_n 2, 1) := dX12_done_8
theorem eX12_done_9 : decode mX12_done.2.1 9 = .ok (.iconst (-1), 1) := dX12_done_9
theorem eX12_done_10 : decode mX12_done.2.1 10 = .ok (.invokevirtual 175, 3) := dX12_done_10
theorem eX12_done_13 : decode mX12_done.2.1 13 = .ok (.ireturn, 1) := dX12_done_13
theorem eX12_done_14 : decode mX12_done.2.1 14 = .ok (.iload_n 1, 1) := dX12_done_14
theorem eX12_done_15 : decode mX12_done.2.1 15 = .ok (.bipush 109, 2) := dX12_done_15
theorem eX12_done_17 : decode mX12_done.2.1 17 = .ok (.if_icmp .ne 9, 3) := dX12_done_17
theorem eX12_done_20 : decode mX12_done.2.1 20 = .ok (.aload_n 0, 1) := dX12_done_20
theorem eX12_done_21 : decode mX12_done.2.1 21 = .ok (.iload_n 2, 1) := dX12_done_21
theorem eX12_done_22 : decode mX12_done.2.1 22 = .ok (.invokevirtual 198, 3) := dX12_done_22
theorem eX12_done_25 : decode mX12_done.2.1 25 = .ok (.ireturn, 1) := dX12_done_25
theorem eX12_done_26 : decode mX12_done.2.1 26 = .ok (.iload_n 1, 1) := dX12_done_26
theorem eX12_done_27 : decode mX12_done.2.1 27 = .ok (.bipush 114, 2) := dX12_done_27
theorem eX12_done_29 : decode mX12_done.2.1 29 = .ok (.if_icmp .ne 9, 3) := dX12_done_29
theorem eX12_done_32 : decode mX12_done.2.1 32 = .ok (.aload_n 0, 1) := dX12_done_32
theorem eX12_done_33 : decode mX12_done.2.1 33 = .ok (.iload_n 2, 1) := dX12_done_33
theorem eX12_done_34 : decode mX12_done.2.1 34 = .ok (.invokevirtual 185, 3) := dX12_done_34
theorem eX12_done_37 : decode mX12_done.2.1 37 = .ok (.ireturn, 1) := dX12_done_37
theorem eX12_done_38 : decode mX12_done.2.1 38 = .ok (.iload_n 1, 1) := dX12_done_38
theorem eX12_done_39 : decode mX12_done.2.1 39 = .ok (.bipush 105, 2) := dX12_done_39
theorem eX12_done_41 : decode mX12_done.2.1 41 = .ok (.if_icmp .ne 44, 3) := dX12_done_41
theorem eX12_done_44 : decode mX12_done.2.1 44 = .ok (.aload_n 0, 1) := dX12_done_44
theorem eX12_done_45 : decode mX12_done.2.1 45 = .ok (.aload_n 0, 1) := dX12_done_45
theorem eX12_done_46 : decode mX12_done.2.1 46 = .ok (.getfield 287, 3) := dX12_done_46
theorem eX12_done_49 : decode mX12_done.2.1 49 = .ok (.ifCond .ne 11, 3) := dX12_done_49
theorem eX12_done_52 : decode mX12_done.2.1 52 = .ok (.aload_n 0, 1) := dX12_done_52
theorem eX12_done_53 : decode mX12_done.2.1 53 = .ok (.iload_n 2, 1) := dX12_done_53
theorem eX12_done_54 : decode mX12_done.2.1 54 = .ok (.invokevirtual 290, 3) := dX12_done_54
theorem eX12_done_57 : decode mX12_done.2.1 57 = .ok (.ifCond .ne 7, 3) := dX12_done_57
theorem eX12_done_60 : decode mX12_done.2.1 60 = .ok (.iconst 1, 1) := dX12_done_60
theorem eX12_done_61 : decode mX12_done.2.1 61 = .ok (.goto 4, 3) := dX12_done_61
theorem eX12_done_64 : decode mX12_done.2.1 64 = .ok (.iconst 0, 1) := dX12_done_64
theorem eX12_done_65 : decode mX12_done.2.1 65 = .ok (.putfield 287, 3) := dX12_done_65
theorem eX12_done_68 : decode mX12_done.2.1 68 = .ok (.aload_n 0, 1) := dX12_done_68
theorem eX12_done_69 : decode mX12_done.2.1 69 = .ok (.getfield 287, 3) := dX12_done_69
theorem eX12_done_72 : decode mX12_done.2.1 72 = .ok (.ifCond .eq 7, 3) := dX12_done_72
theorem eX12_done_75 : decode mX12_done.2.1 75 = .ok (.iconst 0, 1) := dX12_done_75
theorem eX12_done_76 : decode mX12_done.2.1 76 = .ok (.goto 8, 3) := dX12_done_76
theorem eX12_done_79 : decode mX12_done.2.1 79 = .ok (.aload_n 0, 1) := dX12_done_79
theorem eX12_done_80 : decode mX12_done.2.1 80 = .ok (.iload_n 2, 1) := dX12_done_80
theorem eX12_done_81 : decode mX12_done.2.1 81 = .ok (.invokevirtual 293, 3) := dX12_done_81
theorem eX12_done_84 : decode mX12_done.2.1 84 = .ok (.ireturn, 1) := dX12_done_84
theorem eX12_done_85 : decode mX12_done.2.1 85 = .ok (.iload_n 2, 1) := dX12_done_85
theorem eX12_done_86 : decode mX12_done.2.1 86 = .ok (.ireturn, 1) := dX12_done_86
theorem eX12_element_0 : decode mX12_element.2.1 0 = .ok (.aload_n 0, 1) := dX12_element_0
theorem eX12_element_1 : decode mX12_element.2.1 1 = .ok (.iconst 0, 1) := dX12_element_1
theorem eX12_element_2 : decode mX12_element.2.1 2 = .ok (.putfield 1, 3) := dX12_element_2
theorem eX12_element_5 : decode mX12_element.2.1 5 = .ok (.aload_n 0, 1) := dX12_element_5
theorem eX12_element_6 : decode mX12_element.2.1 6 = .ok (.iload_n 1, 1) := dX12_element_6
theorem eX12_element_7 : decode mX12_element.2.1 7 = .ok (.i2l, 1) := dX12_element_7
theorem eX12_element_8 : decode mX12_element.2.1 8 = .ok (.lconst 0, 1) := dX12_element_8
theorem eX12_element_9 : decode mX12_element.2.1 9 = .ok (.ldc2_w 331, 3) := dX12_element_9
theorem eX12_element_12 : decode mX12_element.2.1 12 = .ok (.invokestatic 206, 3) := dX12_element_12
theorem eX12_element_15 : decode mX12_element.2.1 15 = .ok (.ifCond .eq 36, 3) := dX12_element_15
theorem eX12_element_18 : decode mX12_element.2.1 18 = .ok (.aload_n 0, 1) := dX12_element_18
theorem eX12_element_19 : decode mX12_element.2.1 19 = .ok (.iload_n 2, 1) := dX12_element_19
theorem eX12_element_20 : decode mX12_element.2.1 20 = .ok (.invokevirtual 311, 3) := dX12_element_20
theorem eX12_element_23 : decode mX12_element.2.1 23 = .ok (.ifCond .eq 28, 3) := dX12_element_23
theorem eX12_element_26 : decode mX12_element.2.1 26 = .ok (.aload_n 0, 1) := dX12_element_26
theorem eX12_element_27 : decode mX12_element.2.1 27 = .ok (.iload_n 3, 1) := dX12_element_27
theorem eX12_element_28 : decode mX12_element.2.1 28 = .ok (.invokevirtual 311, 3) := dX12_element_28
theorem eX12_element_31 : decode mX12_element.2.1 31 = .ok (.ifCond .eq 20, 3) := dX12_element_31
theorem eX12_element_34 : decode mX12_element.2.1 34 = .ok (.iload_n 1, 1) := dX12_element_34
theorem eX12_element_35 : decode mX12_element.2.1 35 = .ok (.iconst 3, 1) := dX12_element_35
theorem eX12_element_36 : decode mX12_element.2.1 36 = .ok (.if_icmp .lt 11, 3) := dX12_element_36
theorem eX12_element_39 : decode mX12_element.2.1 39 = .ok (.aload_n 0, 1) := dX12_element_39
theorem eX12_element_40 : decode mX12_element.2.1 40 = .ok (.iload_n 3, 1) := dX12_element_40
theorem eX12_element_41 : decode mX12_element.2.1 41 = .ok (.invokevirtual 290, 3) := dX12_element_41
theorem eX12_element_44 : decode mX12_element.2.1 44 = .ok (.ifCond .eq 7, 3) := dX12_element_44
theorem eX12_element_47 : decode mX12_element.2.1 47 = .ok (.iconst 1, 1) := dX12_element_47
theorem eX12_element_48 : decode mX12_element.2.1 48 = .ok (.goto 4, 3) := dX12_element_48
theorem eX12_element_51 : decode mX12_element.2.1 51 = .ok (.iconst 0, 1) := dX12_element_51
theorem eX12_element_52 : decode mX12_element.2.1 52 = .ok (.iconst 1, 1) := dX12_element_52
theorem eX12_element_53 : decode mX12_element.2.1 53 = .ok (.invokevirtual 304, 3) := dX12_element_53
theorem eX12_element_56 : decode mX12_element.2.1 56 = .ok (.ifCond .ne 5, 3) := dX12_element_56
theorem eX12_element_59 : decode mX12_element.2.1 59 = .ok (.iconst 0, 1) := dX12_element_59
theorem eX12_element_60 : decode mX12_element.2.1 60 = .ok (.ireturn, 1) := dX12_element_60
theorem eX12_element_61 : decode mX12_element.2.1 61 = .ok (.iload_n 1, 1) := dX12_element_61
theorem eX12_element_62 : decode mX12_element.2.1 62 = .ok (.tableswitch 49 0 2 #[26, 34, 42], 26) := dX12_element_62
theorem eX12_element_88 : decode mX12_element.2.1 88 = .ok (.aload_n 0, 1) := dX12_element_88
theorem eX12_element_89 : decode mX12_element.2.1 89 = .ok (.iload_n 2, 1) := dX12_element_89
theorem eX12_element_90 : decode mX12_element.2.1 90 = .ok (.iload_n 3, 1) := dX12_element_90
theorem eX12_element_91 : decode mX12_element.2.1 91 = .ok (.iconst 1, 1) := dX12_element_91
theorem eX12_element_92 : decode mX12_element.2.1 92 = .ok (.invokevirtual 175, 3) := dX12_element_92
theorem eX12_element_95 : decode mX12_element.2.1 95 = .ok (.ireturn, 1) := dX12_element_95
theorem eX12_element_96 : decode mX12_element.2.1 96 = .ok (.aload_n 0, 1) := dX12_element_96
theorem eX12_element_97 : decode mX12_element.2.1 97 = .ok (.iload_n 2, 1) := dX12_element_97
theorem eX12_element_98 : decode mX12_element.2.1 98 = .ok (.iload_n 3, 1) := dX12_element_98
theorem eX12_element_99 : decode mX12_element.2.1 99 = .ok (.iconst (-1), 1) := dX12_element_99
theorem eX12_element_100 : decode mX12_element.2.1 100 = .ok (.invokevirtual 175, 3) := dX12_element_100
theorem eX12_element_103 : decode mX12_element.2.1 103 = .ok (.ireturn, 1) := dX12_element_103
theorem eX12_element_104 : decode mX12_element.2.1 104 = .ok (.aload_n 0, 1) := dX12_element_104
theorem eX12_element_105 : decode mX12_element.2.1 105 = .ok (.iload_n 2, 1) := dX12_element_105
theorem eX12_element_106 : decode mX12_element.2.1 106 = .ok (.iload_n 3, 1) := dX12_element_106
theorem eX12_element_107 : decode mX12_element.2.1 107 = .ok (.invokevirtual 132, 3) := dX12_element_107
theorem eX12_element_110 : decode mX12_element.2.1 110 = .ok (.ireturn, 1) := dX12_element_110
theorem eX12_element_111 : decode mX12_element.2.1 111 = .ok (.aload_n 0, 1) := dX12_element_111
theorem eX12_element_112 : decode mX12_element.2.1 112 = .ok (.iload_n 2, 1) := dX12_element_112
theorem eX12_element_113 : decode mX12_element.2.1 113 = .ok (.aload_n 0, 1) := dX12_element_113
theorem eX12_element_114 : decode mX12_element.2.1 114 = .ok (.iload_n 3, 1) := dX12_element_114
theorem eX12_element_115 : decode mX12_element.2.1 115 = .ok (.invokevirtual 293, 3) := dX12_element_115
theorem eX12_element_118 : decode mX12_element.2.1 118 = .ok (.invokevirtual 132, 3) := dX12_element_118
theorem eX12_element_121 : decode mX12_element.2.1 121 = .ok (.ireturn, 1) := dX12_element_121
theorem eX12_elementOf_0 : decode mX12_elementOf.2.1 0 = .ok (.iconst 0, 1) := dX12_elementOf_0
theorem eX12_elementOf_1 : decode mX12_elementOf.2.1 1 = .ok (.istore_n 2, 1) := dX12_elementOf_1
theorem eX12_elementOf_2 : decode mX12_elementOf.2.1 2 = .ok (.aload_n 0, 1) := dX12_elementOf_2
theorem eX12_elementOf_3 : decode mX12_elementOf.2.1 3 = .ok (.getfield 19, 3) := dX12_elementOf_3
theorem eX12_elementOf_6 : decode mX12_elementOf.2.1 6 = .ok (.iconst 1, 1) := dX12_elementOf_6
theorem eX12_elementOf_7 : decode mX12_elementOf.2.1 7 = .ok (.isub, 1) := dX12_elementOf_7
theorem eX12_elementOf_8 : decode mX12_elementOf.2.1 8 = .ok (.istore_n 3, 1) := dX12_elementOf_8
theorem eX12_elementOf_9 : decode mX12_elementOf.2.1 9 = .ok (.iload_n 3, 1) := dX12_elementOf_9
theorem eX12_elementOf_10 : decode mX12_elementOf.2.1 10 = .ok (.ifCond .lt 20, 3) := dX12_elementOf_10
theorem eX12_elementOf_13 : decode mX12_elementOf.2.1 13 = .ok (.iload_n 2, 1) := dX12_elementOf_13
theorem eX12_elementOf_14 : decode mX12_elementOf.2.1 14 = .ok (.aload_n 0, 1) := dX12_elementOf_14
theorem eX12_elementOf_15 : decode mX12_elementOf.2.1 15 = .ok (.getfield 22, 3) := dX12_elementOf_15
theorem eX12_elementOf_18 : decode mX12_elementOf.2.1 18 = .ok (.imul, 1) := dX12_elementOf_18
theorem eX12_elementOf_19 : decode mX12_elementOf.2.1 19 = .ok (.aload_n 1, 1) := dX12_elementOf_19
theorem eX12_elementOf_20 : decode mX12_elementOf.2.1 20 = .ok (.iload_n 3, 1) := dX12_elementOf_20
theorem eX12_elementOf_21 : decode mX12_elementOf.2.1 21 = .ok (.iaload, 1) := dX12_elementOf_21
theorem eX12_elementOf_22 : decode mX12_elementOf.2.1 22 = .ok (.iadd, 1) := dX12_elementOf_22
theorem eX12_elementOf_23 : decode mX12_elementOf.2.1 23 = .ok (.istore_n 2, 1) := dX12_elementOf_23
theorem eX12_elementOf_24 : decode mX12_elementOf.2.1 24 = .ok (.iinc 3 (-1), 3) := dX12_elementOf_24
theorem eX12_elementOf_27 : decode mX12_elementOf.2.1 27 = .ok (.goto (-18), 3) := dX12_elementOf_27
theorem eX12_elementOf_30 : decode mX12_elementOf.2.1 30 = .ok (.iload_n 2, 1) := dX12_elementOf_30
theorem eX12_elementOf_31 : decode mX12_elementOf.2.1 31 = .ok (.ireturn, 1) := dX12_elementOf_31
theorem eX12_exponent_0 : decode mX12_exponent.2.1 0 = .ok (.iconst 1, 1) := dX12_exponent_0
theorem eX12_exponent_1 : decode mX12_exponent.2.1 1 = .ok (.istore_n 1, 1) := dX12_exponent_1
theorem eX12_exponent_2 : decode mX12_exponent.2.1 2 = .ok (.iconst 1, 1) := dX12_exponent_2
theorem eX12_exponent_3 : decode mX12_exponent.2.1 3 = .ok (.istore_n 2, 1) := dX12_exponent_3
theorem eX12_exponent_4 : decode mX12_exponent.2.1 4 = .ok (.iload_n 2, 1) := dX12_exponent_4
theorem eX12_exponent_5 : decode mX12_exponent.2.1 5 = .ok (.aload_n 0, 1) := dX12_exponent_5
theorem eX12_exponent_6 : decode mX12_exponent.2.1 6 = .ok (.getfield 28, 3) := dX12_exponent_6
theorem eX12_exponent_9 : decode mX12_exponent.2.1 9 = .ok (.if_icmp .ge 44, 3) := dX12_exponent_9
theorem eX12_exponent_12 : decode mX12_exponent.2.1 12 = .ok (.aload_n 0, 1) := dX12_exponent_12
theorem eX12_exponent_13 : decode mX12_exponent.2.1 13 = .ok (.iload_n 2, 1) := dX12_exponent_13
theorem eX12_exponent_14 : decode mX12_exponent.2.1 14 = .ok (.invokevirtual 290, 3) := dX12_exponent_14
theorem eX12_exponent_17 : decode mX12_exponent.2.1 17 = .ok (.ifCond .eq 30, 3) := dX12_exponent_17
theorem eX12_exponent_20 : decode mX12_exponent.2.1 20 = .ok (.aload_n 0, 1) := dX12_exponent_20
theorem eX12_exponent_21 : decode mX12_exponent.2.1 21 = .ok (.iload_n 2, 1) := dX12_exponent_21
theorem eX12_exponent_22 : decode mX12_exponent.2.1 22 = .ok (.iload_n 1, 1) := dX12_exponent_22
theorem eX12_exponent_23 : decode mX12_exponent.2.1 23 = .ok (.i2l, 1) := dX12_exponent_23
theorem eX12_exponent_24 : decode mX12_exponent.2.1 24 = .ok (.invokevirtual 147, 3) := dX12_exponent_24
theorem eX12_exponent_27 : decode mX12_exponent.2.1 27 = .ok (.iconst 1, 1) := dX12_exponent_27
theorem eX12_exponent_28 : decode mX12_exponent.2.1 28 = .ok (.if_icmp .eq 19, 3) := dX12_exponent_28
theorem eX12_exponent_31 : decode mX12_exponent.2.1 31 = .ok (.aload_n 0, 1) := dX12_exponent_31
theorem eX12_exponent_32 : decode mX12_exponent.2.1 32 = .ok (.iload_n 2, 1) := dX12_exponent_32
theorem eX12_exponent_33 : decode mX12_exponent.2.1 33 = .ok (.invokevirtual 314, 3) := dX12_exponent_33
theorem eX12_exponent_36 : decode mX12_exponent.2.1 36 = .ok (.istore_n 3, 1) := dX12_exponent_36
theorem eX12_exponent_37 : decode mX12_exponent.2.1 37 = .ok (.iload_n 1, 1) := dX12_exponent_37
theorem eX12_exponent_38 : decode mX12_exponent.2.1 38 = .ok (.iload_n 1, 1) := dX12_exponent_38
theorem eX12_exponent_39 : decode mX12_exponent.2.1 39 = .ok (.iload_n 3, 1) := dX12_exponent_39
theorem eX12_exponent_40 : decode mX12_exponent.2.1 40 = .ok (.invokestatic 317, 3) := dX12_exponent_40
theorem eX12_exponent_43 : decode mX12_exponent.2.1 43 = .ok (.idiv, 1) := dX12_exponent_43
theorem eX12_exponent_44 : decode mX12_exponent.2.1 44 = .ok (.iload_n 3, 1) := dX12_exponent_44
theorem eX12_exponent_45 : decode mX12_exponent.2.1 45 = .ok (.imul, 1) := dX12_exponent_45
theorem eX12_exponent_46 : decode mX12_exponent.2.1 46 = .ok (.istore_n 1, 1) := dX12_exponent_46
theorem eX12_exponent_47 : decode mX12_exponent.2.1 47 = .ok (.iinc 2 1, 3) := dX12_exponent_47
theorem eX12_exponent_50 : decode mX12_exponent.2.1 50 = .ok (.goto (-46), 3) := dX12_exponent_50
theorem eX12_exponent_53 : decode mX12_exponent.2.1 53 = .ok (.iload_n 1, 1) := dX12_exponent_53
theorem eX12_exponent_54 : decode mX12_exponent.2.1 54 = .ok (.ireturn, 1) := dX12_exponent_54
theorem eX12_expr_0 : decode mX12_expr.2.1 0 = .ok (.aload_n 0, 1) := dX12_expr_0
theorem eX12_expr_1 : decode mX12_expr.2.1 1 = .ok (.invokevirtual 299, 3) := dX12_expr_1
theorem eX12_expr_4 : decode mX12_expr.2.1 4 = .ok (.istore_n 1, 1) := dX12_expr_4
theorem eX12_expr_5 : decode mX12_expr.2.1 5 = .ok (.aload_n 0, 1) := dX12_expr_5
theorem eX12_expr_6 : decode mX12_expr.2.1 6 = .ok (.invokevirtual 255, 3) := dX12_expr_6
theorem eX12_expr_9 : decode mX12_expr.2.1 9 = .ok (.ifCond .eq 74, 3) := dX12_expr_9
theorem eX12_expr_12 : decode mX12_expr.2.1 12 = .ok (.aload_n 0, 1) := dX12_expr_12
theorem eX12_expr_13 : decode mX12_expr.2.1 13 = .ok (.getfield 236, 3) := dX12_expr_13
theorem eX12_expr_16 : decode mX12_expr.2.1 16 = .ok (.bipush 43, 2) := dX12_expr_16
theorem eX12_expr_18 : decode mX12_expr.2.1 18 = .ok (.if_icmp .eq 12, 3) := dX12_expr_18
theorem eX12_expr_21 : decode mX12_expr.2.1 21 = .ok (.aload_n 0, 1) := dX12_expr_21
theorem eX12_expr_22 : decode mX12_expr.2.1 22 = .ok (.getfield 236, 3) := dX12_expr_22
theorem eX12_expr_25 : decode mX12_expr.2.1 25 = .ok (.bipush 45, 2) := dX12_expr_25
theorem eX12_expr_27 : decode mX12_expr.2.1 27 = .ok (.if_icmp .ne 56, 3) := dX12_expr_27
theorem eX12_expr_30 : decode mX12_expr.2.1 30 = .ok (.aload_n 0, 1) := dX12_expr_30
theorem eX12_expr_31 : decode mX12_expr.2.1 31 = .ok (.getfield 236, 3) := dX12_expr_31
theorem eX12_expr_34 : decode mX12_expr.2.1 34 = .ok (.bipush 43, 2) := dX12_expr_34
theorem eX12_expr_36 : decode mX12_expr.2.1 36 = .ok (.if_icmp .ne 7, 3) := dX12_expr_36
theorem eX12_expr_39 : decode mX12_expr.2.1 39 = .ok (.iconst 1, 1) := dX12_expr_39
theorem eX12_expr_40 : decode mX12_expr.2.1 40 = .ok (.goto 4, 3) := dX12_expr_40
theorem eX12_expr_43 : decode mX12_expr.2.1 43 = .ok (.iconst (-1), 1) := dX12_expr_43
theorem eX12_expr_44 : decode mX12_expr.2.1 44 = .ok (.istore_n 2, 1) := dX12_expr_44
theorem eX12_expr_45 : decode mX12_expr.2.1 45 = .ok (.aload_n 0, 1) := dX12_expr_45
theorem eX12_expr_46 : decode mX12_expr.2.1 46 = .ok (.invokevirtual 263, 3) := dX12_expr_46
theorem eX12_expr_49 : decode mX12_expr.2.1 49 = .ok (.aload_n 0, 1) := dX12_expr_49
theorem eX12_expr_50 : decode mX12_expr.2.1 50 = .ok (.invokevirtual 299, 3) := dX12_expr_50
theorem eX12_expr_53 : decode mX12_expr.2.1 53 = .ok (.istore_n 3, 1) := dX12_expr_53
theorem eX12_expr_54 : decode mX12_expr.2.1 54 = .ok (.aload_n 0, 1) := dX12_expr_54
theorem eX12_expr_55 : decode mX12_expr.2.1 55 = .ok (.invokevirtual 255, 3) := dX12_expr_55
theorem eX12_expr_58 : decode mX12_expr.2.1 58 = .ok (.ifCond .eq 20, 3) := dX12_expr_58
theorem eX12_expr_61 : decode mX12_expr.2.1 61 = .ok (.aload_n 0, 1) := dX12_expr_61
theorem eX12_expr_62 : decode mX12_expr.2.1 62 = .ok (.getfield 281, 3) := dX12_expr_62
theorem eX12_expr_65 : decode mX12_expr.2.1 65 = .ok (.ifCond .eq 13, 3) := dX12_expr_65
theorem eX12_expr_68 : decode mX12_expr.2.1 68 = .ok (.aload_n 0, 1) := dX12_expr_68
theorem eX12_expr_69 : decode mX12_expr.2.1 69 = .ok (.iload_n 1, 1) := dX12_expr_69
theorem eX12_expr_70 : decode mX12_expr.2.1 70 = .ok (.iload_n 3, 1) := dX12_expr_70
theorem eX12_expr_71 : decode mX12_expr.2.1 71 = .ok (.iload_n 2, 1) := dX12_expr_71
theorem eX12_expr_72 : decode mX12_expr.2.1 72 = .ok (.invokevirtual 175, 3) := dX12_expr_72
theorem eX12_expr_75 : decode mX12_expr.2.1 75 = .ok (.goto 4, 3) := dX12_expr_75
theorem eX12_expr_78 : decode mX12_expr.2.1 78 = .ok (.iconst 0, 1) := dX12_expr_78
theorem eX12_expr_79 : decode mX12_expr.2.1 79 = .ok (.istore_n 1, 1) := dX12_expr_79
theorem eX12_expr_80 : decode mX12_expr.2.1 80 = .ok (.goto (-75), 3) := dX12_expr_80
theorem eX12_expr_83 : decode mX12_expr.2.1 83 = .ok (.iload_n 1, 1) := dX12_expr_83
theorem eX12_expr_84 : decode mX12_expr.2.1 84 = .ok (.ireturn, 1) := dX12_expr_84
theorem eX12_factor_0 : decode mX12_factor.2.1 0 = .ok (.aload_n 0, 1) := dX12_factor_0
theorem eX12_factor_1 : decode mX12_factor.2.1 1 = .ok (.invokevirtual 278, 3) := dX12_factor_1
theorem eX12_factor_4 : decode mX12_factor.2.1 4 = .ok (.istore_n 1, 1) := dX12_factor_4
theorem eX12_factor_5 : decode mX12_factor.2.1 5 = .ok (.aload_n 0, 1) := dX12_factor_5
theorem eX12_factor_6 : decode mX12_factor.2.1 6 = .ok (.invokevirtual 255, 3) := dX12_factor_6
theorem eX12_factor_9 : decode mX12_factor.2.1 9 = .ok (.ifCond .eq 12, 3) := dX12_factor_9
theorem eX12_factor_12 : decode mX12_factor.2.1 12 = .ok (.aload_n 0, 1) := dX12_factor_12
theorem eX12_factor_13 : decode mX12_factor.2.1 13 = .ok (.getfield 236, 3) := dX12_factor_13
theorem eX12_factor_16 : decode mX12_factor.2.1 16 = .ok (.bipush 94, 2) := dX12_factor_16
theorem eX12_factor_18 : decode mX12_factor.2.1 18 = .ok (.if_icmp .eq 5, 3) := dX12_factor_18
theorem eX12_factor_21 : decode mX12_factor.2.1 21 = .ok (.iload_n 1, 1) := dX12_factor_21
theorem eX12_factor_22 : decode mX12_factor.2.1 22 = .ok (.ireturn, 1) := dX12_factor_22
theorem eX12_factor_23 : decode mX12_factor.2.1 23 = .ok (.aload_n 0, 1) := dX12_factor_23
theorem eX12_factor_24 : decode mX12_factor.2.1 24 = .ok (.invokevirtual 263, 3) := dX12_factor_24
theorem eX12_factor_27 : decode mX12_factor.2.1 27 = .ok (.aload_n 0, 1) := dX12_factor_27
theorem eX12_factor_28 : decode mX12_factor.2.1 28 = .ok (.sipush 9999, 3) := dX12_factor_28
theorem eX12_factor_31 : decode mX12_factor.2.1 31 = .ok (.invokevirtual 269, 3) := dX12_factor_31
theorem eX12_factor_34 : decode mX12_factor.2.1 34 = .ok (.istore_n 2, 1) := dX12_factor_34
theorem eX12_factor_35 : decode mX12_factor.2.1 35 = .ok (.aload_n 0, 1) := dX12_factor_35
theorem eX12_factor_36 : decode mX12_factor.2.1 36 = .ok (.invokevirtual 255, 3) := dX12_factor_36
theorem eX12_factor_39 : decode mX12_factor.2.1 39 = .ok (.ifCond .eq 20, 3) := dX12_factor_39
theorem eX12_factor_42 : decode mX12_factor.2.1 42 = .ok (.aload_n 0, 1) := dX12_factor_42
theorem eX12_factor_43 : decode mX12_factor.2.1 43 = .ok (.getfield 281, 3) := dX12_factor_43
theorem eX12_factor_46 : decode mX12_factor.2.1 46 = .ok (.ifCond .eq 13, 3) := dX12_factor_46
theorem eX12_factor_49 : decode mX12_factor.2.1 49 = .ok (.aload_n 0, 1) := dX12_factor_49
theorem eX12_factor_50 : decode mX12_factor.2.1 50 = .ok (.iload_n 1, 1) := dX12_factor_50
theorem eX12_factor_51 : decode mX12_factor.2.1 51 = .ok (.iload_n 2, 1) := dX12_factor_51
theorem eX12_factor_52 : decode mX12_factor.2.1 52 = .ok (.i2l, 1) := dX12_factor_52
theorem eX12_factor_53 : decode mX12_factor.2.1 53 = .ok (.invokevirtual 147, 3) := dX12_factor_53
theorem eX12_factor_56 : decode mX12_factor.2.1 56 = .ok (.goto 4, 3) := dX12_factor_56
theorem eX12_factor_59 : decode mX12_factor.2.1 59 = .ok (.iconst 0, 1) := dX12_factor_59
theorem eX12_factor_60 : decode mX12_factor.2.1 60 = .ok (.ireturn, 1) := dX12_factor_60
theorem eX12_fault_0 : decode mX12_fault.2.1 0 = .ok (.aload_n 0, 1) := dX12_fault_0
theorem eX12_fault_1 : decode mX12_fault.2.1 1 = .ok (.iconst 0, 1) := dX12_fault_1
theorem eX12_fault_2 : decode mX12_fault.2.1 2 = .ok (.putfield 1, 3) := dX12_fault_2
theorem eX12_fault_5 : decode mX12_fault.2.1 5 = .ok (.aload_n 0, 1) := dX12_fault_5
theorem eX12_fault_6 : decode mX12_fault.2.1 6 = .ok (.getfield 66, 3) := dX12_fault_6
theorem eX12_fault_9 : decode mX12_fault.2.1 9 = .ok (.ireturn, 1) := dX12_fault_9
theorem eX12_feed_0 : decode mX12_feed.2.1 0 = .ok (.aload_n 0, 1) := dX12_feed_0
theorem eX12_feed_1 : decode mX12_feed.2.1 1 = .ok (.iconst 0, 1) := dX12_feed_1
theorem eX12_feed_2 : decode mX12_feed.2.1 2 = .ok (.putfield 1, 3) := dX12_feed_2
theorem eX12_feed_5 : decode mX12_feed.2.1 5 = .ok (.aload_n 0, 1) := dX12_feed_5
theorem eX12_feed_6 : decode mX12_feed.2.1 6 = .ok (.getfield 214, 3) := dX12_feed_6
theorem eX12_feed_9 : decode mX12_feed.2.1 9 = .ok (.bipush 20, 2) := dX12_feed_9
theorem eX12_feed_11 : decode mX12_feed.2.1 11 = .ok (.iadd, 1) := dX12_feed_11
theorem eX12_feed_12 : decode mX12_feed.2.1 12 = .ok (.sipush 200, 3) := dX12_feed_12
theorem eX12_feed_15 : decode mX12_feed.2.1 15 = .ok (.if_icmp .le 5, 3) := dX12_feed_15
theorem eX12_feed_18 : decode mX12_feed.2.1 18 = .ok (.iconst (-1), 1) := dX12_feed_18
theorem eX12_feed_19 : decode mX12_feed.2.1 19 = .ok (.ireturn, 1) := dX12_feed_19
theorem eX12_feed_20 : decode mX12_feed.2.1 20 = .ok (.aload_n 0, 1) := dX12_feed_20
theorem eX12_feed_21 : decode mX12_feed.2.1 21 = .ok (.iload_n 1, 1) := dX12_feed_21
theorem eX12_feed_22 : decode mX12_feed.2.1 22 = .ok (.invokevirtual 217, 3) := dX12_feed_22
theorem eX12_feed_25 : decode mX12_feed.2.1 25 = .ok (.aload_n 0, 1) := dX12_feed_25
theorem eX12_feed_26 : decode mX12_feed.2.1 26 = .ok (.iload_n 2, 1) := dX12_feed_26
theorem eX12_feed_27 : decode mX12_feed.2.1 27 = .ok (.invokevirtual 217, 3) := dX12_feed_27
theorem eX12_feed_30 : decode mX12_feed.2.1 30 = .ok (.aload_n 0, 1) := dX12_feed_30
theorem eX12_feed_31 : decode mX12_feed.2.1 31 = .ok (.iload_n 3, 1) := dX12_feed_31
theorem eX12_feed_32 : decode mX12_feed.2.1 32 = .ok (.invokevirtual 217, 3) := dX12_feed_32
theorem eX12_feed_35 : decode mX12_feed.2.1 35 = .ok (.aload_n 0, 1) := dX12_feed_35
theorem eX12_feed_36 : decode mX12_feed.2.1 36 = .ok (.iload 4, 2) := dX12_feed_36
theorem eX12_feed_38 : decode mX12_feed.2.1 38 = .ok (.invokevirtual 217, 3) := dX12_feed_38
theorem eX12_feed_41 : decode mX12_feed.2.1 41 = .ok (.aload_n 0, 1) := dX12_feed_41
theorem eX12_feed_42 : decode mX12_feed.2.1 42 = .ok (.iload 5, 2) := dX12_feed_42
theorem eX12_feed_44 : decode mX12_feed.2.1 44 = .ok (.invokevirtual 217, 3) := dX12_feed_44
theorem eX12_feed_47 : decode mX12_feed.2.1 47 = .ok (.aload_n 0, 1) := dX12_feed_47
theorem eX12_feed_48 : decode mX12_feed.2.1 48 = .ok (.getfield 214, 3) := dX12_feed_48
theorem eX12_feed_51 : decode mX12_feed.2.1 51 = .ok (.ireturn, 1) := dX12_feed_51
theorem eX12_figure_0 : decode mX12_figure.2.1 0 = .ok (.aload_n 0, 1) := dX12_figure_0
theorem eX12_figure_1 : decode mX12_figure.2.1 1 = .ok (.aload_n 0, 1) := dX12_figure_1
theorem eX12_figure_2 : decode mX12_figure.2.1 2 = .ok (.getfield 236, 3) := dX12_figure_2
theorem eX12_figure_5 : decode mX12_figure.2.1 5 = .ok (.sipush 1000, 3) := dX12_figure_5
theorem eX12_figure_8 : decode mX12_figure.2.1 8 = .ok (.if_icmp .ne 7, 3) := dX12_figure_8
theorem eX12_figure_11 : decode mX12_figure.2.1 11 = .ok (.iconst 1, 1) := dX12_figure_11
theorem eX12_figure_12 : decode mX12_figure.2.1 12 = .ok (.goto 4, 3) := dX12_figure_12
theorem eX12_figure_15 : decode mX12_figure.2.1 15 = .ok (.iconst 0, 1) := dX12_figure_15
theorem eX12_figure_16 : decode mX12_figure.2.1 16 = .ok (.iconst 1, 1) := dX12_figure_16
theorem eX12_figure_17 : decode mX12_figure.2.1 17 = .ok (.invokevirtual 259, 3) := dX12_figure_17
theorem eX12_figure_20 : decode mX12_figure.2.1 20 = .ok (.ifCond .eq 24, 3) := dX12_figure_20
theorem eX12_figure_23 : decode mX12_figure.2.1 23 = .ok (.aload_n 0, 1) := dX12_figure_23
theorem eX12_figure_24 : decode mX12_figure.2.1 24 = .ok (.aload_n 0, 1) := dX12_figure_24
theorem eX12_figure_25 : decode mX12_figure.2.1 25 = .ok (.getfield 245, 3) := dX12_figure_25
theorem eX12_figure_28 : decode mX12_figure.2.1 28 = .ok (.iload_n 1, 1) := dX12_figure_28
theorem eX12_figure_29 : decode mX12_figure.2.1 29 = .ok (.if_icmp .gt 7, 3) := dX12_figure_29
theorem eX12_figure_32 : decode mX12_figure.2.1 32 = .ok (.iconst 1, 1) := dX12_figure_32
theorem eX12_figure_33 : decode mX12_figure.2.1 33 = .ok (.goto 4, 3) := dX12_figure_33
theorem eX12_figure_36 : decode mX12_figure.2.1 36 = .ok (.iconst 0, 1) := dX12_figure_36
theorem eX12_figure_37 : decode mX12_figure.2.1 37 = .ok (.iconst 2, 1) := dX12_figure_37
theorem eX12_figure_38 : decode mX12_figure.2.1 38 = .ok (.invokevirtual 259, 3) := dX12_figure_38
theorem eX12_figure_41 : decode mX12_figure.2.1 41 = .ok (.ifCond .ne 5, 3) := dX12_figure_41
theorem eX12_figure_44 : decode mX12_figure.2.1 44 = .ok (.iconst 0, 1) := dX12_figure_44
theorem eX12_figure_45 : decode mX12_figure.2.1 45 = .ok (.ireturn, 1) := dX12_figure_45
theorem eX12_figure_46 : decode mX12_figure.2.1 46 = .ok (.aload_n 0, 1) := dX12_figure_46
theorem eX12_figure_47 : decode mX12_figure.2.1 47 = .ok (.getfield 245, 3) := dX12_figure_47
theorem eX12_figure_50 : decode mX12_figure.2.1 50 = .ok (.istore_n 2, 1) := dX12_figure_50
theorem eX12_figure_51 : decode mX12_figure.2.1 51 = .ok (.aload_n 0, 1) := dX12_figure_51
theorem eX12_figure_52 : decode mX12_figure.2.1 52 = .ok (.invokevirtual 263, 3) := dX12_figure_52
theorem eX12_figure_55 : decode mX12_figure.2.1 55 = .ok (.iload_n 2, 1) := dX12_figure_55
theorem eX12_figure_56 : decode mX12_figure.2.1 56 = .ok (.ireturn, 1) := dX12_figure_56
theorem eX12_fine_0 : decode mX12_fine.2.1 0 = .ok (.aload_n 0, 1) := dX12_fine_0
theorem eX12_fine_1 : decode mX12_fine.2.1 1 = .ok (.getfield 252, 3) := dX12_fine_1
theorem eX12_fine_4 : decode mX12_fine.2.1 4 = .ok (.ifCond .ne 7, 3) := dX12_fine_4
theorem eX12_fine_7 : decode mX12_fine.2.1 7 = .ok (.iconst 1, 1) := dX12_fine_7
theorem eX12_fine_8 : decode mX12_fine.2.1 8 = .ok (.goto 4, 3) := dX12_fine_8
theorem eX12_fine_11 : decode mX12_fine.2.1 11 = .ok (.iconst 0, 1) := dX12_fine_11
theorem eX12_fine_12 : decode mX12_fine.2.1 12 = .ok (.ireturn, 1) := dX12_fine_12
theorem eX12_go_0 : decode mX12_go.2.1 0 = .ok (.aload_n 0, 1) := dX12_go_0
theorem eX12_go_1 : decode mX12_go.2.1 1 = .ok (.getfield 227, 3) := dX12_go_1
theorem eX12_go_4 : decode mX12_go.2.1 4 = .ok (.aload_n 0, 1) := dX12_go_4
theorem eX12_go_5 : decode mX12_go.2.1 5 = .ok (.getfield 220, 3) := dX12_go_5
theorem eX12_go_8 : decode mX12_go.2.1 8 = .ok (.if_icmp .ge 42, 3) := dX12_go_8
theorem eX12_go_11 : decode mX12_go.2.1 11 = .ok (.aload_n 0, 1) := dX12_go_11
theorem eX12_go_12 : decode mX12_go.2.1 12 = .ok (.aload_n 0, 1) := dX12_go_12
theorem eX12_go_13 : decode mX12_go.2.1 13 = .ok (.getfield 227, 3) := dX12_go_13
theorem eX12_go_16 : decode mX12_go.2.1 16 = .ok (.invokevirtual 230, 3) := dX12_go_16
theorem eX12_go_19 : decode mX12_go.2.1 19 = .ok (.bipush 32, 2) := dX12_go_19
theorem eX12_go_21 : decode mX12_go.2.1 21 = .ok (.if_icmp .eq 16, 3) := dX12_go_21
theorem eX12_go_24 : decode mX12_go.2.1 24 = .ok (.aload_n 0, 1) := dX12_go_24
theorem eX12_go_25 : decode mX12_go.2.1 25 = .ok (.aload_n 0, 1) := dX12_go_25
theorem eX12_go_26 : decode mX12_go.2.1 26 = .ok (.getfield 227, 3) := dX12_go_26
theorem eX12_go_29 : decode mX12_go.2.1 29 = .ok (.invokevirtual 230, 3) := dX12_go_29
theorem eX12_go_32 : decode mX12_go.2.1 32 = .ok (.bipush 10, 2) := dX12_go_32
theorem eX12_go_34 : decode mX12_go.2.1 34 = .ok (.if_icmp .ne 16, 3) := dX12_go_34
theorem eX12_go_37 : decode mX12_go.2.1 37 = .ok (.aload_n 0, 1) := dX12_go_37
theorem eX12_go_38 : decode mX12_go.2.1 38 = .ok (.dup, 1) := dX12_go_38
theorem eX12_go_39 : decode mX12_go.2.1 39 = .ok (.getfield 227, 3) := dX12_go_39
theorem eX12_go_42 : decode mX12_go.2.1 42 = .ok (.iconst 1, 1) := dX12_go_42
theorem eX12_go_43 : decode mX12_go.2.1 43 = .ok (.iadd, 1) := dX12_go_43
theorem eX12_go_44 : decode mX12_go.2.1 44 = .ok (.putfield 227, 3) := dX12_go_44
theorem eX12_go_47 : decode mX12_go.2.1 47 = .ok (.goto (-47), 3) := dX12_go_47
theorem eX12_go_50 : decode mX12_go.2.1 50 = .ok (.aload_n 0, 1) := dX12_go_50
theorem eX12_go_51 : decode mX12_go.2.1 51 = .ok (.aload_n 0, 1) := dX12_go_51
theorem eX12_go_52 : decode mX12_go.2.1 52 = .ok (.getfield 227, 3) := dX12_go_52
theorem eX12_go_55 : decode mX12_go.2.1 55 = .ok (.putfield 233, 3) := dX12_go_55
theorem eX12_go_58 : decode mX12_go.2.1 58 = .ok (.aload_n 0, 1) := dX12_go_58
theorem eX12_go_59 : decode mX12_go.2.1 59 = .ok (.getfield 227, 3) := dX12_go_59
theorem eX12_go_62 : decode mX12_go.2.1 62 = .ok (.aload_n 0, 1) := dX12_go_62
theorem eX12_go_63 : decode mX12_go.2.1 63 = .ok (.getfield 220, 3) := dX12_go_63
theorem eX12_go_66 : decode mX12_go.2.1 66 = .ok (.if_icmp .ne 11, 3) := dX12_go_66
theorem eX12_go_69 : decode mX12_go.2.1 69 = .ok (.aload_n 0, 1) := dX12_go_69
theorem eX12_go_70 : decode mX12_go.2.1 70 = .ok (.sipush 1002, 3) := dX12_go_70
theorem eX12_go_73 : decode mX12_go.2.1 73 = .ok (.putfield 236, 3) := dX12_go_73
theorem eX12_go_76 : decode mX12_go.2.1 76 = .ok (.return_, 1) := dX12_go_76
theorem eX12_go_77 : decode mX12_go.2.1 77 = .ok (.aload_n 0, 1) := dX12_go_77
theorem eX12_go_78 : decode mX12_go.2.1 78 = .ok (.aload_n 0, 1) := dX12_go_78
theorem eX12_go_79 : decode mX12_go.2.1 79 = .ok (.getfield 227, 3) := dX12_go_79
theorem eX12_go_82 : decode mX12_go.2.1 82 = .ok (.invokevirtual 230, 3) := dX12_go_82
theorem eX12_go_85 : decode mX12_go.2.1 85 = .ok (.istore_n 1, 1) := dX12_go_85
theorem eX12_go_86 : decode mX12_go.2.1 86 = .ok (.iload_n 1, 1) := dX12_go_86
theorem eX12_go_87 : decode mX12_go.2.1 87 = .ok (.invokestatic 239, 3) := dX12_go_87
theorem eX12_go_90 : decode mX12_go.2.1 90 = .ok (.ifCond .ne 32, 3) := dX12_go_90
theorem eX12_go_93 : decode mX12_go.2.1 93 = .ok (.aload_n 0, 1) := dX12_go_93
theorem eX12_go_94 : decode mX12_go.2.1 94 = .ok (.iload_n 1, 1) := dX12_go_94
theorem eX12_go_95 : decode mX12_go.2.1 95 = .ok (.invokestatic 242, 3) := dX12_go_95
theorem eX12_go_98 : decode mX12_go.2.1 98 = .ok (.ifCond .eq 7, 3) := dX12_go_98
theorem eX12_go_101 : decode mX12_go.2.1 101 = .ok (.iload_n 1, 1) := dX12_go_101
theorem eX12_go_102 : decode mX12_go.2.1 102 = .ok (.goto 6, 3) := dX12_go_102
theorem eX12_go_105 : decode mX12_go.2.1 105 = .ok (.sipush 1001, 3) := dX12_go_105
theorem eX12_go_108 : decode mX12_go.2.1 108 = .ok (.putfield 236, 3) := dX12_go_108
theorem eX12_go_111 : decode mX12_go.2.1 111 = .ok (.aload_n 0, 1) := dX12_go_111
theorem eX12_go_112 : decode mX12_go.2.1 112 = .ok (.dup, 1) := dX12_go_112
theorem eX12_go_113 : decode mX12_go.2.1 113 = .ok (.getfield 227, 3) := dX12_go_113
theorem eX12_go_116 : decode mX12_go.2.1 116 = .ok (.iconst 1, 1) := dX12_go_116
theorem eX12_go_117 : decode mX12_go.2.1 117 = .ok (.iadd, 1) := dX12_go_117
theorem eX12_go_118 : decode mX12_go.2.1 118 = .ok (.putfield 227, 3) := dX12_go_118
theorem eX12_go_121 : decode mX12_go.2.1 121 = .ok (.return_, 1) := dX12_go_121
theorem eX12_go_122 : decode mX12_go.2.1 122 = .ok (.aload_n 0, 1) := dX12_go_122
theorem eX12_go_123 : decode mX12_go.2.1 123 = .ok (.sipush 1000, 3) := dX12_go_123
theorem eX12_go_126 : decode mX12_go.2.1 126 = .ok (.putfield 236, 3) := dX12_go_126
theorem eX12_go_129 : decode mX12_go.2.1 129 = .ok (.aload_n 0, 1) := dX12_go_129
theorem eX12_go_130 : decode mX12_go.2.1 130 = .ok (.iconst 0, 1) := dX12_go_130
theorem eX12_go_131 : decode mX12_go.2.1 131 = .ok (.putfield 245, 3) := dX12_go_131
theorem eX12_go_134 : decode mX12_go.2.1 134 = .ok (.aload_n 0, 1) := dX12_go_134
theorem eX12_go_135 : decode mX12_go.2.1 135 = .ok (.aload_n 0, 1) := dX12_go_135
theorem eX12_go_136 : decode mX12_go.2.1 136 = .ok (.getfield 227, 3) := dX12_go_136
theorem eX12_go_139 : decode mX12_go.2.1 139 = .ok (.invokevirtual 230, 3) := dX12_go_139
theorem eX12_go_142 : decode mX12_go.2.1 142 = .ok (.invokestatic 239, 3) := dX12_go_142
theorem eX12_go_145 : decode mX12_go.2.1 145 = .ok (.ifCond .eq 44, 3) := dX12_go_145
theorem eX12_go_148 : decode mX12_go.2.1 148 = .ok (.aload_n 0, 1) := dX12_go_148
theorem eX12_go_149 : decode mX12_go.2.1 149 = .ok (.ldc 248, 2) := dX12_go_149
theorem eX12_go_151 : decode mX12_go.2.1 151 = .ok (.bipush 10, 2) := dX12_go_151
theorem eX12_go_153 : decode mX12_go.2.1 153 = .ok (.aload_n 0, 1) := dX12_go_153
theorem eX12_go_154 : decode mX12_go.2.1 154 = .ok (.getfield 245, 3) := dX12_go_154
theorem eX12_go_157 : decode mX12_go.2.1 157 = .ok (.imul, 1) := dX12_go_157
theorem eX12_go_158 : decode mX12_go.2.1 158 = .ok (.aload_n 0, 1) := dX12_go_158
theorem eX12_go_159 : decode mX12_go.2.1 159 = .ok (.aload_n 0, 1) := dX12_go_159
theorem eX12_go_160 : decode mX12_go.2.1 160 = .ok (.getfield 227, 3) := dX12_go_160
theorem eX12_go_163 : decode mX12_go.2.1 163 = .ok (.invokevirtual 230, 3) := dX12_go_163
theorem eX12_go_166 : decode mX12_go.2.1 166 = .ok (.iadd, 1) := dX12_go_166
theorem eX12_go_167 : decode mX12_go.2.1 167 = .ok (.bipush 48, 2) := dX12_go_167
theorem eX12_go_169 : decode mX12_go.2.1 169 = .ok (.isub, 1) := dX12_go_169
theorem eX12_go_170 : decode mX12_go.2.1 170 = .ok (.invokestatic 249, 3) := dX12_go_170
theorem eX12_go_173 : decode mX12_go.2.1 173 = .ok (.putfield 245, 3) := dX12_go_173
theorem eX12_go_176 : decode mX12_go.2.1 176 = .ok (.aload_n 0, 1) := dX12_go_176
theorem eX12_go_177 : decode mX12_go.2.1 177 = .ok (.dup, 1) := dX12_go_177
theorem eX12_go_178 : decode mX12_go.2.1 178 = .ok (.getfield 227, 3) := dX12_go_178
theorem eX12_go_181 : decode mX12_go.2.1 181 = .ok (.iconst 1, 1) := dX12_go_181
theorem eX12_go_182 : decode mX12_go.2.1 182 = .ok (.iadd, 1) := dX12_go_182
theorem eX12_go_183 : decode mX12_go.2.1 183 = .ok (.putfield 227, 3) := dX12_go_183
theorem eX12_go_186 : decode mX12_go.2.1 186 = .ok (.goto (-52), 3) := dX12_go_186
theorem eX12_go_189 : decode mX12_go.2.1 189 = .ok (.return_, 1) := dX12_go_189
theorem eX12_goes_0 : decode mX12_goes.2.1 0 = .ok (.bipush 64, 2) := dX12_goes_0
theorem eX12_goes_2 : decode mX12_goes.2.1 2 = .ok (.iload_n 1, 1) := dX12_goes_2
theorem eX12_goes_3 : decode mX12_goes.2.1 3 = .ok (.imul, 1) := dX12_goes_3
theorem eX12_goes_4 : decode mX12_goes.2.1 4 = .ok (.istore_n 2, 1) := dX12_goes_4
theorem eX12_goes_5 : decode mX12_goes.2.1 5 = .ok (.iload_n 1, 1) := dX12_goes_5
theorem eX12_goes_6 : decode mX12_goes.2.1 6 = .ok (.aload_n 0, 1) := dX12_goes_6
theorem eX12_goes_7 : decode mX12_goes.2.1 7 = .ok (.getfield 69, 3) := dX12_goes_7
theorem eX12_goes_10 : decode mX12_goes.2.1 10 = .ok (.aload_n 0, 1) := dX12_goes_10
theorem eX12_goes_11 : decode mX12_goes.2.1 11 = .ok (.getfield 322, 3) := dX12_goes_11
theorem eX12_goes_14 : decode mX12_goes.2.1 14 = .ok (.isub, 1) := dX12_goes_14
theorem eX12_goes_15 : decode mX12_goes.2.1 15 = .ok (.if_icmp .ne 24, 3) := dX12_goes_15
theorem eX12_goes_18 : decode mX12_goes.2.1 18 = .ok (.aload_n 0, 1) := dX12_goes_18
theorem eX12_goes_19 : decode mX12_goes.2.1 19 = .ok (.getfield 393, 3) := dX12_goes_19
theorem eX12_goes_22 : decode mX12_goes.2.1 22 = .ok (.ifCond .eq 11, 3) := dX12_goes_22
theorem eX12_goes_25 : decode mX12_goes.2.1 25 = .ok (.aload_n 0, 1) := dX12_goes_25
theorem eX12_goes_26 : decode mX12_goes.2.1 26 = .ok (.iload_n 2, 1) := dX12_goes_26
theorem eX12_goes_27 : decode mX12_goes.2.1 27 = .ok (.invokevirtual 396, 3) := dX12_goes_27
theorem eX12_goes_30 : decode mX12_goes.2.1 30 = .ok (.goto 8, 3) := dX12_goes_30
theorem eX12_goes_33 : decode mX12_goes.2.1 33 = .ok (.aload_n 0, 1) := dX12_goes_33
theorem eX12_goes_34 : decode mX12_goes.2.1 34 = .ok (.iload_n 2, 1) := dX12_goes_34
theorem eX12_goes_35 : decode mX12_goes.2.1 35 = .ok (.invokevirtual 399, 3) := dX12_goes_35
theorem eX12_goes_38 : decode mX12_goes.2.1 38 = .ok (.return_, 1) := dX12_goes_38
theorem eX12_goes_39 : decode mX12_goes.2.1 39 = .ok (.iload_n 2, 1) := dX12_goes_39
theorem eX12_goes_40 : decode mX12_goes.2.1 40 = .ok (.bipush 64, 2) := dX12_goes_40
theorem eX12_goes_42 : decode mX12_goes.2.1 42 = .ok (.iadd, 1) := dX12_goes_42
theorem eX12_goes_43 : decode mX12_goes.2.1 43 = .ok (.istore_n 3, 1) := dX12_goes_43
theorem eX12_goes_44 : decode mX12_goes.2.1 44 = .ok (.iconst 0, 1) := dX12_goes_44
theorem eX12_goes_45 : decode mX12_goes.2.1 45 = .ok (.istore 4, 2) := dX12_goes_45
theorem eX12_goes_47 : decode mX12_goes.2.1 47 = .ok (.iload 4, 2) := dX12_goes_47
theorem eX12_goes_49 : decode mX12_goes.2.1 49 = .ok (.aload_n 0, 1) := dX12_goes_49
theorem eX12_goes_50 : decode mX12_goes.2.1 50 = .ok (.getfield 22, 3) := dX12_goes_50
theorem eX12_goes_53 : decode mX12_goes.2.1 53 = .ok (.if_icmp .ge 95, 3) := dX12_goes_53
theorem eX12_goes_56 : decode mX12_goes.2.1 56 = .ok (.iconst 0, 1) := dX12_goes_56
theorem eX12_goes_57 : decode mX12_goes.2.1 57 = .ok (.istore 5, 2) := dX12_goes_57
theorem eX12_goes_59 : decode mX12_goes.2.1 59 = .ok (.iload 5, 2) := dX12_goes_59
theorem eX12_goes_61 : decode mX12_goes.2.1 61 = .ok (.aload_n 0, 1) := dX12_goes_61
theorem eX12_goes_62 : decode mX12_goes.2.1 62 = .ok (.getfield 69, 3) := dX12_goes_62
theorem eX12_goes_65 : decode mX12_goes.2.1 65 = .ok (.if_icmp .ge 70, 3) := dX12_goes_65
theorem eX12_goes_68 : decode mX12_goes.2.1 68 = .ok (.iload 5, 2) := dX12_goes_68
theorem eX12_goes_70 : decode mX12_goes.2.1 70 = .ok (.iload_n 1, 1) := dX12_goes_70
theorem eX12_goes_71 : decode mX12_goes.2.1 71 = .ok (.if_icmp .lt 26, 3) := dX12_goes_71
theorem eX12_goes_74 : decode mX12_goes.2.1 74 = .ok (.iload 5, 2) := dX12_goes_74
theorem eX12_goes_76 : decode mX12_goes.2.1 76 = .ok (.iload_n 1, 1) := dX12_goes_76
theorem eX12_goes_77 : decode mX12_goes.2.1 77 = .ok (.isub, 1) := dX12_goes_77
theorem eX12_goes_78 : decode mX12_goes.2.1 78 = .ok (.aload_n 0, 1) := dX12_goes_78
theorem eX12_goes_79 : decode mX12_goes.2.1 79 = .ok (.getfield 322, 3) := dX12_goes_79
theorem eX12_goes_82 : decode mX12_goes.2.1 82 = .ok (.if_icmp .gt 15, 3) := dX12_goes_82
theorem eX12_goes_85 : decode mX12_goes.2.1 85 = .ok (.aload_n 0, 1) := dX12_goes_85
theorem eX12_goes_86 : decode mX12_goes.2.1 86 = .ok (.getfield 72, 3) := dX12_goes_86
theorem eX12_goes_89 : decode mX12_goes.2.1 89 = .ok (.iload 5, 2) := dX12_goes_89
theorem eX12_goes_91 : decode mX12_goes.2.1 91 = .ok (.iload_n 1, 1) := dX12_goes_91
theorem eX12_goes_92 : decode mX12_goes.2.1 92 = .ok (.isub, 1) := dX12_goes_92
theorem eX12_goes_93 : decode mX12_goes.2.1 93 = .ok (.iaload, 1) := dX12_goes_93
theorem eX12_goes_94 : decode mX12_goes.2.1 94 = .ok (.goto 4, 3) := dX12_goes_94
theorem eX12_goes_97 : decode mX12_goes.2.1 97 = .ok (.iconst 0, 1) := dX12_goes_97
theorem eX12_goes_98 : decode mX12_goes.2.1 98 = .ok (.istore 6, 2) := dX12_goes_98
theorem eX12_goes_100 : decode mX12_goes.2.1 100 = .ok (.aload_n 0, 1) := dX12_goes_100
theorem eX12_goes_101 : decode mX12_goes.2.1 101 = .ok (.getfield 78, 3) := dX12_goes_101
theorem eX12_goes_104 : decode mX12_goes.2.1 104 = .ok (.iload_n 3, 1) := dX12_goes_104
theorem eX12_goes_105 : decode mX12_goes.2.1 105 = .ok (.iload 5, 2) := dX12_goes_105
theorem eX12_goes_107 : decode mX12_goes.2.1 107 = .ok (.iadd, 1) := dX12_goes_107
theorem eX12_goes_108 : decode mX12_goes.2.1 108 = .ok (.aload_n 0, 1) := dX12_goes_108
theorem eX12_goes_109 : decode mX12_goes.2.1 109 = .ok (.getfield 78, 3) := dX12_goes_109
theorem eX12_goes_112 : decode mX12_goes.2.1 112 = .ok (.iload_n 2, 1) := dX12_goes_112
theorem eX12_goes_113 : decode mX12_goes.2.1 113 = .ok (.iload 5, 2) := dX12_goes_113
theorem eX12_goes_115 : decode mX12_goes.2.1 115 = .ok (.iadd, 1) := dX12_goes_115
theorem eX12_goes_116 : decode mX12_goes.2.1 116 = .ok (.iaload, 1) := dX12_goes_116
theorem eX12_goes_117 : decode mX12_goes.2.1 117 = .ok (.iload 4, 2) := dX12_goes_117
theorem eX12_goes_119 : decode mX12_goes.2.1 119 = .ok (.iload 6, 2) := dX12_goes_119
theorem eX12_goes_121 : decode mX12_goes.2.1 121 = .ok (.imul, 1) := dX12_goes_121
theorem eX12_goes_122 : decode mX12_goes.2.1 122 = .ok (.iadd, 1) := dX12_goes_122
theorem eX12_goes_123 : decode mX12_goes.2.1 123 = .ok (.aload_n 0, 1) := dX12_goes_123
theorem eX12_goes_124 : decode mX12_goes.2.1 124 = .ok (.getfield 22, 3) := dX12_goes_124
theorem eX12_goes_127 : decode mX12_goes.2.1 127 = .ok (.irem, 1) := dX12_goes_127
theorem eX12_goes_128 : decode mX12_goes.2.1 128 = .ok (.iastore, 1) := dX12_goes_128
theorem eX12_goes_129 : decode mX12_goes.2.1 129 = .ok (.iinc 5 1, 3) := dX12_goes_129
theorem eX12_goes_132 : decode mX12_goes.2.1 132 = .ok (.goto (-73), 3) := dX12_goes_132
theorem eX12_goes_135 : decode mX12_goes.2.1 135 = .ok (.aload_n 0, 1) := dX12_goes_135
theorem eX12_goes_136 : decode mX12_goes.2.1 136 = .ok (.iload_n 1, 1) := dX12_goes_136
theorem eX12_goes_137 : decode mX12_goes.2.1 137 = .ok (.iconst 1, 1) := dX12_goes_137
theorem eX12_goes_138 : decode mX12_goes.2.1 138 = .ok (.iadd, 1) := dX12_goes_138
theorem eX12_goes_139 : decode mX12_goes.2.1 139 = .ok (.invokevirtual 402, 3) := dX12_goes_139
theorem eX12_goes_142 : decode mX12_goes.2.1 142 = .ok (.iinc 4 1, 3) := dX12_goes_142
theorem eX12_goes_145 : decode mX12_goes.2.1 145 = .ok (.goto (-98), 3) := dX12_goes_145
theorem eX12_goes_148 : decode mX12_goes.2.1 148 = .ok (.return_, 1) := dX12_goes_148
theorem eX12_goesAll_0 : decode mX12_goesAll.2.1 0 = .ok (.aload_n 0, 1) := dX12_goesAll_0
theorem eX12_goesAll_1 : decode mX12_goesAll.2.1 1 = .ok (.iload_n 1, 1) := dX12_goesAll_1
theorem eX12_goesAll_2 : decode mX12_goesAll.2.1 2 = .ok (.putfield 393, 3) := dX12_goesAll_2
theorem eX12_goesAll_5 : decode mX12_goesAll.2.1 5 = .ok (.iconst 0, 1) := dX12_goesAll_5
theorem eX12_goesAll_6 : decode mX12_goesAll.2.1 6 = .ok (.istore_n 2, 1) := dX12_goesAll_6
theorem eX12_goesAll_7 : decode mX12_goesAll.2.1 7 = .ok (.iload_n 2, 1) := dX12_goesAll_7
theorem eX12_goesAll_8 : decode mX12_goesAll.2.1 8 = .ok (.bipush 64, 2) := dX12_goesAll_8
theorem eX12_goesAll_10 : decode mX12_goesAll.2.1 10 = .ok (.if_icmp .ge 23, 3) := dX12_goesAll_10
theorem eX12_goesAll_13 : decode mX12_goesAll.2.1 13 = .ok (.aload_n 0, 1) := dX12_goesAll_13
theorem eX12_goesAll_14 : decode mX12_goesAll.2.1 14 = .ok (.getfield 78, 3) := dX12_goesAll_14
theorem eX12_goesAll_17 : decode mX12_goesAll.2.1 17 = .ok (.iload_n 2, 1) := dX12_goesAll_17
theorem eX12_goesAll_18 : decode mX12_goesAll.2.1 18 = .ok (.iconst 0, 1) := dX12_goesAll_18
theorem eX12_goesAll_19 : decode mX12_goesAll.2.1 19 = .ok (.iastore, 1) := dX12_goesAll_19
theorem eX12_goesAll_20 : decode mX12_goesAll.2.1 20 = .ok (.aload_n 0, 1) := dX12_goesAll_20
theorem eX12_goesAll_21 : decode mX12_goesAll.2.1 21 = .ok (.getfield 81, 3) := dX12_goesAll_21
theorem eX12_goesAll_24 : decode mX12_goesAll.2.1 24 = .ok (.iload_n 2, 1) := dX12_goesAll_24
theorem eX12_goesAll_25 : decode mX12_goesAll.2.1 25 = .ok (.iconst 0, 1) := dX12_goesAll_25
theorem eX12_goesAll_26 : decode mX12_goesAll.2.1 26 = .ok (.iastore, 1) := dX12_goesAll_26
theorem eX12_goesAll_27 : decode mX12_goesAll.2.1 27 = .ok (.iinc 2 1, 3) := dX12_goesAll_27
theorem eX12_goesAll_30 : decode mX12_goesAll.2.1 30 = .ok (.goto (-23), 3) := dX12_goesAll_30
theorem eX12_goesAll_33 : decode mX12_goesAll.2.1 33 = .ok (.iconst 0, 1) := dX12_goesAll_33
theorem eX12_goesAll_34 : decode mX12_goesAll.2.1 34 = .ok (.istore_n 2, 1) := dX12_goesAll_34
theorem eX12_goesAll_35 : decode mX12_goesAll.2.1 35 = .ok (.iload_n 2, 1) := dX12_goesAll_35
theorem eX12_goesAll_36 : decode mX12_goesAll.2.1 36 = .ok (.sipush 8192, 3) := dX12_goesAll_36
theorem eX12_goesAll_39 : decode mX12_goesAll.2.1 39 = .ok (.if_icmp .ge 16, 3) := dX12_goesAll_39
theorem eX12_goesAll_42 : decode mX12_goesAll.2.1 42 = .ok (.aload_n 0, 1) := dX12_goesAll_42
theorem eX12_goesAll_43 : decode mX12_goesAll.2.1 43 = .ok (.getfield 84, 3) := dX12_goesAll_43
theorem eX12_goesAll_46 : decode mX12_goesAll.2.1 46 = .ok (.iload_n 2, 1) := dX12_goesAll_46
theorem eX12_goesAll_47 : decode mX12_goesAll.2.1 47 = .ok (.iconst 0, 1) := dX12_goesAll_47
theorem eX12_goesAll_48 : decode mX12_goesAll.2.1 48 = .ok (.iastore, 1) := dX12_goesAll_48
theorem eX12_goesAll_49 : decode mX12_goesAll.2.1 49 = .ok (.iinc 2 1, 3) := dX12_goesAll_49
theorem eX12_goesAll_52 : decode mX12_goesAll.2.1 52 = .ok (.goto (-17), 3) := dX12_goesAll_52
theorem eX12_goesAll_55 : decode mX12_goesAll.2.1 55 = .ok (.aload_n 0, 1) := dX12_goesAll_55
theorem eX12_goesAll_56 : decode mX12_goesAll.2.1 56 = .ok (.bipush 64, 2) := dX12_goesAll_56
theorem eX12_goesAll_58 : decode mX12_goesAll.2.1 58 = .ok (.putfield 405, 3) := dX12_goesAll_58
theorem eX12_goesAll_61 : decode mX12_goesAll.2.1 61 = .ok (.aload_n 0, 1) := dX12_goesAll_61
theorem eX12_goesAll_62 : decode mX12_goesAll.2.1 62 = .ok (.iconst 0, 1) := dX12_goesAll_62
theorem eX12_goesAll_63 : decode mX12_goesAll.2.1 63 = .ok (.invokevirtual 402, 3) := dX12_goesAll_63
theorem eX12_goesAll_66 : decode mX12_goesAll.2.1 66 = .ok (.return_, 1) := dX12_goesAll_66
theorem eX12_goesIn_0 : decode mX12_goesIn.2.1 0 = .ok (.aload_n 0, 1) := dX12_goesIn_0
theorem eX12_goesIn_1 : decode mX12_goesIn.2.1 1 = .ok (.aload_n 0, 1) := dX12_goesIn_1
theorem eX12_goesIn_2 : decode mX12_goesIn.2.1 2 = .ok (.getfield 266, 3) := dX12_goesIn_2
theorem eX12_goesIn_5 : decode mX12_goesIn.2.1 5 = .ok (.bipush 8, 2) := dX12_goesIn_5
theorem eX12_goesIn_7 : decode mX12_goesIn.2.1 7 = .ok (.if_icmp .ge 7, 3) := dX12_goesIn_7
theorem eX12_goesIn_10 : decode mX12_goesIn.2.1 10 = .ok (.iconst 1, 1) := dX12_goesIn_10
theorem eX12_goesIn_11 : decode mX12_goesIn.2.1 11 = .ok (.goto 4, 3) := dX12_goesIn_11
theorem eX12_goesIn_14 : decode mX12_goesIn.2.1 14 = .ok (.iconst 0, 1) := dX12_goesIn_14
theorem eX12_goesIn_15 : decode mX12_goesIn.2.1 15 = .ok (.iconst 3, 1) := dX12_goesIn_15
theorem eX12_goesIn_16 : decode mX12_goesIn.2.1 16 = .ok (.invokevirtual 259, 3) := dX12_goesIn_16
theorem eX12_goesIn_19 : decode mX12_goesIn.2.1 19 = .ok (.ifCond .ne 5, 3) := dX12_goesIn_19
theorem eX12_goesIn_22 : decode mX12_goesIn.2.1 22 = .ok (.iconst 0, 1) := dX12_goesIn_22
theorem eX12_goesIn_23 : decode mX12_goesIn.2.1 23 = .ok (.ireturn, 1) := dX12_goesIn_23
theorem eX12_goesIn_24 : decode mX12_goesIn.2.1 24 = .ok (.aload_n 0, 1) := dX12_goesIn_24
theorem eX12_goesIn_25 : decode mX12_goesIn.2.1 25 = .ok (.dup, 1) := dX12_goesIn_25
theorem eX12_goesIn_26 : decode mX12_goesIn.2.1 26 = .ok (.getfield 266, 3) := dX12_goesIn_26
theorem eX12_goesIn_29 : decode mX12_goesIn.2.1 29 = .ok (.iconst 1, 1) := dX12_goesIn_29
theorem eX12_goesIn_30 : decode mX12_goesIn.2.1 30 = .ok (.iadd, 1) := dX12_goesIn_30
theorem eX12_goesIn_31 : decode mX12_goesIn.2.1 31 = .ok (.putfield 266, 3) := dX12_goesIn_31
theorem eX12_goesIn_34 : decode mX12_goesIn.2.1 34 = .ok (.aload_n 0, 1) := dX12_goesIn_34
theorem eX12_goesIn_35 : decode mX12_goesIn.2.1 35 = .ok (.invokevirtual 263, 3) := dX12_goesIn_35
theorem eX12_goesIn_38 : decode mX12_goesIn.2.1 38 = .ok (.iconst 1, 1) := dX12_goesIn_38
theorem eX12_goesIn_39 : decode mX12_goesIn.2.1 39 = .ok (.ireturn, 1) := dX12_goesIn_39
theorem eX12_init_0 : decode mX12_init.2.1 0 = .ok (.aload_n 0, 1) := dX12_init_0
theorem eX12_init_1 : decode mX12_init.2.1 1 = .ok (.invokespecial 7, 3) := dX12_init_1
theorem eX12_init_4 : decode mX12_init.2.1 4 = .ok (.aload_n 0, 1) := dX12_init_4
theorem eX12_init_5 : decode mX12_init.2.1 5 = .ok (.iconst 2, 1) := dX12_init_5
theorem eX12_init_6 : decode mX12_init.2.1 6 = .ok (.putfield 13, 3) := dX12_init_6
theorem eX12_init_9 : decode mX12_init.2.1 9 = .ok (.aload_n 0, 1) := dX12_init_9
theorem eX12_init_10 : decode mX12_init.2.1 10 = .ok (.iconst 1, 1) := dX12_init_10
theorem eX12_init_11 : decode mX12_init.2.1 11 = .ok (.putfield 16, 3) := dX12_init_11
theorem eX12_init_14 : decode mX12_init.2.1 14 = .ok (.aload_n 0, 1) := dX12_init_14
theorem eX12_init_15 : decode mX12_init.2.1 15 = .ok (.iconst 1, 1) := dX12_init_15
theorem eX12_init_16 : decode mX12_init.2.1 16 = .ok (.putfield 19, 3) := dX12_init_16
theorem eX12_init_19 : decode mX12_init.2.1 19 = .ok (.aload_n 0, 1) := dX12_init_19
theorem eX12_init_20 : decode mX12_init.2.1 20 = .ok (.iconst 2, 1) := dX12_init_20
theorem eX12_init_21 : decode mX12_init.2.1 21 = .ok (.putfield 22, 3) := dX12_init_21
theorem eX12_init_24 : decode mX12_init.2.1 24 = .ok (.aload_n 0, 1) := dX12_init_24
theorem eX12_init_25 : decode mX12_init.2.1 25 = .ok (.iconst 2, 1) := dX12_init_25
theorem eX12_init_26 : decode mX12_init.2.1 26 = .ok (.putfield 25, 3) := dX12_init_26
theorem eX12_init_29 : decode mX12_init.2.1 29 = .ok (.aload_n 0, 1) := dX12_init_29
theorem eX12_init_30 : decode mX12_init.2.1 30 = .ok (.iconst 2, 1) := dX12_init_30
theorem eX12_init_31 : decode mX12_init.2.1 31 = .ok (.putfield 28, 3) := dX12_init_31
theorem eX12_init_34 : decode mX12_init.2.1 34 = .ok (.aload_n 0, 1) := dX12_init_34
theorem eX12_init_35 : decode mX12_init.2.1 35 = .ok (.bipush 7, 2) := dX12_init_35
theorem eX12_init_37 : decode mX12_init.2.1 37 = .ok (.newarray .int, 2) := dX12_init_37
theorem eX12_init_39 : decode mX12_init.2.1 39 = .ok (.putfield 31, 3) := dX12_init_39
theorem eX12_init_42 : decode mX12_init.2.1 42 = .ok (.aload_n 0, 1) := dX12_init_42
theorem eX12_init_43 : decode mX12_init.2.1 43 = .ok (.sipush 4096, 3) := dX12_init_43
theorem eX12_init_46 : decode mX12_init.2.1 46 = .ok (.newarray .int, 2) := dX12_init_46
theorem eX12_init_48 : decode mX12_init.2.1 48 = .ok (.putfield 35, 3) := dX12_init_48
theorem eX12_init_51 : decode mX12_init.2.1 51 = .ok (.aload_n 0, 1) := dX12_init_51
theorem eX12_init_52 : decode mX12_init.2.1 52 = .ok (.sipush 4096, 3) := dX12_init_52
theorem eX12_init_55 : decode mX12_init.2.1 55 = .ok (.newarray .int, 2) := dX12_init_55
theorem eX12_init_57 : decode mX12_init.2.1 57 = .ok (.putfield 38, 3) := dX12_init_57
theorem eX12_init_60 : decode mX12_init.2.1 60 = .ok (.aload_n 0, 1) := dX12_init_60
theorem eX12_init_61 : decode mX12_init.2.1 61 = .ok (.sipush 4096, 3) := dX12_init_61
theorem eX12_init_64 : decode mX12_init.2.1 64 = .ok (.newarray .int, 2) := dX12_init_64
theorem eX12_init_66 : decode mX12_init.2.1 66 = .ok (.putfield 41, 3) := dX12_init_66
theorem eX12_init_69 : decode mX12_init.2.1 69 = .ok (.aload_n 0, 1) := dX12_init_69
theorem eX12_init_70 : decode mX12_init.2.1 70 = .ok (.bipush 8, 2) := dX12_init_70
theorem eX12_init_72 : decode mX12_init.2.1 72 = .ok (.newarray .int, 2) := dX12_init_72
theorem eX12_init_74 : decode mX12_init.2.1 74 = .ok (.putfield 44, 3) := dX12_init_74
theorem eX12_init_77 : decode mX12_init.2.1 77 = .ok (.aload_n 0, 1) := dX12_init_77
theorem eX12_init_78 : decode mX12_init.2.1 78 = .ok (.bipush 8, 2) := dX12_init_78
theorem eX12_init_80 : decode mX12_init.2.1 80 = .ok (.newarray .int, 2) := dX12_init_80
theorem eX12_init_82 : decode mX12_init.2.1 82 = .ok (.putfield 47, 3) := dX12_init_82
theorem eX12_init_85 : decode mX12_init.2.1 85 = .ok (.aload_n 0, 1) := dX12_init_85
theorem eX12_init_86 : decode mX12_init.2.1 86 = .ok (.bipush 6, 2) := dX12_init_86
theorem eX12_init_88 : decode mX12_init.2.1 88 = .ok (.newarray .int, 2) := dX12_init_88
theorem eX12_init_90 : decode mX12_init.2.1 90 = .ok (.putfield 50, 3) := dX12_init_90
theorem eX12_init_93 : decode mX12_init.2.1 93 = .ok (.aload_n 0, 1) := dX12_init_93
theorem eX12_init_94 : decode mX12_init.2.1 94 = .ok (.bipush 6, 2) := dX12_init_94
theorem eX12_init_96 : decode mX12_init.2.1 96 = .ok (.newarray .int, 2) := dX12_init_96
theorem eX12_init_98 : decode mX12_init.2.1 98 = .ok (.putfield 53, 3) := dX12_init_98
theorem eX12_init_101 : decode mX12_init.2.1 101 = .ok (.aload_n 0, 1) := dX12_init_101
theorem eX12_init_102 : decode mX12_init.2.1 102 = .ok (.bipush 12, 2) := dX12_init_102
theorem eX12_init_104 : decode mX12_init.2.1 104 = .ok (.newarray .int, 2) := dX12_init_104
theorem eX12_init_106 : decode mX12_init.2.1 106 = .ok (.putfield 56, 3) := dX12_init_106
theorem eX12_init_109 : decode mX12_init.2.1 109 = .ok (.aload_n 0, 1) := dX12_init_109
theorem eX12_init_110 : decode mX12_init.2.1 110 = .ok (.iconst 4, 1) := dX12_init_110
theorem eX12_init_111 : decode mX12_init.2.1 111 = .ok (.newarray .int, 2) := dX12_init_111
theorem eX12_init_113 : decode mX12_init.2.1 113 = .ok (.putfield 59, 3) := dX12_init_113
theorem eX12_init_116 : decode mX12_init.2.1 116 = .ok (.aload_n 0, 1) := dX12_init_116
theorem eX12_init_117 : decode mX12_init.2.1 117 = .ok (.sipush 200, 3) := dX12_init_117
theorem eX12_init_120 : decode mX12_init.2.1 120 = .ok (.newarray .byte, 2) := dX12_init_120
theorem eX12_init_122 : decode mX12_init.2.1 122 = .ok (.putfield 62, 3) := dX12_init_122
theorem eX12_init_125 : decode mX12_init.2.1 125 = .ok (.aload_n 0, 1) := dX12_init_125
theorem eX12_init_126 : decode mX12_init.2.1 126 = .ok (.iconst (-1), 1) := dX12_init_126
theorem eX12_init_127 : decode mX12_init.2.1 127 = .ok (.putfield 66, 3) := dX12_init_127
theorem eX12_init_130 : decode mX12_init.2.1 130 = .ok (.aload_n 0, 1) := dX12_init_130
theorem eX12_init_131 : decode mX12_init.2.1 131 = .ok (.iconst 1, 1) := dX12_init_131
theorem eX12_init_132 : decode mX12_init.2.1 132 = .ok (.putfield 69, 3) := dX12_init_132
theorem eX12_init_135 : decode mX12_init.2.1 135 = .ok (.aload_n 0, 1) := dX12_init_135
theorem eX12_init_136 : decode mX12_init.2.1 136 = .ok (.bipush 65, 2) := dX12_init_136
theorem eX12_init_138 : decode mX12_init.2.1 138 = .ok (.newarray .int, 2) := dX12_init_138
theorem eX12_init_140 : decode mX12_init.2.1 140 = .ok (.putfield 72, 3) := dX12_init_140
theorem eX12_init_143 : decode mX12_init.2.1 143 = .ok (.aload_n 0, 1) := dX12_init_143
theorem eX12_init_144 : decode mX12_init.2.1 144 = .ok (.bipush 65, 2) := dX12_init_144
theorem eX12_init_146 : decode mX12_init.2.1 146 = .ok (.newarray .int, 2) := dX12_init_146
theorem eX12_init_148 : decode mX12_init.2.1 148 = .ok (.putfield 75, 3) := dX12_init_148
theorem eX12_init_151 : decode mX12_init.2.1 151 = .ok (.aload_n 0, 1) := dX12_init_151
theorem eX12_init_152 : decode mX12_init.2.1 152 = .ok (.sipush 1088, 3) := dX12_init_152
theorem eX12_init_155 : decode mX12_init.2.1 155 = .ok (.newarray .int, 2) := dX12_init_155
theorem eX12_init_157 : decode mX12_init.2.1 157 = .ok (.putfield 78, 3) := dX12_init_157
theorem eX12_init_160 : decode mX12_init.2.1 160 = .ok (.aload_n 0, 1) := dX12_init_160
theorem eX12_init_161 : decode mX12_init.2.1 161 = .ok (.bipush 64, 2) := dX12_init_161
theorem eX12_init_163 : decode mX12_init.2.1 163 = .ok (.newarray .int, 2) := dX12_init_163
theorem eX12_init_165 : decode mX12_init.2.1 165 = .ok (.putfield 81, 3) := dX12_init_165
theorem eX12_init_168 : decode mX12_init.2.1 168 = .ok (.aload_n 0, 1) := dX12_init_168
theorem eX12_init_169 : decode mX12_init.2.1 169 = .ok (.sipush 8192, 3) := dX12_init_169
theorem eX12_init_172 : decode mX12_init.2.1 172 = .ok (.newarray .int, 2) := dX12_init_172
theorem eX12_init_174 : decode mX12_init.2.1 174 = .ok (.putfield 84, 3) := dX12_init_174
theorem eX12_init_177 : decode mX12_init.2.1 177 = .ok (.aload_n 0, 1) := dX12_init_177
theorem eX12_init_178 : decode mX12_init.2.1 178 = .ok (.bipush 64, 2) := dX12_init_178
theorem eX12_init_180 : decode mX12_init.2.1 180 = .ok (.newarray .int, 2) := dX12_init_180
theorem eX12_init_182 : decode mX12_init.2.1 182 = .ok (.putfield 87, 3) := dX12_init_182
theorem eX12_init_185 : decode mX12_init.2.1 185 = .ok (.aload_n 0, 1) := dX12_init_185
theorem eX12_init_186 : decode mX12_init.2.1 186 = .ok (.bipush 64, 2) := dX12_init_186
theorem eX12_init_188 : decode mX12_init.2.1 188 = .ok (.newarray .int, 2) := dX12_init_188
theorem eX12_init_190 : decode mX12_init.2.1 190 = .ok (.putfield 90, 3) := dX12_init_190
theorem eX12_init_193 : decode mX12_init.2.1 193 = .ok (.aload_n 0, 1) := dX12_init_193
theorem eX12_init_194 : decode mX12_init.2.1 194 = .ok (.bipush 64, 2) := dX12_init_194
theorem eX12_init_196 : decode mX12_init.2.1 196 = .ok (.newarray .int, 2) := dX12_init_196
theorem eX12_init_198 : decode mX12_init.2.1 198 = .ok (.putfield 93, 3) := dX12_init_198
theorem eX12_init_201 : decode mX12_init.2.1 201 = .ok (.aload_n 0, 1) := dX12_init_201
theorem eX12_init_202 : decode mX12_init.2.1 202 = .ok (.bipush 64, 2) := dX12_init_202
theorem eX12_init_204 : decode mX12_init.2.1 204 = .ok (.newarray .int, 2) := dX12_init_204
theorem eX12_init_206 : decode mX12_init.2.1 206 = .ok (.putfield 96, 3) := dX12_init_206
theorem eX12_init_209 : decode mX12_init.2.1 209 = .ok (.aload_n 0, 1) := dX12_init_209
theorem eX12_init_210 : decode mX12_init.2.1 210 = .ok (.sipush 128, 3) := dX12_init_210
theorem eX12_init_213 : decode mX12_init.2.1 213 = .ok (.newarray .byte, 2) := dX12_init_213
theorem eX12_init_215 : decode mX12_init.2.1 215 = .ok (.putfield 99, 3) := dX12_init_215
theorem eX12_init_218 : decode mX12_init.2.1 218 = .ok (.aload_n 0, 1) := dX12_init_218
theorem eX12_init_219 : decode mX12_init.2.1 219 = .ok (.bipush 6, 2) := dX12_init_219
theorem eX12_init_221 : decode mX12_init.2.1 221 = .ok (.newarray .int, 2) := dX12_init_221
theorem eX12_init_223 : decode mX12_init.2.1 223 = .ok (.putfield 102, 3) := dX12_init_223
theorem eX12_init_226 : decode mX12_init.2.1 226 = .ok (.aload_n 0, 1) := dX12_init_226
theorem eX12_init_227 : decode mX12_init.2.1 227 = .ok (.iconst 2, 1) := dX12_init_227
theorem eX12_init_228 : decode mX12_init.2.1 228 = .ok (.iconst 1, 1) := dX12_init_228
theorem eX12_init_229 : decode mX12_init.2.1 229 = .ok (.iconst 1, 1) := dX12_init_229
theorem eX12_init_230 : decode mX12_init.2.1 230 = .ok (.invokevirtual 105, 3) := dX12_init_230
theorem eX12_init_233 : decode mX12_init.2.1 233 = .ok (.return_, 1) := dX12_init_233
theorem eX12_inverse_0 : decode mX12_inverse.2.1 0 = .ok (.aload_n 0, 1) := dX12_inverse_0
theorem eX12_inverse_1 : decode mX12_inverse.2.1 1 = .ok (.iload_n 1, 1) := dX12_inverse_1
theorem eX12_inverse_2 : decode mX12_inverse.2.1 2 = .ok (.aload_n 0, 1) := dX12_inverse_2
theorem eX12_inverse_3 : decode mX12_inverse.2.1 3 = .ok (.invokevirtual 143, 3) := dX12_inverse_3
theorem eX12_inverse_6 : decode mX12_inverse.2.1 6 = .ok (.i2l, 1) := dX12_inverse_6
theorem eX12_inverse_7 : decode mX12_inverse.2.1 7 = .ok (.lconst 1, 1) := dX12_inverse_7
theorem eX12_inverse_8 : decode mX12_inverse.2.1 8 = .ok (.lsub, 1) := dX12_inverse_8
theorem eX12_inverse_9 : decode mX12_inverse.2.1 9 = .ok (.invokevirtual 147, 3) := dX12_inverse_9
theorem eX12_inverse_12 : decode mX12_inverse.2.1 12 = .ok (.ireturn, 1) := dX12_inverse_12
theorem eX12_isAhead_0 : decode mX12_isAhead.2.1 0 = .ok (.iconst 0, 1) := dX12_isAhead_0
theorem eX12_isAhead_1 : decode mX12_isAhead.2.1 1 = .ok (.istore_n 2, 1) := dX12_isAhead_1
theorem eX12_isAhead_2 : decode mX12_isAhead.2.1 2 = .ok (.iload_n 2, 1) := dX12_isAhead_2
theorem eX12_isAhead_3 : decode mX12_isAhead.2.1 3 = .ok (.aload_n 0, 1) := dX12_isAhead_3
theorem eX12_isAhead_4 : decode mX12_isAhead.2.1 4 = .ok (.getfield 69, 3) := dX12_isAhead_4
theorem eX12_isAhead_7 : decode mX12_isAhead.2.1 7 = .ok (.if_icmp .ge 49, 3) := dX12_isAhead_7
theorem eX12_isAhead_10 : decode mX12_isAhead.2.1 10 = .ok (.aload_n 0, 1) := dX12_isAhead_10
theorem eX12_isAhead_11 : decode mX12_isAhead.2.1 11 = .ok (.getfield 78, 3) := dX12_isAhead_11
theorem eX12_isAhead_14 : decode mX12_isAhead.2.1 14 = .ok (.iload_n 1, 1) := dX12_isAhead_14
theorem eX12_isAhead_15 : decode mX12_isAhead.2.1 15 = .ok (.iload_n 2, 1) := dX12_isAhead_15
theorem eX12_isAhead_16 : decode mX12_isAhead.2.1 16 = .ok (.iadd, 1) := dX12_isAhead_16
theorem eX12_isAhead_17 : decode mX12_isAhead.2.1 17 = .ok (.iaload, 1) := dX12_isAhead_17
theorem eX12_isAhead_18 : decode mX12_isAhead.2.1 18 = .ok (.aload_n 0, 1) := dX12_isAhead_18
theorem eX12_isAhead_19 : decode mX12_isAhead.2.1 19 = .ok (.getfield 87, 3) := dX12_isAhead_19
theorem eX12_isAhead_22 : decode mX12_isAhead.2.1 22 = .ok (.iload_n 2, 1) := dX12_isAhead_22
theorem eX12_isAhead_23 : decode mX12_isAhead.2.1 23 = .ok (.iaload, 1) := dX12_isAhead_23
theorem eX12_isAhead_24 : decode mX12_isAhead.2.1 24 = .ok (.if_icmp .eq 26, 3) := dX12_isAhead_24
theorem eX12_isAhead_27 : decode mX12_isAhead.2.1 27 = .ok (.aload_n 0, 1) := dX12_isAhead_27
theorem eX12_isAhead_28 : decode mX12_isAhead.2.1 28 = .ok (.getfield 78, 3) := dX12_isAhead_28
theorem eX12_isAhead_31 : decode mX12_isAhead.2.1 31 = .ok (.iload_n 1, 1) := dX12_isAhead_31
theorem eX12_isAhead_32 : decode mX12_isAhead.2.1 32 = .ok (.iload_n 2, 1) := dX12_isAhead_32
theorem eX12_isAhead_33 : decode mX12_isAhead.2.1 33 = .ok (.iadd, 1) := dX12_isAhead_33
theorem eX12_isAhead_34 : decode mX12_isAhead.2.1 34 = .ok (.iaload, 1) := dX12_isAhead_34
theorem eX12_isAhead_35 : decode mX12_isAhead.2.1 35 = .ok (.aload_n 0, 1) := dX12_isAhead_35
theorem eX12_isAhead_36 : decode mX12_isAhead.2.1 36 = .ok (.getfield 87, 3) := dX12_isAhead_36
theorem eX12_isAhead_39 : decode mX12_isAhead.2.1 39 = .ok (.iload_n 2, 1) := dX12_isAhead_39
theorem eX12_isAhead_40 : decode mX12_isAhead.2.1 40 = .ok (.iaload, 1) := dX12_isAhead_40
theorem eX12_isAhead_41 : decode mX12_isAhead.2.1 41 = .ok (.if_icmp .ge 7, 3) := dX12_isAhead_41
theorem eX12_isAhead_44 : decode mX12_isAhead.2.1 44 = .ok (.iconst 1, 1) := dX12_isAhead_44
theorem eX12_isAhead_45 : decode mX12_isAhead.2.1 45 = .ok (.goto 4, 3) := dX12_isAhead_45
theorem eX12_isAhead_48 : decode mX12_isAhead.2.1 48 = .ok (.iconst 0, 1) := dX12_isAhead_48
theorem eX12_isAhead_49 : decode mX12_isAhead.2.1 49 = .ok (.ireturn, 1) := dX12_isAhead_49
theorem eX12_isAhead_50 : decode mX12_isAhead.2.1 50 = .ok (.iinc 2 1, 3) := dX12_isAhead_50
theorem eX12_isAhead_53 : decode mX12_isAhead.2.1 53 = .ok (.goto (-51), 3) := dX12_isAhead_53
theorem eX12_isAhead_56 : decode mX12_isAhead.2.1 56 = .ok (.iconst 0, 1) := dX12_isAhead_56
theorem eX12_isAhead_57 : decode mX12_isAhead.2.1 57 = .ok (.ireturn, 1) := dX12_isAhead_57
theorem eX12_isDivided_0 : decode mX12_isDivided.2.1 0 = .ok (.iload_n 1, 1) := dX12_isDivided_0
theorem eX12_isDivided_1 : decode mX12_isDivided.2.1 1 = .ok (.istore 4, 2) := dX12_isDivided_1
theorem eX12_isDivided_3 : decode mX12_isDivided.2.1 3 = .ok (.iconst 0, 1) := dX12_isDivided_3
theorem eX12_isDivided_4 : decode mX12_isDivided.2.1 4 = .ok (.istore 5, 2) := dX12_isDivided_4
theorem eX12_isDivided_6 : decode mX12_isDivided.2.1 6 = .ok (.iload 5, 2) := dX12_isDivided_6
theorem eX12_isDivided_8 : decode mX12_isDivided.2.1 8 = .ok (.aload_n 0, 1) := dX12_isDivided_8
theorem eX12_isDivided_9 : decode mX12_isDivided.2.1 9 = .ok (.getfield 19, 3) := dX12_isDivided_9
theorem eX12_isDivided_12 : decode mX12_isDivided.2.1 12 = .ok (.if_icmp .ge 32, 3) := dX12_isDivided_12
theorem eX12_isDivided_15 : decode mX12_isDivided.2.1 15 = .ok (.aload_n 0, 1) := dX12_isDivided_15
theorem eX12_isDivided_16 : decode mX12_isDivided.2.1 16 = .ok (.getfield 47, 3) := dX12_isDivided_16
theorem eX12_isDivided_19 : decode mX12_isDivided.2.1 19 = .ok (.iload 5, 2) := dX12_isDivided_19
theorem eX12_isDivided_21 : decode mX12_isDivided.2.1 21 = .ok (.iload 4, 2) := dX12_isDivided_21
theorem eX12_isDivided_23 : decode mX12_isDivided.2.1 23 = .ok (.aload_n 0, 1) := dX12_isDivided_23
theorem eX12_isDivided_24 : decode mX12_isDivided.2.1 24 = .ok (.getfield 13, 3) := dX12_isDivided_24
theorem eX12_isDivided_27 : decode mX12_isDivided.2.1 27 = .ok (.irem, 1) := dX12_isDivided_27
theorem eX12_isDivided_28 : decode mX12_isDivided.2.1 28 = .ok (.iastore, 1) := dX12_isDivided_28
theorem eX12_isDivided_29 : decode mX12_isDivided.2.1 29 = .ok (.iload 4, 2) := dX12_isDivided_29
theorem eX12_isDivided_31 : decode mX12_isDivided.2.1 31 = .ok (.aload_n 0, 1) := dX12_isDivided_31
theorem eX12_isDivided_32 : decode mX12_isDivided.2.1 32 = .ok (.getfield 13, 3) := dX12_isDivided_32
theorem eX12_isDivided_35 : decode mX12_isDivided.2.1 35 = .ok (.idiv, 1) := dX12_isDivided_35
theorem eX12_isDivided_36 : decode mX12_isDivided.2.1 36 = .ok (.istore 4, 2) := dX12_isDivided_36
theorem eX12_isDivided_38 : decode mX12_isDivided.2.1 38 = .ok (.iinc 5 1, 3) := dX12_isDivided_38
theorem eX12_isDivided_41 : decode mX12_isDivided.2.1 41 = .ok (.goto (-35), 3) := dX12_isDivided_41
theorem eX12_isDivided_44 : decode mX12_isDivided.2.1 44 = .ok (.aload_n 0, 1) := dX12_isDivided_44
theorem eX12_isDivided_45 : decode mX12_isDivided.2.1 45 = .ok (.getfield 47, 3) := dX12_isDivided_45
theorem eX12_isDivided_48 : decode mX12_isDivided.2.1 48 = .ok (.aload_n 0, 1) := dX12_isDivided_48
theorem eX12_isDivided_49 : decode mX12_isDivided.2.1 49 = .ok (.getfield 19, 3) := dX12_isDivided_49
theorem eX12_isDivided_52 : decode mX12_isDivided.2.1 52 = .ok (.iconst 1, 1) := dX12_isDivided_52
theorem eX12_isDivided_53 : decode mX12_isDivided.2.1 53 = .ok (.iastore, 1) := dX12_isDivided_53
theorem eX12_isDivided_54 : decode mX12_isDivided.2.1 54 = .ok (.aload_n 0, 1) := dX12_isDivided_54
theorem eX12_isDivided_55 : decode mX12_isDivided.2.1 55 = .ok (.getfield 19, 3) := dX12_isDivided_55
theorem eX12_isDivided_58 : decode mX12_isDivided.2.1 58 = .ok (.istore 5, 2) := dX12_isDivided_58
theorem eX12_isDivided_60 : decode mX12_isDivided.2.1 60 = .ok (.iload 5, 2) := dX12_isDivided_60
theorem eX12_isDivided_62 : decode mX12_isDivided.2.1 62 = .ok (.iload_n 2, 1) := dX12_isDivided_62
theorem eX12_isDivided_63 : decode mX12_isDivided.2.1 63 = .ok (.if_icmp .lt 95, 3) := dX12_isDivided_63
theorem eX12_isDivided_66 : decode mX12_isDivided.2.1 66 = .ok (.aload_n 0, 1) := dX12_isDivided_66
theorem eX12_isDivided_67 : decode mX12_isDivided.2.1 67 = .ok (.getfield 47, 3) := dX12_isDivided_67
theorem eX12_isDivided_70 : decode mX12_isDivided.2.1 70 = .ok (.iload 5, 2) := dX12_isDivided_70
theorem eX12_isDivided_72 : decode mX12_isDivided.2.1 72 = .ok (.iaload, 1) := dX12_isDivided_72
theorem eX12_isDivided_73 : decode mX12_isDivided.2.1 73 = .ok (.istore 6, 2) := dX12_isDivided_73
theorem eX12_isDivided_75 : decode mX12_isDivided.2.1 75 = .ok (.iload_n 3, 1) := dX12_isDivided_75
theorem eX12_isDivided_76 : decode mX12_isDivided.2.1 76 = .ok (.istore 7, 2) := dX12_isDivided_76
theorem eX12_isDivided_78 : decode mX12_isDivided.2.1 78 = .ok (.iconst 0, 1) := dX12_isDivided_78
theorem eX12_isDivided_79 : decode mX12_isDivided.2.1 79 = .ok (.istore 8, 2) := dX12_isDivided_79
theorem eX12_isDivided_81 : decode mX12_isDivided.2.1 81 = .ok (.iload 8, 2) := dX12_isDivided_81
theorem eX12_isDivided_83 : decode mX12_isDivided.2.1 83 = .ok (.iload_n 2, 1) := dX12_isDivided_83
theorem eX12_isDivided_84 : decode mX12_isDivided.2.1 84 = .ok (.if_icmp .ge 60, 3) := dX12_isDivided_84
theorem eX12_isDivided_87 : decode mX12_isDivided.2.1 87 = .ok (.aload_n 0, 1) := dX12_isDivided_87
theorem eX12_isDivided_88 : decode mX12_isDivided.2.1 88 = .ok (.getfield 47, 3) := dX12_isDivided_88
theorem eX12_isDivided_91 : decode mX12_isDivided.2.1 91 = .ok (.iload 5, 2) := dX12_isDivided_91
theorem eX12_isDivided_93 : decode mX12_isDivided.2.1 93 = .ok (.iload_n 2, 1) := dX12_isDivided_93
theorem eX12_isDivided_94 : decode mX12_isDivided.2.1 94 = .ok (.isub, 1) := dX12_isDivided_94
theorem eX12_isDivided_95 : decode mX12_isDivided.2.1 95 = .ok (.iload 8, 2) := dX12_isDivided_95
theorem eX12_isDivided_97 : decode mX12_isDivided.2.1 97 = .ok (.iadd, 1) := dX12_isDivided_97
theorem eX12_isDivided_98 : decode mX12_isDivided.2.1 98 = .ok (.aload_n 0, 1) := dX12_isDivided_98
theorem eX12_isDivided_99 : decode mX12_isDivided.2.1 99 = .ok (.getfield 47, 3) := dX12_isDivided_99
theorem eX12_isDivided_102 : decode mX12_isDivided.2.1 102 = .ok (.iload 5, 2) := dX12_isDivided_102
theorem eX12_isDivided_104 : decode mX12_isDivided.2.1 104 = .ok (.iload_n 2, 1) := dX12_isDivided_104
theorem eX12_isDivided_105 : decode mX12_isDivided.2.1 105 = .ok (.isub, 1) := dX12_isDivided_105
theorem eX12_isDivided_106 : decode mX12_isDivided.2.1 106 = .ok (.iload 8, 2) := dX12_isDivided_106
theorem eX12_isDivided_108 : decode mX12_isDivided.2.1 108 = .ok (.iadd, 1) := dX12_isDivided_108
theorem eX12_isDivided_109 : decode mX12_isDivided.2.1 109 = .ok (.iaload, 1) := dX12_isDivided_109
theorem eX12_isDivided_110 : decode mX12_isDivided.2.1 110 = .ok (.iload 6, 2) := dX12_isDivided_110
theorem eX12_isDivided_112 : decode mX12_isDivided.2.1 112 = .ok (.iload 7, 2) := dX12_isDivided_112
theorem eX12_isDivided_114 : decode mX12_isDivided.2.1 114 = .ok (.aload_n 0, 1) := dX12_isDivided_114
theorem eX12_isDivided_115 : decode mX12_isDivided.2.1 115 = .ok (.getfield 13, 3) := dX12_isDivided_115
theorem eX12_isDivided_118 : decode mX12_isDivided.2.1 118 = .ok (.irem, 1) := dX12_isDivided_118
theorem eX12_isDivided_119 : decode mX12_isDivided.2.1 119 = .ok (.imul, 1) := dX12_isDivided_119
theorem eX12_isDivided_120 : decode mX12_isDivided.2.1 120 = .ok (.isub, 1) := dX12_isDivided_120
theorem eX12_isDivided_121 : decode mX12_isDivided.2.1 121 = .ok (.aload_n 0, 1) := dX12_isDivided_121
theorem eX12_isDivided_122 : decode mX12_isDivided.2.1 122 = .ok (.getfield 13, 3) := dX12_isDivided_122
theorem eX12_isDivided_125 : decode mX12_isDivided.2.1 125 = .ok (.invokestatic 109, 3) := dX12_isDivided_125
theorem eX12_isDivided_128 : decode mX12_isDivided.2.1 128 = .ok (.iastore, 1) := dX12_isDivided_128
theorem eX12_isDivided_129 : decode mX12_isDivided.2.1 129 = .ok (.iload 7, 2) := dX12_isDivided_129
theorem eX12_isDivided_131 : decode mX12_isDivided.2.1 131 = .ok (.aload_n 0, 1) := dX12_isDivided_131
theorem eX12_isDivided_132 : decode mX12_isDivided.2.1 132 = .ok (.getfield 13, 3) := dX12_isDivided_132
theorem eX12_isDivided_135 : decode mX12_isDivided.2.1 135 = .ok (.idiv, 1) := dX12_isDivided_135
theorem eX12_isDivided_136 : decode mX12_isDivided.2.1 136 = .ok (.istore 7, 2) := dX12_isDivided_136
theorem eX12_isDivided_138 : decode mX12_isDivided.2.1 138 = .ok (.iinc 8 1, 3) := dX12_isDivided_138
theorem eX12_isDivided_141 : decode mX12_isDivided.2.1 141 = .ok (.goto (-60), 3) := dX12_isDivided_141
theorem eX12_isDivided_144 : decode mX12_isDivided.2.1 144 = .ok (.aload_n 0, 1) := dX12_isDivided_144
theorem eX12_isDivided_145 : decode mX12_isDivided.2.1 145 = .ok (.getfield 47, 3) := dX12_isDivided_145
theorem eX12_isDivided_148 : decode mX12_isDivided.2.1 148 = .ok (.iload 5, 2) := dX12_isDivided_148
theorem eX12_isDivided_150 : decode mX12_isDivided.2.1 150 = .ok (.iconst 0, 1) := dX12_isDivided_150
theorem eX12_isDivided_151 : decode mX12_isDivided.2.1 151 = .ok (.iastore, 1) := dX12_isDivided_151
theorem eX12_isDivided_152 : decode mX12_isDivided.2.1 152 = .ok (.iinc 5 (-1), 3) := dX12_isDivided_152
theorem eX12_isDivided_155 : decode mX12_isDivided.2.1 155 = .ok (.goto (-95), 3) := dX12_isDivided_155
theorem eX12_isDivided_158 : decode mX12_isDivided.2.1 158 = .ok (.iconst 0, 1) := dX12_isDivided_158
theorem eX12_isDivided_159 : decode mX12_isDivided.2.1 159 = .ok (.istore 5, 2) := dX12_isDivided_159
theorem eX12_isDivided_161 : decode mX12_isDivided.2.1 161 = .ok (.iload 5, 2) := dX12_isDivided_161
theorem eX12_isDivided_163 : decode mX12_isDivided.2.1 163 = .ok (.iload_n 2, 1) := dX12_isDivided_163
theorem eX12_isDivided_164 : decode mX12_isDivided.2.1 164 = .ok (.if_icmp .ge 21, 3) := dX12_isDivided_164
theorem eX12_isDivided_167 : decode mX12_isDivided.2.1 167 = .ok (.aload_n 0, 1) := dX12_isDivided_167
theorem eX12_isDivided_168 : decode mX12_isDivided.2.1 168 = .ok (.getfield 47, 3) := dX12_isDivided_168
theorem eX12_isDivided_171 : decode mX12_isDivided.2.1 171 = .ok (.iload 5, 2) := dX12_isDivided_171
theorem eX12_isDivided_173 : decode mX12_isDivided.2.1 173 = .ok (.iaload, 1) := dX12_isDivided_173
theorem eX12_isDivided_174 : decode mX12_isDivided.2.1 174 = .ok (.ifCond .eq 5, 3) := dX12_isDivided_174
theorem eX12_isDivided_177 : decode mX12_isDivided.2.1 177 = .ok (.iconst 0, 1) := dX12_isDivided_177
theorem eX12_isDivided_178 : decode mX12_isDivided.2.1 178 = .ok (.ireturn, 1) := dX12_isDivided_178
theorem eX12_isDivided_179 : decode mX12_isDivided.2.1 179 = .ok (.iinc 5 1, 3) := dX12_isDivided_179
theorem eX12_isDivided_182 : decode mX12_isDivided.2.1 182 = .ok (.goto (-21), 3) := dX12_isDivided_182
theorem eX12_isDivided_185 : decode mX12_isDivided.2.1 185 = .ok (.iconst 1, 1) := dX12_isDivided_185
theorem eX12_isDivided_186 : decode mX12_isDivided.2.1 186 = .ok (.ireturn, 1) := dX12_isDivided_186
theorem eX12_isElement_0 : decode mX12_isElement.2.1 0 = .ok (.iload_n 1, 1) := dX12_isElement_0
theorem eX12_isElement_1 : decode mX12_isElement.2.1 1 = .ok (.i2l, 1) := dX12_isElement_1
theorem eX12_isElement_2 : decode mX12_isElement.2.1 2 = .ok (.lconst 0, 1) := dX12_isElement_2
theorem eX12_isElement_3 : decode mX12_isElement.2.1 3 = .ok (.aload_n 0, 1) := dX12_isElement_3
theorem eX12_isElement_4 : decode mX12_isElement.2.1 4 = .ok (.getfield 28, 3) := dX12_isElement_4
theorem eX12_isElement_7 : decode mX12_isElement.2.1 7 = .ok (.iconst 1, 1) := dX12_isElement_7
theorem eX12_isElement_8 : decode mX12_isElement.2.1 8 = .ok (.isub, 1) := dX12_isElement_8
theorem eX12_isElement_9 : decode mX12_isElement.2.1 9 = .ok (.i2l, 1) := dX12_isElement_9
theorem eX12_isElement_10 : decode mX12_isElement.2.1 10 = .ok (.invokestatic 206, 3) := dX12_isElement_10
theorem eX12_isElement_13 : decode mX12_isElement.2.1 13 = .ok (.ireturn, 1) := dX12_isElement_13
theorem eX12_isFigure_0 : decode mX12_isFigure.2.1 0 = .ok (.iload_n 0, 1) := dX12_isFigure_0
theorem eX12_isFigure_1 : decode mX12_isFigure.2.1 1 = .ok (.i2l, 1) := dX12_isFigure_1
theorem eX12_isFigure_2 : decode mX12_isFigure.2.1 2 = .ok (.ldc2_w 223, 3) := dX12_isFigure_2
theorem eX12_isFigure_5 : decode mX12_isFigure.2.1 5 = .ok (.ldc2_w 225, 3) := dX12_isFigure_5
theorem eX12_isFigure_8 : decode mX12_isFigure.2.1 8 = .ok (.invokestatic 206, 3) := dX12_isFigure_8
theorem eX12_isFigure_11 : decode mX12_isFigure.2.1 11 = .ok (.ireturn, 1) := dX12_isFigure_11
theorem eX12_isGenerator_0 : decode mX12_isGenerator.2.1 0 = .ok (.aload_n 0, 1) := dX12_isGenerator_0
theorem eX12_isGenerator_1 : decode mX12_isGenerator.2.1 1 = .ok (.getfield 25, 3) := dX12_isGenerator_1
theorem eX12_isGenerator_4 : decode mX12_isGenerator.2.1 4 = .ok (.iconst 1, 1) := dX12_isGenerator_4
theorem eX12_isGenerator_5 : decode mX12_isGenerator.2.1 5 = .ok (.isub, 1) := dX12_isGenerator_5
theorem eX12_isGenerator_6 : decode mX12_isGenerator.2.1 6 = .ok (.istore_n 2, 1) := dX12_isGenerator_6
theorem eX12_isGenerator_7 : decode mX12_isGenerator.2.1 7 = .ok (.iconst 2, 1) := dX12_isGenerator_7
theorem eX12_isGenerator_8 : decode mX12_isGenerator.2.1 8 = .ok (.istore_n 3, 1) := dX12_isGenerator_8
theorem eX12_isGenerator_9 : decode mX12_isGenerator.2.1 9 = .ok (.iload_n 2, 1) := dX12_isGenerator_9
theorem eX12_isGenerator_10 : decode mX12_isGenerator.2.1 10 = .ok (.iconst 1, 1) := dX12_isGenerator_10
theorem eX12_isGenerator_11 : decode mX12_isGenerator.2.1 11 = .ok (.if_icmp .le 51, 3) := dX12_isGenerator_11
theorem eX12_isGenerator_14 : decode mX12_isGenerator.2.1 14 = .ok (.iload_n 2, 1) := dX12_isGenerator_14
theorem eX12_isGenerator_15 : decode mX12_isGenerator.2.1 15 = .ok (.iload_n 3, 1) := dX12_isGenerator_15
theorem eX12_isGenerator_16 : decode mX12_isGenerator.2.1 16 = .ok (.irem, 1) := dX12_isGenerator_16
theorem eX12_isGenerator_17 : decode mX12_isGenerator.2.1 17 = .ok (.ifCond .eq 6, 3) := dX12_isGenerator_17
theorem eX12_isGenerator_20 : decode mX12_isGenerator.2.1 20 = .ok (.goto 36, 3) := dX12_isGenerator_20
theorem eX12_isGenerator_23 : decode mX12_isGenerator.2.1 23 = .ok (.aload_n 0, 1) := dX12_isGenerator_23
theorem eX12_isGenerator_24 : decode mX12_isGenerator.2.1 24 = .ok (.iload_n 1, 1) := dX12_isGenerator_24
theorem eX12_isGenerator_25 : decode mX12_isGenerator.2.1 25 = .ok (.aload_n 0, 1) := dX12_isGenerator_25
theorem eX12_isGenerator_26 : decode mX12_isGenerator.2.1 26 = .ok (.getfield 25, 3) := dX12_isGenerator_26
theorem eX12_isGenerator_29 : decode mX12_isGenerator.2.1 29 = .ok (.iconst 1, 1) := dX12_isGenerator_29
theorem eX12_isGenerator_30 : decode mX12_isGenerator.2.1 30 = .ok (.isub, 1) := dX12_isGenerator_30
theorem eX12_isGenerator_31 : decode mX12_isGenerator.2.1 31 = .ok (.iload_n 3, 1) := dX12_isGenerator_31
theorem eX12_isGenerator_32 : decode mX12_isGenerator.2.1 32 = .ok (.idiv, 1) := dX12_isGenerator_32
theorem eX12_isGenerator_33 : decode mX12_isGenerator.2.1 33 = .ok (.i2l, 1) := dX12_isGenerator_33
theorem eX12_isGenerator_34 : decode mX12_isGenerator.2.1 34 = .ok (.invokevirtual 147, 3) := dX12_isGenerator_34
theorem eX12_isGenerator_37 : decode mX12_isGenerator.2.1 37 = .ok (.iconst 1, 1) := dX12_isGenerator_37
theorem eX12_isGenerator_38 : decode mX12_isGenerator.2.1 38 = .ok (.if_icmp .ne 5, 3) := dX12_isGenerator_38
theorem eX12_isGenerator_41 : decode mX12_isGenerator.2.1 41 = .ok (.iconst 0, 1) := dX12_isGenerator_41
theorem eX12_isGenerator_42 : decode mX12_isGenerator.2.1 42 = .ok (.ireturn, 1) := dX12_isGenerator_42
theorem eX12_isGenerator_43 : decode mX12_isGenerator.2.1 43 = .ok (.iload_n 2, 1) := dX12_isGenerator_43
theorem eX12_isGenerator_44 : decode mX12_isGenerator.2.1 44 = .ok (.iload_n 3, 1) := dX12_isGenerator_44
theorem eX12_isGenerator_45 : decode mX12_isGenerator.2.1 45 = .ok (.irem, 1) := dX12_isGenerator_45
theorem eX12_isGenerator_46 : decode mX12_isGenerator.2.1 46 = .ok (.ifCond .ne 10, 3) := dX12_isGenerator_46
theorem eX12_isGenerator_49 : decode mX12_isGenerator.2.1 49 = .ok (.iload_n 2, 1) := dX12_isGenerator_49
theorem eX12_isGenerator_50 : decode mX12_isGenerator.2.1 50 = .ok (.iload_n 3, 1) := dX12_isGenerator_50
theorem eX12_isGenerator_51 : decode mX12_isGenerator.2.1 51 = .ok (.idiv, 1) := dX12_isGenerator_51
theorem eX12_isGenerator_52 : decode mX12_isGenerator.2.1 52 = .ok (.istore_n 2, 1) := dX12_isGenerator_52
theorem eX12_isGenerator_53 : decode mX12_isGenerator.2.1 53 = .ok (.goto (-10), 3) := dX12_isGenerator_53
theorem eX12_isGenerator_56 : decode mX12_isGenerator.2.1 56 = .ok (.iinc 3 1, 3) := dX12_isGenerator_56
theorem eX12_isGenerator_59 : decode mX12_isGenerator.2.1 59 = .ok (.goto (-50), 3) := dX12_isGenerator_59
theorem eX12_isGenerator_62 : decode mX12_isGenerator.2.1 62 = .ok (.iconst 1, 1) := dX12_isGenerator_62
theorem eX12_isGenerator_63 : decode mX12_isGenerator.2.1 63 = .ok (.ireturn, 1) := dX12_isGenerator_63
theorem eX12_isIn_0 : decode mX12_isIn.2.1 0 = .ok (.lload_n 0, 1) := dX12_isIn_0
theorem eX12_isIn_1 : decode mX12_isIn.2.1 1 = .ok (.lload_n 2, 1) := dX12_isIn_1
theorem eX12_isIn_2 : decode mX12_isIn.2.1 2 = .ok (.lcmp, 1) := dX12_isIn_2
theorem eX12_isIn_3 : decode mX12_isIn.2.1 3 = .ok (.ifCond .lt 14, 3) := dX12_isIn_3
theorem eX12_isIn_6 : decode mX12_isIn.2.1 6 = .ok (.lload_n 0, 1) := dX12_isIn_6
theorem eX12_isIn_7 : decode mX12_isIn.2.1 7 = .ok (.lload 4, 2) := dX12_isIn_7
theorem eX12_isIn_9 : decode mX12_isIn.2.1 9 = .ok (.lcmp, 1) := dX12_isIn_9
theorem eX12_isIn_10 : decode mX12_isIn.2.1 10 = .ok (.ifCond .gt 7, 3) := dX12_isIn_10
theorem eX12_isIn_13 : decode mX12_isIn.2.1 13 = .ok (.iconst 1, 1) := dX12_isIn_13
theorem eX12_isIn_14 : decode mX12_isIn.2.1 14 = .ok (.goto 4, 3) := dX12_isIn_14
theorem eX12_isIn_17 : decode mX12_isIn.2.1 17 = .ok (.iconst 0, 1) := dX12_isIn_17
theorem eX12_isIn_18 : decode mX12_isIn.2.1 18 = .ok (.ireturn, 1) := dX12_isIn_18
theorem eX12_isLeft_0 : decode mX12_isLeft.2.1 0 = .ok (.iconst 0, 1) := dX12_isLeft_0
theorem eX12_isLeft_1 : decode mX12_isLeft.2.1 1 = .ok (.istore_n 1, 1) := dX12_isLeft_1
theorem eX12_isLeft_2 : decode mX12_isLeft.2.1 2 = .ok (.iload_n 1, 1) := dX12_isLeft_2
theorem eX12_isLeft_3 : decode mX12_isLeft.2.1 3 = .ok (.aload_n 0, 1) := dX12_isLeft_3
theorem eX12_isLeft_4 : decode mX12_isLeft.2.1 4 = .ok (.getfield 322, 3) := dX12_isLeft_4
theorem eX12_isLeft_7 : decode mX12_isLeft.2.1 7 = .ok (.if_icmp .ge 20, 3) := dX12_isLeft_7
theorem eX12_isLeft_10 : decode mX12_isLeft.2.1 10 = .ok (.aload_n 0, 1) := dX12_isLeft_10
theorem eX12_isLeft_11 : decode mX12_isLeft.2.1 11 = .ok (.getfield 93, 3) := dX12_isLeft_11
theorem eX12_isLeft_14 : decode mX12_isLeft.2.1 14 = .ok (.iload_n 1, 1) := dX12_isLeft_14
theorem eX12_isLeft_15 : decode mX12_isLeft.2.1 15 = .ok (.iaload, 1) := dX12_isLeft_15
theorem eX12_isLeft_16 : decode mX12_isLeft.2.1 16 = .ok (.ifCond .eq 5, 3) := dX12_isLeft_16
theorem eX12_isLeft_19 : decode mX12_isLeft.2.1 19 = .ok (.iconst 1, 1) := dX12_isLeft_19
theorem eX12_isLeft_20 : decode mX12_isLeft.2.1 20 = .ok (.ireturn, 1) := dX12_isLeft_20
theorem eX12_isLeft_21 : decode mX12_isLeft.2.1 21 = .ok (.iinc 1 1, 3) := dX12_isLeft_21
theorem eX12_isLeft_24 : decode mX12_isLeft.2.1 24 = .ok (.goto (-22), 3) := dX12_isLeft_24
theorem eX12_isLeft_27 : decode mX12_isLeft.2.1 27 = .ok (.iconst 0, 1) := dX12_isLeft_27
theorem eX12_isLeft_28 : decode mX12_isLeft.2.1 28 = .ok (.ireturn, 1) := dX12_isLeft_28
theorem eX12_isLong_0 : decode mX12_isLong.2.1 0 = .ok (.iload_n 1, 1) := dX12_isLong_0
theorem eX12_isLong_1 : decode mX12_isLong.2.1 1 = .ok (.i2l, 1) := dX12_isLong_1
theorem eX12_isLong_2 : decode mX12_isLong.2.1 2 = .ok (.lconst 1, 1) := dX12_isLong_2
theorem eX12_isLong_3 : decode mX12_isLong.2.1 3 = .ok (.ldc2_w 374, 3) := dX12_isLong_3
theorem eX12_isLong_6 : decode mX12_isLong.2.1 6 = .ok (.invokestatic 206, 3) := dX12_isLong_6
theorem eX12_isLong_9 : decode mX12_isLong.2.1 9 = .ok (.ifCond .eq 18, 3) := dX12_isLong_9
theorem eX12_isLong_12 : decode mX12_isLong.2.1 12 = .ok (.aload_n 0, 1) := dX12_isLong_12
theorem eX12_isLong_13 : decode mX12_isLong.2.1 13 = .ok (.getfield 25, 3) := dX12_isLong_13
theorem eX12_isLong_16 : decode mX12_isLong.2.1 16 = .ok (.iconst 1, 1) := dX12_isLong_16
theorem eX12_isLong_17 : decode mX12_isLong.2.1 17 = .ok (.isub, 1) := dX12_isLong_17
theorem eX12_isLong_18 : decode mX12_isLong.2.1 18 = .ok (.iload_n 1, 1) := dX12_isLong_18
theorem eX12_isLong_19 : decode mX12_isLong.2.1 19 = .ok (.irem, 1) := dX12_isLong_19
theorem eX12_isLong_20 : decode mX12_isLong.2.1 20 = .ok (.ifCond .ne 7, 3) := dX12_isLong_20
theorem eX12_isLong_23 : decode mX12_isLong.2.1 23 = .ok (.iconst 1, 1) := dX12_isLong_23
theorem eX12_isLong_24 : decode mX12_isLong.2.1 24 = .ok (.goto 4, 3) := dX12_isLong_24
theorem eX12_isLong_27 : decode mX12_isLong.2.1 27 = .ok (.iconst 0, 1) := dX12_isLong_27
theorem eX12_isLong_28 : decode mX12_isLong.2.1 28 = .ok (.ireturn, 1) := dX12_isLong_28
theorem eX12_isMultiple_0 : decode mX12_isMultiple.2.1 0 = .ok (.aload_n 0, 1) := dX12_isMultiple_0
theorem eX12_isMultiple_1 : decode mX12_isMultiple.2.1 1 = .ok (.aload_n 0, 1) := dX12_isMultiple_1
theorem eX12_isMultiple_2 : decode mX12_isMultiple.2.1 2 = .ok (.getfield 50, 3) := dX12_isMultiple_2
theorem eX12_isMultiple_5 : decode mX12_isMultiple.2.1 5 = .ok (.iload_n 1, 1) := dX12_isMultiple_5
theorem eX12_isMultiple_6 : decode mX12_isMultiple.2.1 6 = .ok (.invokevirtual 122, 3) := dX12_isMultiple_6
theorem eX12_isMultiple_9 : decode mX12_isMultiple.2.1 9 = .ok (.iconst 0, 1) := dX12_isMultiple_9
theorem eX12_isMultiple_10 : decode mX12_isMultiple.2.1 10 = .ok (.istore_n 3, 1) := dX12_isMultiple_10
theorem eX12_isMultiple_11 : decode mX12_isMultiple.2.1 11 = .ok (.iload_n 3, 1) := dX12_isMultiple_11
theorem eX12_isMultiple_12 : decode mX12_isMultiple.2.1 12 = .ok (.aload_n 0, 1) := dX12_isMultiple_12
theorem eX12_isMultiple_13 : decode mX12_isMultiple.2.1 13 = .ok (.getfield 19, 3) := dX12_isMultiple_13
theorem eX12_isMultiple_16 : decode mX12_isMultiple.2.1 16 = .ok (.if_icmp .ge 22, 3) := dX12_isMultiple_16
theorem eX12_isMultiple_19 : decode mX12_isMultiple.2.1 19 = .ok (.aload_n 0, 1) := dX12_isMultiple_19
theorem eX12_isMultiple_20 : decode mX12_isMultiple.2.1 20 = .ok (.getfield 50, 3) := dX12_isMultiple_20
theorem eX12_isMultiple_23 : decode mX12_isMultiple.2.1 23 = .ok (.iload_n 3, 1) := dX12_isMultiple_23
theorem eX12_isMultiple_24 : decode mX12_isMultiple.2.1 24 = .ok (.iaload, 1) := dX12_isMultiple_24
theorem eX12_isMultiple_25 : decode mX12_isMultiple.2.1 25 = .ok (.iload_n 2, 1) := dX12_isMultiple_25
theorem eX12_isMultiple_26 : decode mX12_isMultiple.2.1 26 = .ok (.irem, 1) := dX12_isMultiple_26
theorem eX12_isMultiple_27 : decode mX12_isMultiple.2.1 27 = .ok (.ifCond .eq 5, 3) := dX12_isMultiple_27
theorem eX12_isMultiple_30 : decode mX12_isMultiple.2.1 30 = .ok (.iconst 0, 1) := dX12_isMultiple_30
theorem eX12_isMultiple_31 : decode mX12_isMultiple.2.1 31 = .ok (.ireturn, 1) := dX12_isMultiple_31
theorem eX12_isMultiple_32 : decode mX12_isMultiple.2.1 32 = .ok (.iinc 3 1, 3) := dX12_isMultiple_32
theorem eX12_isMultiple_35 : decode mX12_isMultiple.2.1 35 = .ok (.goto (-24), 3) := dX12_isMultiple_35
theorem eX12_isMultiple_38 : decode mX12_isMultiple.2.1 38 = .ok (.iconst 1, 1) := dX12_isMultiple_38
theorem eX12_isMultiple_39 : decode mX12_isMultiple.2.1 39 = .ok (.ireturn, 1) := dX12_isMultiple_39
theorem eX12_isPrime_0 : decode mX12_isPrime.2.1 0 = .ok (.iconst 1, 1) := dX12_isPrime_0
theorem eX12_isPrime_1 : decode mX12_isPrime.2.1 1 = .ok (.istore_n 2, 1) := dX12_isPrime_1
theorem eX12_isPrime_2 : decode mX12_isPrime.2.1 2 = .ok (.iconst 2, 1) := dX12_isPrime_2
theorem eX12_isPrime_3 : decode mX12_isPrime.2.1 3 = .ok (.iload_n 2, 1) := dX12_isPrime_3
theorem eX12_isPrime_4 : decode mX12_isPrime.2.1 4 = .ok (.imul, 1) := dX12_isPrime_4
theorem eX12_isPrime_5 : decode mX12_isPrime.2.1 5 = .ok (.aload_n 0, 1) := dX12_isPrime_5
theorem eX12_isPrime_6 : decode mX12_isPrime.2.1 6 = .ok (.getfield 19, 3) := dX12_isPrime_6
theorem eX12_isPrime_9 : decode mX12_isPrime.2.1 9 = .ok (.if_icmp .gt 41, 3) := dX12_isPrime_9
theorem eX12_isPrime_12 : decode mX12_isPrime.2.1 12 = .ok (.iconst 0, 1) := dX12_isPrime_12
theorem eX12_isPrime_13 : decode mX12_isPrime.2.1 13 = .ok (.istore_n 3, 1) := dX12_isPrime_13
theorem eX12_isPrime_14 : decode mX12_isPrime.2.1 14 = .ok (.iload_n 3, 1) := dX12_isPrime_14
theorem eX12_isPrime_15 : decode mX12_isPrime.2.1 15 = .ok (.aload_n 0, 1) := dX12_isPrime_15
theorem eX12_isPrime_16 : decode mX12_isPrime.2.1 16 = .ok (.getfield 13, 3) := dX12_isPrime_16
theorem eX12_isPrime_19 : decode mX12_isPrime.2.1 19 = .ok (.iload_n 2, 1) := dX12_isPrime_19
theorem eX12_isPrime_20 : decode mX12_isPrime.2.1 20 = .ok (.invokestatic 115, 3) := dX12_isPrime_20
theorem eX12_isPrime_23 : decode mX12_isPrime.2.1 23 = .ok (.if_icmp .ge 21, 3) := dX12_isPrime_23
theorem eX12_isPrime_26 : decode mX12_isPrime.2.1 26 = .ok (.aload_n 0, 1) := dX12_isPrime_26
theorem eX12_isPrime_27 : decode mX12_isPrime.2.1 27 = .ok (.iload_n 1, 1) := dX12_isPrime_27
theorem eX12_isPrime_28 : decode mX12_isPrime.2.1 28 = .ok (.iload_n 2, 1) := dX12_isPrime_28
theorem eX12_isPrime_29 : decode mX12_isPrime.2.1 29 = .ok (.iload_n 3, 1) := dX12_isPrime_29
theorem eX12_isPrime_30 : decode mX12_isPrime.2.1 30 = .ok (.invokevirtual 118, 3) := dX12_isPrime_30
theorem eX12_isPrime_33 : decode mX12_isPrime.2.1 33 = .ok (.ifCond .eq 5, 3) := dX12_isPrime_33
theorem eX12_isPrime_36 : decode mX12_isPrime.2.1 36 = .ok (.iconst 0, 1) := dX12_isPrime_36
theorem eX12_isPrime_37 : decode mX12_isPrime.2.1 37 = .ok (.ireturn, 1) := dX12_isPrime_37
theorem eX12_isPrime_38 : decode mX12_isPrime.2.1 38 = .ok (.iinc 3 1, 3) := dX12_isPrime_38
theorem eX12_isPrime_41 : decode mX12_isPrime.2.1 41 = .ok (.goto (-27), 3) := dX12_isPrime_41
theorem eX12_isPrime_44 : decode mX12_isPrime.2.1 44 = .ok (.iinc 2 1, 3) := dX12_isPrime_44
theorem eX12_isPrime_47 : decode mX12_isPrime.2.1 47 = .ok (.goto (-45), 3) := dX12_isPrime_47
theorem eX12_isPrime_50 : decode mX12_isPrime.2.1 50 = .ok (.iconst 1, 1) := dX12_isPrime_50
theorem eX12_isPrime_51 : decode mX12_isPrime.2.1 51 = .ok (.ireturn, 1) := dX12_isPrime_51
theorem eX12_isSign_0 : decode mX12_isSign.2.1 0 = .ok (.iload_n 0, 1) := dX12_isSign_0
theorem eX12_isSign_1 : decode mX12_isSign.2.1 1 = .ok (.lookupswitch 117 #[(35, 115), (40, 115), (41, 115), (42, 115), (43, 115), (45, 115), (94, 115), (103, 115), (105, 115), (109, 115), (112, 115), (114, 115), (116, 115)], 115) := dX12_isSign_1
theorem eX12_isSign_116 : decode mX12_isSign.2.1 116 = .ok (.iconst 1, 1) := dX12_isSign_116
theorem eX12_isSign_117 : decode mX12_isSign.2.1 117 = .ok (.ireturn, 1) := dX12_isSign_117
theorem eX12_isSign_118 : decode mX12_isSign.2.1 118 = .ok (.iconst 0, 1) := dX12_isSign_118
theorem eX12_isSign_119 : decode mX12_isSign.2.1 119 = .ok (.ireturn, 1) := dX12_isSign_119
theorem eX12_isSmall_0 : decode mX12_isSmall.2.1 0 = .ok (.lconst 1, 1) := dX12_isSmall_0
theorem eX12_isSmall_1 : decode mX12_isSmall.2.1 1 = .ok (.lstore_n 1, 1) := dX12_isSmall_1
theorem eX12_isSmall_2 : decode mX12_isSmall.2.1 2 = .ok (.iconst 0, 1) := dX12_isSmall_2
theorem eX12_isSmall_3 : decode mX12_isSmall.2.1 3 = .ok (.istore_n 3, 1) := dX12_isSmall_3
theorem eX12_isSmall_4 : decode mX12_isSmall.2.1 4 = .ok (.iload_n 3, 1) := dX12_isSmall_4
theorem eX12_isSmall_5 : decode mX12_isSmall.2.1 5 = .ok (.aload_n 0, 1) := dX12_isSmall_5
theorem eX12_isSmall_6 : decode mX12_isSmall.2.1 6 = .ok (.getfield 69, 3) := dX12_isSmall_6
theorem eX12_isSmall_9 : decode mX12_isSmall.2.1 9 = .ok (.aload_n 0, 1) := dX12_isSmall_9
theorem eX12_isSmall_10 : decode mX12_isSmall.2.1 10 = .ok (.getfield 322, 3) := dX12_isSmall_10
theorem eX12_isSmall_13 : decode mX12_isSmall.2.1 13 = .ok (.isub, 1) := dX12_isSmall_13
theorem eX12_isSmall_14 : decode mX12_isSmall.2.1 14 = .ok (.if_icmp .ge 25, 3) := dX12_isSmall_14
theorem eX12_isSmall_17 : decode mX12_isSmall.2.1 17 = .ok (.lload_n 1, 1) := dX12_isSmall_17
theorem eX12_isSmall_18 : decode mX12_isSmall.2.1 18 = .ok (.ldc2_w 391, 3) := dX12_isSmall_18
theorem eX12_isSmall_21 : decode mX12_isSmall.2.1 21 = .ok (.lcmp, 1) := dX12_isSmall_21
theorem eX12_isSmall_22 : decode mX12_isSmall.2.1 22 = .ok (.ifCond .gt 17, 3) := dX12_isSmall_22
theorem eX12_isSmall_25 : decode mX12_isSmall.2.1 25 = .ok (.lload_n 1, 1) := dX12_isSmall_25
theorem eX12_isSmall_26 : decode mX12_isSmall.2.1 26 = .ok (.aload_n 0, 1) := dX12_isSmall_26
theorem eX12_isSmall_27 : decode mX12_isSmall.2.1 27 = .ok (.getfield 22, 3) := dX12_isSmall_27
theorem eX12_isSmall_30 : decode mX12_isSmall.2.1 30 = .ok (.i2l, 1) := dX12_isSmall_30
theorem eX12_isSmall_31 : decode mX12_isSmall.2.1 31 = .ok (.lmul, 1) := dX12_isSmall_31
theorem eX12_isSmall_32 : decode mX12_isSmall.2.1 32 = .ok (.lstore_n 1, 1) := dX12_isSmall_32
theorem eX12_isSmall_33 : decode mX12_isSmall.2.1 33 = .ok (.iinc 3 1, 3) := dX12_isSmall_33
theorem eX12_isSmall_36 : decode mX12_isSmall.2.1 36 = .ok (.goto (-32), 3) := dX12_isSmall_36
theorem eX12_isSmall_39 : decode mX12_isSmall.2.1 39 = .ok (.lload_n 1, 1) := dX12_isSmall_39
theorem eX12_isSmall_40 : decode mX12_isSmall.2.1 40 = .ok (.ldc2_w 391, 3) := dX12_isSmall_40
theorem eX12_isSmall_43 : decode mX12_isSmall.2.1 43 = .ok (.lcmp, 1) := dX12_isSmall_43
theorem eX12_isSmall_44 : decode mX12_isSmall.2.1 44 = .ok (.ifCond .gt 7, 3) := dX12_isSmall_44
theorem eX12_isSmall_47 : decode mX12_isSmall.2.1 47 = .ok (.iconst 1, 1) := dX12_isSmall_47
theorem eX12_isSmall_48 : decode mX12_isSmall.2.1 48 = .ok (.goto 4, 3) := dX12_isSmall_48
theorem eX12_isSmall_51 : decode mX12_isSmall.2.1 51 = .ok (.iconst 0, 1) := dX12_isSmall_51
theorem eX12_isSmall_52 : decode mX12_isSmall.2.1 52 = .ok (.ireturn, 1) := dX12_isSmall_52
theorem eX12_isUnit_0 : decode mX12_isUnit.2.1 0 = .ok (.aload_n 0, 1) := dX12_isUnit_0
theorem eX12_isUnit_1 : decode mX12_isUnit.2.1 1 = .ok (.iload_n 1, 1) := dX12_isUnit_1
theorem eX12_isUnit_2 : decode mX12_isUnit.2.1 2 = .ok (.invokevirtual 139, 3) := dX12_isUnit_2
theorem eX12_isUnit_5 : decode mX12_isUnit.2.1 5 = .ok (.ifCond .eq 7, 3) := dX12_isUnit_5
theorem eX12_isUnit_8 : decode mX12_isUnit.2.1 8 = .ok (.iconst 1, 1) := dX12_isUnit_8
theorem eX12_isUnit_9 : decode mX12_isUnit.2.1 9 = .ok (.goto 4, 3) := dX12_isUnit_9
theorem eX12_isUnit_12 : decode mX12_isUnit.2.1 12 = .ok (.iconst 0, 1) := dX12_isUnit_12
theorem eX12_isUnit_13 : decode mX12_isUnit.2.1 13 = .ok (.ireturn, 1) := dX12_isUnit_13
theorem eX12_joined_0 : decode mX12_joined.2.1 0 = .ok (.iconst 0, 1) := dX12_joined_0
theorem eX12_joined_1 : decode mX12_joined.2.1 1 = .ok (.istore_n 2, 1) := dX12_joined_1
theorem eX12_joined_2 : decode mX12_joined.2.1 2 = .ok (.iconst 1, 1) := dX12_joined_2
theorem eX12_joined_3 : decode mX12_joined.2.1 3 = .ok (.istore_n 3, 1) := dX12_joined_3
theorem eX12_joined_4 : decode mX12_joined.2.1 4 = .ok (.iconst 0, 1) := dX12_joined_4
theorem eX12_joined_5 : decode mX12_joined.2.1 5 = .ok (.istore 4, 2) := dX12_joined_5
theorem eX12_joined_7 : decode mX12_joined.2.1 7 = .ok (.iload 4, 2) := dX12_joined_7
theorem eX12_joined_9 : decode mX12_joined.2.1 9 = .ok (.aload_n 0, 1) := dX12_joined_9
theorem eX12_joined_10 : decode mX12_joined.2.1 10 = .ok (.getfield 16, 3) := dX12_joined_10
theorem eX12_joined_13 : decode mX12_joined.2.1 13 = .ok (.if_icmp .ge 60, 3) := dX12_joined_13
theorem eX12_joined_16 : decode mX12_joined.2.1 16 = .ok (.aload_n 0, 1) := dX12_joined_16
theorem eX12_joined_17 : decode mX12_joined.2.1 17 = .ok (.getfield 59, 3) := dX12_joined_17
theorem eX12_joined_20 : decode mX12_joined.2.1 20 = .ok (.iload 4, 2) := dX12_joined_20
theorem eX12_joined_22 : decode mX12_joined.2.1 22 = .ok (.iaload, 1) := dX12_joined_22
theorem eX12_joined_23 : decode mX12_joined.2.1 23 = .ok (.iconst (-1), 1) := dX12_joined_23
theorem eX12_joined_24 : decode mX12_joined.2.1 24 = .ok (.if_icmp .eq 36, 3) := dX12_joined_24
theorem eX12_joined_27 : decode mX12_joined.2.1 27 = .ok (.aload_n 0, 1) := dX12_joined_27
theorem eX12_joined_28 : decode mX12_joined.2.1 28 = .ok (.iload_n 2, 1) := dX12_joined_28
theorem eX12_joined_29 : decode mX12_joined.2.1 29 = .ok (.aload_n 0, 1) := dX12_joined_29
theorem eX12_joined_30 : decode mX12_joined.2.1 30 = .ok (.iload_n 3, 1) := dX12_joined_30
theorem eX12_joined_31 : decode mX12_joined.2.1 31 = .ok (.aload_n 0, 1) := dX12_joined_31
theorem eX12_joined_32 : decode mX12_joined.2.1 32 = .ok (.getfield 41, 3) := dX12_joined_32
theorem eX12_joined_35 : decode mX12_joined.2.1 35 = .ok (.aload_n 0, 1) := dX12_joined_35
theorem eX12_joined_36 : decode mX12_joined.2.1 36 = .ok (.getfield 59, 3) := dX12_joined_36
theorem eX12_joined_39 : decode mX12_joined.2.1 39 = .ok (.iload 4, 2) := dX12_joined_39
theorem eX12_joined_41 : decode mX12_joined.2.1 41 = .ok (.iaload, 1) := dX12_joined_41
theorem eX12_joined_42 : decode mX12_joined.2.1 42 = .ok (.iload_n 1, 1) := dX12_joined_42
theorem eX12_joined_43 : decode mX12_joined.2.1 43 = .ok (.imul, 1) := dX12_joined_43
theorem eX12_joined_44 : decode mX12_joined.2.1 44 = .ok (.aload_n 0, 1) := dX12_joined_44
theorem eX12_joined_45 : decode mX12_joined.2.1 45 = .ok (.getfield 25, 3) := dX12_joined_45
theorem eX12_joined_48 : decode mX12_joined.2.1 48 = .ok (.iconst 1, 1) := dX12_joined_48
theorem eX12_joined_49 : decode mX12_joined.2.1 49 = .ok (.isub, 1) := dX12_joined_49
theorem eX12_joined_50 : decode mX12_joined.2.1 50 = .ok (.irem, 1) := dX12_joined_50
theorem eX12_joined_51 : decode mX12_joined.2.1 51 = .ok (.iaload, 1) := dX12_joined_51
theorem eX12_joined_52 : decode mX12_joined.2.1 52 = .ok (.invokevirtual 132, 3) := dX12_joined_52
theorem eX12_joined_55 : decode mX12_joined.2.1 55 = .ok (.iconst 1, 1) := dX12_joined_55
theorem eX12_joined_56 : decode mX12_joined.2.1 56 = .ok (.invokevirtual 175, 3) := dX12_joined_56
theorem eX12_joined_59 : decode mX12_joined.2.1 59 = .ok (.istore_n 2, 1) := dX12_joined_59
theorem eX12_joined_60 : decode mX12_joined.2.1 60 = .ok (.iload_n 3, 1) := dX12_joined_60
theorem eX12_joined_61 : decode mX12_joined.2.1 61 = .ok (.aload_n 0, 1) := dX12_joined_61
theorem eX12_joined_62 : decode mX12_joined.2.1 62 = .ok (.getfield 13, 3) := dX12_joined_62
theorem eX12_joined_65 : decode mX12_joined.2.1 65 = .ok (.imul, 1) := dX12_joined_65
theorem eX12_joined_66 : decode mX12_joined.2.1 66 = .ok (.istore_n 3, 1) := dX12_joined_66
theorem eX12_joined_67 : decode mX12_joined.2.1 67 = .ok (.iinc 4 1, 3) := dX12_joined_67
theorem eX12_joined_70 : decode mX12_joined.2.1 70 = .ok (.goto (-63), 3) := dX12_joined_70
theorem eX12_joined_73 : decode mX12_joined.2.1 73 = .ok (.iload_n 2, 1) := dX12_joined_73
theorem eX12_joined_74 : decode mX12_joined.2.1 74 = .ok (.ireturn, 1) := dX12_joined_74
theorem eX12_joins_0 : decode mX12_joins.2.1 0 = .ok (.iload_n 2, 1) := dX12_joins_0
theorem eX12_joins_1 : decode mX12_joins.2.1 1 = .ok (.iconst 1, 1) := dX12_joins_1
theorem eX12_joins_2 : decode mX12_joins.2.1 2 = .ok (.iadd, 1) := dX12_joins_2
theorem eX12_joins_3 : decode mX12_joins.2.1 3 = .ok (.istore 4, 2) := dX12_joins_3
theorem eX12_joins_5 : decode mX12_joins.2.1 5 = .ok (.iload 4, 2) := dX12_joins_5
theorem eX12_joins_7 : decode mX12_joins.2.1 7 = .ok (.ifCond .lt 52, 3) := dX12_joins_7
theorem eX12_joins_10 : decode mX12_joins.2.1 10 = .ok (.aload_n 1, 1) := dX12_joins_10
theorem eX12_joins_11 : decode mX12_joins.2.1 11 = .ok (.iload 4, 2) := dX12_joins_11
theorem eX12_joins_13 : decode mX12_joins.2.1 13 = .ok (.aload_n 0, 1) := dX12_joins_13
theorem eX12_joins_14 : decode mX12_joins.2.1 14 = .ok (.iload 4, 2) := dX12_joins_14
theorem eX12_joins_16 : decode mX12_joins.2.1 16 = .ok (.ifCond .ne 7, 3) := dX12_joins_16
theorem eX12_joins_19 : decode mX12_joins.2.1 19 = .ok (.iconst 0, 1) := dX12_joins_19
theorem eX12_joins_20 : decode mX12_joins.2.1 20 = .ok (.goto 9, 3) := dX12_joins_20
theorem eX12_joins_23 : decode mX12_joins.2.1 23 = .ok (.aload_n 1, 1) := dX12_joins_23
theorem eX12_joins_24 : decode mX12_joins.2.1 24 = .ok (.iload 4, 2) := dX12_joins_24
theorem eX12_joins_26 : decode mX12_joins.2.1 26 = .ok (.iconst 1, 1) := dX12_joins_26
theorem eX12_joins_27 : decode mX12_joins.2.1 27 = .ok (.isub, 1) := dX12_joins_27
theorem eX12_joins_28 : decode mX12_joins.2.1 28 = .ok (.iaload, 1) := dX12_joins_28
theorem eX12_joins_29 : decode mX12_joins.2.1 29 = .ok (.iload 4, 2) := dX12_joins_29
theorem eX12_joins_31 : decode mX12_joins.2.1 31 = .ok (.iload_n 2, 1) := dX12_joins_31
theorem eX12_joins_32 : decode mX12_joins.2.1 32 = .ok (.if_icmp .le 7, 3) := dX12_joins_32
theorem eX12_joins_35 : decode mX12_joins.2.1 35 = .ok (.iconst 0, 1) := dX12_joins_35
theorem eX12_joins_36 : decode mX12_joins.2.1 36 = .ok (.goto 12, 3) := dX12_joins_36
theorem eX12_joins_39 : decode mX12_joins.2.1 39 = .ok (.aload_n 0, 1) := dX12_joins_39
theorem eX12_joins_40 : decode mX12_joins.2.1 40 = .ok (.aload_n 1, 1) := dX12_joins_40
theorem eX12_joins_41 : decode mX12_joins.2.1 41 = .ok (.iload 4, 2) := dX12_joins_41
theorem eX12_joins_43 : decode mX12_joins.2.1 43 = .ok (.iaload, 1) := dX12_joins_43
theorem eX12_joins_44 : decode mX12_joins.2.1 44 = .ok (.iload_n 3, 1) := dX12_joins_44
theorem eX12_joins_45 : decode mX12_joins.2.1 45 = .ok (.invokevirtual 132, 3) := dX12_joins_45
theorem eX12_joins_48 : decode mX12_joins.2.1 48 = .ok (.iconst (-1), 1) := dX12_joins_48
theorem eX12_joins_49 : decode mX12_joins.2.1 49 = .ok (.invokevirtual 175, 3) := dX12_joins_49
theorem eX12_joins_52 : decode mX12_joins.2.1 52 = .ok (.iastore, 1) := dX12_joins_52
theorem eX12_joins_53 : decode mX12_joins.2.1 53 = .ok (.iinc 4 (-1), 3) := dX12_joins_53
theorem eX12_joins_56 : decode mX12_joins.2.1 56 = .ok (.goto (-51), 3) := dX12_joins_56
theorem eX12_joins_59 : decode mX12_joins.2.1 59 = .ok (.return_, 1) := dX12_joins_59
theorem eX12_lays_0 : decode mX12_lays.2.1 0 = .ok (.iload_n 2, 1) := dX12_lays_0
theorem eX12_lays_1 : decode mX12_lays.2.1 1 = .ok (.istore_n 3, 1) := dX12_lays_1
theorem eX12_lays_2 : decode mX12_lays.2.1 2 = .ok (.iconst 0, 1) := dX12_lays_2
theorem eX12_lays_3 : decode mX12_lays.2.1 3 = .ok (.istore 4, 2) := dX12_lays_3
theorem eX12_lays_5 : decode mX12_lays.2.1 5 = .ok (.iload 4, 2) := dX12_lays_5
theorem eX12_lays_7 : decode mX12_lays.2.1 7 = .ok (.aload_n 0, 1) := dX12_lays_7
theorem eX12_lays_8 : decode mX12_lays.2.1 8 = .ok (.getfield 19, 3) := dX12_lays_8
theorem eX12_lays_11 : decode mX12_lays.2.1 11 = .ok (.if_icmp .ge 26, 3) := dX12_lays_11
theorem eX12_lays_14 : decode mX12_lays.2.1 14 = .ok (.aload_n 1, 1) := dX12_lays_14
theorem eX12_lays_15 : decode mX12_lays.2.1 15 = .ok (.iload 4, 2) := dX12_lays_15
theorem eX12_lays_17 : decode mX12_lays.2.1 17 = .ok (.iload_n 3, 1) := dX12_lays_17
theorem eX12_lays_18 : decode mX12_lays.2.1 18 = .ok (.aload_n 0, 1) := dX12_lays_18
theorem eX12_lays_19 : decode mX12_lays.2.1 19 = .ok (.getfield 22, 3) := dX12_lays_19
theorem eX12_lays_22 : decode mX12_lays.2.1 22 = .ok (.irem, 1) := dX12_lays_22
theorem eX12_lays_23 : decode mX12_lays.2.1 23 = .ok (.iastore, 1) := dX12_lays_23
theorem eX12_lays_24 : decode mX12_lays.2.1 24 = .ok (.iload_n 3, 1) := dX12_lays_24
theorem eX12_lays_25 : decode mX12_lays.2.1 25 = .ok (.aload_n 0, 1) := dX12_lays_25
theorem eX12_lays_26 : decode mX12_lays.2.1 26 = .ok (.getfield 22, 3) := dX12_lays_26
theorem eX12_lays_29 : decode mX12_lays.2.1 29 = .ok (.idiv, 1) := dX12_lays_29
theorem eX12_lays_30 : decode mX12_lays.2.1 30 = .ok (.istore_n 3, 1) := dX12_lays_30
theorem eX12_lays_31 : decode mX12_lays.2.1 31 = .ok (.iinc 4 1, 3) := dX12_lays_31
theorem eX12_lays_34 : decode mX12_lays.2.1 34 = .ok (.goto (-29), 3) := dX12_lays_34
theorem eX12_lays_37 : decode mX12_lays.2.1 37 = .ok (.return_, 1) := dX12_lays_37
theorem eX12_laysCode_0 : decode mX12_laysCode.2.1 0 = .ok (.aload_n 0, 1) := dX12_laysCode_0
theorem eX12_laysCode_1 : decode mX12_laysCode.2.1 1 = .ok (.aload_n 0, 1) := dX12_laysCode_1
theorem eX12_laysCode_2 : decode mX12_laysCode.2.1 2 = .ok (.getfield 179, 3) := dX12_laysCode_2
theorem eX12_laysCode_5 : decode mX12_laysCode.2.1 5 = .ok (.aload_n 0, 1) := dX12_laysCode_5
theorem eX12_laysCode_6 : decode mX12_laysCode.2.1 6 = .ok (.getfield 25, 3) := dX12_laysCode_6
theorem eX12_laysCode_9 : decode mX12_laysCode.2.1 9 = .ok (.iconst 1, 1) := dX12_laysCode_9
theorem eX12_laysCode_10 : decode mX12_laysCode.2.1 10 = .ok (.isub, 1) := dX12_laysCode_10
theorem eX12_laysCode_11 : decode mX12_laysCode.2.1 11 = .ok (.aload_n 0, 1) := dX12_laysCode_11
theorem eX12_laysCode_12 : decode mX12_laysCode.2.1 12 = .ok (.getfield 69, 3) := dX12_laysCode_12
theorem eX12_laysCode_15 : decode mX12_laysCode.2.1 15 = .ok (.idiv, 1) := dX12_laysCode_15
theorem eX12_laysCode_16 : decode mX12_laysCode.2.1 16 = .ok (.i2l, 1) := dX12_laysCode_16
theorem eX12_laysCode_17 : decode mX12_laysCode.2.1 17 = .ok (.invokevirtual 147, 3) := dX12_laysCode_17
theorem eX12_laysCode_20 : decode mX12_laysCode.2.1 20 = .ok (.istore_n 1, 1) := dX12_laysCode_20
theorem eX12_laysCode_21 : decode mX12_laysCode.2.1 21 = .ok (.iconst 1, 1) := dX12_laysCode_21
theorem eX12_laysCode_22 : decode mX12_laysCode.2.1 22 = .ok (.istore_n 2, 1) := dX12_laysCode_22
theorem eX12_laysCode_23 : decode mX12_laysCode.2.1 23 = .ok (.iconst 0, 1) := dX12_laysCode_23
theorem eX12_laysCode_24 : decode mX12_laysCode.2.1 24 = .ok (.istore_n 3, 1) := dX12_laysCode_24
theorem eX12_laysCode_25 : decode mX12_laysCode.2.1 25 = .ok (.iconst 0, 1) := dX12_laysCode_25
theorem eX12_laysCode_26 : decode mX12_laysCode.2.1 26 = .ok (.istore 4, 2) := dX12_laysCode_26
theorem eX12_laysCode_28 : decode mX12_laysCode.2.1 28 = .ok (.iconst 0, 1) := dX12_laysCode_28
theorem eX12_laysCode_29 : decode mX12_laysCode.2.1 29 = .ok (.istore 5, 2) := dX12_laysCode_29
theorem eX12_laysCode_31 : decode mX12_laysCode.2.1 31 = .ok (.iload 5, 2) := dX12_laysCode_31
theorem eX12_laysCode_33 : decode mX12_laysCode.2.1 33 = .ok (.bipush 65, 2) := dX12_laysCode_33
theorem eX12_laysCode_35 : decode mX12_laysCode.2.1 35 = .ok (.if_icmp .ge 25, 3) := dX12_laysCode_35
theorem eX12_laysCode_38 : decode mX12_laysCode.2.1 38 = .ok (.aload_n 0, 1) := dX12_laysCode_38
theorem eX12_laysCode_39 : decode mX12_laysCode.2.1 39 = .ok (.getfield 72, 3) := dX12_laysCode_39
theorem eX12_laysCode_42 : decode mX12_laysCode.2.1 42 = .ok (.iload 5, 2) := dX12_laysCode_42
theorem eX12_laysCode_44 : decode mX12_laysCode.2.1 44 = .ok (.iconst 0, 1) := dX12_laysCode_44
theorem eX12_laysCode_45 : decode mX12_laysCode.2.1 45 = .ok (.iastore, 1) := dX12_laysCode_45
theorem eX12_laysCode_46 : decode mX12_laysCode.2.1 46 = .ok (.aload_n 0, 1) := dX12_laysCode_46
theorem eX12_laysCode_47 : decode mX12_laysCode.2.1 47 = .ok (.getfield 75, 3) := dX12_laysCode_47
theorem eX12_laysCode_50 : decode mX12_laysCode.2.1 50 = .ok (.iload 5, 2) := dX12_laysCode_50
theorem eX12_laysCode_52 : decode mX12_laysCode.2.1 52 = .ok (.iconst 0, 1) := dX12_laysCode_52
theorem eX12_laysCode_53 : decode mX12_laysCode.2.1 53 = .ok (.iastore, 1) := dX12_laysCode_53
theorem eX12_laysCode_54 : decode mX12_laysCode.2.1 54 = .ok (.iinc 5 1, 3) := dX12_laysCode_54
theorem eX12_laysCode_57 : decode mX12_laysCode.2.1 57 = .ok (.goto (-26), 3) := dX12_laysCode_57
theorem eX12_laysCode_60 : decode mX12_laysCode.2.1 60 = .ok (.aload_n 0, 1) := dX12_laysCode_60
theorem eX12_laysCode_61 : decode mX12_laysCode.2.1 61 = .ok (.getfield 72, 3) := dX12_laysCode_61
theorem eX12_laysCode_64 : decode mX12_laysCode.2.1 64 = .ok (.iconst 0, 1) := dX12_laysCode_64
theorem eX12_laysCode_65 : decode mX12_laysCode.2.1 65 = .ok (.iconst 1, 1) := dX12_laysCode_65
theorem eX12_laysCode_66 : decode mX12_laysCode.2.1 66 = .ok (.iastore, 1) := dX12_laysCode_66
theorem eX12_laysCode_67 : decode mX12_laysCode.2.1 67 = .ok (.aload_n 0, 1) := dX12_laysCode_67
theorem eX12_laysCode_68 : decode mX12_laysCode.2.1 68 = .ok (.getfield 75, 3) := dX12_laysCode_68
theorem eX12_laysCode_71 : decode mX12_laysCode.2.1 71 = .ok (.iconst 0, 1) := dX12_laysCode_71
theorem eX12_laysCode_72 : decode mX12_laysCode.2.1 72 = .ok (.iconst 1, 1) := dX12_laysCode_72
theorem eX12_laysCode_73 : decode mX12_laysCode.2.1 73 = .ok (.iastore, 1) := dX12_laysCode_73
theorem eX12_laysCode_74 : decode mX12_laysCode.2.1 74 = .ok (.iconst 0, 1) := dX12_laysCode_74
theorem eX12_laysCode_75 : decode mX12_laysCode.2.1 75 = .ok (.istore 5, 2) := dX12_laysCode_75
theorem eX12_laysCode_77 : decode mX12_laysCode.2.1 77 = .ok (.iload 5, 2) := dX12_laysCode_77
theorem eX12_laysCode_79 : decode mX12_laysCode.2.1 79 = .ok (.aload_n 0, 1) := dX12_laysCode_79
theorem eX12_laysCode_80 : decode mX12_laysCode.2.1 80 = .ok (.getfield 69, 3) := dX12_laysCode_80
theorem eX12_laysCode_83 : decode mX12_laysCode.2.1 83 = .ok (.if_icmp .ge 78, 3) := dX12_laysCode_83
theorem eX12_laysCode_86 : decode mX12_laysCode.2.1 86 = .ok (.aload_n 0, 1) := dX12_laysCode_86
theorem eX12_laysCode_87 : decode mX12_laysCode.2.1 87 = .ok (.aload_n 0, 1) := dX12_laysCode_87
theorem eX12_laysCode_88 : decode mX12_laysCode.2.1 88 = .ok (.getfield 69, 3) := dX12_laysCode_88
theorem eX12_laysCode_91 : decode mX12_laysCode.2.1 91 = .ok (.iload 5, 2) := dX12_laysCode_91
theorem eX12_laysCode_93 : decode mX12_laysCode.2.1 93 = .ok (.invokevirtual 388, 3) := dX12_laysCode_93
theorem eX12_laysCode_96 : decode mX12_laysCode.2.1 96 = .ok (.istore 6, 2) := dX12_laysCode_96
theorem eX12_laysCode_98 : decode mX12_laysCode.2.1 98 = .ok (.iload 6, 2) := dX12_laysCode_98
theorem eX12_laysCode_100 : decode mX12_laysCode.2.1 100 = .ok (.bipush 31, 2) := dX12_laysCode_100
theorem eX12_laysCode_102 : decode mX12_laysCode.2.1 102 = .ok (.if_icmp .ge 32, 3) := dX12_laysCode_102
theorem eX12_laysCode_105 : decode mX12_laysCode.2.1 105 = .ok (.aload_n 0, 1) := dX12_laysCode_105
theorem eX12_laysCode_106 : decode mX12_laysCode.2.1 106 = .ok (.getfield 157, 3) := dX12_laysCode_106
theorem eX12_laysCode_109 : decode mX12_laysCode.2.1 109 = .ok (.iload 6, 2) := dX12_laysCode_109
theorem eX12_laysCode_111 : decode mX12_laysCode.2.1 111 = .ok (.ishr, 1) := dX12_laysCode_111
theorem eX12_laysCode_112 : decode mX12_laysCode.2.1 112 = .ok (.iconst 1, 1) := dX12_laysCode_112
theorem eX12_laysCode_113 : decode mX12_laysCode.2.1 113 = .ok (.iand, 1) := dX12_laysCode_113
theorem eX12_laysCode_114 : decode mX12_laysCode.2.1 114 = .ok (.iconst 1, 1) := dX12_laysCode_114
theorem eX12_laysCode_115 : decode mX12_laysCode.2.1 115 = .ok (.if_icmp .ne 19, 3) := dX12_laysCode_115
theorem eX12_laysCode_118 : decode mX12_laysCode.2.1 118 = .ok (.aload_n 0, 1) := dX12_laysCode_118
theorem eX12_laysCode_119 : decode mX12_laysCode.2.1 119 = .ok (.aload_n 0, 1) := dX12_laysCode_119
theorem eX12_laysCode_120 : decode mX12_laysCode.2.1 120 = .ok (.getfield 72, 3) := dX12_laysCode_120
theorem eX12_laysCode_123 : decode mX12_laysCode.2.1 123 = .ok (.iload_n 3, 1) := dX12_laysCode_123
theorem eX12_laysCode_124 : decode mX12_laysCode.2.1 124 = .ok (.iload_n 2, 1) := dX12_laysCode_124
theorem eX12_laysCode_125 : decode mX12_laysCode.2.1 125 = .ok (.invokevirtual 171, 3) := dX12_laysCode_125
theorem eX12_laysCode_128 : decode mX12_laysCode.2.1 128 = .ok (.iinc 3 1, 3) := dX12_laysCode_128
theorem eX12_laysCode_131 : decode mX12_laysCode.2.1 131 = .ok (.goto 17, 3) := dX12_laysCode_131
theorem eX12_laysCode_134 : decode mX12_laysCode.2.1 134 = .ok (.aload_n 0, 1) := dX12_laysCode_134
theorem eX12_laysCode_135 : decode mX12_laysCode.2.1 135 = .ok (.aload_n 0, 1) := dX12_laysCode_135
theorem eX12_laysCode_136 : decode mX12_laysCode.2.1 136 = .ok (.getfield 75, 3) := dX12_laysCode_136
theorem eX12_laysCode_139 : decode mX12_laysCode.2.1 139 = .ok (.iload 4, 2) := dX12_laysCode_139
theorem eX12_laysCode_141 : decode mX12_laysCode.2.1 141 = .ok (.iload_n 2, 1) := dX12_laysCode_141
theorem eX12_laysCode_142 : decode mX12_laysCode.2.1 142 = .ok (.invokevirtual 171, 3) := dX12_laysCode_142
theorem eX12_laysCode_145 : decode mX12_laysCode.2.1 145 = .ok (.iinc 4 1, 3) := dX12_laysCode_145
theorem eX12_laysCode_148 : decode mX12_laysCode.2.1 148 = .ok (.aload_n 0, 1) := dX12_laysCode_148
theorem eX12_laysCode_149 : decode mX12_laysCode.2.1 149 = .ok (.iload_n 2, 1) := dX12_laysCode_149
theorem eX12_laysCode_150 : decode mX12_laysCode.2.1 150 = .ok (.iload_n 1, 1) := dX12_laysCode_150
theorem eX12_laysCode_151 : decode mX12_laysCode.2.1 151 = .ok (.invokevirtual 132, 3) := dX12_laysCode_151
theorem eX12_laysCode_154 : decode mX12_laysCode.2.1 154 = .ok (.istore_n 2, 1) := dX12_laysCode_154
theorem eX12_laysCode_155 : decode mX12_laysCode.2.1 155 = .ok (.iinc 5 1, 3) := dX12_laysCode_155
theorem eX12_laysCode_158 : decode mX12_laysCode.2.1 158 = .ok (.goto (-81), 3) := dX12_laysCode_158
theorem eX12_laysCode_161 : decode mX12_laysCode.2.1 161 = .ok (.aload_n 0, 1) := dX12_laysCode_161
theorem eX12_laysCode_162 : decode mX12_laysCode.2.1 162 = .ok (.iload_n 3, 1) := dX12_laysCode_162
theorem eX12_laysCode_163 : decode mX12_laysCode.2.1 163 = .ok (.putfield 322, 3) := dX12_laysCode_163
theorem eX12_laysCode_166 : decode mX12_laysCode.2.1 166 = .ok (.return_, 1) := dX12_laysCode_166
theorem eX12_laysDigits_0 : decode mX12_laysDigits.2.1 0 = .ok (.iload_n 1, 1) := dX12_laysDigits_0
theorem eX12_laysDigits_1 : decode mX12_laysDigits.2.1 1 = .ok (.istore_n 2, 1) := dX12_laysDigits_1
theorem eX12_laysDigits_2 : decode mX12_laysDigits.2.1 2 = .ok (.iconst 0, 1) := dX12_laysDigits_2
theorem eX12_laysDigits_3 : decode mX12_laysDigits.2.1 3 = .ok (.istore_n 3, 1) := dX12_laysDigits_3
theorem eX12_laysDigits_4 : decode mX12_laysDigits.2.1 4 = .ok (.iload_n 3, 1) := dX12_laysDigits_4
theorem eX12_laysDigits_5 : decode mX12_laysDigits.2.1 5 = .ok (.aload_n 0, 1) := dX12_laysDigits_5
theorem eX12_laysDigits_6 : decode mX12_laysDigits.2.1 6 = .ok (.getfield 16, 3) := dX12_laysDigits_6
theorem eX12_laysDigits_9 : decode mX12_laysDigits.2.1 9 = .ok (.if_icmp .ge 41, 3) := dX12_laysDigits_9
theorem eX12_laysDigits_12 : decode mX12_laysDigits.2.1 12 = .ok (.aload_n 0, 1) := dX12_laysDigits_12
theorem eX12_laysDigits_13 : decode mX12_laysDigits.2.1 13 = .ok (.getfield 59, 3) := dX12_laysDigits_13
theorem eX12_laysDigits_16 : decode mX12_laysDigits.2.1 16 = .ok (.iload_n 3, 1) := dX12_laysDigits_16
theorem eX12_laysDigits_17 : decode mX12_laysDigits.2.1 17 = .ok (.aload_n 0, 1) := dX12_laysDigits_17
theorem eX12_laysDigits_18 : decode mX12_laysDigits.2.1 18 = .ok (.getfield 38, 3) := dX12_laysDigits_18
theorem eX12_laysDigits_21 : decode mX12_laysDigits.2.1 21 = .ok (.aload_n 0, 1) := dX12_laysDigits_21
theorem eX12_laysDigits_22 : decode mX12_laysDigits.2.1 22 = .ok (.iload_n 2, 1) := dX12_laysDigits_22
theorem eX12_laysDigits_23 : decode mX12_laysDigits.2.1 23 = .ok (.invokevirtual 139, 3) := dX12_laysDigits_23
theorem eX12_laysDigits_26 : decode mX12_laysDigits.2.1 26 = .ok (.iaload, 1) := dX12_laysDigits_26
theorem eX12_laysDigits_27 : decode mX12_laysDigits.2.1 27 = .ok (.iastore, 1) := dX12_laysDigits_27
theorem eX12_laysDigits_28 : decode mX12_laysDigits.2.1 28 = .ok (.aload_n 0, 1) := dX12_laysDigits_28
theorem eX12_laysDigits_29 : decode mX12_laysDigits.2.1 29 = .ok (.aload_n 0, 1) := dX12_laysDigits_29
theorem eX12_laysDigits_30 : decode mX12_laysDigits.2.1 30 = .ok (.iload_n 2, 1) := dX12_laysDigits_30
theorem eX12_laysDigits_31 : decode mX12_laysDigits.2.1 31 = .ok (.aload_n 0, 1) := dX12_laysDigits_31
theorem eX12_laysDigits_32 : decode mX12_laysDigits.2.1 32 = .ok (.iload_n 2, 1) := dX12_laysDigits_32
theorem eX12_laysDigits_33 : decode mX12_laysDigits.2.1 33 = .ok (.invokevirtual 185, 3) := dX12_laysDigits_33
theorem eX12_laysDigits_36 : decode mX12_laysDigits.2.1 36 = .ok (.iconst (-1), 1) := dX12_laysDigits_36
theorem eX12_laysDigits_37 : decode mX12_laysDigits.2.1 37 = .ok (.invokevirtual 175, 3) := dX12_laysDigits_37
theorem eX12_laysDigits_40 : decode mX12_laysDigits.2.1 40 = .ok (.invokevirtual 188, 3) := dX12_laysDigits_40
theorem eX12_laysDigits_43 : decode mX12_laysDigits.2.1 43 = .ok (.istore_n 2, 1) := dX12_laysDigits_43
theorem eX12_laysDigits_44 : decode mX12_laysDigits.2.1 44 = .ok (.iinc 3 1, 3) := dX12_laysDigits_44
theorem eX12_laysDigits_47 : decode mX12_laysDigits.2.1 47 = .ok (.goto (-43), 3) := dX12_laysDigits_47
theorem eX12_laysDigits_50 : decode mX12_laysDigits.2.1 50 = .ok (.return_, 1) := dX12_laysDigits_50
theorem eX12_laysModulus_0 : decode mX12_laysModulus.2.1 0 = .ok (.iconst 0, 1) := dX12_laysModulus_0
theorem eX12_laysModulus_1 : decode mX12_laysModulus.2.1 1 = .ok (.istore_n 1, 1) := dX12_laysModulus_1
theorem eX12_laysModulus_2 : decode mX12_laysModulus.2.1 2 = .ok (.iload_n 1, 1) := dX12_laysModulus_2
theorem eX12_laysModulus_3 : decode mX12_laysModulus.2.1 3 = .ok (.bipush 7, 2) := dX12_laysModulus_3
theorem eX12_laysModulus_5 : decode mX12_laysModulus.2.1 5 = .ok (.if_icmp .ge 16, 3) := dX12_laysModulus_5
theorem eX12_laysModulus_8 : decode mX12_laysModulus.2.1 8 = .ok (.aload_n 0, 1) := dX12_laysModulus_8
theorem eX12_laysModulus_9 : decode mX12_laysModulus.2.1 9 = .ok (.getfield 31, 3) := dX12_laysModulus_9
theorem eX12_laysModulus_12 : decode mX12_laysModulus.2.1 12 = .ok (.iload_n 1, 1) := dX12_laysModulus_12
theorem eX12_laysModulus_13 : decode mX12_laysModulus.2.1 13 = .ok (.iconst 0, 1) := dX12_laysModulus_13
theorem eX12_laysModulus_14 : decode mX12_laysModulus.2.1 14 = .ok (.iastore, 1) := dX12_laysModulus_14
theorem eX12_laysModulus_15 : decode mX12_laysModulus.2.1 15 = .ok (.iinc 1 1, 3) := dX12_laysModulus_15
theorem eX12_laysModulus_18 : decode mX12_laysModulus.2.1 18 = .ok (.goto (-16), 3) := dX12_laysModulus_18
theorem eX12_laysModulus_21 : decode mX12_laysModulus.2.1 21 = .ok (.aload_n 0, 1) := dX12_laysModulus_21
theorem eX12_laysModulus_22 : decode mX12_laysModulus.2.1 22 = .ok (.getfield 31, 3) := dX12_laysModulus_22
theorem eX12_laysModulus_25 : decode mX12_laysModulus.2.1 25 = .ok (.aload_n 0, 1) := dX12_laysModulus_25
theorem eX12_laysModulus_26 : decode mX12_laysModulus.2.1 26 = .ok (.getfield 19, 3) := dX12_laysModulus_26
theorem eX12_laysModulus_29 : decode mX12_laysModulus.2.1 29 = .ok (.iconst 1, 1) := dX12_laysModulus_29
theorem eX12_laysModulus_30 : decode mX12_laysModulus.2.1 30 = .ok (.iastore, 1) := dX12_laysModulus_30
theorem eX12_laysModulus_31 : decode mX12_laysModulus.2.1 31 = .ok (.aload_n 0, 1) := dX12_laysModulus_31
theorem eX12_laysModulus_32 : decode mX12_laysModulus.2.1 32 = .ok (.getfield 19, 3) := dX12_laysModulus_32
theorem eX12_laysModulus_35 : decode mX12_laysModulus.2.1 35 = .ok (.iconst 1, 1) := dX12_laysModulus_35
theorem eX12_laysModulus_36 : decode mX12_laysModulus.2.1 36 = .ok (.if_icmp .ne 4, 3) := dX12_laysModulus_36
theorem eX12_laysModulus_39 : decode mX12_laysModulus.2.1 39 = .ok (.return_, 1) := dX12_laysModulus_39
theorem eX12_laysModulus_40 : decode mX12_laysModulus.2.1 40 = .ok (.iconst 0, 1) := dX12_laysModulus_40
theorem eX12_laysModulus_41 : decode mX12_laysModulus.2.1 41 = .ok (.istore_n 1, 1) := dX12_laysModulus_41
theorem eX12_laysModulus_42 : decode mX12_laysModulus.2.1 42 = .ok (.aload_n 0, 1) := dX12_laysModulus_42
theorem eX12_laysModulus_43 : decode mX12_laysModulus.2.1 43 = .ok (.iload_n 1, 1) := dX12_laysModulus_43
theorem eX12_laysModulus_44 : decode mX12_laysModulus.2.1 44 = .ok (.invokevirtual 167, 3) := dX12_laysModulus_44
theorem eX12_laysModulus_47 : decode mX12_laysModulus.2.1 47 = .ok (.ifCond .ne 9, 3) := dX12_laysModulus_47
theorem eX12_laysModulus_50 : decode mX12_laysModulus.2.1 50 = .ok (.iinc 1 1, 3) := dX12_laysModulus_50
theorem eX12_laysModulus_53 : decode mX12_laysModulus.2.1 53 = .ok (.goto (-11), 3) := dX12_laysModulus_53
theorem eX12_laysModulus_56 : decode mX12_laysModulus.2.1 56 = .ok (.iload_n 1, 1) := dX12_laysModulus_56
theorem eX12_laysModulus_57 : decode mX12_laysModulus.2.1 57 = .ok (.istore_n 2, 1) := dX12_laysModulus_57
theorem eX12_laysModulus_58 : decode mX12_laysModulus.2.1 58 = .ok (.iconst 0, 1) := dX12_laysModulus_58
theorem eX12_laysModulus_59 : decode mX12_laysModulus.2.1 59 = .ok (.istore_n 3, 1) := dX12_laysModulus_59
theorem eX12_laysModulus_60 : decode mX12_laysModulus.2.1 60 = .ok (.iload_n 3, 1) := dX12_laysModulus_60
theorem eX12_laysModulus_61 : decode mX12_laysModulus.2.1 61 = .ok (.aload_n 0, 1) := dX12_laysModulus_61
theorem eX12_laysModulus_62 : decode mX12_laysModulus.2.1 62 = .ok (.getfield 19, 3) := dX12_laysModulus_62
theorem eX12_laysModulus_65 : decode mX12_laysModulus.2.1 65 = .ok (.if_icmp .ge 28, 3) := dX12_laysModulus_65
theorem eX12_laysModulus_68 : decode mX12_laysModulus.2.1 68 = .ok (.aload_n 0, 1) := dX12_laysModulus_68
theorem eX12_laysModulus_69 : decode mX12_laysModulus.2.1 69 = .ok (.getfield 31, 3) := dX12_laysModulus_69
theorem eX12_laysModulus_72 : decode mX12_laysModulus.2.1 72 = .ok (.iload_n 3, 1) := dX12_laysModulus_72
theorem eX12_laysModulus_73 : decode mX12_laysModulus.2.1 73 = .ok (.iload_n 2, 1) := dX12_laysModulus_73
theorem eX12_laysModulus_74 : decode mX12_laysModulus.2.1 74 = .ok (.aload_n 0, 1) := dX12_laysModulus_74
theorem eX12_laysModulus_75 : decode mX12_laysModulus.2.1 75 = .ok (.getfield 13, 3) := dX12_laysModulus_75
theorem eX12_laysModulus_78 : decode mX12_laysModulus.2.1 78 = .ok (.irem, 1) := dX12_laysModulus_78
theorem eX12_laysModulus_79 : decode mX12_laysModulus.2.1 79 = .ok (.iastore, 1) := dX12_laysModulus_79
theorem eX12_laysModulus_80 : decode mX12_laysModulus.2.1 80 = .ok (.iload_n 2, 1) := dX12_laysModulus_80
theorem eX12_laysModulus_81 : decode mX12_laysModulus.2.1 81 = .ok (.aload_n 0, 1) := dX12_laysModulus_81
theorem eX12_laysModulus_82 : decode mX12_laysModulus.2.1 82 = .ok (.getfield 13, 3) := dX12_laysModulus_82
theorem eX12_laysModulus_85 : decode mX12_laysModulus.2.1 85 = .ok (.idiv, 1) := dX12_laysModulus_85
theorem eX12_laysModulus_86 : decode mX12_laysModulus.2.1 86 = .ok (.istore_n 2, 1) := dX12_laysModulus_86
theorem eX12_laysModulus_87 : decode mX12_laysModulus.2.1 87 = .ok (.iinc 3 1, 3) := dX12_laysModulus_87
theorem eX12_laysModulus_90 : decode mX12_laysModulus.2.1 90 = .ok (.goto (-30), 3) := dX12_laysModulus_90
theorem eX12_laysModulus_93 : decode mX12_laysModulus.2.1 93 = .ok (.aload_n 0, 1) := dX12_laysModulus_93
theorem eX12_laysModulus_94 : decode mX12_laysModulus.2.1 94 = .ok (.getfield 22, 3) := dX12_laysModulus_94
theorem eX12_laysModulus_97 : decode mX12_laysModulus.2.1 97 = .ok (.istore_n 3, 1) := dX12_laysModulus_97
theorem eX12_laysModulus_98 : decode mX12_laysModulus.2.1 98 = .ok (.iconst 1, 1) := dX12_laysModulus_98
theorem eX12_laysModulus_99 : decode mX12_laysModulus.2.1 99 = .ok (.istore 4, 2) := dX12_laysModulus_99
theorem eX12_laysModulus_101 : decode mX12_laysModulus.2.1 101 = .ok (.iload 4, 2) := dX12_laysModulus_101
theorem eX12_laysModulus_103 : decode mX12_laysModulus.2.1 103 = .ok (.aload_n 0, 1) := dX12_laysModulus_103
theorem eX12_laysModulus_104 : decode mX12_laysModulus.2.1 104 = .ok (.getfield 16, 3) := dX12_laysModulus_104
theorem eX12_laysModulus_107 : decode mX12_laysModulus.2.1 107 = .ok (.if_icmp .ge 20, 3) := dX12_laysModulus_107
theorem eX12_laysModulus_110 : decode mX12_laysModulus.2.1 110 = .ok (.aload_n 0, 1) := dX12_laysModulus_110
theorem eX12_laysModulus_111 : decode mX12_laysModulus.2.1 111 = .ok (.iload_n 3, 1) := dX12_laysModulus_111
theorem eX12_laysModulus_112 : decode mX12_laysModulus.2.1 112 = .ok (.aload_n 0, 1) := dX12_laysModulus_112
theorem eX12_laysModulus_113 : decode mX12_laysModulus.2.1 113 = .ok (.getfield 25, 3) := dX12_laysModulus_113
theorem eX12_laysModulus_116 : decode mX12_laysModulus.2.1 116 = .ok (.i2l, 1) := dX12_laysModulus_116
theorem eX12_laysModulus_117 : decode mX12_laysModulus.2.1 117 = .ok (.invokevirtual 147, 3) := dX12_laysModulus_117
theorem eX12_laysModulus_120 : decode mX12_laysModulus.2.1 120 = .ok (.istore_n 3, 1) := dX12_laysModulus_120
theorem eX12_laysModulus_121 : decode mX12_laysModulus.2.1 121 = .ok (.iinc 4 1, 3) := dX12_laysModulus_121
theorem eX12_laysModulus_124 : decode mX12_laysModulus.2.1 124 = .ok (.goto (-23), 3) := dX12_laysModulus_124
theorem eX12_laysModulus_127 : decode mX12_laysModulus.2.1 127 = .ok (.aload_n 0, 1) := dX12_laysModulus_127
theorem eX12_laysModulus_128 : decode mX12_laysModulus.2.1 128 = .ok (.getfield 19, 3) := dX12_laysModulus_128
theorem eX12_laysModulus_131 : decode mX12_laysModulus.2.1 131 = .ok (.iconst 1, 1) := dX12_laysModulus_131
theorem eX12_laysModulus_132 : decode mX12_laysModulus.2.1 132 = .ok (.iadd, 1) := dX12_laysModulus_132
theorem eX12_laysModulus_133 : decode mX12_laysModulus.2.1 133 = .ok (.newarray .int, 2) := dX12_laysModulus_133
theorem eX12_laysModulus_135 : decode mX12_laysModulus.2.1 135 = .ok (.astore 4, 2) := dX12_laysModulus_135
theorem eX12_laysModulus_137 : decode mX12_laysModulus.2.1 137 = .ok (.aload 4, 2) := dX12_laysModulus_137
theorem eX12_laysModulus_139 : decode mX12_laysModulus.2.1 139 = .ok (.iconst 0, 1) := dX12_laysModulus_139
theorem eX12_laysModulus_140 : decode mX12_laysModulus.2.1 140 = .ok (.iconst 1, 1) := dX12_laysModulus_140
theorem eX12_laysModulus_141 : decode mX12_laysModulus.2.1 141 = .ok (.iastore, 1) := dX12_laysModulus_141
theorem eX12_laysModulus_142 : decode mX12_laysModulus.2.1 142 = .ok (.iconst 0, 1) := dX12_laysModulus_142
theorem eX12_laysModulus_143 : decode mX12_laysModulus.2.1 143 = .ok (.istore 5, 2) := dX12_laysModulus_143
theorem eX12_laysModulus_145 : decode mX12_laysModulus.2.1 145 = .ok (.iload 5, 2) := dX12_laysModulus_145
theorem eX12_laysModulus_147 : decode mX12_laysModulus.2.1 147 = .ok (.aload_n 0, 1) := dX12_laysModulus_147
theorem eX12_laysModulus_148 : decode mX12_laysModulus.2.1 148 = .ok (.getfield 19, 3) := dX12_laysModulus_148
theorem eX12_laysModulus_151 : decode mX12_laysModulus.2.1 151 = .ok (.if_icmp .ge 29, 3) := dX12_laysModulus_151
theorem eX12_laysModulus_154 : decode mX12_laysModulus.2.1 154 = .ok (.aload_n 0, 1) := dX12_laysModulus_154
theorem eX12_laysModulus_155 : decode mX12_laysModulus.2.1 155 = .ok (.aload 4, 2) := dX12_laysModulus_155
theorem eX12_laysModulus_157 : decode mX12_laysModulus.2.1 157 = .ok (.iload 5, 2) := dX12_laysModulus_157
theorem eX12_laysModulus_159 : decode mX12_laysModulus.2.1 159 = .ok (.iload_n 3, 1) := dX12_laysModulus_159
theorem eX12_laysModulus_160 : decode mX12_laysModulus.2.1 160 = .ok (.invokevirtual 171, 3) := dX12_laysModulus_160
theorem eX12_laysModulus_163 : decode mX12_laysModulus.2.1 163 = .ok (.aload_n 0, 1) := dX12_laysModulus_163
theorem eX12_laysModulus_164 : decode mX12_laysModulus.2.1 164 = .ok (.iload_n 3, 1) := dX12_laysModulus_164
theorem eX12_laysModulus_165 : decode mX12_laysModulus.2.1 165 = .ok (.aload_n 0, 1) := dX12_laysModulus_165
theorem eX12_laysModulus_166 : decode mX12_laysModulus.2.1 166 = .ok (.getfield 13, 3) := dX12_laysModulus_166
theorem eX12_laysModulus_169 : decode mX12_laysModulus.2.1 169 = .ok (.i2l, 1) := dX12_laysModulus_169
theorem eX12_laysModulus_170 : decode mX12_laysModulus.2.1 170 = .ok (.invokevirtual 147, 3) := dX12_laysModulus_170
theorem eX12_laysModulus_173 : decode mX12_laysModulus.2.1 173 = .ok (.istore_n 3, 1) := dX12_laysModulus_173
theorem eX12_laysModulus_174 : decode mX12_laysModulus.2.1 174 = .ok (.iinc 5 1, 3) := dX12_laysModulus_174
theorem eX12_laysModulus_177 : decode mX12_laysModulus.2.1 177 = .ok (.goto (-32), 3) := dX12_laysModulus_177
theorem eX12_laysModulus_180 : decode mX12_laysModulus.2.1 180 = .ok (.iconst 0, 1) := dX12_laysModulus_180
theorem eX12_laysModulus_181 : decode mX12_laysModulus.2.1 181 = .ok (.istore 5, 2) := dX12_laysModulus_181
theorem eX12_laysModulus_183 : decode mX12_laysModulus.2.1 183 = .ok (.iload 5, 2) := dX12_laysModulus_183
theorem eX12_laysModulus_185 : decode mX12_laysModulus.2.1 185 = .ok (.aload_n 0, 1) := dX12_laysModulus_185
theorem eX12_laysModulus_186 : decode mX12_laysModulus.2.1 186 = .ok (.getfield 19, 3) := dX12_laysModulus_186
theorem eX12_laysModulus_189 : decode mX12_laysModulus.2.1 189 = .ok (.if_icmp .ge 21, 3) := dX12_laysModulus_189
theorem eX12_laysModulus_192 : decode mX12_laysModulus.2.1 192 = .ok (.aload_n 0, 1) := dX12_laysModulus_192
theorem eX12_laysModulus_193 : decode mX12_laysModulus.2.1 193 = .ok (.getfield 31, 3) := dX12_laysModulus_193
theorem eX12_laysModulus_196 : decode mX12_laysModulus.2.1 196 = .ok (.iload 5, 2) := dX12_laysModulus_196
theorem eX12_laysModulus_198 : decode mX12_laysModulus.2.1 198 = .ok (.aload 4, 2) := dX12_laysModulus_198
theorem eX12_laysModulus_200 : decode mX12_laysModulus.2.1 200 = .ok (.iload 5, 2) := dX12_laysModulus_200
theorem eX12_laysModulus_202 : decode mX12_laysModulus.2.1 202 = .ok (.iaload, 1) := dX12_laysModulus_202
theorem eX12_laysModulus_203 : decode mX12_laysModulus.2.1 203 = .ok (.iastore, 1) := dX12_laysModulus_203
theorem eX12_laysModulus_204 : decode mX12_laysModulus.2.1 204 = .ok (.iinc 5 1, 3) := dX12_laysModulus_204
theorem eX12_laysModulus_207 : decode mX12_laysModulus.2.1 207 = .ok (.goto (-24), 3) := dX12_laysModulus_207
theorem eX12_laysModulus_210 : decode mX12_laysModulus.2.1 210 = .ok (.return_, 1) := dX12_laysModulus_210
theorem eX12_laysRoots_0 : decode mX12_laysRoots.2.1 0 = .ok (.iconst 0, 1) := dX12_laysRoots_0
theorem eX12_laysRoots_1 : decode mX12_laysRoots.2.1 1 = .ok (.istore_n 1, 1) := dX12_laysRoots_1
theorem eX12_laysRoots_2 : decode mX12_laysRoots.2.1 2 = .ok (.iload_n 1, 1) := dX12_laysRoots_2
theorem eX12_laysRoots_3 : decode mX12_laysRoots.2.1 3 = .ok (.aload_n 0, 1) := dX12_laysRoots_3
theorem eX12_laysRoots_4 : decode mX12_laysRoots.2.1 4 = .ok (.getfield 25, 3) := dX12_laysRoots_4
theorem eX12_laysRoots_7 : decode mX12_laysRoots.2.1 7 = .ok (.if_icmp .ge 98, 3) := dX12_laysRoots_7
theorem eX12_laysRoots_10 : decode mX12_laysRoots.2.1 10 = .ok (.iconst 0, 1) := dX12_laysRoots_10
theorem eX12_laysRoots_11 : decode mX12_laysRoots.2.1 11 = .ok (.istore_n 2, 1) := dX12_laysRoots_11
theorem eX12_laysRoots_12 : decode mX12_laysRoots.2.1 12 = .ok (.iload_n 1, 1) := dX12_laysRoots_12
theorem eX12_laysRoots_13 : decode mX12_laysRoots.2.1 13 = .ok (.istore_n 3, 1) := dX12_laysRoots_13
theorem eX12_laysRoots_14 : decode mX12_laysRoots.2.1 14 = .ok (.iconst 1, 1) := dX12_laysRoots_14
theorem eX12_laysRoots_15 : decode mX12_laysRoots.2.1 15 = .ok (.istore 4, 2) := dX12_laysRoots_15
theorem eX12_laysRoots_17 : decode mX12_laysRoots.2.1 17 = .ok (.iconst 0, 1) := dX12_laysRoots_17
theorem eX12_laysRoots_18 : decode mX12_laysRoots.2.1 18 = .ok (.istore 5, 2) := dX12_laysRoots_18
theorem eX12_laysRoots_20 : decode mX12_laysRoots.2.1 20 = .ok (.iload 5, 2) := dX12_laysRoots_20
theorem eX12_laysRoots_22 : decode mX12_laysRoots.2.1 22 = .ok (.aload_n 0, 1) := dX12_laysRoots_22
theorem eX12_laysRoots_23 : decode mX12_laysRoots.2.1 23 = .ok (.getfield 19, 3) := dX12_laysRoots_23
theorem eX12_laysRoots_26 : decode mX12_laysRoots.2.1 26 = .ok (.if_icmp .ge 37, 3) := dX12_laysRoots_26
theorem eX12_laysRoots_29 : decode mX12_laysRoots.2.1 29 = .ok (.iload_n 2, 1) := dX12_laysRoots_29
theorem eX12_laysRoots_30 : decode mX12_laysRoots.2.1 30 = .ok (.iload 4, 2) := dX12_laysRoots_30
theorem eX12_laysRoots_32 : decode mX12_laysRoots.2.1 32 = .ok (.iload_n 3, 1) := dX12_laysRoots_32
theorem eX12_laysRoots_33 : decode mX12_laysRoots.2.1 33 = .ok (.aload_n 0, 1) := dX12_laysRoots_33
theorem eX12_laysRoots_34 : decode mX12_laysRoots.2.1 34 = .ok (.getfield 13, 3) := dX12_laysRoots_34
theorem eX12_laysRoots_37 : decode mX12_laysRoots.2.1 37 = .ok (.irem, 1) := dX12_laysRoots_37
theorem eX12_laysRoots_38 : decode mX12_laysRoots.2.1 38 = .ok (.imul, 1) := dX12_laysRoots_38
theorem eX12_laysRoots_39 : decode mX12_laysRoots.2.1 39 = .ok (.iadd, 1) := dX12_laysRoots_39
theorem eX12_laysRoots_40 : decode mX12_laysRoots.2.1 40 = .ok (.istore_n 2, 1) := dX12_laysRoots_40
theorem eX12_laysRoots_41 : decode mX12_laysRoots.2.1 41 = .ok (.iload 4, 2) := dX12_laysRoots_41
theorem eX12_laysRoots_43 : decode mX12_laysRoots.2.1 43 = .ok (.aload_n 0, 1) := dX12_laysRoots_43
theorem eX12_laysRoots_44 : decode mX12_laysRoots.2.1 44 = .ok (.getfield 22, 3) := dX12_laysRoots_44
theorem eX12_laysRoots_47 : decode mX12_laysRoots.2.1 47 = .ok (.imul, 1) := dX12_laysRoots_47
theorem eX12_laysRoots_48 : decode mX12_laysRoots.2.1 48 = .ok (.istore 4, 2) := dX12_laysRoots_48
theorem eX12_laysRoots_50 : decode mX12_laysRoots.2.1 50 = .ok (.iload_n 3, 1) := dX12_laysRoots_50
theorem eX12_laysRoots_51 : decode mX12_laysRoots.2.1 51 = .ok (.aload_n 0, 1) := dX12_laysRoots_51
theorem eX12_laysRoots_52 : decode mX12_laysRoots.2.1 52 = .ok (.getfield 13, 3) := dX12_laysRoots_52
theorem eX12_laysRoots_55 : decode mX12_laysRoots.2.1 55 = .ok (.idiv, 1) := dX12_laysRoots_55
theorem eX12_laysRoots_56 : decode mX12_laysRoots.2.1 56 = .ok (.istore_n 3, 1) := dX12_laysRoots_56
theorem eX12_laysRoots_57 : decode mX12_laysRoots.2.1 57 = .ok (.iinc 5 1, 3) := dX12_laysRoots_57
theorem eX12_laysRoots_60 : decode mX12_laysRoots.2.1 60 = .ok (.goto (-40), 3) := dX12_laysRoots_60
theorem eX12_laysRoots_63 : decode mX12_laysRoots.2.1 63 = .ok (.iconst 1, 1) := dX12_laysRoots_63
theorem eX12_laysRoots_64 : decode mX12_laysRoots.2.1 64 = .ok (.istore 5, 2) := dX12_laysRoots_64
theorem eX12_laysRoots_66 : decode mX12_laysRoots.2.1 66 = .ok (.iload 5, 2) := dX12_laysRoots_66
theorem eX12_laysRoots_68 : decode mX12_laysRoots.2.1 68 = .ok (.aload_n 0, 1) := dX12_laysRoots_68
theorem eX12_laysRoots_69 : decode mX12_laysRoots.2.1 69 = .ok (.getfield 16, 3) := dX12_laysRoots_69
theorem eX12_laysRoots_72 : decode mX12_laysRoots.2.1 72 = .ok (.if_icmp .ge 20, 3) := dX12_laysRoots_72
theorem eX12_laysRoots_75 : decode mX12_laysRoots.2.1 75 = .ok (.aload_n 0, 1) := dX12_laysRoots_75
theorem eX12_laysRoots_76 : decode mX12_laysRoots.2.1 76 = .ok (.iload_n 2, 1) := dX12_laysRoots_76
theorem eX12_laysRoots_77 : decode mX12_laysRoots.2.1 77 = .ok (.aload_n 0, 1) := dX12_laysRoots_77
theorem eX12_laysRoots_78 : decode mX12_laysRoots.2.1 78 = .ok (.getfield 25, 3) := dX12_laysRoots_78
theorem eX12_laysRoots_81 : decode mX12_laysRoots.2.1 81 = .ok (.i2l, 1) := dX12_laysRoots_81
theorem eX12_laysRoots_82 : decode mX12_laysRoots.2.1 82 = .ok (.invokevirtual 147, 3) := dX12_laysRoots_82
theorem eX12_laysRoots_85 : decode mX12_laysRoots.2.1 85 = .ok (.istore_n 2, 1) := dX12_laysRoots_85
theorem eX12_laysRoots_86 : decode mX12_laysRoots.2.1 86 = .ok (.iinc 5 1, 3) := dX12_laysRoots_86
theorem eX12_laysRoots_89 : decode mX12_laysRoots.2.1 89 = .ok (.goto (-23), 3) := dX12_laysRoots_89
theorem eX12_laysRoots_92 : decode mX12_laysRoots.2.1 92 = .ok (.aload_n 0, 1) := dX12_laysRoots_92
theorem eX12_laysRoots_93 : decode mX12_laysRoots.2.1 93 = .ok (.getfield 35, 3) := dX12_laysRoots_93
theorem eX12_laysRoots_96 : decode mX12_laysRoots.2.1 96 = .ok (.iload_n 1, 1) := dX12_laysRoots_96
theorem eX12_laysRoots_97 : decode mX12_laysRoots.2.1 97 = .ok (.iload_n 2, 1) := dX12_laysRoots_97
theorem eX12_laysRoots_98 : decode mX12_laysRoots.2.1 98 = .ok (.iastore, 1) := dX12_laysRoots_98
theorem eX12_laysRoots_99 : decode mX12_laysRoots.2.1 99 = .ok (.iinc 1 1, 3) := dX12_laysRoots_99
theorem eX12_laysRoots_102 : decode mX12_laysRoots.2.1 102 = .ok (.goto (-100), 3) := dX12_laysRoots_102
theorem eX12_laysRoots_105 : decode mX12_laysRoots.2.1 105 = .ok (.aload_n 0, 1) := dX12_laysRoots_105
theorem eX12_laysRoots_106 : decode mX12_laysRoots.2.1 106 = .ok (.sipush 4096, 3) := dX12_laysRoots_106
theorem eX12_laysRoots_109 : decode mX12_laysRoots.2.1 109 = .ok (.putfield 179, 3) := dX12_laysRoots_109
theorem eX12_laysRoots_112 : decode mX12_laysRoots.2.1 112 = .ok (.iconst 1, 1) := dX12_laysRoots_112
theorem eX12_laysRoots_113 : decode mX12_laysRoots.2.1 113 = .ok (.istore_n 1, 1) := dX12_laysRoots_113
theorem eX12_laysRoots_114 : decode mX12_laysRoots.2.1 114 = .ok (.iload_n 1, 1) := dX12_laysRoots_114
theorem eX12_laysRoots_115 : decode mX12_laysRoots.2.1 115 = .ok (.aload_n 0, 1) := dX12_laysRoots_115
theorem eX12_laysRoots_116 : decode mX12_laysRoots.2.1 116 = .ok (.getfield 25, 3) := dX12_laysRoots_116
theorem eX12_laysRoots_119 : decode mX12_laysRoots.2.1 119 = .ok (.if_icmp .ge 45, 3) := dX12_laysRoots_119
theorem eX12_laysRoots_122 : decode mX12_laysRoots.2.1 122 = .ok (.aload_n 0, 1) := dX12_laysRoots_122
theorem eX12_laysRoots_123 : decode mX12_laysRoots.2.1 123 = .ok (.getfield 35, 3) := dX12_laysRoots_123
theorem eX12_laysRoots_126 : decode mX12_laysRoots.2.1 126 = .ok (.iload_n 1, 1) := dX12_laysRoots_126
theorem eX12_laysRoots_127 : decode mX12_laysRoots.2.1 127 = .ok (.iaload, 1) := dX12_laysRoots_127
theorem eX12_laysRoots_128 : decode mX12_laysRoots.2.1 128 = .ok (.aload_n 0, 1) := dX12_laysRoots_128
theorem eX12_laysRoots_129 : decode mX12_laysRoots.2.1 129 = .ok (.getfield 179, 3) := dX12_laysRoots_129
theorem eX12_laysRoots_132 : decode mX12_laysRoots.2.1 132 = .ok (.if_icmp .ge 26, 3) := dX12_laysRoots_132
theorem eX12_laysRoots_135 : decode mX12_laysRoots.2.1 135 = .ok (.aload_n 0, 1) := dX12_laysRoots_135
theorem eX12_laysRoots_136 : decode mX12_laysRoots.2.1 136 = .ok (.aload_n 0, 1) := dX12_laysRoots_136
theorem eX12_laysRoots_137 : decode mX12_laysRoots.2.1 137 = .ok (.getfield 35, 3) := dX12_laysRoots_137
theorem eX12_laysRoots_140 : decode mX12_laysRoots.2.1 140 = .ok (.iload_n 1, 1) := dX12_laysRoots_140
theorem eX12_laysRoots_141 : decode mX12_laysRoots.2.1 141 = .ok (.iaload, 1) := dX12_laysRoots_141
theorem eX12_laysRoots_142 : decode mX12_laysRoots.2.1 142 = .ok (.invokevirtual 182, 3) := dX12_laysRoots_142
theorem eX12_laysRoots_145 : decode mX12_laysRoots.2.1 145 = .ok (.ifCond .eq 13, 3) := dX12_laysRoots_145
theorem eX12_laysRoots_148 : decode mX12_laysRoots.2.1 148 = .ok (.aload_n 0, 1) := dX12_laysRoots_148
theorem eX12_laysRoots_149 : decode mX12_laysRoots.2.1 149 = .ok (.aload_n 0, 1) := dX12_laysRoots_149
theorem eX12_laysRoots_150 : decode mX12_laysRoots.2.1 150 = .ok (.getfield 35, 3) := dX12_laysRoots_150
theorem eX12_laysRoots_153 : decode mX12_laysRoots.2.1 153 = .ok (.iload_n 1, 1) := dX12_laysRoots_153
theorem eX12_laysRoots_154 : decode mX12_laysRoots.2.1 154 = .ok (.iaload, 1) := dX12_laysRoots_154
theorem eX12_laysRoots_155 : decode mX12_laysRoots.2.1 155 = .ok (.putfield 179, 3) := dX12_laysRoots_155
theorem eX12_laysRoots_158 : decode mX12_laysRoots.2.1 158 = .ok (.iinc 1 1, 3) := dX12_laysRoots_158
theorem eX12_laysRoots_161 : decode mX12_laysRoots.2.1 161 = .ok (.goto (-47), 3) := dX12_laysRoots_161
theorem eX12_laysRoots_164 : decode mX12_laysRoots.2.1 164 = .ok (.iconst 1, 1) := dX12_laysRoots_164
theorem eX12_laysRoots_165 : decode mX12_laysRoots.2.1 165 = .ok (.istore_n 1, 1) := dX12_laysRoots_165
theorem eX12_laysRoots_166 : decode mX12_laysRoots.2.1 166 = .ok (.iconst 0, 1) := dX12_laysRoots_166
theorem eX12_laysRoots_167 : decode mX12_laysRoots.2.1 167 = .ok (.istore_n 2, 1) := dX12_laysRoots_167
theorem eX12_laysRoots_168 : decode mX12_laysRoots.2.1 168 = .ok (.iload_n 2, 1) := dX12_laysRoots_168
theorem eX12_laysRoots_169 : decode mX12_laysRoots.2.1 169 = .ok (.aload_n 0, 1) := dX12_laysRoots_169
theorem eX12_laysRoots_170 : decode mX12_laysRoots.2.1 170 = .ok (.getfield 25, 3) := dX12_laysRoots_170
theorem eX12_laysRoots_173 : decode mX12_laysRoots.2.1 173 = .ok (.iconst 1, 1) := dX12_laysRoots_173
theorem eX12_laysRoots_174 : decode mX12_laysRoots.2.1 174 = .ok (.isub, 1) := dX12_laysRoots_174
theorem eX12_laysRoots_175 : decode mX12_laysRoots.2.1 175 = .ok (.if_icmp .ge 37, 3) := dX12_laysRoots_175
theorem eX12_laysRoots_178 : decode mX12_laysRoots.2.1 178 = .ok (.aload_n 0, 1) := dX12_laysRoots_178
theorem eX12_laysRoots_179 : decode mX12_laysRoots.2.1 179 = .ok (.getfield 41, 3) := dX12_laysRoots_179
theorem eX12_laysRoots_182 : decode mX12_laysRoots.2.1 182 = .ok (.iload_n 2, 1) := dX12_laysRoots_182
theorem eX12_laysRoots_183 : decode mX12_laysRoots.2.1 183 = .ok (.iload_n 1, 1) := dX12_laysRoots_183
theorem eX12_laysRoots_184 : decode mX12_laysRoots.2.1 184 = .ok (.iastore, 1) := dX12_laysRoots_184
theorem eX12_laysRoots_185 : decode mX12_laysRoots.2.1 185 = .ok (.aload_n 0, 1) := dX12_laysRoots_185
theorem eX12_laysRoots_186 : decode mX12_laysRoots.2.1 186 = .ok (.getfield 38, 3) := dX12_laysRoots_186
theorem eX12_laysRoots_189 : decode mX12_laysRoots.2.1 189 = .ok (.aload_n 0, 1) := dX12_laysRoots_189
theorem eX12_laysRoots_190 : decode mX12_laysRoots.2.1 190 = .ok (.iload_n 1, 1) := dX12_laysRoots_190
theorem eX12_laysRoots_191 : decode mX12_laysRoots.2.1 191 = .ok (.invokevirtual 139, 3) := dX12_laysRoots_191
theorem eX12_laysRoots_194 : decode mX12_laysRoots.2.1 194 = .ok (.iload_n 2, 1) := dX12_laysRoots_194
theorem eX12_laysRoots_195 : decode mX12_laysRoots.2.1 195 = .ok (.iastore, 1) := dX12_laysRoots_195
theorem eX12_laysRoots_196 : decode mX12_laysRoots.2.1 196 = .ok (.aload_n 0, 1) := dX12_laysRoots_196
theorem eX12_laysRoots_197 : decode mX12_laysRoots.2.1 197 = .ok (.iload_n 1, 1) := dX12_laysRoots_197
theorem eX12_laysRoots_198 : decode mX12_laysRoots.2.1 198 = .ok (.aload_n 0, 1) := dX12_laysRoots_198
theorem eX12_laysRoots_199 : decode mX12_laysRoots.2.1 199 = .ok (.getfield 179, 3) := dX12_laysRoots_199
theorem eX12_laysRoots_202 : decode mX12_laysRoots.2.1 202 = .ok (.invokevirtual 132, 3) := dX12_laysRoots_202
theorem eX12_laysRoots_205 : decode mX12_laysRoots.2.1 205 = .ok (.istore_n 1, 1) := dX12_laysRoots_205
theorem eX12_laysRoots_206 : decode mX12_laysRoots.2.1 206 = .ok (.iinc 2 1, 3) := dX12_laysRoots_206
theorem eX12_laysRoots_209 : decode mX12_laysRoots.2.1 209 = .ok (.goto (-41), 3) := dX12_laysRoots_209
theorem eX12_laysRoots_212 : decode mX12_laysRoots.2.1 212 = .ok (.aload_n 0, 1) := dX12_laysRoots_212
theorem eX12_laysRoots_213 : decode mX12_laysRoots.2.1 213 = .ok (.getfield 38, 3) := dX12_laysRoots_213
theorem eX12_laysRoots_216 : decode mX12_laysRoots.2.1 216 = .ok (.iconst 0, 1) := dX12_laysRoots_216
theorem eX12_laysRoots_217 : decode mX12_laysRoots.2.1 217 = .ok (.iconst (-1), 1) := dX12_laysRoots_217
theorem eX12_laysRoots_218 : decode mX12_laysRoots.2.1 218 = .ok (.iastore, 1) := dX12_laysRoots_218
theorem eX12_laysRoots_219 : decode mX12_laysRoots.2.1 219 = .ok (.return_, 1) := dX12_laysRoots_219
theorem eX12_leastOf_0 : decode mX12_leastOf.2.1 0 = .ok (.iload_n 2, 1) := dX12_leastOf_0
theorem eX12_leastOf_1 : decode mX12_leastOf.2.1 1 = .ok (.istore_n 3, 1) := dX12_leastOf_1
theorem eX12_leastOf_2 : decode mX12_leastOf.2.1 2 = .ok (.iload_n 2, 1) := dX12_leastOf_2
theorem eX12_leastOf_3 : decode mX12_leastOf.2.1 3 = .ok (.aload_n 0, 1) := dX12_leastOf_3
theorem eX12_leastOf_4 : decode mX12_leastOf.2.1 4 = .ok (.getfield 13, 3) := dX12_leastOf_4
theorem eX12_leastOf_7 : decode mX12_leastOf.2.1 7 = .ok (.imul, 1) := dX12_leastOf_7
theorem eX12_leastOf_8 : decode mX12_leastOf.2.1 8 = .ok (.iload_n 1, 1) := dX12_leastOf_8
theorem eX12_leastOf_9 : decode mX12_leastOf.2.1 9 = .ok (.irem, 1) := dX12_leastOf_9
theorem eX12_leastOf_10 : decode mX12_leastOf.2.1 10 = .ok (.istore 4, 2) := dX12_leastOf_10
theorem eX12_leastOf_12 : decode mX12_leastOf.2.1 12 = .ok (.iload 4, 2) := dX12_leastOf_12
theorem eX12_leastOf_14 : decode mX12_leastOf.2.1 14 = .ok (.iload_n 2, 1) := dX12_leastOf_14
theorem eX12_leastOf_15 : decode mX12_leastOf.2.1 15 = .ok (.if_icmp .eq 24, 3) := dX12_leastOf_15
theorem eX12_leastOf_18 : decode mX12_leastOf.2.1 18 = .ok (.iload_n 3, 1) := dX12_leastOf_18
theorem eX12_leastOf_19 : decode mX12_leastOf.2.1 19 = .ok (.iload 4, 2) := dX12_leastOf_19
theorem eX12_leastOf_21 : decode mX12_leastOf.2.1 21 = .ok (.invokestatic 249, 3) := dX12_leastOf_21
theorem eX12_leastOf_24 : decode mX12_leastOf.2.1 24 = .ok (.istore_n 3, 1) := dX12_leastOf_24
theorem eX12_leastOf_25 : decode mX12_leastOf.2.1 25 = .ok (.iload 4, 2) := dX12_leastOf_25
theorem eX12_leastOf_27 : decode mX12_leastOf.2.1 27 = .ok (.aload_n 0, 1) := dX12_leastOf_27
theorem eX12_leastOf_28 : decode mX12_leastOf.2.1 28 = .ok (.getfield 13, 3) := dX12_leastOf_28
theorem eX12_leastOf_31 : decode mX12_leastOf.2.1 31 = .ok (.imul, 1) := dX12_leastOf_31
theorem eX12_leastOf_32 : decode mX12_leastOf.2.1 32 = .ok (.iload_n 1, 1) := dX12_leastOf_32
theorem eX12_leastOf_33 : decode mX12_leastOf.2.1 33 = .ok (.irem, 1) := dX12_leastOf_33
theorem eX12_leastOf_34 : decode mX12_leastOf.2.1 34 = .ok (.istore 4, 2) := dX12_leastOf_34
theorem eX12_leastOf_36 : decode mX12_leastOf.2.1 36 = .ok (.goto (-24), 3) := dX12_leastOf_36
theorem eX12_leastOf_39 : decode mX12_leastOf.2.1 39 = .ok (.iload_n 3, 1) := dX12_leastOf_39
theorem eX12_leastOf_40 : decode mX12_leastOf.2.1 40 = .ok (.ireturn, 1) := dX12_leastOf_40
theorem eX12_leaves_0 : decode mX12_leaves.2.1 0 = .ok (.iconst 0, 1) := dX12_leaves_0
theorem eX12_leaves_1 : decode mX12_leaves.2.1 1 = .ok (.istore_n 2, 1) := dX12_leaves_1
theorem eX12_leaves_2 : decode mX12_leaves.2.1 2 = .ok (.iload_n 2, 1) := dX12_leaves_2
theorem eX12_leaves_3 : decode mX12_leaves.2.1 3 = .ok (.aload_n 0, 1) := dX12_leaves_3
theorem eX12_leaves_4 : decode mX12_leaves.2.1 4 = .ok (.getfield 69, 3) := dX12_leaves_4
theorem eX12_leaves_7 : decode mX12_leaves.2.1 7 = .ok (.if_icmp .ge 18, 3) := dX12_leaves_7
theorem eX12_leaves_10 : decode mX12_leaves.2.1 10 = .ok (.aload_n 0, 1) := dX12_leaves_10
theorem eX12_leaves_11 : decode mX12_leaves.2.1 11 = .ok (.getfield 93, 3) := dX12_leaves_11
theorem eX12_leaves_14 : decode mX12_leaves.2.1 14 = .ok (.iload_n 2, 1) := dX12_leaves_14
theorem eX12_leaves_15 : decode mX12_leaves.2.1 15 = .ok (.aload_n 1, 1) := dX12_leaves_15
theorem eX12_leaves_16 : decode mX12_leaves.2.1 16 = .ok (.iload_n 2, 1) := dX12_leaves_16
theorem eX12_leaves_17 : decode mX12_leaves.2.1 17 = .ok (.iaload, 1) := dX12_leaves_17
theorem eX12_leaves_18 : decode mX12_leaves.2.1 18 = .ok (.iastore, 1) := dX12_leaves_18
theorem eX12_leaves_19 : decode mX12_leaves.2.1 19 = .ok (.iinc 2 1, 3) := dX12_leaves_19
theorem eX12_leaves_22 : decode mX12_leaves.2.1 22 = .ok (.goto (-20), 3) := dX12_leaves_22
theorem eX12_leaves_25 : decode mX12_leaves.2.1 25 = .ok (.aload_n 0, 1) := dX12_leaves_25
theorem eX12_leaves_26 : decode mX12_leaves.2.1 26 = .ok (.getfield 69, 3) := dX12_leaves_26
theorem eX12_leaves_29 : decode mX12_leaves.2.1 29 = .ok (.iconst 1, 1) := dX12_leaves_29
theorem eX12_leaves_30 : decode mX12_leaves.2.1 30 = .ok (.isub, 1) := dX12_leaves_30
theorem eX12_leaves_31 : decode mX12_leaves.2.1 31 = .ok (.istore_n 2, 1) := dX12_leaves_31
theorem eX12_leaves_32 : decode mX12_leaves.2.1 32 = .ok (.iload_n 2, 1) := dX12_leaves_32
theorem eX12_leaves_33 : decode mX12_leaves.2.1 33 = .ok (.aload_n 0, 1) := dX12_leaves_33
theorem eX12_leaves_34 : decode mX12_leaves.2.1 34 = .ok (.getfield 322, 3) := dX12_leaves_34
theorem eX12_leaves_37 : decode mX12_leaves.2.1 37 = .ok (.if_icmp .lt 83, 3) := dX12_leaves_37
theorem eX12_leaves_40 : decode mX12_leaves.2.1 40 = .ok (.aload_n 0, 1) := dX12_leaves_40
theorem eX12_leaves_41 : decode mX12_leaves.2.1 41 = .ok (.getfield 93, 3) := dX12_leaves_41
theorem eX12_leaves_44 : decode mX12_leaves.2.1 44 = .ok (.iload_n 2, 1) := dX12_leaves_44
theorem eX12_leaves_45 : decode mX12_leaves.2.1 45 = .ok (.iaload, 1) := dX12_leaves_45
theorem eX12_leaves_46 : decode mX12_leaves.2.1 46 = .ok (.istore_n 3, 1) := dX12_leaves_46
theorem eX12_leaves_47 : decode mX12_leaves.2.1 47 = .ok (.iconst 0, 1) := dX12_leaves_47
theorem eX12_leaves_48 : decode mX12_leaves.2.1 48 = .ok (.istore 4, 2) := dX12_leaves_48
theorem eX12_leaves_50 : decode mX12_leaves.2.1 50 = .ok (.iload 4, 2) := dX12_leaves_50
theorem eX12_leaves_52 : decode mX12_leaves.2.1 52 = .ok (.aload_n 0, 1) := dX12_leaves_52
theorem eX12_leaves_53 : decode mX12_leaves.2.1 53 = .ok (.getfield 322, 3) := dX12_leaves_53
theorem eX12_leaves_56 : decode mX12_leaves.2.1 56 = .ok (.if_icmp .gt 58, 3) := dX12_leaves_56
theorem eX12_leaves_59 : decode mX12_leaves.2.1 59 = .ok (.iload_n 3, 1) := dX12_leaves_59
theorem eX12_leaves_60 : decode mX12_leaves.2.1 60 = .ok (.ifCond .eq 54, 3) := dX12_leaves_60
theorem eX12_leaves_63 : decode mX12_leaves.2.1 63 = .ok (.aload_n 0, 1) := dX12_leaves_63
theorem eX12_leaves_64 : decode mX12_leaves.2.1 64 = .ok (.getfield 93, 3) := dX12_leaves_64
theorem eX12_leaves_67 : decode mX12_leaves.2.1 67 = .ok (.iload_n 2, 1) := dX12_leaves_67
theorem eX12_leaves_68 : decode mX12_leaves.2.1 68 = .ok (.aload_n 0, 1) := dX12_leaves_68
theorem eX12_leaves_69 : decode mX12_leaves.2.1 69 = .ok (.getfield 322, 3) := dX12_leaves_69
theorem eX12_leaves_72 : decode mX12_leaves.2.1 72 = .ok (.isub, 1) := dX12_leaves_72
theorem eX12_leaves_73 : decode mX12_leaves.2.1 73 = .ok (.iload 4, 2) := dX12_leaves_73
theorem eX12_leaves_75 : decode mX12_leaves.2.1 75 = .ok (.iadd, 1) := dX12_leaves_75
theorem eX12_leaves_76 : decode mX12_leaves.2.1 76 = .ok (.aload_n 0, 1) := dX12_leaves_76
theorem eX12_leaves_77 : decode mX12_leaves.2.1 77 = .ok (.getfield 93, 3) := dX12_leaves_77
theorem eX12_leaves_80 : decode mX12_leaves.2.1 80 = .ok (.iload_n 2, 1) := dX12_leaves_80
theorem eX12_leaves_81 : decode mX12_leaves.2.1 81 = .ok (.aload_n 0, 1) := dX12_leaves_81
theorem eX12_leaves_82 : decode mX12_leaves.2.1 82 = .ok (.getfield 322, 3) := dX12_leaves_82
theorem eX12_leaves_85 : decode mX12_leaves.2.1 85 = .ok (.isub, 1) := dX12_leaves_85
theorem eX12_leaves_86 : decode mX12_leaves.2.1 86 = .ok (.iload 4, 2) := dX12_leaves_86
theorem eX12_leaves_88 : decode mX12_leaves.2.1 88 = .ok (.iadd, 1) := dX12_leaves_88
theorem eX12_leaves_89 : decode mX12_leaves.2.1 89 = .ok (.iaload, 1) := dX12_leaves_89
theorem eX12_leaves_90 : decode mX12_leaves.2.1 90 = .ok (.iload_n 3, 1) := dX12_leaves_90
theorem eX12_leaves_91 : decode mX12_leaves.2.1 91 = .ok (.aload_n 0, 1) := dX12_leaves_91
theorem eX12_leaves_92 : decode mX12_leaves.2.1 92 = .ok (.getfield 72, 3) := dX12_leaves_92
theorem eX12_leaves_95 : decode mX12_leaves.2.1 95 = .ok (.iload 4, 2) := dX12_leaves_95
theorem eX12_leaves_97 : decode mX12_leaves.2.1 97 = .ok (.iaload, 1) := dX12_leaves_97
theorem eX12_leaves_98 : decode mX12_leaves.2.1 98 = .ok (.imul, 1) := dX12_leaves_98
theorem eX12_leaves_99 : decode mX12_leaves.2.1 99 = .ok (.isub, 1) := dX12_leaves_99
theorem eX12_leaves_100 : decode mX12_leaves.2.1 100 = .ok (.aload_n 0, 1) := dX12_leaves_100
theorem eX12_leaves_101 : decode mX12_leaves.2.1 101 = .ok (.getfield 22, 3) := dX12_leaves_101
theorem eX12_leaves_104 : decode mX12_leaves.2.1 104 = .ok (.invokestatic 109, 3) := dX12_leaves_104
theorem eX12_leaves_107 : decode mX12_leaves.2.1 107 = .ok (.iastore, 1) := dX12_leaves_107
theorem eX12_leaves_108 : decode mX12_leaves.2.1 108 = .ok (.iinc 4 1, 3) := dX12_leaves_108
theorem eX12_leaves_111 : decode mX12_leaves.2.1 111 = .ok (.goto (-61), 3) := dX12_leaves_111
theorem eX12_leaves_114 : decode mX12_leaves.2.1 114 = .ok (.iinc 2 (-1), 3) := dX12_leaves_114
theorem eX12_leaves_117 : decode mX12_leaves.2.1 117 = .ok (.goto (-85), 3) := dX12_leaves_117
theorem eX12_leaves_120 : decode mX12_leaves.2.1 120 = .ok (.return_, 1) := dX12_leaves_120
theorem eX12_levelOf_0 : decode mX12_levelOf.2.1 0 = .ok (.iconst 0, 1) := dX12_levelOf_0
theorem eX12_levelOf_1 : decode mX12_levelOf.2.1 1 = .ok (.istore_n 2, 1) := dX12_levelOf_1
theorem eX12_levelOf_2 : decode mX12_levelOf.2.1 2 = .ok (.aload_n 0, 1) := dX12_levelOf_2
theorem eX12_levelOf_3 : decode mX12_levelOf.2.1 3 = .ok (.getfield 13, 3) := dX12_levelOf_3
theorem eX12_levelOf_6 : decode mX12_levelOf.2.1 6 = .ok (.istore_n 3, 1) := dX12_levelOf_6
theorem eX12_levelOf_7 : decode mX12_levelOf.2.1 7 = .ok (.iload_n 2, 1) := dX12_levelOf_7
theorem eX12_levelOf_8 : decode mX12_levelOf.2.1 8 = .ok (.aload_n 0, 1) := dX12_levelOf_8
theorem eX12_levelOf_9 : decode mX12_levelOf.2.1 9 = .ok (.getfield 16, 3) := dX12_levelOf_9
theorem eX12_levelOf_12 : decode mX12_levelOf.2.1 12 = .ok (.if_icmp .ge 25, 3) := dX12_levelOf_12
theorem eX12_levelOf_15 : decode mX12_levelOf.2.1 15 = .ok (.aload_n 0, 1) := dX12_levelOf_15
theorem eX12_levelOf_16 : decode mX12_levelOf.2.1 16 = .ok (.iload_n 1, 1) := dX12_levelOf_16
theorem eX12_levelOf_17 : decode mX12_levelOf.2.1 17 = .ok (.iload_n 3, 1) := dX12_levelOf_17
theorem eX12_levelOf_18 : decode mX12_levelOf.2.1 18 = .ok (.invokevirtual 135, 3) := dX12_levelOf_18
theorem eX12_levelOf_21 : decode mX12_levelOf.2.1 21 = .ok (.ifCond .eq 16, 3) := dX12_levelOf_21
theorem eX12_levelOf_24 : decode mX12_levelOf.2.1 24 = .ok (.iinc 2 1, 3) := dX12_levelOf_24
theorem eX12_levelOf_27 : decode mX12_levelOf.2.1 27 = .ok (.iload_n 3, 1) := dX12_levelOf_27
theorem eX12_levelOf_28 : decode mX12_levelOf.2.1 28 = .ok (.aload_n 0, 1) := dX12_levelOf_28
theorem eX12_levelOf_29 : decode mX12_levelOf.2.1 29 = .ok (.getfield 13, 3) := dX12_levelOf_29
theorem eX12_levelOf_32 : decode mX12_levelOf.2.1 32 = .ok (.imul, 1) := dX12_levelOf_32
theorem eX12_levelOf_33 : decode mX12_levelOf.2.1 33 = .ok (.istore_n 3, 1) := dX12_levelOf_33
theorem eX12_levelOf_34 : decode mX12_levelOf.2.1 34 = .ok (.goto (-27), 3) := dX12_levelOf_34
theorem eX12_levelOf_37 : decode mX12_levelOf.2.1 37 = .ok (.iload_n 2, 1) := dX12_levelOf_37
theorem eX12_levelOf_38 : decode mX12_levelOf.2.1 38 = .ok (.ireturn, 1) := dX12_levelOf_38
theorem eX12_lightest_0 : decode mX12_lightest.2.1 0 = .ok (.aload_n 0, 1) := dX12_lightest_0
theorem eX12_lightest_1 : decode mX12_lightest.2.1 1 = .ok (.iconst 0, 1) := dX12_lightest_1
theorem eX12_lightest_2 : decode mX12_lightest.2.1 2 = .ok (.putfield 1, 3) := dX12_lightest_2
theorem eX12_lightest_5 : decode mX12_lightest.2.1 5 = .ok (.aload_n 0, 1) := dX12_lightest_5
theorem eX12_lightest_6 : decode mX12_lightest.2.1 6 = .ok (.invokevirtual 411, 3) := dX12_lightest_6
theorem eX12_lightest_9 : decode mX12_lightest.2.1 9 = .ok (.ifCond .ne 5, 3) := dX12_lightest_9
theorem eX12_lightest_12 : decode mX12_lightest.2.1 12 = .ok (.iconst (-1), 1) := dX12_lightest_12
theorem eX12_lightest_13 : decode mX12_lightest.2.1 13 = .ok (.ireturn, 1) := dX12_lightest_13
theorem eX12_lightest_14 : decode mX12_lightest.2.1 14 = .ok (.aload_n 0, 1) := dX12_lightest_14
theorem eX12_lightest_15 : decode mX12_lightest.2.1 15 = .ok (.iconst 0, 1) := dX12_lightest_15
theorem eX12_lightest_16 : decode mX12_lightest.2.1 16 = .ok (.invokevirtual 414, 3) := dX12_lightest_16
theorem eX12_lightest_19 : decode mX12_lightest.2.1 19 = .ok (.iconst 1, 1) := dX12_lightest_19
theorem eX12_lightest_20 : decode mX12_lightest.2.1 20 = .ok (.istore_n 2, 1) := dX12_lightest_20
theorem eX12_lightest_21 : decode mX12_lightest.2.1 21 = .ok (.iload_n 2, 1) := dX12_lightest_21
theorem eX12_lightest_22 : decode mX12_lightest.2.1 22 = .ok (.iload_n 1, 1) := dX12_lightest_22
theorem eX12_lightest_23 : decode mX12_lightest.2.1 23 = .ok (.ifCond .eq 9, 3) := dX12_lightest_23
theorem eX12_lightest_26 : decode mX12_lightest.2.1 26 = .ok (.sipush 8192, 3) := dX12_lightest_26
theorem eX12_lightest_29 : decode mX12_lightest.2.1 29 = .ok (.goto 5, 3) := dX12_lightest_29
theorem eX12_lightest_32 : decode mX12_lightest.2.1 32 = .ok (.bipush 64, 2) := dX12_lightest_32
theorem eX12_lightest_34 : decode mX12_lightest.2.1 34 = .ok (.if_icmp .ge 33, 3) := dX12_lightest_34
theorem eX12_lightest_37 : decode mX12_lightest.2.1 37 = .ok (.iload_n 1, 1) := dX12_lightest_37
theorem eX12_lightest_38 : decode mX12_lightest.2.1 38 = .ok (.ifCond .eq 12, 3) := dX12_lightest_38
theorem eX12_lightest_41 : decode mX12_lightest.2.1 41 = .ok (.aload_n 0, 1) := dX12_lightest_41
theorem eX12_lightest_42 : decode mX12_lightest.2.1 42 = .ok (.getfield 84, 3) := dX12_lightest_42
theorem eX12_lightest_45 : decode mX12_lightest.2.1 45 = .ok (.iload_n 2, 1) := dX12_lightest_45
theorem eX12_lightest_46 : decode mX12_lightest.2.1 46 = .ok (.iaload, 1) := dX12_lightest_46
theorem eX12_lightest_47 : decode mX12_lightest.2.1 47 = .ok (.goto 9, 3) := dX12_lightest_47
theorem eX12_lightest_50 : decode mX12_lightest.2.1 50 = .ok (.aload_n 0, 1) := dX12_lightest_50
theorem eX12_lightest_51 : decode mX12_lightest.2.1 51 = .ok (.getfield 81, 3) := dX12_lightest_51
theorem eX12_lightest_54 : decode mX12_lightest.2.1 54 = .ok (.iload_n 2, 1) := dX12_lightest_54
theorem eX12_lightest_55 : decode mX12_lightest.2.1 55 = .ok (.iaload, 1) := dX12_lightest_55
theorem eX12_lightest_56 : decode mX12_lightest.2.1 56 = .ok (.ifCond .le 5, 3) := dX12_lightest_56
theorem eX12_lightest_59 : decode mX12_lightest.2.1 59 = .ok (.iload_n 2, 1) := dX12_lightest_59
theorem eX12_lightest_60 : decode mX12_lightest.2.1 60 = .ok (.ireturn, 1) := dX12_lightest_60
theorem eX12_lightest_61 : decode mX12_lightest.2.1 61 = .ok (.iinc 2 1, 3) := dX12_lightest_61
theorem eX12_lightest_64 : decode mX12_lightest.2.1 64 = .ok (.goto (-43), 3) := dX12_lightest_64
theorem eX12_lightest_67 : decode mX12_lightest.2.1 67 = .ok (.iconst (-1), 1) := dX12_lightest_67
theorem eX12_lightest_68 : decode mX12_lightest.2.1 68 = .ok (.ireturn, 1) := dX12_lightest_68
theorem eX12_looksAt_0 : decode mX12_looksAt.2.1 0 = .ok (.iconst 0, 1) := dX12_looksAt_0
theorem eX12_looksAt_1 : decode mX12_looksAt.2.1 1 = .ok (.istore_n 2, 1) := dX12_looksAt_1
theorem eX12_looksAt_2 : decode mX12_looksAt.2.1 2 = .ok (.iconst 0, 1) := dX12_looksAt_2
theorem eX12_looksAt_3 : decode mX12_looksAt.2.1 3 = .ok (.istore_n 3, 1) := dX12_looksAt_3
theorem eX12_looksAt_4 : decode mX12_looksAt.2.1 4 = .ok (.iload_n 3, 1) := dX12_looksAt_4
theorem eX12_looksAt_5 : decode mX12_looksAt.2.1 5 = .ok (.aload_n 0, 1) := dX12_looksAt_5
theorem eX12_looksAt_6 : decode mX12_looksAt.2.1 6 = .ok (.getfield 69, 3) := dX12_looksAt_6
theorem eX12_looksAt_9 : decode mX12_looksAt.2.1 9 = .ok (.if_icmp .ge 34, 3) := dX12_looksAt_9
theorem eX12_looksAt_12 : decode mX12_looksAt.2.1 12 = .ok (.iload_n 2, 1) := dX12_looksAt_12
theorem eX12_looksAt_13 : decode mX12_looksAt.2.1 13 = .ok (.aload_n 0, 1) := dX12_looksAt_13
theorem eX12_looksAt_14 : decode mX12_looksAt.2.1 14 = .ok (.getfield 78, 3) := dX12_looksAt_14
theorem eX12_looksAt_17 : decode mX12_looksAt.2.1 17 = .ok (.iload_n 1, 1) := dX12_looksAt_17
theorem eX12_looksAt_18 : decode mX12_looksAt.2.1 18 = .ok (.iload_n 3, 1) := dX12_looksAt_18
theorem eX12_looksAt_19 : decode mX12_looksAt.2.1 19 = .ok (.iadd, 1) := dX12_looksAt_19
theorem eX12_looksAt_20 : decode mX12_looksAt.2.1 20 = .ok (.iaload, 1) := dX12_looksAt_20
theorem eX12_looksAt_21 : decode mX12_looksAt.2.1 21 = .ok (.aload_n 0, 1) := dX12_looksAt_21
theorem eX12_looksAt_22 : decode mX12_looksAt.2.1 22 = .ok (.getfield 90, 3) := dX12_looksAt_22
theorem eX12_looksAt_25 : decode mX12_looksAt.2.1 25 = .ok (.iload_n 3, 1) := dX12_looksAt_25
theorem eX12_looksAt_26 : decode mX12_looksAt.2.1 26 = .ok (.iaload, 1) := dX12_looksAt_26
theorem eX12_looksAt_27 : decode mX12_looksAt.2.1 27 = .ok (.if_icmp .eq 7, 3) := dX12_looksAt_27
theorem eX12_looksAt_30 : decode mX12_looksAt.2.1 30 = .ok (.iconst 1, 1) := dX12_looksAt_30
theorem eX12_looksAt_31 : decode mX12_looksAt.2.1 31 = .ok (.goto 4, 3) := dX12_looksAt_31
theorem eX12_looksAt_34 : decode mX12_looksAt.2.1 34 = .ok (.iconst 0, 1) := dX12_looksAt_34
theorem eX12_looksAt_35 : decode mX12_looksAt.2.1 35 = .ok (.iadd, 1) := dX12_looksAt_35
theorem eX12_looksAt_36 : decode mX12_looksAt.2.1 36 = .ok (.istore_n 2, 1) := dX12_looksAt_36
theorem eX12_looksAt_37 : decode mX12_looksAt.2.1 37 = .ok (.iinc 3 1, 3) := dX12_looksAt_37
theorem eX12_looksAt_40 : decode mX12_looksAt.2.1 40 = .ok (.goto (-36), 3) := dX12_looksAt_40
theorem eX12_looksAt_43 : decode mX12_looksAt.2.1 43 = .ok (.iload_n 2, 1) := dX12_looksAt_43
theorem eX12_looksAt_44 : decode mX12_looksAt.2.1 44 = .ok (.aload_n 0, 1) := dX12_looksAt_44
theorem eX12_looksAt_45 : decode mX12_looksAt.2.1 45 = .ok (.getfield 405, 3) := dX12_looksAt_45
theorem eX12_looksAt_48 : decode mX12_looksAt.2.1 48 = .ok (.if_icmp .lt 19, 3) := dX12_looksAt_48
theorem eX12_looksAt_51 : decode mX12_looksAt.2.1 51 = .ok (.iload_n 2, 1) := dX12_looksAt_51
theorem eX12_looksAt_52 : decode mX12_looksAt.2.1 52 = .ok (.aload_n 0, 1) := dX12_looksAt_52
theorem eX12_looksAt_53 : decode mX12_looksAt.2.1 53 = .ok (.getfield 405, 3) := dX12_looksAt_53
theorem eX12_looksAt_56 : decode mX12_looksAt.2.1 56 = .ok (.if_icmp .ne 46, 3) := dX12_looksAt_56
theorem eX12_looksAt_59 : decode mX12_looksAt.2.1 59 = .ok (.aload_n 0, 1) := dX12_looksAt_59
theorem eX12_looksAt_60 : decode mX12_looksAt.2.1 60 = .ok (.iload_n 1, 1) := dX12_looksAt_60
theorem eX12_looksAt_61 : decode mX12_looksAt.2.1 61 = .ok (.invokevirtual 408, 3) := dX12_looksAt_61
theorem eX12_looksAt_64 : decode mX12_looksAt.2.1 64 = .ok (.ifCond .eq 38, 3) := dX12_looksAt_64
theorem eX12_looksAt_67 : decode mX12_looksAt.2.1 67 = .ok (.aload_n 0, 1) := dX12_looksAt_67
theorem eX12_looksAt_68 : decode mX12_looksAt.2.1 68 = .ok (.iload_n 2, 1) := dX12_looksAt_68
theorem eX12_looksAt_69 : decode mX12_looksAt.2.1 69 = .ok (.putfield 405, 3) := dX12_looksAt_69
theorem eX12_looksAt_72 : decode mX12_looksAt.2.1 72 = .ok (.iconst 0, 1) := dX12_looksAt_72
theorem eX12_looksAt_73 : decode mX12_looksAt.2.1 73 = .ok (.istore_n 3, 1) := dX12_looksAt_73
theorem eX12_looksAt_74 : decode mX12_looksAt.2.1 74 = .ok (.iload_n 3, 1) := dX12_looksAt_74
theorem eX12_looksAt_75 : decode mX12_looksAt.2.1 75 = .ok (.aload_n 0, 1) := dX12_looksAt_75
theorem eX12_looksAt_76 : decode mX12_looksAt.2.1 76 = .ok (.getfield 69, 3) := dX12_looksAt_76
theorem eX12_looksAt_79 : decode mX12_looksAt.2.1 79 = .ok (.if_icmp .ge 23, 3) := dX12_looksAt_79
theorem eX12_looksAt_82 : decode mX12_looksAt.2.1 82 = .ok (.aload_n 0, 1) := dX12_looksAt_82
theorem eX12_looksAt_83 : decode mX12_looksAt.2.1 83 = .ok (.getfield 87, 3) := dX12_looksAt_83
theorem eX12_looksAt_86 : decode mX12_looksAt.2.1 86 = .ok (.iload_n 3, 1) := dX12_looksAt_86
theorem eX12_looksAt_87 : decode mX12_looksAt.2.1 87 = .ok (.aload_n 0, 1) := dX12_looksAt_87
theorem eX12_looksAt_88 : decode mX12_looksAt.2.1 88 = .ok (.getfield 78, 3) := dX12_looksAt_88
theorem eX12_looksAt_91 : decode mX12_looksAt.2.1 91 = .ok (.iload_n 1, 1) := dX12_looksAt_91
theorem eX12_looksAt_92 : decode mX12_looksAt.2.1 92 = .ok (.iload_n 3, 1) := dX12_looksAt_92
theorem eX12_looksAt_93 : decode mX12_looksAt.2.1 93 = .ok (.iadd, 1) := dX12_looksAt_93
theorem eX12_looksAt_94 : decode mX12_looksAt.2.1 94 = .ok (.iaload, 1) := dX12_looksAt_94
theorem eX12_looksAt_95 : decode mX12_looksAt.2.1 95 = .ok (.iastore, 1) := dX12_looksAt_95
theorem eX12_looksAt_96 : decode mX12_looksAt.2.1 96 = .ok (.iinc 3 1, 3) := dX12_looksAt_96
theorem eX12_looksAt_99 : decode mX12_looksAt.2.1 99 = .ok (.goto (-25), 3) := dX12_looksAt_99
theorem eX12_looksAt_102 : decode mX12_looksAt.2.1 102 = .ok (.return_, 1) := dX12_looksAt_102
theorem eX12_lowOf_0 : decode mX12_lowOf.2.1 0 = .ok (.iconst 0, 1) := dX12_lowOf_0
theorem eX12_lowOf_1 : decode mX12_lowOf.2.1 1 = .ok (.istore_n 2, 1) := dX12_lowOf_1
theorem eX12_lowOf_2 : decode mX12_lowOf.2.1 2 = .ok (.iconst 1, 1) := dX12_lowOf_2
theorem eX12_lowOf_3 : decode mX12_lowOf.2.1 3 = .ok (.istore_n 3, 1) := dX12_lowOf_3
theorem eX12_lowOf_4 : decode mX12_lowOf.2.1 4 = .ok (.iload_n 1, 1) := dX12_lowOf_4
theorem eX12_lowOf_5 : decode mX12_lowOf.2.1 5 = .ok (.istore 4, 2) := dX12_lowOf_5
theorem eX12_lowOf_7 : decode mX12_lowOf.2.1 7 = .ok (.iconst 0, 1) := dX12_lowOf_7
theorem eX12_lowOf_8 : decode mX12_lowOf.2.1 8 = .ok (.istore 5, 2) := dX12_lowOf_8
theorem eX12_lowOf_10 : decode mX12_lowOf.2.1 10 = .ok (.iload 5, 2) := dX12_lowOf_10
theorem eX12_lowOf_12 : decode mX12_lowOf.2.1 12 = .ok (.aload_n 0, 1) := dX12_lowOf_12
theorem eX12_lowOf_13 : decode mX12_lowOf.2.1 13 = .ok (.getfield 19, 3) := dX12_lowOf_13
theorem eX12_lowOf_16 : decode mX12_lowOf.2.1 16 = .ok (.if_icmp .ge 42, 3) := dX12_lowOf_16
theorem eX12_lowOf_19 : decode mX12_lowOf.2.1 19 = .ok (.iload_n 2, 1) := dX12_lowOf_19
theorem eX12_lowOf_20 : decode mX12_lowOf.2.1 20 = .ok (.iload_n 3, 1) := dX12_lowOf_20
theorem eX12_lowOf_21 : decode mX12_lowOf.2.1 21 = .ok (.iload 4, 2) := dX12_lowOf_21
theorem eX12_lowOf_23 : decode mX12_lowOf.2.1 23 = .ok (.aload_n 0, 1) := dX12_lowOf_23
theorem eX12_lowOf_24 : decode mX12_lowOf.2.1 24 = .ok (.getfield 22, 3) := dX12_lowOf_24
theorem eX12_lowOf_27 : decode mX12_lowOf.2.1 27 = .ok (.irem, 1) := dX12_lowOf_27
theorem eX12_lowOf_28 : decode mX12_lowOf.2.1 28 = .ok (.aload_n 0, 1) := dX12_lowOf_28
theorem eX12_lowOf_29 : decode mX12_lowOf.2.1 29 = .ok (.getfield 13, 3) := dX12_lowOf_29
theorem eX12_lowOf_32 : decode mX12_lowOf.2.1 32 = .ok (.irem, 1) := dX12_lowOf_32
theorem eX12_lowOf_33 : decode mX12_lowOf.2.1 33 = .ok (.imul, 1) := dX12_lowOf_33
theorem eX12_lowOf_34 : decode mX12_lowOf.2.1 34 = .ok (.iadd, 1) := dX12_lowOf_34
theorem eX12_lowOf_35 : decode mX12_lowOf.2.1 35 = .ok (.istore_n 2, 1) := dX12_lowOf_35
theorem eX12_lowOf_36 : decode mX12_lowOf.2.1 36 = .ok (.iload_n 3, 1) := dX12_lowOf_36
theorem eX12_lowOf_37 : decode mX12_lowOf.2.1 37 = .ok (.aload_n 0, 1) := dX12_lowOf_37
theorem eX12_lowOf_38 : decode mX12_lowOf.2.1 38 = .ok (.getfield 13, 3) := dX12_lowOf_38
theorem eX12_lowOf_41 : decode mX12_lowOf.2.1 41 = .ok (.imul, 1) := dX12_lowOf_41
theorem eX12_lowOf_42 : decode mX12_lowOf.2.1 42 = .ok (.istore_n 3, 1) := dX12_lowOf_42
theorem eX12_lowOf_43 : decode mX12_lowOf.2.1 43 = .ok (.iload 4, 2) := dX12_lowOf_43
theorem eX12_lowOf_45 : decode mX12_lowOf.2.1 45 = .ok (.aload_n 0, 1) := dX12_lowOf_45
theorem eX12_lowOf_46 : decode mX12_lowOf.2.1 46 = .ok (.getfield 22, 3) := dX12_lowOf_46
theorem eX12_lowOf_49 : decode mX12_lowOf.2.1 49 = .ok (.idiv, 1) := dX12_lowOf_49
theorem eX12_lowOf_50 : decode mX12_lowOf.2.1 50 = .ok (.istore 4, 2) := dX12_lowOf_50
theorem eX12_lowOf_52 : decode mX12_lowOf.2.1 52 = .ok (.iinc 5 1, 3) := dX12_lowOf_52
theorem eX12_lowOf_55 : decode mX12_lowOf.2.1 55 = .ok (.goto (-45), 3) := dX12_lowOf_55
theorem eX12_lowOf_58 : decode mX12_lowOf.2.1 58 = .ok (.iload_n 2, 1) := dX12_lowOf_58
theorem eX12_lowOf_59 : decode mX12_lowOf.2.1 59 = .ok (.ireturn, 1) := dX12_lowOf_59
theorem eX12_many_0 : decode mX12_many.2.1 0 = .ok (.aload_n 0, 1) := dX12_many_0
theorem eX12_many_1 : decode mX12_many.2.1 1 = .ok (.iconst 0, 1) := dX12_many_1
theorem eX12_many_2 : decode mX12_many.2.1 2 = .ok (.putfield 1, 3) := dX12_many_2
theorem eX12_many_5 : decode mX12_many.2.1 5 = .ok (.aload_n 0, 1) := dX12_many_5
theorem eX12_many_6 : decode mX12_many.2.1 6 = .ok (.iload_n 1, 1) := dX12_many_6
theorem eX12_many_7 : decode mX12_many.2.1 7 = .ok (.i2l, 1) := dX12_many_7
theorem eX12_many_8 : decode mX12_many.2.1 8 = .ok (.lconst 0, 1) := dX12_many_8
theorem eX12_many_9 : decode mX12_many.2.1 9 = .ok (.ldc2_w 331, 3) := dX12_many_9
theorem eX12_many_12 : decode mX12_many.2.1 12 = .ok (.invokestatic 206, 3) := dX12_many_12
theorem eX12_many_15 : decode mX12_many.2.1 15 = .ok (.ifCond .eq 11, 3) := dX12_many_15
theorem eX12_many_18 : decode mX12_many.2.1 18 = .ok (.iload_n 2, 1) := dX12_many_18
theorem eX12_many_19 : decode mX12_many.2.1 19 = .ok (.ifCond .lt 7, 3) := dX12_many_19
theorem eX12_many_22 : decode mX12_many.2.1 22 = .ok (.iconst 1, 1) := dX12_many_22
theorem eX12_many_23 : decode mX12_many.2.1 23 = .ok (.goto 4, 3) := dX12_many_23
theorem eX12_many_26 : decode mX12_many.2.1 26 = .ok (.iconst 0, 1) := dX12_many_26
theorem eX12_many_27 : decode mX12_many.2.1 27 = .ok (.iconst 1, 1) := dX12_many_27
theorem eX12_many_28 : decode mX12_many.2.1 28 = .ok (.invokevirtual 304, 3) := dX12_many_28
theorem eX12_many_31 : decode mX12_many.2.1 31 = .ok (.ifCond .ne 5, 3) := dX12_many_31
theorem eX12_many_34 : decode mX12_many.2.1 34 = .ok (.iconst 0, 1) := dX12_many_34
theorem eX12_many_35 : decode mX12_many.2.1 35 = .ok (.ireturn, 1) := dX12_many_35
theorem eX12_many_36 : decode mX12_many.2.1 36 = .ok (.iconst 0, 1) := dX12_many_36
theorem eX12_many_37 : decode mX12_many.2.1 37 = .ok (.istore_n 3, 1) := dX12_many_37
theorem eX12_many_38 : decode mX12_many.2.1 38 = .ok (.iconst 0, 1) := dX12_many_38
theorem eX12_many_39 : decode mX12_many.2.1 39 = .ok (.istore 4, 2) := dX12_many_39
theorem eX12_many_41 : decode mX12_many.2.1 41 = .ok (.iload 4, 2) := dX12_many_41
theorem eX12_many_43 : decode mX12_many.2.1 43 = .ok (.aload_n 0, 1) := dX12_many_43
theorem eX12_many_44 : decode mX12_many.2.1 44 = .ok (.getfield 28, 3) := dX12_many_44
theorem eX12_many_47 : decode mX12_many.2.1 47 = .ok (.if_icmp .ge 109, 3) := dX12_many_47
theorem eX12_many_50 : decode mX12_many.2.1 50 = .ok (.iload_n 1, 1) := dX12_many_50
theorem eX12_many_51 : decode mX12_many.2.1 51 = .ok (.ifCond .ne 21, 3) := dX12_many_51
theorem eX12_many_54 : decode mX12_many.2.1 54 = .ok (.aload_n 0, 1) := dX12_many_54
theorem eX12_many_55 : decode mX12_many.2.1 55 = .ok (.iload 4, 2) := dX12_many_55
theorem eX12_many_57 : decode mX12_many.2.1 57 = .ok (.invokevirtual 335, 3) := dX12_many_57
theorem eX12_many_60 : decode mX12_many.2.1 60 = .ok (.iload_n 2, 1) := dX12_many_60
theorem eX12_many_61 : decode mX12_many.2.1 61 = .ok (.if_icmp .ne 7, 3) := dX12_many_61
theorem eX12_many_64 : decode mX12_many.2.1 64 = .ok (.iconst 1, 1) := dX12_many_64
theorem eX12_many_65 : decode mX12_many.2.1 65 = .ok (.goto 70, 3) := dX12_many_65
theorem eX12_many_68 : decode mX12_many.2.1 68 = .ok (.iconst 0, 1) := dX12_many_68
theorem eX12_many_69 : decode mX12_many.2.1 69 = .ok (.goto 66, 3) := dX12_many_69
theorem eX12_many_72 : decode mX12_many.2.1 72 = .ok (.iload_n 1, 1) := dX12_many_72
theorem eX12_many_73 : decode mX12_many.2.1 73 = .ok (.iconst 1, 1) := dX12_many_73
theorem eX12_many_74 : decode mX12_many.2.1 74 = .ok (.if_icmp .ne 21, 3) := dX12_many_74
theorem eX12_many_77 : decode mX12_many.2.1 77 = .ok (.aload_n 0, 1) := dX12_many_77
theorem eX12_many_78 : decode mX12_many.2.1 78 = .ok (.iload 4, 2) := dX12_many_78
theorem eX12_many_80 : decode mX12_many.2.1 80 = .ok (.invokevirtual 338, 3) := dX12_many_80
theorem eX12_many_83 : decode mX12_many.2.1 83 = .ok (.iload_n 2, 1) := dX12_many_83
theorem eX12_many_84 : decode mX12_many.2.1 84 = .ok (.if_icmp .ne 7, 3) := dX12_many_84
theorem eX12_many_87 : decode mX12_many.2.1 87 = .ok (.iconst 1, 1) := dX12_many_87
theorem eX12_many_88 : decode mX12_many.2.1 88 = .ok (.goto 47, 3) := dX12_many_88
theorem eX12_many_91 : decode mX12_many.2.1 91 = .ok (.iconst 0, 1) := dX12_many_91
theorem eX12_many_92 : decode mX12_many.2.1 92 = .ok (.goto 43, 3) := dX12_many_92
theorem eX12_many_95 : decode mX12_many.2.1 95 = .ok (.iload_n 1, 1) := dX12_many_95
theorem eX12_many_96 : decode mX12_many.2.1 96 = .ok (.iconst 2, 1) := dX12_many_96
theorem eX12_many_97 : decode mX12_many.2.1 97 = .ok (.if_icmp .ne 21, 3) := dX12_many_97
theorem eX12_many_100 : decode mX12_many.2.1 100 = .ok (.aload_n 0, 1) := dX12_many_100
theorem eX12_many_101 : decode mX12_many.2.1 101 = .ok (.iload 4, 2) := dX12_many_101
theorem eX12_many_103 : decode mX12_many.2.1 103 = .ok (.invokevirtual 341, 3) := dX12_many_103
theorem eX12_many_106 : decode mX12_many.2.1 106 = .ok (.iload_n 2, 1) := dX12_many_106
theorem eX12_many_107 : decode mX12_many.2.1 107 = .ok (.if_icmp .ne 7, 3) := dX12_many_107
theorem eX12_many_110 : decode mX12_many.2.1 110 = .ok (.iconst 1, 1) := dX12_many_110
theorem eX12_many_111 : decode mX12_many.2.1 111 = .ok (.goto 24, 3) := dX12_many_111
theorem eX12_many_114 : decode mX12_many.2.1 114 = .ok (.iconst 0, 1) := dX12_many_114
theorem eX12_many_115 : decode mX12_many.2.1 115 = .ok (.goto 20, 3) := dX12_many_115
theorem eX12_many_118 : decode mX12_many.2.1 118 = .ok (.aload_n 0, 1) := dX12_many_118
theorem eX12_many_119 : decode mX12_many.2.1 119 = .ok (.iload 4, 2) := dX12_many_119
theorem eX12_many_121 : decode mX12_many.2.1 121 = .ok (.iload_n 2, 1) := dX12_many_121
theorem eX12_many_122 : decode mX12_many.2.1 122 = .ok (.invokevirtual 201, 3) := dX12_many_122
theorem eX12_many_125 : decode mX12_many.2.1 125 = .ok (.iload 4, 2) := dX12_many_125
theorem eX12_many_127 : decode mX12_many.2.1 127 = .ok (.if_icmp .ne 7, 3) := dX12_many_127
theorem eX12_many_130 : decode mX12_many.2.1 130 = .ok (.iconst 1, 1) := dX12_many_130
theorem eX12_many_131 : decode mX12_many.2.1 131 = .ok (.goto 4, 3) := dX12_many_131
theorem eX12_many_134 : decode mX12_many.2.1 134 = .ok (.iconst 0, 1) := dX12_many_134
theorem eX12_many_135 : decode mX12_many.2.1 135 = .ok (.istore 5, 2) := dX12_many_135
theorem eX12_many_137 : decode mX12_many.2.1 137 = .ok (.iload_n 3, 1) := dX12_many_137
theorem eX12_many_138 : decode mX12_many.2.1 138 = .ok (.iload 5, 2) := dX12_many_138
theorem eX12_many_140 : decode mX12_many.2.1 140 = .ok (.ifCond .eq 7, 3) := dX12_many_140
theorem eX12_many_143 : decode mX12_many.2.1 143 = .ok (.iconst 1, 1) := dX12_many_143
theorem eX12_many_144 : decode mX12_many.2.1 144 = .ok (.goto 4, 3) := dX12_many_144
theorem eX12_many_147 : decode mX12_many.2.1 147 = .ok (.iconst 0, 1) := dX12_many_147
theorem eX12_many_148 : decode mX12_many.2.1 148 = .ok (.iadd, 1) := dX12_many_148
theorem eX12_many_149 : decode mX12_many.2.1 149 = .ok (.istore_n 3, 1) := dX12_many_149
theorem eX12_many_150 : decode mX12_many.2.1 150 = .ok (.iinc 4 1, 3) := dX12_many_150
theorem eX12_many_153 : decode mX12_many.2.1 153 = .ok (.goto (-112), 3) := dX12_many_153
theorem eX12_many_156 : decode mX12_many.2.1 156 = .ok (.iload_n 3, 1) := dX12_many_156
theorem eX12_many_157 : decode mX12_many.2.1 157 = .ok (.ireturn, 1) := dX12_many_157
theorem eX12_mend_0 : decode mX12_mend.2.1 0 = .ok (.aload_n 0, 1) := dX12_mend_0
theorem eX12_mend_1 : decode mX12_mend.2.1 1 = .ok (.iconst 0, 1) := dX12_mend_1
theorem eX12_mend_2 : decode mX12_mend.2.1 2 = .ok (.putfield 1, 3) := dX12_mend_2
theorem eX12_mend_5 : decode mX12_mend.2.1 5 = .ok (.aload_n 0, 1) := dX12_mend_5
theorem eX12_mend_6 : decode mX12_mend.2.1 6 = .ok (.aload_n 0, 1) := dX12_mend_6
theorem eX12_mend_7 : decode mX12_mend.2.1 7 = .ok (.getfield 160, 3) := dX12_mend_7
theorem eX12_mend_10 : decode mX12_mend.2.1 10 = .ok (.ifCond .eq 19, 3) := dX12_mend_10
theorem eX12_mend_13 : decode mX12_mend.2.1 13 = .ok (.iload_n 1, 1) := dX12_mend_13
theorem eX12_mend_14 : decode mX12_mend.2.1 14 = .ok (.i2l, 1) := dX12_mend_14
theorem eX12_mend_15 : decode mX12_mend.2.1 15 = .ok (.lconst 0, 1) := dX12_mend_15
theorem eX12_mend_16 : decode mX12_mend.2.1 16 = .ok (.ldc2_w 130, 3) := dX12_mend_16
theorem eX12_mend_19 : decode mX12_mend.2.1 19 = .ok (.invokestatic 206, 3) := dX12_mend_19
theorem eX12_mend_22 : decode mX12_mend.2.1 22 = .ok (.ifCond .eq 7, 3) := dX12_mend_22
theorem eX12_mend_25 : decode mX12_mend.2.1 25 = .ok (.iconst 1, 1) := dX12_mend_25
theorem eX12_mend_26 : decode mX12_mend.2.1 26 = .ok (.goto 4, 3) := dX12_mend_26
theorem eX12_mend_29 : decode mX12_mend.2.1 29 = .ok (.iconst 0, 1) := dX12_mend_29
theorem eX12_mend_30 : decode mX12_mend.2.1 30 = .ok (.iconst 1, 1) := dX12_mend_30
theorem eX12_mend_31 : decode mX12_mend.2.1 31 = .ok (.invokevirtual 304, 3) := dX12_mend_31
theorem eX12_mend_34 : decode mX12_mend.2.1 34 = .ok (.ifCond .ne 5, 3) := dX12_mend_34
theorem eX12_mend_37 : decode mX12_mend.2.1 37 = .ok (.iconst 0, 1) := dX12_mend_37
theorem eX12_mend_38 : decode mX12_mend.2.1 38 = .ok (.ireturn, 1) := dX12_mend_38
theorem eX12_mend_39 : decode mX12_mend.2.1 39 = .ok (.aload_n 0, 1) := dX12_mend_39
theorem eX12_mend_40 : decode mX12_mend.2.1 40 = .ok (.invokevirtual 434, 3) := dX12_mend_40
theorem eX12_mend_43 : decode mX12_mend.2.1 43 = .ok (.iload_n 1, 1) := dX12_mend_43
theorem eX12_mend_44 : decode mX12_mend.2.1 44 = .ok (.ifCond .ne 10, 3) := dX12_mend_44
theorem eX12_mend_47 : decode mX12_mend.2.1 47 = .ok (.aload_n 0, 1) := dX12_mend_47
theorem eX12_mend_48 : decode mX12_mend.2.1 48 = .ok (.getfield 425, 3) := dX12_mend_48
theorem eX12_mend_51 : decode mX12_mend.2.1 51 = .ok (.goto 19, 3) := dX12_mend_51
theorem eX12_mend_54 : decode mX12_mend.2.1 54 = .ok (.iload_n 1, 1) := dX12_mend_54
theorem eX12_mend_55 : decode mX12_mend.2.1 55 = .ok (.iconst 1, 1) := dX12_mend_55
theorem eX12_mend_56 : decode mX12_mend.2.1 56 = .ok (.if_icmp .ne 10, 3) := dX12_mend_56
theorem eX12_mend_59 : decode mX12_mend.2.1 59 = .ok (.aload_n 0, 1) := dX12_mend_59
theorem eX12_mend_60 : decode mX12_mend.2.1 60 = .ok (.getfield 428, 3) := dX12_mend_60
theorem eX12_mend_63 : decode mX12_mend.2.1 63 = .ok (.goto 7, 3) := dX12_mend_63
theorem eX12_mend_66 : decode mX12_mend.2.1 66 = .ok (.aload_n 0, 1) := dX12_mend_66
theorem eX12_mend_67 : decode mX12_mend.2.1 67 = .ok (.getfield 431, 3) := dX12_mend_67
theorem eX12_mend_70 : decode mX12_mend.2.1 70 = .ok (.ireturn, 1) := dX12_mend_70
theorem eX12_mends_0 : decode mX12_mends.2.1 0 = .ok (.aload_n 0, 1) := dX12_mends_0
theorem eX12_mends_1 : decode mX12_mends.2.1 1 = .ok (.iconst 0, 1) := dX12_mends_1
theorem eX12_mends_2 : decode mX12_mends.2.1 2 = .ok (.putfield 425, 3) := dX12_mends_2
theorem eX12_mends_5 : decode mX12_mends.2.1 5 = .ok (.aload_n 0, 1) := dX12_mends_5
theorem eX12_mends_6 : decode mX12_mends.2.1 6 = .ok (.iconst (-1), 1) := dX12_mends_6
theorem eX12_mends_7 : decode mX12_mends.2.1 7 = .ok (.putfield 428, 3) := dX12_mends_7
theorem eX12_mends_10 : decode mX12_mends.2.1 10 = .ok (.aload_n 0, 1) := dX12_mends_10
theorem eX12_mends_11 : decode mX12_mends.2.1 11 = .ok (.iconst (-1), 1) := dX12_mends_11
theorem eX12_mends_12 : decode mX12_mends.2.1 12 = .ok (.putfield 431, 3) := dX12_mends_12
theorem eX12_mends_15 : decode mX12_mends.2.1 15 = .ok (.aload_n 0, 1) := dX12_mends_15
theorem eX12_mends_16 : decode mX12_mends.2.1 16 = .ok (.aload_n 0, 1) := dX12_mends_16
theorem eX12_mends_17 : decode mX12_mends.2.1 17 = .ok (.getfield 90, 3) := dX12_mends_17
theorem eX12_mends_20 : decode mX12_mends.2.1 20 = .ok (.invokevirtual 418, 3) := dX12_mends_20
theorem eX12_mends_23 : decode mX12_mends.2.1 23 = .ok (.aload_n 0, 1) := dX12_mends_23
theorem eX12_mends_24 : decode mX12_mends.2.1 24 = .ok (.invokevirtual 422, 3) := dX12_mends_24
theorem eX12_mends_27 : decode mX12_mends.2.1 27 = .ok (.ifCond .ne 4, 3) := dX12_mends_27
theorem eX12_mends_30 : decode mX12_mends.2.1 30 = .ok (.return_, 1) := dX12_mends_30
theorem eX12_mends_31 : decode mX12_mends.2.1 31 = .ok (.iconst 0, 1) := dX12_mends_31
theorem eX12_mends_32 : decode mX12_mends.2.1 32 = .ok (.istore_n 1, 1) := dX12_mends_32
theorem eX12_mends_33 : decode mX12_mends.2.1 33 = .ok (.iload_n 1, 1) := dX12_mends_33
theorem eX12_mends_34 : decode mX12_mends.2.1 34 = .ok (.aload_n 0, 1) := dX12_mends_34
theorem eX12_mends_35 : decode mX12_mends.2.1 35 = .ok (.getfield 69, 3) := dX12_mends_35
theorem eX12_mends_38 : decode mX12_mends.2.1 38 = .ok (.if_icmp .ge 21, 3) := dX12_mends_38
theorem eX12_mends_41 : decode mX12_mends.2.1 41 = .ok (.aload_n 0, 1) := dX12_mends_41
theorem eX12_mends_42 : decode mX12_mends.2.1 42 = .ok (.getfield 96, 3) := dX12_mends_42
theorem eX12_mends_45 : decode mX12_mends.2.1 45 = .ok (.iload_n 1, 1) := dX12_mends_45
theorem eX12_mends_46 : decode mX12_mends.2.1 46 = .ok (.aload_n 0, 1) := dX12_mends_46
theorem eX12_mends_47 : decode mX12_mends.2.1 47 = .ok (.getfield 90, 3) := dX12_mends_47
theorem eX12_mends_50 : decode mX12_mends.2.1 50 = .ok (.iload_n 1, 1) := dX12_mends_50
theorem eX12_mends_51 : decode mX12_mends.2.1 51 = .ok (.iaload, 1) := dX12_mends_51
theorem eX12_mends_52 : decode mX12_mends.2.1 52 = .ok (.iastore, 1) := dX12_mends_52
theorem eX12_mends_53 : decode mX12_mends.2.1 53 = .ok (.iinc 1 1, 3) := dX12_mends_53
theorem eX12_mends_56 : decode mX12_mends.2.1 56 = .ok (.goto (-23), 3) := dX12_mends_56
theorem eX12_mends_59 : decode mX12_mends.2.1 59 = .ok (.iconst 0, 1) := dX12_mends_59
theorem eX12_mends_60 : decode mX12_mends.2.1 60 = .ok (.istore_n 1, 1) := dX12_mends_60
theorem eX12_mends_61 : decode mX12_mends.2.1 61 = .ok (.iload_n 1, 1) := dX12_mends_61
theorem eX12_mends_62 : decode mX12_mends.2.1 62 = .ok (.aload_n 0, 1) := dX12_mends_62
theorem eX12_mends_63 : decode mX12_mends.2.1 63 = .ok (.getfield 69, 3) := dX12_mends_63
theorem eX12_mends_66 : decode mX12_mends.2.1 66 = .ok (.if_icmp .ge 121, 3) := dX12_mends_66
theorem eX12_mends_69 : decode mX12_mends.2.1 69 = .ok (.iconst 1, 1) := dX12_mends_69
theorem eX12_mends_70 : decode mX12_mends.2.1 70 = .ok (.istore_n 2, 1) := dX12_mends_70
theorem eX12_mends_71 : decode mX12_mends.2.1 71 = .ok (.iload_n 2, 1) := dX12_mends_71
theorem eX12_mends_72 : decode mX12_mends.2.1 72 = .ok (.aload_n 0, 1) := dX12_mends_72
theorem eX12_mends_73 : decode mX12_mends.2.1 73 = .ok (.getfield 22, 3) := dX12_mends_73
theorem eX12_mends_76 : decode mX12_mends.2.1 76 = .ok (.if_icmp .ge 93, 3) := dX12_mends_76
theorem eX12_mends_79 : decode mX12_mends.2.1 79 = .ok (.aload_n 0, 1) := dX12_mends_79
theorem eX12_mends_80 : decode mX12_mends.2.1 80 = .ok (.getfield 96, 3) := dX12_mends_80
theorem eX12_mends_83 : decode mX12_mends.2.1 83 = .ok (.iload_n 1, 1) := dX12_mends_83
theorem eX12_mends_84 : decode mX12_mends.2.1 84 = .ok (.aload_n 0, 1) := dX12_mends_84
theorem eX12_mends_85 : decode mX12_mends.2.1 85 = .ok (.getfield 90, 3) := dX12_mends_85
theorem eX12_mends_88 : decode mX12_mends.2.1 88 = .ok (.iload_n 1, 1) := dX12_mends_88
theorem eX12_mends_89 : decode mX12_mends.2.1 89 = .ok (.iaload, 1) := dX12_mends_89
theorem eX12_mends_90 : decode mX12_mends.2.1 90 = .ok (.iload_n 2, 1) := dX12_mends_90
theorem eX12_mends_91 : decode mX12_mends.2.1 91 = .ok (.iadd, 1) := dX12_mends_91
theorem eX12_mends_92 : decode mX12_mends.2.1 92 = .ok (.aload_n 0, 1) := dX12_mends_92
theorem eX12_mends_93 : decode mX12_mends.2.1 93 = .ok (.getfield 22, 3) := dX12_mends_93
theorem eX12_mends_96 : decode mX12_mends.2.1 96 = .ok (.irem, 1) := dX12_mends_96
theorem eX12_mends_97 : decode mX12_mends.2.1 97 = .ok (.iastore, 1) := dX12_mends_97
theorem eX12_mends_98 : decode mX12_mends.2.1 98 = .ok (.aload_n 0, 1) := dX12_mends_98
theorem eX12_mends_99 : decode mX12_mends.2.1 99 = .ok (.aload_n 0, 1) := dX12_mends_99
theorem eX12_mends_100 : decode mX12_mends.2.1 100 = .ok (.getfield 96, 3) := dX12_mends_100
theorem eX12_mends_103 : decode mX12_mends.2.1 103 = .ok (.invokevirtual 418, 3) := dX12_mends_103
theorem eX12_mends_106 : decode mX12_mends.2.1 106 = .ok (.aload_n 0, 1) := dX12_mends_106
theorem eX12_mends_107 : decode mX12_mends.2.1 107 = .ok (.invokevirtual 422, 3) := dX12_mends_107
theorem eX12_mends_110 : decode mX12_mends.2.1 110 = .ok (.ifCond .ne 53, 3) := dX12_mends_110
theorem eX12_mends_113 : decode mX12_mends.2.1 113 = .ok (.aload_n 0, 1) := dX12_mends_113
theorem eX12_mends_114 : decode mX12_mends.2.1 114 = .ok (.dup, 1) := dX12_mends_114
theorem eX12_mends_115 : decode mX12_mends.2.1 115 = .ok (.getfield 425, 3) := dX12_mends_115
theorem eX12_mends_118 : decode mX12_mends.2.1 118 = .ok (.iconst 1, 1) := dX12_mends_118
theorem eX12_mends_119 : decode mX12_mends.2.1 119 = .ok (.iadd, 1) := dX12_mends_119
theorem eX12_mends_120 : decode mX12_mends.2.1 120 = .ok (.putfield 425, 3) := dX12_mends_120
theorem eX12_mends_123 : decode mX12_mends.2.1 123 = .ok (.aload_n 0, 1) := dX12_mends_123
theorem eX12_mends_124 : decode mX12_mends.2.1 124 = .ok (.aload_n 0, 1) := dX12_mends_124
theorem eX12_mends_125 : decode mX12_mends.2.1 125 = .ok (.getfield 428, 3) := dX12_mends_125
theorem eX12_mends_128 : decode mX12_mends.2.1 128 = .ok (.iconst (-1), 1) := dX12_mends_128
theorem eX12_mends_129 : decode mX12_mends.2.1 129 = .ok (.if_icmp .ne 7, 3) := dX12_mends_129
theorem eX12_mends_132 : decode mX12_mends.2.1 132 = .ok (.iload_n 2, 1) := dX12_mends_132
theorem eX12_mends_133 : decode mX12_mends.2.1 133 = .ok (.goto 7, 3) := dX12_mends_133
theorem eX12_mends_136 : decode mX12_mends.2.1 136 = .ok (.aload_n 0, 1) := dX12_mends_136
theorem eX12_mends_137 : decode mX12_mends.2.1 137 = .ok (.getfield 431, 3) := dX12_mends_137
theorem eX12_mends_140 : decode mX12_mends.2.1 140 = .ok (.putfield 431, 3) := dX12_mends_140
theorem eX12_mends_143 : decode mX12_mends.2.1 143 = .ok (.aload_n 0, 1) := dX12_mends_143
theorem eX12_mends_144 : decode mX12_mends.2.1 144 = .ok (.aload_n 0, 1) := dX12_mends_144
theorem eX12_mends_145 : decode mX12_mends.2.1 145 = .ok (.getfield 428, 3) := dX12_mends_145
theorem eX12_mends_148 : decode mX12_mends.2.1 148 = .ok (.iconst (-1), 1) := dX12_mends_148
theorem eX12_mends_149 : decode mX12_mends.2.1 149 = .ok (.if_icmp .ne 7, 3) := dX12_mends_149
theorem eX12_mends_152 : decode mX12_mends.2.1 152 = .ok (.iload_n 1, 1) := dX12_mends_152
theorem eX12_mends_153 : decode mX12_mends.2.1 153 = .ok (.goto 7, 3) := dX12_mends_153
theorem eX12_mends_156 : decode mX12_mends.2.1 156 = .ok (.aload_n 0, 1) := dX12_mends_156
theorem eX12_mends_157 : decode mX12_mends.2.1 157 = .ok (.getfield 428, 3) := dX12_mends_157
theorem eX12_mends_160 : decode mX12_mends.2.1 160 = .ok (.putfield 428, 3) := dX12_mends_160
theorem eX12_mends_163 : decode mX12_mends.2.1 163 = .ok (.iinc 2 1, 3) := dX12_mends_163
theorem eX12_mends_166 : decode mX12_mends.2.1 166 = .ok (.goto (-95), 3) := dX12_mends_166
theorem eX12_mends_169 : decode mX12_mends.2.1 169 = .ok (.aload_n 0, 1) := dX12_mends_169
theorem eX12_mends_170 : decode mX12_mends.2.1 170 = .ok (.getfield 96, 3) := dX12_mends_170
theorem eX12_mends_173 : decode mX12_mends.2.1 173 = .ok (.iload_n 1, 1) := dX12_mends_173
theorem eX12_mends_174 : decode mX12_mends.2.1 174 = .ok (.aload_n 0, 1) := dX12_mends_174
theorem eX12_mends_175 : decode mX12_mends.2.1 175 = .ok (.getfield 90, 3) := dX12_mends_175
theorem eX12_mends_178 : decode mX12_mends.2.1 178 = .ok (.iload_n 1, 1) := dX12_mends_178
theorem eX12_mends_179 : decode mX12_mends.2.1 179 = .ok (.iaload, 1) := dX12_mends_179
theorem eX12_mends_180 : decode mX12_mends.2.1 180 = .ok (.iastore, 1) := dX12_mends_180
theorem eX12_mends_181 : decode mX12_mends.2.1 181 = .ok (.iinc 1 1, 3) := dX12_mends_181
theorem eX12_mends_184 : decode mX12_mends.2.1 184 = .ok (.goto (-123), 3) := dX12_mends_184
theorem eX12_mends_187 : decode mX12_mends.2.1 187 = .ok (.return_, 1) := dX12_mends_187
theorem eX12_modulus_0 : decode mX12_modulus.2.1 0 = .ok (.aload_n 0, 1) := dX12_modulus_0
theorem eX12_modulus_1 : decode mX12_modulus.2.1 1 = .ok (.iconst 0, 1) := dX12_modulus_1
theorem eX12_modulus_2 : decode mX12_modulus.2.1 2 = .ok (.putfield 1, 3) := dX12_modulus_2
theorem eX12_modulus_5 : decode mX12_modulus.2.1 5 = .ok (.aload_n 0, 1) := dX12_modulus_5
theorem eX12_modulus_6 : decode mX12_modulus.2.1 6 = .ok (.iload_n 1, 1) := dX12_modulus_6
theorem eX12_modulus_7 : decode mX12_modulus.2.1 7 = .ok (.i2l, 1) := dX12_modulus_7
theorem eX12_modulus_8 : decode mX12_modulus.2.1 8 = .ok (.lconst 0, 1) := dX12_modulus_8
theorem eX12_modulus_9 : decode mX12_modulus.2.1 9 = .ok (.aload_n 0, 1) := dX12_modulus_9
theorem eX12_modulus_10 : decode mX12_modulus.2.1 10 = .ok (.getfield 19, 3) := dX12_modulus_10
theorem eX12_modulus_13 : decode mX12_modulus.2.1 13 = .ok (.i2l, 1) := dX12_modulus_13
theorem eX12_modulus_14 : decode mX12_modulus.2.1 14 = .ok (.invokestatic 206, 3) := dX12_modulus_14
theorem eX12_modulus_17 : decode mX12_modulus.2.1 17 = .ok (.iconst 1, 1) := dX12_modulus_17
theorem eX12_modulus_18 : decode mX12_modulus.2.1 18 = .ok (.invokevirtual 304, 3) := dX12_modulus_18
theorem eX12_modulus_21 : decode mX12_modulus.2.1 21 = .ok (.ifCond .eq 12, 3) := dX12_modulus_21
theorem eX12_modulus_24 : decode mX12_modulus.2.1 24 = .ok (.aload_n 0, 1) := dX12_modulus_24
theorem eX12_modulus_25 : decode mX12_modulus.2.1 25 = .ok (.getfield 31, 3) := dX12_modulus_25
theorem eX12_modulus_28 : decode mX12_modulus.2.1 28 = .ok (.iload_n 1, 1) := dX12_modulus_28
theorem eX12_modulus_29 : decode mX12_modulus.2.1 29 = .ok (.iaload, 1) := dX12_modulus_29
theorem eX12_modulus_30 : decode mX12_modulus.2.1 30 = .ok (.goto 4, 3) := dX12_modulus_30
theorem eX12_modulus_33 : decode mX12_modulus.2.1 33 = .ok (.iconst 0, 1) := dX12_modulus_33
theorem eX12_modulus_34 : decode mX12_modulus.2.1 34 = .ok (.ireturn, 1) := dX12_modulus_34
theorem eX12_moved_0 : decode mX12_moved.2.1 0 = .ok (.aload_n 0, 1) := dX12_moved_0
theorem eX12_moved_1 : decode mX12_moved.2.1 1 = .ok (.iload_n 1, 1) := dX12_moved_1
theorem eX12_moved_2 : decode mX12_moved.2.1 2 = .ok (.invokevirtual 191, 3) := dX12_moved_2
theorem eX12_moved_5 : decode mX12_moved.2.1 5 = .ok (.aload_n 0, 1) := dX12_moved_5
theorem eX12_moved_6 : decode mX12_moved.2.1 6 = .ok (.aload_n 0, 1) := dX12_moved_6
theorem eX12_moved_7 : decode mX12_moved.2.1 7 = .ok (.getfield 13, 3) := dX12_moved_7
theorem eX12_moved_10 : decode mX12_moved.2.1 10 = .ok (.invokevirtual 195, 3) := dX12_moved_10
theorem eX12_moved_13 : decode mX12_moved.2.1 13 = .ok (.ireturn, 1) := dX12_moved_13
theorem eX12_movedTimes_0 : decode mX12_movedTimes.2.1 0 = .ok (.iload_n 1, 1) := dX12_movedTimes_0
theorem eX12_movedTimes_1 : decode mX12_movedTimes.2.1 1 = .ok (.istore_n 3, 1) := dX12_movedTimes_1
theorem eX12_movedTimes_2 : decode mX12_movedTimes.2.1 2 = .ok (.iconst 0, 1) := dX12_movedTimes_2
theorem eX12_movedTimes_3 : decode mX12_movedTimes.2.1 3 = .ok (.istore 4, 2) := dX12_movedTimes_3
theorem eX12_movedTimes_5 : decode mX12_movedTimes.2.1 5 = .ok (.iload 4, 2) := dX12_movedTimes_5
theorem eX12_movedTimes_7 : decode mX12_movedTimes.2.1 7 = .ok (.iload_n 2, 1) := dX12_movedTimes_7
theorem eX12_movedTimes_8 : decode mX12_movedTimes.2.1 8 = .ok (.aload_n 0, 1) := dX12_movedTimes_8
theorem eX12_movedTimes_9 : decode mX12_movedTimes.2.1 9 = .ok (.getfield 19, 3) := dX12_movedTimes_9
theorem eX12_movedTimes_12 : decode mX12_movedTimes.2.1 12 = .ok (.irem, 1) := dX12_movedTimes_12
theorem eX12_movedTimes_13 : decode mX12_movedTimes.2.1 13 = .ok (.if_icmp .ge 15, 3) := dX12_movedTimes_13
theorem eX12_movedTimes_16 : decode mX12_movedTimes.2.1 16 = .ok (.aload_n 0, 1) := dX12_movedTimes_16
theorem eX12_movedTimes_17 : decode mX12_movedTimes.2.1 17 = .ok (.iload_n 3, 1) := dX12_movedTimes_17
theorem eX12_movedTimes_18 : decode mX12_movedTimes.2.1 18 = .ok (.invokevirtual 198, 3) := dX12_movedTimes_18
theorem eX12_movedTimes_21 : decode mX12_movedTimes.2.1 21 = .ok (.istore_n 3, 1) := dX12_movedTimes_21
theorem eX12_movedTimes_22 : decode mX12_movedTimes.2.1 22 = .ok (.iinc 4 1, 3) := dX12_movedTimes_22
theorem eX12_movedTimes_25 : decode mX12_movedTimes.2.1 25 = .ok (.goto (-20), 3) := dX12_movedTimes_25
theorem eX12_movedTimes_28 : decode mX12_movedTimes.2.1 28 = .ok (.iload_n 3, 1) := dX12_movedTimes_28
theorem eX12_movedTimes_29 : decode mX12_movedTimes.2.1 29 = .ok (.ireturn, 1) := dX12_movedTimes_29
theorem eX12_nearest_0 : decode mX12_nearest.2.1 0 = .ok (.aload_n 0, 1) := dX12_nearest_0
theorem eX12_nearest_1 : decode mX12_nearest.2.1 1 = .ok (.iconst 0, 1) := dX12_nearest_1
theorem eX12_nearest_2 : decode mX12_nearest.2.1 2 = .ok (.putfield 1, 3) := dX12_nearest_2
theorem eX12_nearest_5 : decode mX12_nearest.2.1 5 = .ok (.aload_n 0, 1) := dX12_nearest_5
theorem eX12_nearest_6 : decode mX12_nearest.2.1 6 = .ok (.aload_n 0, 1) := dX12_nearest_6
theorem eX12_nearest_7 : decode mX12_nearest.2.1 7 = .ok (.getfield 160, 3) := dX12_nearest_7
theorem eX12_nearest_10 : decode mX12_nearest.2.1 10 = .ok (.ifCond .eq 25, 3) := dX12_nearest_10
theorem eX12_nearest_13 : decode mX12_nearest.2.1 13 = .ok (.iload_n 1, 1) := dX12_nearest_13
theorem eX12_nearest_14 : decode mX12_nearest.2.1 14 = .ok (.i2l, 1) := dX12_nearest_14
theorem eX12_nearest_15 : decode mX12_nearest.2.1 15 = .ok (.ldc2_w 350, 3) := dX12_nearest_15
theorem eX12_nearest_18 : decode mX12_nearest.2.1 18 = .ok (.aload_n 0, 1) := dX12_nearest_18
theorem eX12_nearest_19 : decode mX12_nearest.2.1 19 = .ok (.getfield 69, 3) := dX12_nearest_19
theorem eX12_nearest_22 : decode mX12_nearest.2.1 22 = .ok (.iconst 1, 1) := dX12_nearest_22
theorem eX12_nearest_23 : decode mX12_nearest.2.1 23 = .ok (.isub, 1) := dX12_nearest_23
theorem eX12_nearest_24 : decode mX12_nearest.2.1 24 = .ok (.i2l, 1) := dX12_nearest_24
theorem eX12_nearest_25 : decode mX12_nearest.2.1 25 = .ok (.invokestatic 206, 3) := dX12_nearest_25
theorem eX12_nearest_28 : decode mX12_nearest.2.1 28 = .ok (.ifCond .eq 7, 3) := dX12_nearest_28
theorem eX12_nearest_31 : decode mX12_nearest.2.1 31 = .ok (.iconst 1, 1) := dX12_nearest_31
theorem eX12_nearest_32 : decode mX12_nearest.2.1 32 = .ok (.goto 4, 3) := dX12_nearest_32
theorem eX12_nearest_35 : decode mX12_nearest.2.1 35 = .ok (.iconst 0, 1) := dX12_nearest_35
theorem eX12_nearest_36 : decode mX12_nearest.2.1 36 = .ok (.iconst 1, 1) := dX12_nearest_36
theorem eX12_nearest_37 : decode mX12_nearest.2.1 37 = .ok (.invokevirtual 304, 3) := dX12_nearest_37
theorem eX12_nearest_40 : decode mX12_nearest.2.1 40 = .ok (.ifCond .ne 5, 3) := dX12_nearest_40
theorem eX12_nearest_43 : decode mX12_nearest.2.1 43 = .ok (.iconst 0, 1) := dX12_nearest_43
theorem eX12_nearest_44 : decode mX12_nearest.2.1 44 = .ok (.ireturn, 1) := dX12_nearest_44
theorem eX12_nearest_45 : decode mX12_nearest.2.1 45 = .ok (.aload_n 0, 1) := dX12_nearest_45
theorem eX12_nearest_46 : decode mX12_nearest.2.1 46 = .ok (.invokevirtual 411, 3) := dX12_nearest_46
theorem eX12_nearest_49 : decode mX12_nearest.2.1 49 = .ok (.ifCond .ne 5, 3) := dX12_nearest_49
theorem eX12_nearest_52 : decode mX12_nearest.2.1 52 = .ok (.iconst (-1), 1) := dX12_nearest_52
theorem eX12_nearest_53 : decode mX12_nearest.2.1 53 = .ok (.ireturn, 1) := dX12_nearest_53
theorem eX12_nearest_54 : decode mX12_nearest.2.1 54 = .ok (.aload_n 0, 1) := dX12_nearest_54
theorem eX12_nearest_55 : decode mX12_nearest.2.1 55 = .ok (.iconst 1, 1) := dX12_nearest_55
theorem eX12_nearest_56 : decode mX12_nearest.2.1 56 = .ok (.invokevirtual 414, 3) := dX12_nearest_56
theorem eX12_nearest_59 : decode mX12_nearest.2.1 59 = .ok (.iload_n 1, 1) := dX12_nearest_59
theorem eX12_nearest_60 : decode mX12_nearest.2.1 60 = .ok (.iconst (-1), 1) := dX12_nearest_60
theorem eX12_nearest_61 : decode mX12_nearest.2.1 61 = .ok (.if_icmp .ne 10, 3) := dX12_nearest_61
theorem eX12_nearest_64 : decode mX12_nearest.2.1 64 = .ok (.aload_n 0, 1) := dX12_nearest_64
theorem eX12_nearest_65 : decode mX12_nearest.2.1 65 = .ok (.getfield 405, 3) := dX12_nearest_65
theorem eX12_nearest_68 : decode mX12_nearest.2.1 68 = .ok (.goto 9, 3) := dX12_nearest_68
theorem eX12_nearest_71 : decode mX12_nearest.2.1 71 = .ok (.aload_n 0, 1) := dX12_nearest_71
theorem eX12_nearest_72 : decode mX12_nearest.2.1 72 = .ok (.getfield 87, 3) := dX12_nearest_72
theorem eX12_nearest_75 : decode mX12_nearest.2.1 75 = .ok (.iload_n 1, 1) := dX12_nearest_75
theorem eX12_nearest_76 : decode mX12_nearest.2.1 76 = .ok (.iaload, 1) := dX12_nearest_76
theorem eX12_nearest_77 : decode mX12_nearest.2.1 77 = .ok (.ireturn, 1) := dX12_nearest_77
theorem eX12_normOf_0 : decode mX12_normOf.2.1 0 = .ok (.iload_n 1, 1) := dX12_normOf_0
theorem eX12_normOf_1 : decode mX12_normOf.2.1 1 = .ok (.istore_n 2, 1) := dX12_normOf_1
theorem eX12_normOf_2 : decode mX12_normOf.2.1 2 = .ok (.iconst 1, 1) := dX12_normOf_2
theorem eX12_normOf_3 : decode mX12_normOf.2.1 3 = .ok (.istore_n 3, 1) := dX12_normOf_3
theorem eX12_normOf_4 : decode mX12_normOf.2.1 4 = .ok (.iconst 0, 1) := dX12_normOf_4
theorem eX12_normOf_5 : decode mX12_normOf.2.1 5 = .ok (.istore 4, 2) := dX12_normOf_5
theorem eX12_normOf_7 : decode mX12_normOf.2.1 7 = .ok (.iload 4, 2) := dX12_normOf_7
theorem eX12_normOf_9 : decode mX12_normOf.2.1 9 = .ok (.aload_n 0, 1) := dX12_normOf_9
theorem eX12_normOf_10 : decode mX12_normOf.2.1 10 = .ok (.getfield 19, 3) := dX12_normOf_10
theorem eX12_normOf_13 : decode mX12_normOf.2.1 13 = .ok (.if_icmp .ge 22, 3) := dX12_normOf_13
theorem eX12_normOf_16 : decode mX12_normOf.2.1 16 = .ok (.aload_n 0, 1) := dX12_normOf_16
theorem eX12_normOf_17 : decode mX12_normOf.2.1 17 = .ok (.iload_n 3, 1) := dX12_normOf_17
theorem eX12_normOf_18 : decode mX12_normOf.2.1 18 = .ok (.iload_n 2, 1) := dX12_normOf_18
theorem eX12_normOf_19 : decode mX12_normOf.2.1 19 = .ok (.invokevirtual 132, 3) := dX12_normOf_19
theorem eX12_normOf_22 : decode mX12_normOf.2.1 22 = .ok (.istore_n 3, 1) := dX12_normOf_22
theorem eX12_normOf_23 : decode mX12_normOf.2.1 23 = .ok (.aload_n 0, 1) := dX12_normOf_23
theorem eX12_normOf_24 : decode mX12_normOf.2.1 24 = .ok (.iload_n 2, 1) := dX12_normOf_24
theorem eX12_normOf_25 : decode mX12_normOf.2.1 25 = .ok (.invokevirtual 198, 3) := dX12_normOf_25
theorem eX12_normOf_28 : decode mX12_normOf.2.1 28 = .ok (.istore_n 2, 1) := dX12_normOf_28
theorem eX12_normOf_29 : decode mX12_normOf.2.1 29 = .ok (.iinc 4 1, 3) := dX12_normOf_29
theorem eX12_normOf_32 : decode mX12_normOf.2.1 32 = .ok (.goto (-25), 3) := dX12_normOf_32
theorem eX12_normOf_35 : decode mX12_normOf.2.1 35 = .ok (.iload_n 3, 1) := dX12_normOf_35
theorem eX12_normOf_36 : decode mX12_normOf.2.1 36 = .ok (.ireturn, 1) := dX12_normOf_36
theorem eX12_number_0 : decode mX12_number.2.1 0 = .ok (.aload_n 0, 1) := dX12_number_0
theorem eX12_number_1 : decode mX12_number.2.1 1 = .ok (.iconst 0, 1) := dX12_number_1
theorem eX12_number_2 : decode mX12_number.2.1 2 = .ok (.putfield 1, 3) := dX12_number_2
theorem eX12_number_5 : decode mX12_number.2.1 5 = .ok (.aload_n 0, 1) := dX12_number_5
theorem eX12_number_6 : decode mX12_number.2.1 6 = .ok (.aload_n 0, 1) := dX12_number_6
theorem eX12_number_7 : decode mX12_number.2.1 7 = .ok (.getfield 160, 3) := dX12_number_7
theorem eX12_number_10 : decode mX12_number.2.1 10 = .ok (.ifCond .eq 23, 3) := dX12_number_10
theorem eX12_number_13 : decode mX12_number.2.1 13 = .ok (.iload_n 1, 1) := dX12_number_13
theorem eX12_number_14 : decode mX12_number.2.1 14 = .ok (.i2l, 1) := dX12_number_14
theorem eX12_number_15 : decode mX12_number.2.1 15 = .ok (.lconst 0, 1) := dX12_number_15
theorem eX12_number_16 : decode mX12_number.2.1 16 = .ok (.aload_n 0, 1) := dX12_number_16
theorem eX12_number_17 : decode mX12_number.2.1 17 = .ok (.getfield 69, 3) := dX12_number_17
theorem eX12_number_20 : decode mX12_number.2.1 20 = .ok (.iconst 1, 1) := dX12_number_20
theorem eX12_number_21 : decode mX12_number.2.1 21 = .ok (.isub, 1) := dX12_number_21
theorem eX12_number_22 : decode mX12_number.2.1 22 = .ok (.i2l, 1) := dX12_number_22
theorem eX12_number_23 : decode mX12_number.2.1 23 = .ok (.invokestatic 206, 3) := dX12_number_23
theorem eX12_number_26 : decode mX12_number.2.1 26 = .ok (.ifCond .eq 7, 3) := dX12_number_26
theorem eX12_number_29 : decode mX12_number.2.1 29 = .ok (.iconst 1, 1) := dX12_number_29
theorem eX12_number_30 : decode mX12_number.2.1 30 = .ok (.goto 4, 3) := dX12_number_30
theorem eX12_number_33 : decode mX12_number.2.1 33 = .ok (.iconst 0, 1) := dX12_number_33
theorem eX12_number_34 : decode mX12_number.2.1 34 = .ok (.iconst 1, 1) := dX12_number_34
theorem eX12_number_35 : decode mX12_number.2.1 35 = .ok (.invokevirtual 304, 3) := dX12_number_35
theorem eX12_number_38 : decode mX12_number.2.1 38 = .ok (.ifCond .eq 12, 3) := dX12_number_38
theorem eX12_number_41 : decode mX12_number.2.1 41 = .ok (.aload_n 0, 1) := dX12_number_41
theorem eX12_number_42 : decode mX12_number.2.1 42 = .ok (.getfield 90, 3) := dX12_number_42
theorem eX12_number_45 : decode mX12_number.2.1 45 = .ok (.iload_n 1, 1) := dX12_number_45
theorem eX12_number_46 : decode mX12_number.2.1 46 = .ok (.iaload, 1) := dX12_number_46
theorem eX12_number_47 : decode mX12_number.2.1 47 = .ok (.goto 4, 3) := dX12_number_47
theorem eX12_number_50 : decode mX12_number.2.1 50 = .ok (.iconst 0, 1) := dX12_number_50
theorem eX12_number_51 : decode mX12_number.2.1 51 = .ok (.ireturn, 1) := dX12_number_51
theorem eX12_of_0 : decode mX12_of.2.1 0 = .ok (.aload_n 0, 1) := dX12_of_0
theorem eX12_of_1 : decode mX12_of.2.1 1 = .ok (.iconst 0, 1) := dX12_of_1
theorem eX12_of_2 : decode mX12_of.2.1 2 = .ok (.putfield 1, 3) := dX12_of_2
theorem eX12_of_5 : decode mX12_of.2.1 5 = .ok (.aload_n 0, 1) := dX12_of_5
theorem eX12_of_6 : decode mX12_of.2.1 6 = .ok (.aload_n 0, 1) := dX12_of_6
theorem eX12_of_7 : decode mX12_of.2.1 7 = .ok (.iload_n 1, 1) := dX12_of_7
theorem eX12_of_8 : decode mX12_of.2.1 8 = .ok (.invokevirtual 311, 3) := dX12_of_8
theorem eX12_of_11 : decode mX12_of.2.1 11 = .ok (.ifCond .eq 19, 3) := dX12_of_11
theorem eX12_of_14 : decode mX12_of.2.1 14 = .ok (.iload_n 2, 1) := dX12_of_14
theorem eX12_of_15 : decode mX12_of.2.1 15 = .ok (.i2l, 1) := dX12_of_15
theorem eX12_of_16 : decode mX12_of.2.1 16 = .ok (.lconst 0, 1) := dX12_of_16
theorem eX12_of_17 : decode mX12_of.2.1 17 = .ok (.ldc2_w 333, 3) := dX12_of_17
theorem eX12_of_20 : decode mX12_of.2.1 20 = .ok (.invokestatic 206, 3) := dX12_of_20
theorem eX12_of_23 : decode mX12_of.2.1 23 = .ok (.ifCond .eq 7, 3) := dX12_of_23
theorem eX12_of_26 : decode mX12_of.2.1 26 = .ok (.iconst 1, 1) := dX12_of_26
theorem eX12_of_27 : decode mX12_of.2.1 27 = .ok (.goto 4, 3) := dX12_of_27
theorem eX12_of_30 : decode mX12_of.2.1 30 = .ok (.iconst 0, 1) := dX12_of_30
theorem eX12_of_31 : decode mX12_of.2.1 31 = .ok (.iconst 1, 1) := dX12_of_31
theorem eX12_of_32 : decode mX12_of.2.1 32 = .ok (.invokevirtual 304, 3) := dX12_of_32
theorem eX12_of_35 : decode mX12_of.2.1 35 = .ok (.ifCond .ne 5, 3) := dX12_of_35
theorem eX12_of_38 : decode mX12_of.2.1 38 = .ok (.iconst 0, 1) := dX12_of_38
theorem eX12_of_39 : decode mX12_of.2.1 39 = .ok (.ireturn, 1) := dX12_of_39
theorem eX12_of_40 : decode mX12_of.2.1 40 = .ok (.iload_n 2, 1) := dX12_of_40
theorem eX12_of_41 : decode mX12_of.2.1 41 = .ok (.tableswitch 75 0 5 #[39, 45, 51, 57, 63, 69], 39) := dX12_of_41
theorem eX12_of_80 : decode mX12_of.2.1 80 = .ok (.aload_n 0, 1) := dX12_of_80
theorem eX12_of_81 : decode mX12_of.2.1 81 = .ok (.iload_n 1, 1) := dX12_of_81
theorem eX12_of_82 : decode mX12_of.2.1 82 = .ok (.invokevirtual 335, 3) := dX12_of_82
theorem eX12_of_85 : decode mX12_of.2.1 85 = .ok (.ireturn, 1) := dX12_of_85
theorem eX12_of_86 : decode mX12_of.2.1 86 = .ok (.aload_n 0, 1) := dX12_of_86
theorem eX12_of_87 : decode mX12_of.2.1 87 = .ok (.iload_n 1, 1) := dX12_of_87
theorem eX12_of_88 : decode mX12_of.2.1 88 = .ok (.invokevirtual 185, 3) := dX12_of_88
theorem eX12_of_91 : decode mX12_of.2.1 91 = .ok (.ireturn, 1) := dX12_of_91
theorem eX12_of_92 : decode mX12_of.2.1 92 = .ok (.aload_n 0, 1) := dX12_of_92
theorem eX12_of_93 : decode mX12_of.2.1 93 = .ok (.iload_n 1, 1) := dX12_of_93
theorem eX12_of_94 : decode mX12_of.2.1 94 = .ok (.invokevirtual 198, 3) := dX12_of_94
theorem eX12_of_97 : decode mX12_of.2.1 97 = .ok (.ireturn, 1) := dX12_of_97
theorem eX12_of_98 : decode mX12_of.2.1 98 = .ok (.aload_n 0, 1) := dX12_of_98
theorem eX12_of_99 : decode mX12_of.2.1 99 = .ok (.iload_n 1, 1) := dX12_of_99
theorem eX12_of_100 : decode mX12_of.2.1 100 = .ok (.invokevirtual 338, 3) := dX12_of_100
theorem eX12_of_103 : decode mX12_of.2.1 103 = .ok (.ireturn, 1) := dX12_of_103
theorem eX12_of_104 : decode mX12_of.2.1 104 = .ok (.aload_n 0, 1) := dX12_of_104
theorem eX12_of_105 : decode mX12_of.2.1 105 = .ok (.iload_n 1, 1) := dX12_of_105
theorem eX12_of_106 : decode mX12_of.2.1 106 = .ok (.invokevirtual 341, 3) := dX12_of_106
theorem eX12_of_109 : decode mX12_of.2.1 109 = .ok (.ireturn, 1) := dX12_of_109
theorem eX12_of_110 : decode mX12_of.2.1 110 = .ok (.aload_n 0, 1) := dX12_of_110
theorem eX12_of_111 : decode mX12_of.2.1 111 = .ok (.iload_n 1, 1) := dX12_of_111
theorem eX12_of_112 : decode mX12_of.2.1 112 = .ok (.invokevirtual 344, 3) := dX12_of_112
theorem eX12_of_115 : decode mX12_of.2.1 115 = .ok (.ireturn, 1) := dX12_of_115
theorem eX12_of_116 : decode mX12_of.2.1 116 = .ok (.aload_n 0, 1) := dX12_of_116
theorem eX12_of_117 : decode mX12_of.2.1 117 = .ok (.iload_n 1, 1) := dX12_of_117
theorem eX12_of_118 : decode mX12_of.2.1 118 = .ok (.invokevirtual 290, 3) := dX12_of_118
theorem eX12_of_121 : decode mX12_of.2.1 121 = .ok (.ifCond .eq 12, 3) := dX12_of_121
theorem eX12_of_124 : decode mX12_of.2.1 124 = .ok (.aload_n 0, 1) := dX12_of_124
theorem eX12_of_125 : decode mX12_of.2.1 125 = .ok (.iload_n 1, 1) := dX12_of_125
theorem eX12_of_126 : decode mX12_of.2.1 126 = .ok (.iload_n 2, 1) := dX12_of_126
theorem eX12_of_127 : decode mX12_of.2.1 127 = .ok (.invokevirtual 347, 3) := dX12_of_127
theorem eX12_of_130 : decode mX12_of.2.1 130 = .ok (.goto 4, 3) := dX12_of_130
theorem eX12_of_133 : decode mX12_of.2.1 133 = .ok (.iconst (-1), 1) := dX12_of_133
theorem eX12_of_134 : decode mX12_of.2.1 134 = .ok (.ireturn, 1) := dX12_of_134
theorem eX12_ofUnit_0 : decode mX12_ofUnit.2.1 0 = .ok (.iload_n 2, 1) := dX12_ofUnit_0
theorem eX12_ofUnit_1 : decode mX12_ofUnit.2.1 1 = .ok (.bipush 6, 2) := dX12_ofUnit_1
theorem eX12_ofUnit_3 : decode mX12_ofUnit.2.1 3 = .ok (.if_icmp .ne 18, 3) := dX12_ofUnit_3
theorem eX12_ofUnit_6 : decode mX12_ofUnit.2.1 6 = .ok (.aload_n 0, 1) := dX12_ofUnit_6
theorem eX12_ofUnit_7 : decode mX12_ofUnit.2.1 7 = .ok (.iload_n 1, 1) := dX12_ofUnit_7
theorem eX12_ofUnit_8 : decode mX12_ofUnit.2.1 8 = .ok (.aload_n 0, 1) := dX12_ofUnit_8
theorem eX12_ofUnit_9 : decode mX12_ofUnit.2.1 9 = .ok (.aload_n 0, 1) := dX12_ofUnit_9
theorem eX12_ofUnit_10 : decode mX12_ofUnit.2.1 10 = .ok (.iload_n 1, 1) := dX12_ofUnit_10
theorem eX12_ofUnit_11 : decode mX12_ofUnit.2.1 11 = .ok (.invokevirtual 185, 3) := dX12_ofUnit_11
theorem eX12_ofUnit_14 : decode mX12_ofUnit.2.1 14 = .ok (.invokevirtual 293, 3) := dX12_ofUnit_14
theorem eX12_ofUnit_17 : decode mX12_ofUnit.2.1 17 = .ok (.invokevirtual 132, 3) := dX12_ofUnit_17
theorem eX12_ofUnit_20 : decode mX12_ofUnit.2.1 20 = .ok (.ireturn, 1) := dX12_ofUnit_20
theorem eX12_ofUnit_21 : decode mX12_ofUnit.2.1 21 = .ok (.iload_n 2, 1) := dX12_ofUnit_21
theorem eX12_ofUnit_22 : decode mX12_ofUnit.2.1 22 = .ok (.bipush 7, 2) := dX12_ofUnit_22
theorem eX12_ofUnit_24 : decode mX12_ofUnit.2.1 24 = .ok (.if_icmp .ne 11, 3) := dX12_ofUnit_24
theorem eX12_ofUnit_27 : decode mX12_ofUnit.2.1 27 = .ok (.aload_n 0, 1) := dX12_ofUnit_27
theorem eX12_ofUnit_28 : decode mX12_ofUnit.2.1 28 = .ok (.iload_n 1, 1) := dX12_ofUnit_28
theorem eX12_ofUnit_29 : decode mX12_ofUnit.2.1 29 = .ok (.invokevirtual 314, 3) := dX12_ofUnit_29
theorem eX12_ofUnit_32 : decode mX12_ofUnit.2.1 32 = .ok (.goto 8, 3) := dX12_ofUnit_32
theorem eX12_ofUnit_35 : decode mX12_ofUnit.2.1 35 = .ok (.aload_n 0, 1) := dX12_ofUnit_35
theorem eX12_ofUnit_36 : decode mX12_ofUnit.2.1 36 = .ok (.iload_n 1, 1) := dX12_ofUnit_36
theorem eX12_ofUnit_37 : decode mX12_ofUnit.2.1 37 = .ok (.invokevirtual 293, 3) := dX12_ofUnit_37
theorem eX12_ofUnit_40 : decode mX12_ofUnit.2.1 40 = .ok (.ireturn, 1) := dX12_ofUnit_40
theorem eX12_orderOf_0 : decode mX12_orderOf.2.1 0 = .ok (.iconst 1, 1) := dX12_orderOf_0
theorem eX12_orderOf_1 : decode mX12_orderOf.2.1 1 = .ok (.istore_n 2, 1) := dX12_orderOf_1
theorem eX12_orderOf_2 : decode mX12_orderOf.2.1 2 = .ok (.iload_n 1, 1) := dX12_orderOf_2
theorem eX12_orderOf_3 : decode mX12_orderOf.2.1 3 = .ok (.istore_n 3, 1) := dX12_orderOf_3
theorem eX12_orderOf_4 : decode mX12_orderOf.2.1 4 = .ok (.iload_n 3, 1) := dX12_orderOf_4
theorem eX12_orderOf_5 : decode mX12_orderOf.2.1 5 = .ok (.iconst 1, 1) := dX12_orderOf_5
theorem eX12_orderOf_6 : decode mX12_orderOf.2.1 6 = .ok (.if_icmp .eq 16, 3) := dX12_orderOf_6
theorem eX12_orderOf_9 : decode mX12_orderOf.2.1 9 = .ok (.aload_n 0, 1) := dX12_orderOf_9
theorem eX12_orderOf_10 : decode mX12_orderOf.2.1 10 = .ok (.iload_n 3, 1) := dX12_orderOf_10
theorem eX12_orderOf_11 : decode mX12_orderOf.2.1 11 = .ok (.iload_n 1, 1) := dX12_orderOf_11
theorem eX12_orderOf_12 : decode mX12_orderOf.2.1 12 = .ok (.invokevirtual 132, 3) := dX12_orderOf_12
theorem eX12_orderOf_15 : decode mX12_orderOf.2.1 15 = .ok (.istore_n 3, 1) := dX12_orderOf_15
theorem eX12_orderOf_16 : decode mX12_orderOf.2.1 16 = .ok (.iinc 2 1, 3) := dX12_orderOf_16
theorem eX12_orderOf_19 : decode mX12_orderOf.2.1 19 = .ok (.goto (-15), 3) := dX12_orderOf_19
theorem eX12_orderOf_22 : decode mX12_orderOf.2.1 22 = .ok (.iload_n 2, 1) := dX12_orderOf_22
theorem eX12_orderOf_23 : decode mX12_orderOf.2.1 23 = .ok (.ireturn, 1) := dX12_orderOf_23
theorem eX12_power_0 : decode mX12_power.2.1 0 = .ok (.iconst 1, 1) := dX12_power_0
theorem eX12_power_1 : decode mX12_power.2.1 1 = .ok (.istore_n 2, 1) := dX12_power_1
theorem eX12_power_2 : decode mX12_power.2.1 2 = .ok (.iconst 0, 1) := dX12_power_2
theorem eX12_power_3 : decode mX12_power.2.1 3 = .ok (.istore_n 3, 1) := dX12_power_3
theorem eX12_power_4 : decode mX12_power.2.1 4 = .ok (.iload_n 3, 1) := dX12_power_4
theorem eX12_power_5 : decode mX12_power.2.1 5 = .ok (.iload_n 1, 1) := dX12_power_5
theorem eX12_power_6 : decode mX12_power.2.1 6 = .ok (.if_icmp .ge 13, 3) := dX12_power_6
theorem eX12_power_9 : decode mX12_power.2.1 9 = .ok (.iload_n 2, 1) := dX12_power_9
theorem eX12_power_10 : decode mX12_power.2.1 10 = .ok (.iload_n 0, 1) := dX12_power_10
theorem eX12_power_11 : decode mX12_power.2.1 11 = .ok (.imul, 1) := dX12_power_11
theorem eX12_power_12 : decode mX12_power.2.1 12 = .ok (.istore_n 2, 1) := dX12_power_12
theorem eX12_power_13 : decode mX12_power.2.1 13 = .ok (.iinc 3 1, 3) := dX12_power_13
theorem eX12_power_16 : decode mX12_power.2.1 16 = .ok (.goto (-12), 3) := dX12_power_16
theorem eX12_power_19 : decode mX12_power.2.1 19 = .ok (.iload_n 2, 1) := dX12_power_19
theorem eX12_power_20 : decode mX12_power.2.1 20 = .ok (.ireturn, 1) := dX12_power_20
theorem eX12_put_0 : decode mX12_put.2.1 0 = .ok (.aload_n 0, 1) := dX12_put_0
theorem eX12_put_1 : decode mX12_put.2.1 1 = .ok (.iconst 0, 1) := dX12_put_1
theorem eX12_put_2 : decode mX12_put.2.1 2 = .ok (.putfield 1, 3) := dX12_put_2
theorem eX12_put_5 : decode mX12_put.2.1 5 = .ok (.aload_n 0, 1) := dX12_put_5
theorem eX12_put_6 : decode mX12_put.2.1 6 = .ok (.iload_n 1, 1) := dX12_put_6
theorem eX12_put_7 : decode mX12_put.2.1 7 = .ok (.i2l, 1) := dX12_put_7
theorem eX12_put_8 : decode mX12_put.2.1 8 = .ok (.lconst 0, 1) := dX12_put_8
theorem eX12_put_9 : decode mX12_put.2.1 9 = .ok (.ldc2_w 302, 3) := dX12_put_9
theorem eX12_put_12 : decode mX12_put.2.1 12 = .ok (.invokestatic 206, 3) := dX12_put_12
theorem eX12_put_15 : decode mX12_put.2.1 15 = .ok (.ifCond .eq 15, 3) := dX12_put_15
theorem eX12_put_18 : decode mX12_put.2.1 18 = .ok (.aload_n 0, 1) := dX12_put_18
theorem eX12_put_19 : decode mX12_put.2.1 19 = .ok (.iload_n 2, 1) := dX12_put_19
theorem eX12_put_20 : decode mX12_put.2.1 20 = .ok (.invokevirtual 311, 3) := dX12_put_20
theorem eX12_put_23 : decode mX12_put.2.1 23 = .ok (.ifCond .eq 7, 3) := dX12_put_23
theorem eX12_put_26 : decode mX12_put.2.1 26 = .ok (.iconst 1, 1) := dX12_put_26
theorem eX12_put_27 : decode mX12_put.2.1 27 = .ok (.goto 4, 3) := dX12_put_27
theorem eX12_put_30 : decode mX12_put.2.1 30 = .ok (.iconst 0, 1) := dX12_put_30
theorem eX12_put_31 : decode mX12_put.2.1 31 = .ok (.iconst 1, 1) := dX12_put_31
theorem eX12_put_32 : decode mX12_put.2.1 32 = .ok (.invokevirtual 304, 3) := dX12_put_32
theorem eX12_put_35 : decode mX12_put.2.1 35 = .ok (.ifCond .ne 5, 3) := dX12_put_35
theorem eX12_put_38 : decode mX12_put.2.1 38 = .ok (.iconst 0, 1) := dX12_put_38
theorem eX12_put_39 : decode mX12_put.2.1 39 = .ok (.ireturn, 1) := dX12_put_39
theorem eX12_put_40 : decode mX12_put.2.1 40 = .ok (.aload_n 0, 1) := dX12_put_40
theorem eX12_put_41 : decode mX12_put.2.1 41 = .ok (.getfield 44, 3) := dX12_put_41
theorem eX12_put_44 : decode mX12_put.2.1 44 = .ok (.iload_n 1, 1) := dX12_put_44
theorem eX12_put_45 : decode mX12_put.2.1 45 = .ok (.iaload, 1) := dX12_put_45
theorem eX12_put_46 : decode mX12_put.2.1 46 = .ok (.istore_n 3, 1) := dX12_put_46
theorem eX12_put_47 : decode mX12_put.2.1 47 = .ok (.aload_n 0, 1) := dX12_put_47
theorem eX12_put_48 : decode mX12_put.2.1 48 = .ok (.getfield 44, 3) := dX12_put_48
theorem eX12_put_51 : decode mX12_put.2.1 51 = .ok (.iload_n 1, 1) := dX12_put_51
theorem eX12_put_52 : decode mX12_put.2.1 52 = .ok (.iload_n 2, 1) := dX12_put_52
theorem eX12_put_53 : decode mX12_put.2.1 53 = .ok (.iastore, 1) := dX12_put_53
theorem eX12_put_54 : decode mX12_put.2.1 54 = .ok (.iload_n 3, 1) := dX12_put_54
theorem eX12_put_55 : decode mX12_put.2.1 55 = .ok (.ireturn, 1) := dX12_put_55
theorem eX12_raised_0 : decode mX12_raised.2.1 0 = .ok (.iconst 1, 1) := dX12_raised_0
theorem eX12_raised_1 : decode mX12_raised.2.1 1 = .ok (.istore 4, 2) := dX12_raised_1
theorem eX12_raised_3 : decode mX12_raised.2.1 3 = .ok (.iload_n 1, 1) := dX12_raised_3
theorem eX12_raised_4 : decode mX12_raised.2.1 4 = .ok (.istore 5, 2) := dX12_raised_4
theorem eX12_raised_6 : decode mX12_raised.2.1 6 = .ok (.lload_n 2, 1) := dX12_raised_6
theorem eX12_raised_7 : decode mX12_raised.2.1 7 = .ok (.lstore 6, 2) := dX12_raised_7
theorem eX12_raised_9 : decode mX12_raised.2.1 9 = .ok (.lload 6, 2) := dX12_raised_9
theorem eX12_raised_11 : decode mX12_raised.2.1 11 = .ok (.lconst 0, 1) := dX12_raised_11
theorem eX12_raised_12 : decode mX12_raised.2.1 12 = .ok (.lcmp, 1) := dX12_raised_12
theorem eX12_raised_13 : decode mX12_raised.2.1 13 = .ok (.ifCond .le 45, 3) := dX12_raised_13
theorem eX12_raised_16 : decode mX12_raised.2.1 16 = .ok (.lload 6, 2) := dX12_raised_16
theorem eX12_raised_18 : decode mX12_raised.2.1 18 = .ok (.ldc2_w 130, 3) := dX12_raised_18
theorem eX12_raised_21 : decode mX12_raised.2.1 21 = .ok (.lrem, 1) := dX12_raised_21
theorem eX12_raised_22 : decode mX12_raised.2.1 22 = .ok (.lconst 1, 1) := dX12_raised_22
theorem eX12_raised_23 : decode mX12_raised.2.1 23 = .ok (.lcmp, 1) := dX12_raised_23
theorem eX12_raised_24 : decode mX12_raised.2.1 24 = .ok (.ifCond .ne 13, 3) := dX12_raised_24
theorem eX12_raised_27 : decode mX12_raised.2.1 27 = .ok (.aload_n 0, 1) := dX12_raised_27
theorem eX12_raised_28 : decode mX12_raised.2.1 28 = .ok (.iload 4, 2) := dX12_raised_28
theorem eX12_raised_30 : decode mX12_raised.2.1 30 = .ok (.iload 5, 2) := dX12_raised_30
theorem eX12_raised_32 : decode mX12_raised.2.1 32 = .ok (.invokevirtual 132, 3) := dX12_raised_32
theorem eX12_raised_35 : decode mX12_raised.2.1 35 = .ok (.istore 4, 2) := dX12_raised_35
theorem eX12_raised_37 : decode mX12_raised.2.1 37 = .ok (.aload_n 0, 1) := dX12_raised_37
theorem eX12_raised_38 : decode mX12_raised.2.1 38 = .ok (.iload 5, 2) := dX12_raised_38
theorem eX12_raised_40 : decode mX12_raised.2.1 40 = .ok (.iload 5, 2) := dX12_raised_40
theorem eX12_raised_42 : decode mX12_raised.2.1 42 = .ok (.invokevirtual 132, 3) := dX12_raised_42
theorem eX12_raised_45 : decode mX12_raised.2.1 45 = .ok (.istore 5, 2) := dX12_raised_45
theorem eX12_raised_47 : decode mX12_raised.2.1 47 = .ok (.lload 6, 2) := dX12_raised_47
theorem eX12_raised_49 : decode mX12_raised.2.1 49 = .ok (.ldc2_w 130, 3) := dX12_raised_49
theorem eX12_raised_52 : decode mX12_raised.2.1 52 = .ok (.ldiv, 1) := dX12_raised_52
theorem eX12_raised_53 : decode mX12_raised.2.1 53 = .ok (.lstore 6, 2) := dX12_raised_53
theorem eX12_raised_55 : decode mX12_raised.2.1 55 = .ok (.goto (-46), 3) := dX12_raised_55
theorem eX12_raised_58 : decode mX12_raised.2.1 58 = .ok (.iload 4, 2) := dX12_raised_58
theorem eX12_raised_60 : decode mX12_raised.2.1 60 = .ok (.ireturn, 1) := dX12_raised_60
theorem eX12_reads_0 : decode mX12_reads.2.1 0 = .ok (.aload_n 0, 1) := dX12_reads_0
theorem eX12_reads_1 : decode mX12_reads.2.1 1 = .ok (.iconst 0, 1) := dX12_reads_1
theorem eX12_reads_2 : decode mX12_reads.2.1 2 = .ok (.putfield 227, 3) := dX12_reads_2
theorem eX12_reads_5 : decode mX12_reads.2.1 5 = .ok (.aload_n 0, 1) := dX12_reads_5
theorem eX12_reads_6 : decode mX12_reads.2.1 6 = .ok (.iconst 0, 1) := dX12_reads_6
theorem eX12_reads_7 : decode mX12_reads.2.1 7 = .ok (.putfield 266, 3) := dX12_reads_7
theorem eX12_reads_10 : decode mX12_reads.2.1 10 = .ok (.aload_n 0, 1) := dX12_reads_10
theorem eX12_reads_11 : decode mX12_reads.2.1 11 = .ok (.iload_n 1, 1) := dX12_reads_11
theorem eX12_reads_12 : decode mX12_reads.2.1 12 = .ok (.putfield 281, 3) := dX12_reads_12
theorem eX12_reads_15 : decode mX12_reads.2.1 15 = .ok (.aload_n 0, 1) := dX12_reads_15
theorem eX12_reads_16 : decode mX12_reads.2.1 16 = .ok (.iconst 0, 1) := dX12_reads_16
theorem eX12_reads_17 : decode mX12_reads.2.1 17 = .ok (.putfield 287, 3) := dX12_reads_17
theorem eX12_reads_20 : decode mX12_reads.2.1 20 = .ok (.aload_n 0, 1) := dX12_reads_20
theorem eX12_reads_21 : decode mX12_reads.2.1 21 = .ok (.invokevirtual 263, 3) := dX12_reads_21
theorem eX12_reads_24 : decode mX12_reads.2.1 24 = .ok (.aload_n 0, 1) := dX12_reads_24
theorem eX12_reads_25 : decode mX12_reads.2.1 25 = .ok (.invokevirtual 275, 3) := dX12_reads_25
theorem eX12_reads_28 : decode mX12_reads.2.1 28 = .ok (.istore_n 2, 1) := dX12_reads_28
theorem eX12_reads_29 : decode mX12_reads.2.1 29 = .ok (.aload_n 0, 1) := dX12_reads_29
theorem eX12_reads_30 : decode mX12_reads.2.1 30 = .ok (.invokevirtual 255, 3) := dX12_reads_30
theorem eX12_reads_33 : decode mX12_reads.2.1 33 = .ok (.ifCond .eq 24, 3) := dX12_reads_33
theorem eX12_reads_36 : decode mX12_reads.2.1 36 = .ok (.aload_n 0, 1) := dX12_reads_36
theorem eX12_reads_37 : decode mX12_reads.2.1 37 = .ok (.aload_n 0, 1) := dX12_reads_37
theorem eX12_reads_38 : decode mX12_reads.2.1 38 = .ok (.getfield 236, 3) := dX12_reads_38
theorem eX12_reads_41 : decode mX12_reads.2.1 41 = .ok (.sipush 1002, 3) := dX12_reads_41
theorem eX12_reads_44 : decode mX12_reads.2.1 44 = .ok (.if_icmp .ne 7, 3) := dX12_reads_44
theorem eX12_reads_47 : decode mX12_reads.2.1 47 = .ok (.iconst 1, 1) := dX12_reads_47
theorem eX12_reads_48 : decode mX12_reads.2.1 48 = .ok (.goto 4, 3) := dX12_reads_48
theorem eX12_reads_51 : decode mX12_reads.2.1 51 = .ok (.iconst 0, 1) := dX12_reads_51
theorem eX12_reads_52 : decode mX12_reads.2.1 52 = .ok (.iconst 1, 1) := dX12_reads_52
theorem eX12_reads_53 : decode mX12_reads.2.1 53 = .ok (.invokevirtual 259, 3) := dX12_reads_53
theorem eX12_reads_56 : decode mX12_reads.2.1 56 = .ok (.pop, 1) := dX12_reads_56
theorem eX12_reads_57 : decode mX12_reads.2.1 57 = .ok (.iload_n 2, 1) := dX12_reads_57
theorem eX12_reads_58 : decode mX12_reads.2.1 58 = .ok (.ireturn, 1) := dX12_reads_58
theorem eX12_rest_0 : decode mX12_rest.2.1 0 = .ok (.aload_n 0, 1) := dX12_rest_0
theorem eX12_rest_1 : decode mX12_rest.2.1 1 = .ok (.iconst 0, 1) := dX12_rest_1
theorem eX12_rest_2 : decode mX12_rest.2.1 2 = .ok (.putfield 1, 3) := dX12_rest_2
theorem eX12_rest_5 : decode mX12_rest.2.1 5 = .ok (.aload_n 0, 1) := dX12_rest_5
theorem eX12_rest_6 : decode mX12_rest.2.1 6 = .ok (.aload_n 0, 1) := dX12_rest_6
theorem eX12_rest_7 : decode mX12_rest.2.1 7 = .ok (.getfield 160, 3) := dX12_rest_7
theorem eX12_rest_10 : decode mX12_rest.2.1 10 = .ok (.ifCond .eq 23, 3) := dX12_rest_10
theorem eX12_rest_13 : decode mX12_rest.2.1 13 = .ok (.iload_n 1, 1) := dX12_rest_13
theorem eX12_rest_14 : decode mX12_rest.2.1 14 = .ok (.i2l, 1) := dX12_rest_14
theorem eX12_rest_15 : decode mX12_rest.2.1 15 = .ok (.lconst 0, 1) := dX12_rest_15
theorem eX12_rest_16 : decode mX12_rest.2.1 16 = .ok (.aload_n 0, 1) := dX12_rest_16
theorem eX12_rest_17 : decode mX12_rest.2.1 17 = .ok (.getfield 322, 3) := dX12_rest_17
theorem eX12_rest_20 : decode mX12_rest.2.1 20 = .ok (.iconst 1, 1) := dX12_rest_20
theorem eX12_rest_21 : decode mX12_rest.2.1 21 = .ok (.isub, 1) := dX12_rest_21
theorem eX12_rest_22 : decode mX12_rest.2.1 22 = .ok (.i2l, 1) := dX12_rest_22
theorem eX12_rest_23 : decode mX12_rest.2.1 23 = .ok (.invokestatic 206, 3) := dX12_rest_23
theorem eX12_rest_26 : decode mX12_rest.2.1 26 = .ok (.ifCond .eq 7, 3) := dX12_rest_26
theorem eX12_rest_29 : decode mX12_rest.2.1 29 = .ok (.iconst 1, 1) := dX12_rest_29
theorem eX12_rest_30 : decode mX12_rest.2.1 30 = .ok (.goto 4, 3) := dX12_rest_30
theorem eX12_rest_33 : decode mX12_rest.2.1 33 = .ok (.iconst 0, 1) := dX12_rest_33
theorem eX12_rest_34 : decode mX12_rest.2.1 34 = .ok (.iconst 1, 1) := dX12_rest_34
theorem eX12_rest_35 : decode mX12_rest.2.1 35 = .ok (.invokevirtual 304, 3) := dX12_rest_35
theorem eX12_rest_38 : decode mX12_rest.2.1 38 = .ok (.ifCond .ne 5, 3) := dX12_rest_38
theorem eX12_rest_41 : decode mX12_rest.2.1 41 = .ok (.iconst 0, 1) := dX12_rest_41
theorem eX12_rest_42 : decode mX12_rest.2.1 42 = .ok (.ireturn, 1) := dX12_rest_42
theorem eX12_rest_43 : decode mX12_rest.2.1 43 = .ok (.aload_n 0, 1) := dX12_rest_43
theorem eX12_rest_44 : decode mX12_rest.2.1 44 = .ok (.aload_n 0, 1) := dX12_rest_44
theorem eX12_rest_45 : decode mX12_rest.2.1 45 = .ok (.getfield 90, 3) := dX12_rest_45
theorem eX12_rest_48 : decode mX12_rest.2.1 48 = .ok (.invokevirtual 418, 3) := dX12_rest_48
theorem eX12_rest_51 : decode mX12_rest.2.1 51 = .ok (.aload_n 0, 1) := dX12_rest_51
theorem eX12_rest_52 : decode mX12_rest.2.1 52 = .ok (.getfield 93, 3) := dX12_rest_52
theorem eX12_rest_55 : decode mX12_rest.2.1 55 = .ok (.iload_n 1, 1) := dX12_rest_55
theorem eX12_rest_56 : decode mX12_rest.2.1 56 = .ok (.iaload, 1) := dX12_rest_56
theorem eX12_rest_57 : decode mX12_rest.2.1 57 = .ok (.ireturn, 1) := dX12_rest_57
theorem eX12_right_0 : decode mX12_right.2.1 0 = .ok (.aload_n 0, 1) := dX12_right_0
theorem eX12_right_1 : decode mX12_right.2.1 1 = .ok (.getfield 1, 3) := dX12_right_1
theorem eX12_right_4 : decode mX12_right.2.1 4 = .ok (.ifCond .ne 12, 3) := dX12_right_4
theorem eX12_right_7 : decode mX12_right.2.1 7 = .ok (.iload_n 1, 1) := dX12_right_7
theorem eX12_right_8 : decode mX12_right.2.1 8 = .ok (.ifCond .ne 8, 3) := dX12_right_8
theorem eX12_right_11 : decode mX12_right.2.1 11 = .ok (.aload_n 0, 1) := dX12_right_11
theorem eX12_right_12 : decode mX12_right.2.1 12 = .ok (.iload_n 2, 1) := dX12_right_12
theorem eX12_right_13 : decode mX12_right.2.1 13 = .ok (.putfield 1, 3) := dX12_right_13
theorem eX12_right_16 : decode mX12_right.2.1 16 = .ok (.aload_n 0, 1) := dX12_right_16
theorem eX12_right_17 : decode mX12_right.2.1 17 = .ok (.getfield 1, 3) := dX12_right_17
theorem eX12_right_20 : decode mX12_right.2.1 20 = .ok (.ifCond .ne 7, 3) := dX12_right_20
theorem eX12_right_23 : decode mX12_right.2.1 23 = .ok (.iconst 1, 1) := dX12_right_23
theorem eX12_right_24 : decode mX12_right.2.1 24 = .ok (.goto 4, 3) := dX12_right_24
theorem eX12_right_27 : decode mX12_right.2.1 27 = .ok (.iconst 0, 1) := dX12_right_27
theorem eX12_right_28 : decode mX12_right.2.1 28 = .ok (.ireturn, 1) := dX12_right_28
theorem eX12_ring_0 : decode mX12_ring.2.1 0 = .ok (.aload_n 0, 1) := dX12_ring_0
theorem eX12_ring_1 : decode mX12_ring.2.1 1 = .ok (.iconst 0, 1) := dX12_ring_1
theorem eX12_ring_2 : decode mX12_ring.2.1 2 = .ok (.putfield 1, 3) := dX12_ring_2
theorem eX12_ring_5 : decode mX12_ring.2.1 5 = .ok (.iload_n 1, 1) := dX12_ring_5
theorem eX12_ring_6 : decode mX12_ring.2.1 6 = .ok (.iconst 2, 1) := dX12_ring_6
theorem eX12_ring_7 : decode mX12_ring.2.1 7 = .ok (.if_icmp .eq 19, 3) := dX12_ring_7
theorem eX12_ring_10 : decode mX12_ring.2.1 10 = .ok (.iload_n 1, 1) := dX12_ring_10
theorem eX12_ring_11 : decode mX12_ring.2.1 11 = .ok (.iconst 3, 1) := dX12_ring_11
theorem eX12_ring_12 : decode mX12_ring.2.1 12 = .ok (.if_icmp .eq 14, 3) := dX12_ring_12
theorem eX12_ring_15 : decode mX12_ring.2.1 15 = .ok (.iload_n 1, 1) := dX12_ring_15
theorem eX12_ring_16 : decode mX12_ring.2.1 16 = .ok (.iconst 5, 1) := dX12_ring_16
theorem eX12_ring_17 : decode mX12_ring.2.1 17 = .ok (.if_icmp .eq 9, 3) := dX12_ring_17
theorem eX12_ring_20 : decode mX12_ring.2.1 20 = .ok (.iload_n 1, 1) := dX12_ring_20
theorem eX12_ring_21 : decode mX12_ring.2.1 21 = .ok (.bipush 7, 2) := dX12_ring_21
theorem eX12_ring_23 : decode mX12_ring.2.1 23 = .ok (.if_icmp .ne 7, 3) := dX12_ring_23
theorem eX12_ring_26 : decode mX12_ring.2.1 26 = .ok (.iconst 1, 1) := dX12_ring_26
theorem eX12_ring_27 : decode mX12_ring.2.1 27 = .ok (.goto 4, 3) := dX12_ring_27
theorem eX12_ring_30 : decode mX12_ring.2.1 30 = .ok (.iconst 0, 1) := dX12_ring_30
theorem eX12_ring_31 : decode mX12_ring.2.1 31 = .ok (.istore 4, 2) := dX12_ring_31
theorem eX12_ring_33 : decode mX12_ring.2.1 33 = .ok (.iload 4, 2) := dX12_ring_33
theorem eX12_ring_35 : decode mX12_ring.2.1 35 = .ok (.ifCond .eq 27, 3) := dX12_ring_35
theorem eX12_ring_38 : decode mX12_ring.2.1 38 = .ok (.iload_n 2, 1) := dX12_ring_38
theorem eX12_ring_39 : decode mX12_ring.2.1 39 = .ok (.i2l, 1) := dX12_ring_39
theorem eX12_ring_40 : decode mX12_ring.2.1 40 = .ok (.lconst 1, 1) := dX12_ring_40
theorem eX12_ring_41 : decode mX12_ring.2.1 41 = .ok (.ldc2_w 204, 3) := dX12_ring_41
theorem eX12_ring_44 : decode mX12_ring.2.1 44 = .ok (.invokestatic 206, 3) := dX12_ring_44
theorem eX12_ring_47 : decode mX12_ring.2.1 47 = .ok (.ifCond .eq 15, 3) := dX12_ring_47
theorem eX12_ring_50 : decode mX12_ring.2.1 50 = .ok (.iload_n 3, 1) := dX12_ring_50
theorem eX12_ring_51 : decode mX12_ring.2.1 51 = .ok (.i2l, 1) := dX12_ring_51
theorem eX12_ring_52 : decode mX12_ring.2.1 52 = .ok (.lconst 1, 1) := dX12_ring_52
theorem eX12_ring_53 : decode mX12_ring.2.1 53 = .ok (.ldc2_w 210, 3) := dX12_ring_53
theorem eX12_ring_56 : decode mX12_ring.2.1 56 = .ok (.invokestatic 206, 3) := dX12_ring_56
theorem eX12_ring_59 : decode mX12_ring.2.1 59 = .ok (.ifCond .ne 5, 3) := dX12_ring_59
theorem eX12_ring_62 : decode mX12_ring.2.1 62 = .ok (.iconst (-1), 1) := dX12_ring_62
theorem eX12_ring_63 : decode mX12_ring.2.1 63 = .ok (.ireturn, 1) := dX12_ring_63
theorem eX12_ring_64 : decode mX12_ring.2.1 64 = .ok (.lconst 1, 1) := dX12_ring_64
theorem eX12_ring_65 : decode mX12_ring.2.1 65 = .ok (.lstore 5, 2) := dX12_ring_65
theorem eX12_ring_67 : decode mX12_ring.2.1 67 = .ok (.iconst 0, 1) := dX12_ring_67
theorem eX12_ring_68 : decode mX12_ring.2.1 68 = .ok (.istore 7, 2) := dX12_ring_68
theorem eX12_ring_70 : decode mX12_ring.2.1 70 = .ok (.iload 7, 2) := dX12_ring_70
theorem eX12_ring_72 : decode mX12_ring.2.1 72 = .ok (.iload_n 2, 1) := dX12_ring_72
theorem eX12_ring_73 : decode mX12_ring.2.1 73 = .ok (.iload_n 3, 1) := dX12_ring_73
theorem eX12_ring_74 : decode mX12_ring.2.1 74 = .ok (.imul, 1) := dX12_ring_74
theorem eX12_ring_75 : decode mX12_ring.2.1 75 = .ok (.if_icmp .ge 16, 3) := dX12_ring_75
theorem eX12_ring_78 : decode mX12_ring.2.1 78 = .ok (.lload 5, 2) := dX12_ring_78
theorem eX12_ring_80 : decode mX12_ring.2.1 80 = .ok (.iload_n 1, 1) := dX12_ring_80
theorem eX12_ring_81 : decode mX12_ring.2.1 81 = .ok (.i2l, 1) := dX12_ring_81
theorem eX12_ring_82 : decode mX12_ring.2.1 82 = .ok (.lmul, 1) := dX12_ring_82
theorem eX12_ring_83 : decode mX12_ring.2.1 83 = .ok (.lstore 5, 2) := dX12_ring_83
theorem eX12_ring_85 : decode mX12_ring.2.1 85 = .ok (.iinc 7 1, 3) := dX12_ring_85
theorem eX12_ring_88 : decode mX12_ring.2.1 88 = .ok (.goto (-18), 3) := dX12_ring_88
theorem eX12_ring_91 : decode mX12_ring.2.1 91 = .ok (.lload 5, 2) := dX12_ring_91
theorem eX12_ring_93 : decode mX12_ring.2.1 93 = .ok (.ldc2_w 212, 3) := dX12_ring_93
theorem eX12_ring_96 : decode mX12_ring.2.1 96 = .ok (.lcmp, 1) := dX12_ring_96
theorem eX12_ring_97 : decode mX12_ring.2.1 97 = .ok (.ifCond .le 5, 3) := dX12_ring_97
theorem eX12_ring_100 : decode mX12_ring.2.1 100 = .ok (.iconst (-1), 1) := dX12_ring_100
theorem eX12_ring_101 : decode mX12_ring.2.1 101 = .ok (.ireturn, 1) := dX12_ring_101
theorem eX12_ring_102 : decode mX12_ring.2.1 102 = .ok (.aload_n 0, 1) := dX12_ring_102
theorem eX12_ring_103 : decode mX12_ring.2.1 103 = .ok (.iload_n 1, 1) := dX12_ring_103
theorem eX12_ring_104 : decode mX12_ring.2.1 104 = .ok (.iload_n 2, 1) := dX12_ring_104
theorem eX12_ring_105 : decode mX12_ring.2.1 105 = .ok (.iload_n 3, 1) := dX12_ring_105
theorem eX12_ring_106 : decode mX12_ring.2.1 106 = .ok (.invokevirtual 105, 3) := dX12_ring_106
theorem eX12_ring_109 : decode mX12_ring.2.1 109 = .ok (.aload_n 0, 1) := dX12_ring_109
theorem eX12_ring_110 : decode mX12_ring.2.1 110 = .ok (.getfield 28, 3) := dX12_ring_110
theorem eX12_ring_113 : decode mX12_ring.2.1 113 = .ok (.ireturn, 1) := dX12_ring_113
theorem eX12_rootOf_0 : decode mX12_rootOf.2.1 0 = .ok (.aload_n 0, 1) := dX12_rootOf_0
theorem eX12_rootOf_1 : decode mX12_rootOf.2.1 1 = .ok (.getfield 35, 3) := dX12_rootOf_1
theorem eX12_rootOf_4 : decode mX12_rootOf.2.1 4 = .ok (.aload_n 0, 1) := dX12_rootOf_4
theorem eX12_rootOf_5 : decode mX12_rootOf.2.1 5 = .ok (.iload_n 1, 1) := dX12_rootOf_5
theorem eX12_rootOf_6 : decode mX12_rootOf.2.1 6 = .ok (.invokevirtual 139, 3) := dX12_rootOf_6
theorem eX12_rootOf_9 : decode mX12_rootOf.2.1 9 = .ok (.iaload, 1) := dX12_rootOf_9
theorem eX12_rootOf_10 : decode mX12_rootOf.2.1 10 = .ok (.ireturn, 1) := dX12_rootOf_10
theorem eX12_roots_0 : decode mX12_roots.2.1 0 = .ok (.aload_n 0, 1) := dX12_roots_0
theorem eX12_roots_1 : decode mX12_roots.2.1 1 = .ok (.iconst 0, 1) := dX12_roots_1
theorem eX12_roots_2 : decode mX12_roots.2.1 2 = .ok (.putfield 1, 3) := dX12_roots_2
theorem eX12_roots_5 : decode mX12_roots.2.1 5 = .ok (.aload_n 0, 1) := dX12_roots_5
theorem eX12_roots_6 : decode mX12_roots.2.1 6 = .ok (.aload_n 0, 1) := dX12_roots_6
theorem eX12_roots_7 : decode mX12_roots.2.1 7 = .ok (.iload_n 1, 1) := dX12_roots_7
theorem eX12_roots_8 : decode mX12_roots.2.1 8 = .ok (.invokevirtual 311, 3) := dX12_roots_8
theorem eX12_roots_11 : decode mX12_roots.2.1 11 = .ok (.ifCond .eq 24, 3) := dX12_roots_11
theorem eX12_roots_14 : decode mX12_roots.2.1 14 = .ok (.iload_n 2, 1) := dX12_roots_14
theorem eX12_roots_15 : decode mX12_roots.2.1 15 = .ok (.i2l, 1) := dX12_roots_15
theorem eX12_roots_16 : decode mX12_roots.2.1 16 = .ok (.lconst 1, 1) := dX12_roots_16
theorem eX12_roots_17 : decode mX12_roots.2.1 17 = .ok (.ldc2_w 361, 3) := dX12_roots_17
theorem eX12_roots_20 : decode mX12_roots.2.1 20 = .ok (.invokestatic 206, 3) := dX12_roots_20
theorem eX12_roots_23 : decode mX12_roots.2.1 23 = .ok (.ifCond .eq 12, 3) := dX12_roots_23
theorem eX12_roots_26 : decode mX12_roots.2.1 26 = .ok (.iload_n 3, 1) := dX12_roots_26
theorem eX12_roots_27 : decode mX12_roots.2.1 27 = .ok (.iconst (-1), 1) := dX12_roots_27
theorem eX12_roots_28 : decode mX12_roots.2.1 28 = .ok (.if_icmp .lt 7, 3) := dX12_roots_28
theorem eX12_roots_31 : decode mX12_roots.2.1 31 = .ok (.iconst 1, 1) := dX12_roots_31
theorem eX12_roots_32 : decode mX12_roots.2.1 32 = .ok (.goto 4, 3) := dX12_roots_32
theorem eX12_roots_35 : decode mX12_roots.2.1 35 = .ok (.iconst 0, 1) := dX12_roots_35
theorem eX12_roots_36 : decode mX12_roots.2.1 36 = .ok (.iconst 1, 1) := dX12_roots_36
theorem eX12_roots_37 : decode mX12_roots.2.1 37 = .ok (.invokevirtual 304, 3) := dX12_roots_37
theorem eX12_roots_40 : decode mX12_roots.2.1 40 = .ok (.ifCond .ne 5, 3) := dX12_roots_40
theorem eX12_roots_43 : decode mX12_roots.2.1 43 = .ok (.iconst 0, 1) := dX12_roots_43
theorem eX12_roots_44 : decode mX12_roots.2.1 44 = .ok (.ireturn, 1) := dX12_roots_44
theorem eX12_roots_45 : decode mX12_roots.2.1 45 = .ok (.aload_n 0, 1) := dX12_roots_45
theorem eX12_roots_46 : decode mX12_roots.2.1 46 = .ok (.iload_n 3, 1) := dX12_roots_46
theorem eX12_roots_47 : decode mX12_roots.2.1 47 = .ok (.invokevirtual 363, 3) := dX12_roots_47
theorem eX12_roots_50 : decode mX12_roots.2.1 50 = .ok (.iconst 0, 1) := dX12_roots_50
theorem eX12_roots_51 : decode mX12_roots.2.1 51 = .ok (.istore 4, 2) := dX12_roots_51
theorem eX12_roots_53 : decode mX12_roots.2.1 53 = .ok (.iload 4, 2) := dX12_roots_53
theorem eX12_roots_55 : decode mX12_roots.2.1 55 = .ok (.aload_n 0, 1) := dX12_roots_55
theorem eX12_roots_56 : decode mX12_roots.2.1 56 = .ok (.getfield 28, 3) := dX12_roots_56
theorem eX12_roots_59 : decode mX12_roots.2.1 59 = .ok (.if_icmp .ge 27, 3) := dX12_roots_59
theorem eX12_roots_62 : decode mX12_roots.2.1 62 = .ok (.aload_n 0, 1) := dX12_roots_62
theorem eX12_roots_63 : decode mX12_roots.2.1 63 = .ok (.iload 4, 2) := dX12_roots_63
theorem eX12_roots_65 : decode mX12_roots.2.1 65 = .ok (.iload_n 2, 1) := dX12_roots_65
theorem eX12_roots_66 : decode mX12_roots.2.1 66 = .ok (.i2l, 1) := dX12_roots_66
theorem eX12_roots_67 : decode mX12_roots.2.1 67 = .ok (.invokevirtual 147, 3) := dX12_roots_67
theorem eX12_roots_70 : decode mX12_roots.2.1 70 = .ok (.iload_n 1, 1) := dX12_roots_70
theorem eX12_roots_71 : decode mX12_roots.2.1 71 = .ok (.if_icmp .ne 9, 3) := dX12_roots_71
theorem eX12_roots_74 : decode mX12_roots.2.1 74 = .ok (.aload_n 0, 1) := dX12_roots_74
theorem eX12_roots_75 : decode mX12_roots.2.1 75 = .ok (.iload 4, 2) := dX12_roots_75
theorem eX12_roots_77 : decode mX12_roots.2.1 77 = .ok (.invokevirtual 366, 3) := dX12_roots_77
theorem eX12_roots_80 : decode mX12_roots.2.1 80 = .ok (.iinc 4 1, 3) := dX12_roots_80
theorem eX12_roots_83 : decode mX12_roots.2.1 83 = .ok (.goto (-30), 3) := dX12_roots_83
theorem eX12_roots_86 : decode mX12_roots.2.1 86 = .ok (.aload_n 0, 1) := dX12_roots_86
theorem eX12_roots_87 : decode mX12_roots.2.1 87 = .ok (.invokevirtual 369, 3) := dX12_roots_87
theorem eX12_roots_90 : decode mX12_roots.2.1 90 = .ok (.ireturn, 1) := dX12_roots_90
theorem eX12_said_0 : decode mX12_said.2.1 0 = .ok (.aload_n 0, 1) := dX12_said_0
theorem eX12_said_1 : decode mX12_said.2.1 1 = .ok (.iconst 0, 1) := dX12_said_1
theorem eX12_said_2 : decode mX12_said.2.1 2 = .ok (.putfield 1, 3) := dX12_said_2
theorem eX12_said_5 : decode mX12_said.2.1 5 = .ok (.iload_n 1, 1) := dX12_said_5
theorem eX12_said_6 : decode mX12_said.2.1 6 = .ok (.i2l, 1) := dX12_said_6
theorem eX12_said_7 : decode mX12_said.2.1 7 = .ok (.lconst 0, 1) := dX12_said_7
theorem eX12_said_8 : decode mX12_said.2.1 8 = .ok (.aload_n 0, 1) := dX12_said_8
theorem eX12_said_9 : decode mX12_said.2.1 9 = .ok (.getfield 437, 3) := dX12_said_9
theorem eX12_said_12 : decode mX12_said.2.1 12 = .ok (.iconst 1, 1) := dX12_said_12
theorem eX12_said_13 : decode mX12_said.2.1 13 = .ok (.isub, 1) := dX12_said_13
theorem eX12_said_14 : decode mX12_said.2.1 14 = .ok (.i2l, 1) := dX12_said_14
theorem eX12_said_15 : decode mX12_said.2.1 15 = .ok (.invokestatic 206, 3) := dX12_said_15
theorem eX12_said_18 : decode mX12_said.2.1 18 = .ok (.ifCond .eq 12, 3) := dX12_said_18
theorem eX12_said_21 : decode mX12_said.2.1 21 = .ok (.aload_n 0, 1) := dX12_said_21
theorem eX12_said_22 : decode mX12_said.2.1 22 = .ok (.getfield 99, 3) := dX12_said_22
theorem eX12_said_25 : decode mX12_said.2.1 25 = .ok (.iload_n 1, 1) := dX12_said_25
theorem eX12_said_26 : decode mX12_said.2.1 26 = .ok (.baload, 1) := dX12_said_26
theorem eX12_said_27 : decode mX12_said.2.1 27 = .ok (.goto 4, 3) := dX12_said_27
theorem eX12_said_30 : decode mX12_said.2.1 30 = .ok (.iconst (-1), 1) := dX12_said_30
theorem eX12_said_31 : decode mX12_said.2.1 31 = .ok (.ireturn, 1) := dX12_said_31
theorem eX12_say_0 : decode mX12_say.2.1 0 = .ok (.aload_n 0, 1) := dX12_say_0
theorem eX12_say_1 : decode mX12_say.2.1 1 = .ok (.iconst 0, 1) := dX12_say_1
theorem eX12_say_2 : decode mX12_say.2.1 2 = .ok (.putfield 1, 3) := dX12_say_2
theorem eX12_say_5 : decode mX12_say.2.1 5 = .ok (.aload_n 0, 1) := dX12_say_5
theorem eX12_say_6 : decode mX12_say.2.1 6 = .ok (.aload_n 0, 1) := dX12_say_6
theorem eX12_say_7 : decode mX12_say.2.1 7 = .ok (.iload_n 1, 1) := dX12_say_7
theorem eX12_say_8 : decode mX12_say.2.1 8 = .ok (.invokevirtual 311, 3) := dX12_say_8
theorem eX12_say_11 : decode mX12_say.2.1 11 = .ok (.iconst 1, 1) := dX12_say_11
theorem eX12_say_12 : decode mX12_say.2.1 12 = .ok (.invokevirtual 304, 3) := dX12_say_12
theorem eX12_say_15 : decode mX12_say.2.1 15 = .ok (.ifCond .ne 5, 3) := dX12_say_15
theorem eX12_say_18 : decode mX12_say.2.1 18 = .ok (.iconst 0, 1) := dX12_say_18
theorem eX12_say_19 : decode mX12_say.2.1 19 = .ok (.ireturn, 1) := dX12_say_19
theorem eX12_say_20 : decode mX12_say.2.1 20 = .ok (.aload_n 0, 1) := dX12_say_20
theorem eX12_say_21 : decode mX12_say.2.1 21 = .ok (.iconst 0, 1) := dX12_say_21
theorem eX12_say_22 : decode mX12_say.2.1 22 = .ok (.putfield 437, 3) := dX12_say_22
theorem eX12_say_25 : decode mX12_say.2.1 25 = .ok (.aload_n 0, 1) := dX12_say_25
theorem eX12_say_26 : decode mX12_say.2.1 26 = .ok (.aload_n 0, 1) := dX12_say_26
theorem eX12_say_27 : decode mX12_say.2.1 27 = .ok (.getfield 102, 3) := dX12_say_27
theorem eX12_say_30 : decode mX12_say.2.1 30 = .ok (.iload_n 1, 1) := dX12_say_30
theorem eX12_say_31 : decode mX12_say.2.1 31 = .ok (.invokevirtual 122, 3) := dX12_say_31
theorem eX12_say_34 : decode mX12_say.2.1 34 = .ok (.aload_n 0, 1) := dX12_say_34
theorem eX12_say_35 : decode mX12_say.2.1 35 = .ok (.getfield 19, 3) := dX12_say_35
theorem eX12_say_38 : decode mX12_say.2.1 38 = .ok (.iconst 1, 1) := dX12_say_38
theorem eX12_say_39 : decode mX12_say.2.1 39 = .ok (.isub, 1) := dX12_say_39
theorem eX12_say_40 : decode mX12_say.2.1 40 = .ok (.istore_n 2, 1) := dX12_say_40
theorem eX12_say_41 : decode mX12_say.2.1 41 = .ok (.iload_n 2, 1) := dX12_say_41
theorem eX12_say_42 : decode mX12_say.2.1 42 = .ok (.ifCond .lt 23, 3) := dX12_say_42
theorem eX12_say_45 : decode mX12_say.2.1 45 = .ok (.aload_n 0, 1) := dX12_say_45
theorem eX12_say_46 : decode mX12_say.2.1 46 = .ok (.getfield 102, 3) := dX12_say_46
theorem eX12_say_49 : decode mX12_say.2.1 49 = .ok (.iload_n 2, 1) := dX12_say_49
theorem eX12_say_50 : decode mX12_say.2.1 50 = .ok (.iaload, 1) := dX12_say_50
theorem eX12_say_51 : decode mX12_say.2.1 51 = .ok (.ifCond .eq 8, 3) := dX12_say_51
theorem eX12_say_54 : decode mX12_say.2.1 54 = .ok (.aload_n 0, 1) := dX12_say_54
theorem eX12_say_55 : decode mX12_say.2.1 55 = .ok (.iload_n 2, 1) := dX12_say_55
theorem eX12_say_56 : decode mX12_say.2.1 56 = .ok (.invokevirtual 446, 3) := dX12_say_56
theorem eX12_say_59 : decode mX12_say.2.1 59 = .ok (.iinc 2 (-1), 3) := dX12_say_59
theorem eX12_say_62 : decode mX12_say.2.1 62 = .ok (.goto (-21), 3) := dX12_say_62
theorem eX12_say_65 : decode mX12_say.2.1 65 = .ok (.aload_n 0, 1) := dX12_say_65
theorem eX12_say_66 : decode mX12_say.2.1 66 = .ok (.getfield 437, 3) := dX12_say_66
theorem eX12_say_69 : decode mX12_say.2.1 69 = .ok (.ifCond .ne 9, 3) := dX12_say_69
theorem eX12_say_72 : decode mX12_say.2.1 72 = .ok (.aload_n 0, 1) := dX12_say_72
theorem eX12_say_73 : decode mX12_say.2.1 73 = .ok (.bipush 48, 2) := dX12_say_73
theorem eX12_say_75 : decode mX12_say.2.1 75 = .ok (.invokevirtual 443, 3) := dX12_say_75
theorem eX12_say_78 : decode mX12_say.2.1 78 = .ok (.aload_n 0, 1) := dX12_say_78
theorem eX12_say_79 : decode mX12_say.2.1 79 = .ok (.getfield 437, 3) := dX12_say_79
theorem eX12_say_82 : decode mX12_say.2.1 82 = .ok (.ireturn, 1) := dX12_say_82
theorem eX12_says_0 : decode mX12_says.2.1 0 = .ok (.aload_n 0, 1) := dX12_says_0
theorem eX12_says_1 : decode mX12_says.2.1 1 = .ok (.getfield 99, 3) := dX12_says_1
theorem eX12_says_4 : decode mX12_says.2.1 4 = .ok (.aload_n 0, 1) := dX12_says_4
theorem eX12_says_5 : decode mX12_says.2.1 5 = .ok (.getfield 437, 3) := dX12_says_5
theorem eX12_says_8 : decode mX12_says.2.1 8 = .ok (.iload_n 1, 1) := dX12_says_8
theorem eX12_says_9 : decode mX12_says.2.1 9 = .ok (.i2b, 1) := dX12_says_9
theorem eX12_says_10 : decode mX12_says.2.1 10 = .ok (.bastore, 1) := dX12_says_10
theorem eX12_says_11 : decode mX12_says.2.1 11 = .ok (.aload_n 0, 1) := dX12_says_11
theorem eX12_says_12 : decode mX12_says.2.1 12 = .ok (.dup, 1) := dX12_says_12
theorem eX12_says_13 : decode mX12_says.2.1 13 = .ok (.getfield 437, 3) := dX12_says_13
theorem eX12_says_16 : decode mX12_says.2.1 16 = .ok (.iconst 1, 1) := dX12_says_16
theorem eX12_says_17 : decode mX12_says.2.1 17 = .ok (.iadd, 1) := dX12_says_17
theorem eX12_says_18 : decode mX12_says.2.1 18 = .ok (.putfield 437, 3) := dX12_says_18
theorem eX12_says_21 : decode mX12_says.2.1 21 = .ok (.return_, 1) := dX12_says_21
theorem eX12_saysNumber_0 : decode mX12_saysNumber.2.1 0 = .ok (.iload_n 1, 1) := dX12_saysNumber_0
theorem eX12_saysNumber_1 : decode mX12_saysNumber.2.1 1 = .ok (.bipush 9, 2) := dX12_saysNumber_1
theorem eX12_saysNumber_3 : decode mX12_saysNumber.2.1 3 = .ok (.if_icmp .le 11, 3) := dX12_saysNumber_3
theorem eX12_saysNumber_6 : decode mX12_saysNumber.2.1 6 = .ok (.aload_n 0, 1) := dX12_saysNumber_6
theorem eX12_saysNumber_7 : decode mX12_saysNumber.2.1 7 = .ok (.iload_n 1, 1) := dX12_saysNumber_7
theorem eX12_saysNumber_8 : decode mX12_saysNumber.2.1 8 = .ok (.bipush 10, 2) := dX12_saysNumber_8
theorem eX12_saysNumber_10 : decode mX12_saysNumber.2.1 10 = .ok (.idiv, 1) := dX12_saysNumber_10
theorem eX12_saysNumber_11 : decode mX12_saysNumber.2.1 11 = .ok (.invokevirtual 440, 3) := dX12_saysNumber_11
theorem eX12_saysNumber_14 : decode mX12_saysNumber.2.1 14 = .ok (.aload_n 0, 1) := dX12_saysNumber_14
theorem eX12_saysNumber_15 : decode mX12_saysNumber.2.1 15 = .ok (.bipush 48, 2) := dX12_saysNumber_15
theorem eX12_saysNumber_17 : decode mX12_saysNumber.2.1 17 = .ok (.iload_n 1, 1) := dX12_saysNumber_17
theorem eX12_saysNumber_18 : decode mX12_saysNumber.2.1 18 = .ok (.bipush 10, 2) := dX12_saysNumber_18
theorem eX12_saysNumber_20 : decode mX12_saysNumber.2.1 20 = .ok (.irem, 1) := dX12_saysNumber_20
theorem eX12_saysNumber_21 : decode mX12_saysNumber.2.1 21 = .ok (.iadd, 1) := dX12_saysNumber_21
theorem eX12_saysNumber_22 : decode mX12_saysNumber.2.1 22 = .ok (.invokevirtual 443, 3) := dX12_saysNumber_22
theorem eX12_saysNumber_25 : decode mX12_saysNumber.2.1 25 = .ok (.return_, 1) := dX12_saysNumber_25
theorem eX12_saysOne_0 : decode mX12_saysOne.2.1 0 = .ok (.aload_n 0, 1) := dX12_saysOne_0
theorem eX12_saysOne_1 : decode mX12_saysOne.2.1 1 = .ok (.getfield 102, 3) := dX12_saysOne_1
theorem eX12_saysOne_4 : decode mX12_saysOne.2.1 4 = .ok (.iload_n 1, 1) := dX12_saysOne_4
theorem eX12_saysOne_5 : decode mX12_saysOne.2.1 5 = .ok (.iaload, 1) := dX12_saysOne_5
theorem eX12_saysOne_6 : decode mX12_saysOne.2.1 6 = .ok (.istore_n 2, 1) := dX12_saysOne_6
theorem eX12_saysOne_7 : decode mX12_saysOne.2.1 7 = .ok (.aload_n 0, 1) := dX12_saysOne_7
theorem eX12_saysOne_8 : decode mX12_saysOne.2.1 8 = .ok (.getfield 437, 3) := dX12_saysOne_8
theorem eX12_saysOne_11 : decode mX12_saysOne.2.1 11 = .ok (.ifCond .le 9, 3) := dX12_saysOne_11
theorem eX12_saysOne_14 : decode mX12_saysOne.2.1 14 = .ok (.aload_n 0, 1) := dX12_saysOne_14
theorem eX12_saysOne_15 : decode mX12_saysOne.2.1 15 = .ok (.bipush 43, 2) := dX12_saysOne_15
theorem eX12_saysOne_17 : decode mX12_saysOne.2.1 17 = .ok (.invokevirtual 443, 3) := dX12_saysOne_17
theorem eX12_saysOne_20 : decode mX12_saysOne.2.1 20 = .ok (.iload_n 2, 1) := dX12_saysOne_20
theorem eX12_saysOne_21 : decode mX12_saysOne.2.1 21 = .ok (.iconst 1, 1) := dX12_saysOne_21
theorem eX12_saysOne_22 : decode mX12_saysOne.2.1 22 = .ok (.if_icmp .ne 7, 3) := dX12_saysOne_22
theorem eX12_saysOne_25 : decode mX12_saysOne.2.1 25 = .ok (.iload_n 1, 1) := dX12_saysOne_25
theorem eX12_saysOne_26 : decode mX12_saysOne.2.1 26 = .ok (.ifCond .ne 18, 3) := dX12_saysOne_26
theorem eX12_saysOne_29 : decode mX12_saysOne.2.1 29 = .ok (.aload_n 0, 1) := dX12_saysOne_29
theorem eX12_saysOne_30 : decode mX12_saysOne.2.1 30 = .ok (.iload_n 2, 1) := dX12_saysOne_30
theorem eX12_saysOne_31 : decode mX12_saysOne.2.1 31 = .ok (.invokevirtual 440, 3) := dX12_saysOne_31
theorem eX12_saysOne_34 : decode mX12_saysOne.2.1 34 = .ok (.iload_n 1, 1) := dX12_saysOne_34
theorem eX12_saysOne_35 : decode mX12_saysOne.2.1 35 = .ok (.ifCond .le 9, 3) := dX12_saysOne_35
theorem eX12_saysOne_38 : decode mX12_saysOne.2.1 38 = .ok (.aload_n 0, 1) := dX12_saysOne_38
theorem eX12_saysOne_39 : decode mX12_saysOne.2.1 39 = .ok (.bipush 42, 2) := dX12_saysOne_39
theorem eX12_saysOne_41 : decode mX12_saysOne.2.1 41 = .ok (.invokevirtual 443, 3) := dX12_saysOne_41
theorem eX12_saysOne_44 : decode mX12_saysOne.2.1 44 = .ok (.iload_n 1, 1) := dX12_saysOne_44
theorem eX12_saysOne_45 : decode mX12_saysOne.2.1 45 = .ok (.ifCond .le 9, 3) := dX12_saysOne_45
theorem eX12_saysOne_48 : decode mX12_saysOne.2.1 48 = .ok (.aload_n 0, 1) := dX12_saysOne_48
theorem eX12_saysOne_49 : decode mX12_saysOne.2.1 49 = .ok (.bipush 116, 2) := dX12_saysOne_49
theorem eX12_saysOne_51 : decode mX12_saysOne.2.1 51 = .ok (.invokevirtual 443, 3) := dX12_saysOne_51
theorem eX12_saysOne_54 : decode mX12_saysOne.2.1 54 = .ok (.iload_n 1, 1) := dX12_saysOne_54
theorem eX12_saysOne_55 : decode mX12_saysOne.2.1 55 = .ok (.iconst 1, 1) := dX12_saysOne_55
theorem eX12_saysOne_56 : decode mX12_saysOne.2.1 56 = .ok (.if_icmp .le 14, 3) := dX12_saysOne_56
theorem eX12_saysOne_59 : decode mX12_saysOne.2.1 59 = .ok (.aload_n 0, 1) := dX12_saysOne_59
theorem eX12_saysOne_60 : decode mX12_saysOne.2.1 60 = .ok (.bipush 94, 2) := dX12_saysOne_60
theorem eX12_saysOne_62 : decode mX12_saysOne.2.1 62 = .ok (.invokevirtual 443, 3) := dX12_saysOne_62
theorem eX12_saysOne_65 : decode mX12_saysOne.2.1 65 = .ok (.aload_n 0, 1) := dX12_saysOne_65
theorem eX12_saysOne_66 : decode mX12_saysOne.2.1 66 = .ok (.iload_n 1, 1) := dX12_saysOne_66
theorem eX12_saysOne_67 : decode mX12_saysOne.2.1 67 = .ok (.invokevirtual 440, 3) := dX12_saysOne_67
theorem eX12_saysOne_70 : decode mX12_saysOne.2.1 70 = .ok (.return_, 1) := dX12_saysOne_70
theorem eX12_sum_0 : decode mX12_sum.2.1 0 = .ok (.aload_n 0, 1) := dX12_sum_0
theorem eX12_sum_1 : decode mX12_sum.2.1 1 = .ok (.iconst 0, 1) := dX12_sum_1
theorem eX12_sum_2 : decode mX12_sum.2.1 2 = .ok (.putfield 1, 3) := dX12_sum_2
theorem eX12_sum_5 : decode mX12_sum.2.1 5 = .ok (.aload_n 0, 1) := dX12_sum_5
theorem eX12_sum_6 : decode mX12_sum.2.1 6 = .ok (.iload_n 1, 1) := dX12_sum_6
theorem eX12_sum_7 : decode mX12_sum.2.1 7 = .ok (.i2l, 1) := dX12_sum_7
theorem eX12_sum_8 : decode mX12_sum.2.1 8 = .ok (.lconst 0, 1) := dX12_sum_8
theorem eX12_sum_9 : decode mX12_sum.2.1 9 = .ok (.aload_n 0, 1) := dX12_sum_9
theorem eX12_sum_10 : decode mX12_sum.2.1 10 = .ok (.getfield 25, 3) := dX12_sum_10
theorem eX12_sum_13 : decode mX12_sum.2.1 13 = .ok (.iconst 2, 1) := dX12_sum_13
theorem eX12_sum_14 : decode mX12_sum.2.1 14 = .ok (.isub, 1) := dX12_sum_14
theorem eX12_sum_15 : decode mX12_sum.2.1 15 = .ok (.i2l, 1) := dX12_sum_15
theorem eX12_sum_16 : decode mX12_sum.2.1 16 = .ok (.invokestatic 206, 3) := dX12_sum_16
theorem eX12_sum_19 : decode mX12_sum.2.1 19 = .ok (.ifCond .eq 23, 3) := dX12_sum_19
theorem eX12_sum_22 : decode mX12_sum.2.1 22 = .ok (.iload_n 2, 1) := dX12_sum_22
theorem eX12_sum_23 : decode mX12_sum.2.1 23 = .ok (.i2l, 1) := dX12_sum_23
theorem eX12_sum_24 : decode mX12_sum.2.1 24 = .ok (.lconst 0, 1) := dX12_sum_24
theorem eX12_sum_25 : decode mX12_sum.2.1 25 = .ok (.aload_n 0, 1) := dX12_sum_25
theorem eX12_sum_26 : decode mX12_sum.2.1 26 = .ok (.getfield 16, 3) := dX12_sum_26
theorem eX12_sum_29 : decode mX12_sum.2.1 29 = .ok (.iconst 1, 1) := dX12_sum_29
theorem eX12_sum_30 : decode mX12_sum.2.1 30 = .ok (.isub, 1) := dX12_sum_30
theorem eX12_sum_31 : decode mX12_sum.2.1 31 = .ok (.i2l, 1) := dX12_sum_31
theorem eX12_sum_32 : decode mX12_sum.2.1 32 = .ok (.invokestatic 206, 3) := dX12_sum_32
theorem eX12_sum_35 : decode mX12_sum.2.1 35 = .ok (.ifCond .eq 7, 3) := dX12_sum_35
theorem eX12_sum_38 : decode mX12_sum.2.1 38 = .ok (.iconst 1, 1) := dX12_sum_38
theorem eX12_sum_39 : decode mX12_sum.2.1 39 = .ok (.goto 4, 3) := dX12_sum_39
theorem eX12_sum_42 : decode mX12_sum.2.1 42 = .ok (.iconst 0, 1) := dX12_sum_42
theorem eX12_sum_43 : decode mX12_sum.2.1 43 = .ok (.iconst 1, 1) := dX12_sum_43
theorem eX12_sum_44 : decode mX12_sum.2.1 44 = .ok (.invokevirtual 304, 3) := dX12_sum_44
theorem eX12_sum_47 : decode mX12_sum.2.1 47 = .ok (.ifCond .ne 5, 3) := dX12_sum_47
theorem eX12_sum_50 : decode mX12_sum.2.1 50 = .ok (.iconst 0, 1) := dX12_sum_50
theorem eX12_sum_51 : decode mX12_sum.2.1 51 = .ok (.ireturn, 1) := dX12_sum_51
theorem eX12_sum_52 : decode mX12_sum.2.1 52 = .ok (.aload_n 0, 1) := dX12_sum_52
theorem eX12_sum_53 : decode mX12_sum.2.1 53 = .ok (.aload_n 0, 1) := dX12_sum_53
theorem eX12_sum_54 : decode mX12_sum.2.1 54 = .ok (.iconst 1, 1) := dX12_sum_54
theorem eX12_sum_55 : decode mX12_sum.2.1 55 = .ok (.aload_n 0, 1) := dX12_sum_55
theorem eX12_sum_56 : decode mX12_sum.2.1 56 = .ok (.getfield 41, 3) := dX12_sum_56
theorem eX12_sum_59 : decode mX12_sum.2.1 59 = .ok (.iload_n 1, 1) := dX12_sum_59
theorem eX12_sum_60 : decode mX12_sum.2.1 60 = .ok (.iaload, 1) := dX12_sum_60
theorem eX12_sum_61 : decode mX12_sum.2.1 61 = .ok (.iconst 1, 1) := dX12_sum_61
theorem eX12_sum_62 : decode mX12_sum.2.1 62 = .ok (.invokevirtual 175, 3) := dX12_sum_62
theorem eX12_sum_65 : decode mX12_sum.2.1 65 = .ok (.invokevirtual 191, 3) := dX12_sum_65
theorem eX12_sum_68 : decode mX12_sum.2.1 68 = .ok (.aload_n 0, 1) := dX12_sum_68
theorem eX12_sum_69 : decode mX12_sum.2.1 69 = .ok (.getfield 59, 3) := dX12_sum_69
theorem eX12_sum_72 : decode mX12_sum.2.1 72 = .ok (.iload_n 2, 1) := dX12_sum_72
theorem eX12_sum_73 : decode mX12_sum.2.1 73 = .ok (.iaload, 1) := dX12_sum_73
theorem eX12_sum_74 : decode mX12_sum.2.1 74 = .ok (.ireturn, 1) := dX12_sum_74
theorem eX12_tell_0 : decode mX12_tell.2.1 0 = .ok (.aload_n 0, 1) := dX12_tell_0
theorem eX12_tell_1 : decode mX12_tell.2.1 1 = .ok (.iconst 0, 1) := dX12_tell_1
theorem eX12_tell_2 : decode mX12_tell.2.1 2 = .ok (.putfield 1, 3) := dX12_tell_2
theorem eX12_tell_5 : decode mX12_tell.2.1 5 = .ok (.aload_n 0, 1) := dX12_tell_5
theorem eX12_tell_6 : decode mX12_tell.2.1 6 = .ok (.iload_n 1, 1) := dX12_tell_6
theorem eX12_tell_7 : decode mX12_tell.2.1 7 = .ok (.i2l, 1) := dX12_tell_7
theorem eX12_tell_8 : decode mX12_tell.2.1 8 = .ok (.lconst 0, 1) := dX12_tell_8
theorem eX12_tell_9 : decode mX12_tell.2.1 9 = .ok (.ldc2_w 302, 3) := dX12_tell_9
theorem eX12_tell_12 : decode mX12_tell.2.1 12 = .ok (.invokestatic 206, 3) := dX12_tell_12
theorem eX12_tell_15 : decode mX12_tell.2.1 15 = .ok (.ifCond .eq 21, 3) := dX12_tell_15
theorem eX12_tell_18 : decode mX12_tell.2.1 18 = .ok (.iload_n 2, 1) := dX12_tell_18
theorem eX12_tell_19 : decode mX12_tell.2.1 19 = .ok (.i2l, 1) := dX12_tell_19
theorem eX12_tell_20 : decode mX12_tell.2.1 20 = .ok (.lconst 0, 1) := dX12_tell_20
theorem eX12_tell_21 : decode mX12_tell.2.1 21 = .ok (.aload_n 0, 1) := dX12_tell_21
theorem eX12_tell_22 : decode mX12_tell.2.1 22 = .ok (.getfield 214, 3) := dX12_tell_22
theorem eX12_tell_25 : decode mX12_tell.2.1 25 = .ok (.i2l, 1) := dX12_tell_25
theorem eX12_tell_26 : decode mX12_tell.2.1 26 = .ok (.invokestatic 206, 3) := dX12_tell_26
theorem eX12_tell_29 : decode mX12_tell.2.1 29 = .ok (.ifCond .eq 7, 3) := dX12_tell_29
theorem eX12_tell_32 : decode mX12_tell.2.1 32 = .ok (.iconst 1, 1) := dX12_tell_32
theorem eX12_tell_33 : decode mX12_tell.2.1 33 = .ok (.goto 4, 3) := dX12_tell_33
theorem eX12_tell_36 : decode mX12_tell.2.1 36 = .ok (.iconst 0, 1) := dX12_tell_36
theorem eX12_tell_37 : decode mX12_tell.2.1 37 = .ok (.iconst 1, 1) := dX12_tell_37
theorem eX12_tell_38 : decode mX12_tell.2.1 38 = .ok (.invokevirtual 304, 3) := dX12_tell_38
theorem eX12_tell_41 : decode mX12_tell.2.1 41 = .ok (.ifCond .ne 5, 3) := dX12_tell_41
theorem eX12_tell_44 : decode mX12_tell.2.1 44 = .ok (.iconst 0, 1) := dX12_tell_44
theorem eX12_tell_45 : decode mX12_tell.2.1 45 = .ok (.ireturn, 1) := dX12_tell_45
theorem eX12_tell_46 : decode mX12_tell.2.1 46 = .ok (.aload_n 0, 1) := dX12_tell_46
theorem eX12_tell_47 : decode mX12_tell.2.1 47 = .ok (.iload_n 2, 1) := dX12_tell_47
theorem eX12_tell_48 : decode mX12_tell.2.1 48 = .ok (.putfield 220, 3) := dX12_tell_48
theorem eX12_tell_51 : decode mX12_tell.2.1 51 = .ok (.aload_n 0, 1) := dX12_tell_51
theorem eX12_tell_52 : decode mX12_tell.2.1 52 = .ok (.iconst 0, 1) := dX12_tell_52
theorem eX12_tell_53 : decode mX12_tell.2.1 53 = .ok (.putfield 214, 3) := dX12_tell_53
theorem eX12_tell_56 : decode mX12_tell.2.1 56 = .ok (.aload_n 0, 1) := dX12_tell_56
theorem eX12_tell_57 : decode mX12_tell.2.1 57 = .ok (.iconst 0, 1) := dX12_tell_57
theorem eX12_tell_58 : decode mX12_tell.2.1 58 = .ok (.putfield 252, 3) := dX12_tell_58
theorem eX12_tell_61 : decode mX12_tell.2.1 61 = .ok (.aload_n 0, 1) := dX12_tell_61
theorem eX12_tell_62 : decode mX12_tell.2.1 62 = .ok (.iconst (-1), 1) := dX12_tell_62
theorem eX12_tell_63 : decode mX12_tell.2.1 63 = .ok (.putfield 66, 3) := dX12_tell_63
theorem eX12_tell_66 : decode mX12_tell.2.1 66 = .ok (.aload_n 0, 1) := dX12_tell_66
theorem eX12_tell_67 : decode mX12_tell.2.1 67 = .ok (.iconst 0, 1) := dX12_tell_67
theorem eX12_tell_68 : decode mX12_tell.2.1 68 = .ok (.invokevirtual 307, 3) := dX12_tell_68
theorem eX12_tell_71 : decode mX12_tell.2.1 71 = .ok (.pop, 1) := dX12_tell_71
theorem eX12_tell_72 : decode mX12_tell.2.1 72 = .ok (.aload_n 0, 1) := dX12_tell_72
theorem eX12_tell_73 : decode mX12_tell.2.1 73 = .ok (.invokevirtual 255, 3) := dX12_tell_73
theorem eX12_tell_76 : decode mX12_tell.2.1 76 = .ok (.ifCond .ne 11, 3) := dX12_tell_76
theorem eX12_tell_79 : decode mX12_tell.2.1 79 = .ok (.bipush (-10), 2) := dX12_tell_79
theorem eX12_tell_81 : decode mX12_tell.2.1 81 = .ok (.aload_n 0, 1) := dX12_tell_81
theorem eX12_tell_82 : decode mX12_tell.2.1 82 = .ok (.getfield 252, 3) := dX12_tell_82
theorem eX12_tell_85 : decode mX12_tell.2.1 85 = .ok (.isub, 1) := dX12_tell_85
theorem eX12_tell_86 : decode mX12_tell.2.1 86 = .ok (.ireturn, 1) := dX12_tell_86
theorem eX12_tell_87 : decode mX12_tell.2.1 87 = .ok (.aload_n 0, 1) := dX12_tell_87
theorem eX12_tell_88 : decode mX12_tell.2.1 88 = .ok (.iconst 1, 1) := dX12_tell_88
theorem eX12_tell_89 : decode mX12_tell.2.1 89 = .ok (.invokevirtual 307, 3) := dX12_tell_89
theorem eX12_tell_92 : decode mX12_tell.2.1 92 = .ok (.istore_n 3, 1) := dX12_tell_92
theorem eX12_tell_93 : decode mX12_tell.2.1 93 = .ok (.aload_n 0, 1) := dX12_tell_93
theorem eX12_tell_94 : decode mX12_tell.2.1 94 = .ok (.getfield 287, 3) := dX12_tell_94
theorem eX12_tell_97 : decode mX12_tell.2.1 97 = .ok (.ifCond .eq 6, 3) := dX12_tell_97
theorem eX12_tell_100 : decode mX12_tell.2.1 100 = .ok (.bipush (-2), 2) := dX12_tell_100
theorem eX12_tell_102 : decode mX12_tell.2.1 102 = .ok (.ireturn, 1) := dX12_tell_102
theorem eX12_tell_103 : decode mX12_tell.2.1 103 = .ok (.aload_n 0, 1) := dX12_tell_103
theorem eX12_tell_104 : decode mX12_tell.2.1 104 = .ok (.getfield 44, 3) := dX12_tell_104
theorem eX12_tell_107 : decode mX12_tell.2.1 107 = .ok (.iload_n 1, 1) := dX12_tell_107
theorem eX12_tell_108 : decode mX12_tell.2.1 108 = .ok (.iload_n 3, 1) := dX12_tell_108
theorem eX12_tell_109 : decode mX12_tell.2.1 109 = .ok (.iastore, 1) := dX12_tell_109
theorem eX12_tell_110 : decode mX12_tell.2.1 110 = .ok (.iload_n 3, 1) := dX12_tell_110
theorem eX12_tell_111 : decode mX12_tell.2.1 111 = .ok (.ireturn, 1) := dX12_tell_111
theorem eX12_term_0 : decode mX12_term.2.1 0 = .ok (.aload_n 0, 1) := dX12_term_0
theorem eX12_term_1 : decode mX12_term.2.1 1 = .ok (.invokevirtual 296, 3) := dX12_term_1
theorem eX12_term_4 : decode mX12_term.2.1 4 = .ok (.istore_n 1, 1) := dX12_term_4
theorem eX12_term_5 : decode mX12_term.2.1 5 = .ok (.aload_n 0, 1) := dX12_term_5
theorem eX12_term_6 : decode mX12_term.2.1 6 = .ok (.invokevirtual 255, 3) := dX12_term_6
theorem eX12_term_9 : decode mX12_term.2.1 9 = .ok (.ifCond .eq 49, 3) := dX12_term_9
theorem eX12_term_12 : decode mX12_term.2.1 12 = .ok (.aload_n 0, 1) := dX12_term_12
theorem eX12_term_13 : decode mX12_term.2.1 13 = .ok (.getfield 236, 3) := dX12_term_13
theorem eX12_term_16 : decode mX12_term.2.1 16 = .ok (.bipush 42, 2) := dX12_term_16
theorem eX12_term_18 : decode mX12_term.2.1 18 = .ok (.if_icmp .ne 40, 3) := dX12_term_18
theorem eX12_term_21 : decode mX12_term.2.1 21 = .ok (.aload_n 0, 1) := dX12_term_21
theorem eX12_term_22 : decode mX12_term.2.1 22 = .ok (.invokevirtual 263, 3) := dX12_term_22
theorem eX12_term_25 : decode mX12_term.2.1 25 = .ok (.aload_n 0, 1) := dX12_term_25
theorem eX12_term_26 : decode mX12_term.2.1 26 = .ok (.invokevirtual 296, 3) := dX12_term_26
theorem eX12_term_29 : decode mX12_term.2.1 29 = .ok (.istore_n 2, 1) := dX12_term_29
theorem eX12_term_30 : decode mX12_term.2.1 30 = .ok (.aload_n 0, 1) := dX12_term_30
theorem eX12_term_31 : decode mX12_term.2.1 31 = .ok (.invokevirtual 255, 3) := dX12_term_31
theorem eX12_term_34 : decode mX12_term.2.1 34 = .ok (.ifCond .eq 19, 3) := dX12_term_34
theorem eX12_term_37 : decode mX12_term.2.1 37 = .ok (.aload_n 0, 1) := dX12_term_37
theorem eX12_term_38 : decode mX12_term.2.1 38 = .ok (.getfield 281, 3) := dX12_term_38
theorem eX12_term_41 : decode mX12_term.2.1 41 = .ok (.ifCond .eq 12, 3) := dX12_term_41
theorem eX12_term_44 : decode mX12_term.2.1 44 = .ok (.aload_n 0, 1) := dX12_term_44
theorem eX12_term_45 : decode mX12_term.2.1 45 = .ok (.iload_n 1, 1) := dX12_term_45
theorem eX12_term_46 : decode mX12_term.2.1 46 = .ok (.iload_n 2, 1) := dX12_term_46
theorem eX12_term_47 : decode mX12_term.2.1 47 = .ok (.invokevirtual 132, 3) := dX12_term_47
theorem eX12_term_50 : decode mX12_term.2.1 50 = .ok (.goto 4, 3) := dX12_term_50
theorem eX12_term_53 : decode mX12_term.2.1 53 = .ok (.iconst 0, 1) := dX12_term_53
theorem eX12_term_54 : decode mX12_term.2.1 54 = .ok (.istore_n 1, 1) := dX12_term_54
theorem eX12_term_55 : decode mX12_term.2.1 55 = .ok (.goto (-50), 3) := dX12_term_55
theorem eX12_term_58 : decode mX12_term.2.1 58 = .ok (.iload_n 1, 1) := dX12_term_58
theorem eX12_term_59 : decode mX12_term.2.1 59 = .ok (.ireturn, 1) := dX12_term_59
theorem eX12_thrown_0 : decode mX12_thrown.2.1 0 = .ok (.aload_n 0, 1) := dX12_thrown_0
theorem eX12_thrown_1 : decode mX12_thrown.2.1 1 = .ok (.getfield 1, 3) := dX12_thrown_1
theorem eX12_thrown_4 : decode mX12_thrown.2.1 4 = .ok (.ireturn, 1) := dX12_thrown_4
theorem eX12_times_0 : decode mX12_times.2.1 0 = .ok (.aload_n 0, 1) := dX12_times_0
theorem eX12_times_1 : decode mX12_times.2.1 1 = .ok (.aload_n 0, 1) := dX12_times_1
theorem eX12_times_2 : decode mX12_times.2.1 2 = .ok (.getfield 50, 3) := dX12_times_2
theorem eX12_times_5 : decode mX12_times.2.1 5 = .ok (.iload_n 1, 1) := dX12_times_5
theorem eX12_times_6 : decode mX12_times.2.1 6 = .ok (.invokevirtual 122, 3) := dX12_times_6
theorem eX12_times_9 : decode mX12_times.2.1 9 = .ok (.aload_n 0, 1) := dX12_times_9
theorem eX12_times_10 : decode mX12_times.2.1 10 = .ok (.aload_n 0, 1) := dX12_times_10
theorem eX12_times_11 : decode mX12_times.2.1 11 = .ok (.getfield 53, 3) := dX12_times_11
theorem eX12_times_14 : decode mX12_times.2.1 14 = .ok (.iload_n 2, 1) := dX12_times_14
theorem eX12_times_15 : decode mX12_times.2.1 15 = .ok (.invokevirtual 122, 3) := dX12_times_15
theorem eX12_times_18 : decode mX12_times.2.1 18 = .ok (.iconst 0, 1) := dX12_times_18
theorem eX12_times_19 : decode mX12_times.2.1 19 = .ok (.istore_n 3, 1) := dX12_times_19
theorem eX12_times_20 : decode mX12_times.2.1 20 = .ok (.iload_n 3, 1) := dX12_times_20
theorem eX12_times_21 : decode mX12_times.2.1 21 = .ok (.iconst 2, 1) := dX12_times_21
theorem eX12_times_22 : decode mX12_times.2.1 22 = .ok (.aload_n 0, 1) := dX12_times_22
theorem eX12_times_23 : decode mX12_times.2.1 23 = .ok (.getfield 19, 3) := dX12_times_23
theorem eX12_times_26 : decode mX12_times.2.1 26 = .ok (.imul, 1) := dX12_times_26
theorem eX12_times_27 : decode mX12_times.2.1 27 = .ok (.if_icmp .ge 16, 3) := dX12_times_27
theorem eX12_times_30 : decode mX12_times.2.1 30 = .ok (.aload_n 0, 1) := dX12_times_30
theorem eX12_times_31 : decode mX12_times.2.1 31 = .ok (.getfield 56, 3) := dX12_times_31
theorem eX12_times_34 : decode mX12_times.2.1 34 = .ok (.iload_n 3, 1) := dX12_times_34
theorem eX12_times_35 : decode mX12_times.2.1 35 = .ok (.iconst 0, 1) := dX12_times_35
theorem eX12_times_36 : decode mX12_times.2.1 36 = .ok (.iastore, 1) := dX12_times_36
theorem eX12_times_37 : decode mX12_times.2.1 37 = .ok (.iinc 3 1, 3) := dX12_times_37
theorem eX12_times_40 : decode mX12_times.2.1 40 = .ok (.goto (-20), 3) := dX12_times_40
theorem eX12_times_43 : decode mX12_times.2.1 43 = .ok (.iconst 0, 1) := dX12_times_43
theorem eX12_times_44 : decode mX12_times.2.1 44 = .ok (.istore_n 3, 1) := dX12_times_44
theorem eX12_times_45 : decode mX12_times.2.1 45 = .ok (.iload_n 3, 1) := dX12_times_45
theorem eX12_times_46 : decode mX12_times.2.1 46 = .ok (.aload_n 0, 1) := dX12_times_46
theorem eX12_times_47 : decode mX12_times.2.1 47 = .ok (.getfield 19, 3) := dX12_times_47
theorem eX12_times_50 : decode mX12_times.2.1 50 = .ok (.if_icmp .ge 65, 3) := dX12_times_50
theorem eX12_times_53 : decode mX12_times.2.1 53 = .ok (.iconst 0, 1) := dX12_times_53
theorem eX12_times_54 : decode mX12_times.2.1 54 = .ok (.istore 4, 2) := dX12_times_54
theorem eX12_times_56 : decode mX12_times.2.1 56 = .ok (.iload 4, 2) := dX12_times_56
theorem eX12_times_58 : decode mX12_times.2.1 58 = .ok (.aload_n 0, 1) := dX12_times_58
theorem eX12_times_59 : decode mX12_times.2.1 59 = .ok (.getfield 19, 3) := dX12_times_59
theorem eX12_times_62 : decode mX12_times.2.1 62 = .ok (.if_icmp .ge 47, 3) := dX12_times_62
theorem eX12_times_65 : decode mX12_times.2.1 65 = .ok (.aload_n 0, 1) := dX12_times_65
theorem eX12_times_66 : decode mX12_times.2.1 66 = .ok (.getfield 56, 3) := dX12_times_66
theorem eX12_times_69 : decode mX12_times.2.1 69 = .ok (.iload_n 3, 1) := dX12_times_69
theorem eX12_times_70 : decode mX12_times.2.1 70 = .ok (.iload 4, 2) := dX12_times_70
theorem eX12_times_72 : decode mX12_times.2.1 72 = .ok (.iadd, 1) := dX12_times_72
theorem eX12_times_73 : decode mX12_times.2.1 73 = .ok (.aload_n 0, 1) := dX12_times_73
theorem eX12_times_74 : decode mX12_times.2.1 74 = .ok (.getfield 56, 3) := dX12_times_74
theorem eX12_times_77 : decode mX12_times.2.1 77 = .ok (.iload_n 3, 1) := dX12_times_77
theorem eX12_times_78 : decode mX12_times.2.1 78 = .ok (.iload 4, 2) := dX12_times_78
theorem eX12_times_80 : decode mX12_times.2.1 80 = .ok (.iadd, 1) := dX12_times_80
theorem eX12_times_81 : decode mX12_times.2.1 81 = .ok (.iaload, 1) := dX12_times_81
theorem eX12_times_82 : decode mX12_times.2.1 82 = .ok (.aload_n 0, 1) := dX12_times_82
theorem eX12_times_83 : decode mX12_times.2.1 83 = .ok (.getfield 50, 3) := dX12_times_83
theorem eX12_times_86 : decode mX12_times.2.1 86 = .ok (.iload_n 3, 1) := dX12_times_86
theorem eX12_times_87 : decode mX12_times.2.1 87 = .ok (.iaload, 1) := dX12_times_87
theorem eX12_times_88 : decode mX12_times.2.1 88 = .ok (.aload_n 0, 1) := dX12_times_88
theorem eX12_times_89 : decode mX12_times.2.1 89 = .ok (.getfield 53, 3) := dX12_times_89
theorem eX12_times_92 : decode mX12_times.2.1 92 = .ok (.iload 4, 2) := dX12_times_92
theorem eX12_times_94 : decode mX12_times.2.1 94 = .ok (.iaload, 1) := dX12_times_94
theorem eX12_times_95 : decode mX12_times.2.1 95 = .ok (.imul, 1) := dX12_times_95
theorem eX12_times_96 : decode mX12_times.2.1 96 = .ok (.iadd, 1) := dX12_times_96
theorem eX12_times_97 : decode mX12_times.2.1 97 = .ok (.aload_n 0, 1) := dX12_times_97
theorem eX12_times_98 : decode mX12_times.2.1 98 = .ok (.getfield 22, 3) := dX12_times_98
theorem eX12_times_101 : decode mX12_times.2.1 101 = .ok (.irem, 1) := dX12_times_101
theorem eX12_times_102 : decode mX12_times.2.1 102 = .ok (.iastore, 1) := dX12_times_102
theorem eX12_times_103 : decode mX12_times.2.1 103 = .ok (.iinc 4 1, 3) := dX12_times_103
theorem eX12_times_106 : decode mX12_times.2.1 106 = .ok (.goto (-50), 3) := dX12_times_106
theorem eX12_times_109 : decode mX12_times.2.1 109 = .ok (.iinc 3 1, 3) := dX12_times_109
theorem eX12_times_112 : decode mX12_times.2.1 112 = .ok (.goto (-67), 3) := dX12_times_112
theorem eX12_times_115 : decode mX12_times.2.1 115 = .ok (.iconst 2, 1) := dX12_times_115
theorem eX12_times_116 : decode mX12_times.2.1 116 = .ok (.aload_n 0, 1) := dX12_times_116
theorem eX12_times_117 : decode mX12_times.2.1 117 = .ok (.getfield 19, 3) := dX12_times_117
theorem eX12_times_120 : decode mX12_times.2.1 120 = .ok (.imul, 1) := dX12_times_120
theorem eX12_times_121 : decode mX12_times.2.1 121 = .ok (.iconst 1, 1) := dX12_times_121
theorem eX12_times_122 : decode mX12_times.2.1 122 = .ok (.isub, 1) := dX12_times_122
theorem eX12_times_123 : decode mX12_times.2.1 123 = .ok (.istore_n 3, 1) := dX12_times_123
theorem eX12_times_124 : decode mX12_times.2.1 124 = .ok (.iload_n 3, 1) := dX12_times_124
theorem eX12_times_125 : decode mX12_times.2.1 125 = .ok (.aload_n 0, 1) := dX12_times_125
theorem eX12_times_126 : decode mX12_times.2.1 126 = .ok (.getfield 19, 3) := dX12_times_126
theorem eX12_times_129 : decode mX12_times.2.1 129 = .ok (.if_icmp .lt 93, 3) := dX12_times_129
theorem eX12_times_132 : decode mX12_times.2.1 132 = .ok (.aload_n 0, 1) := dX12_times_132
theorem eX12_times_133 : decode mX12_times.2.1 133 = .ok (.getfield 56, 3) := dX12_times_133
theorem eX12_times_136 : decode mX12_times.2.1 136 = .ok (.iload_n 3, 1) := dX12_times_136
theorem eX12_times_137 : decode mX12_times.2.1 137 = .ok (.iaload, 1) := dX12_times_137
theorem eX12_times_138 : decode mX12_times.2.1 138 = .ok (.istore 4, 2) := dX12_times_138
theorem eX12_times_140 : decode mX12_times.2.1 140 = .ok (.iconst 0, 1) := dX12_times_140
theorem eX12_times_141 : decode mX12_times.2.1 141 = .ok (.istore 5, 2) := dX12_times_141
theorem eX12_times_143 : decode mX12_times.2.1 143 = .ok (.iload 5, 2) := dX12_times_143
theorem eX12_times_145 : decode mX12_times.2.1 145 = .ok (.aload_n 0, 1) := dX12_times_145
theorem eX12_times_146 : decode mX12_times.2.1 146 = .ok (.getfield 19, 3) := dX12_times_146
theorem eX12_times_149 : decode mX12_times.2.1 149 = .ok (.if_icmp .ge 60, 3) := dX12_times_149
theorem eX12_times_152 : decode mX12_times.2.1 152 = .ok (.iload 4, 2) := dX12_times_152
theorem eX12_times_154 : decode mX12_times.2.1 154 = .ok (.ifCond .eq 55, 3) := dX12_times_154
theorem eX12_times_157 : decode mX12_times.2.1 157 = .ok (.aload_n 0, 1) := dX12_times_157
theorem eX12_times_158 : decode mX12_times.2.1 158 = .ok (.getfield 56, 3) := dX12_times_158
theorem eX12_times_161 : decode mX12_times.2.1 161 = .ok (.iload_n 3, 1) := dX12_times_161
theorem eX12_times_162 : decode mX12_times.2.1 162 = .ok (.aload_n 0, 1) := dX12_times_162
theorem eX12_times_163 : decode mX12_times.2.1 163 = .ok (.getfield 19, 3) := dX12_times_163
theorem eX12_times_166 : decode mX12_times.2.1 166 = .ok (.isub, 1) := dX12_times_166
theorem eX12_times_167 : decode mX12_times.2.1 167 = .ok (.iload 5, 2) := dX12_times_167
theorem eX12_times_169 : decode mX12_times.2.1 169 = .ok (.iadd, 1) := dX12_times_169
theorem eX12_times_170 : decode mX12_times.2.1 170 = .ok (.aload_n 0, 1) := dX12_times_170
theorem eX12_times_171 : decode mX12_times.2.1 171 = .ok (.getfield 56, 3) := dX12_times_171
theorem eX12_times_174 : decode mX12_times.2.1 174 = .ok (.iload_n 3, 1) := dX12_times_174
theorem eX12_times_175 : decode mX12_times.2.1 175 = .ok (.aload_n 0, 1) := dX12_times_175
theorem eX12_times_176 : decode mX12_times.2.1 176 = .ok (.getfield 19, 3) := dX12_times_176
theorem eX12_times_179 : decode mX12_times.2.1 179 = .ok (.isub, 1) := dX12_times_179
theorem eX12_times_180 : decode mX12_times.2.1 180 = .ok (.iload 5, 2) := dX12_times_180
theorem eX12_times_182 : decode mX12_times.2.1 182 = .ok (.iadd, 1) := dX12_times_182
theorem eX12_times_183 : decode mX12_times.2.1 183 = .ok (.iaload, 1) := dX12_times_183
theorem eX12_times_184 : decode mX12_times.2.1 184 = .ok (.iload 4, 2) := dX12_times_184
theorem eX12_times_186 : decode mX12_times.2.1 186 = .ok (.aload_n 0, 1) := dX12_times_186
theorem eX12_times_187 : decode mX12_times.2.1 187 = .ok (.getfield 31, 3) := dX12_times_187
theorem eX12_times_190 : decode mX12_times.2.1 190 = .ok (.iload 5, 2) := dX12_times_190
theorem eX12_times_192 : decode mX12_times.2.1 192 = .ok (.iaload, 1) := dX12_times_192
theorem eX12_times_193 : decode mX12_times.2.1 193 = .ok (.imul, 1) := dX12_times_193
theorem eX12_times_194 : decode mX12_times.2.1 194 = .ok (.isub, 1) := dX12_times_194
theorem eX12_times_195 : decode mX12_times.2.1 195 = .ok (.aload_n 0, 1) := dX12_times_195
theorem eX12_times_196 : decode mX12_times.2.1 196 = .ok (.getfield 22, 3) := dX12_times_196
theorem eX12_times_199 : decode mX12_times.2.1 199 = .ok (.invokestatic 109, 3) := dX12_times_199
theorem eX12_times_202 : decode mX12_times.2.1 202 = .ok (.iastore, 1) := dX12_times_202
theorem eX12_times_203 : decode mX12_times.2.1 203 = .ok (.iinc 5 1, 3) := dX12_times_203
theorem eX12_times_206 : decode mX12_times.2.1 206 = .ok (.goto (-63), 3) := dX12_times_206
theorem eX12_times_209 : decode mX12_times.2.1 209 = .ok (.aload_n 0, 1) := dX12_times_209
theorem eX12_times_210 : decode mX12_times.2.1 210 = .ok (.getfield 56, 3) := dX12_times_210
theorem eX12_times_213 : decode mX12_times.2.1 213 = .ok (.iload_n 3, 1) := dX12_times_213
theorem eX12_times_214 : decode mX12_times.2.1 214 = .ok (.iconst 0, 1) := dX12_times_214
theorem eX12_times_215 : decode mX12_times.2.1 215 = .ok (.iastore, 1) := dX12_times_215
theorem eX12_times_216 : decode mX12_times.2.1 216 = .ok (.iinc 3 (-1), 3) := dX12_times_216
theorem eX12_times_219 : decode mX12_times.2.1 219 = .ok (.goto (-95), 3) := dX12_times_219
theorem eX12_times_222 : decode mX12_times.2.1 222 = .ok (.aload_n 0, 1) := dX12_times_222
theorem eX12_times_223 : decode mX12_times.2.1 223 = .ok (.aload_n 0, 1) := dX12_times_223
theorem eX12_times_224 : decode mX12_times.2.1 224 = .ok (.getfield 56, 3) := dX12_times_224
theorem eX12_times_227 : decode mX12_times.2.1 227 = .ok (.invokevirtual 126, 3) := dX12_times_227
theorem eX12_times_230 : decode mX12_times.2.1 230 = .ok (.ireturn, 1) := dX12_times_230
theorem eX12_told_0 : decode mX12_told.2.1 0 = .ok (.aload_n 0, 1) := dX12_told_0
theorem eX12_told_1 : decode mX12_told.2.1 1 = .ok (.getfield 355, 3) := dX12_told_1
theorem eX12_told_4 : decode mX12_told.2.1 4 = .ok (.iconst (-1), 1) := dX12_told_4
theorem eX12_told_5 : decode mX12_told.2.1 5 = .ok (.if_icmp .ne 8, 3) := dX12_told_5
theorem eX12_told_8 : decode mX12_told.2.1 8 = .ok (.aload_n 0, 1) := dX12_told_8
theorem eX12_told_9 : decode mX12_told.2.1 9 = .ok (.getfield 352, 3) := dX12_told_9
theorem eX12_told_12 : decode mX12_told.2.1 12 = .ok (.ireturn, 1) := dX12_told_12
theorem eX12_told_13 : decode mX12_told.2.1 13 = .ok (.aload_n 0, 1) := dX12_told_13
theorem eX12_told_14 : decode mX12_told.2.1 14 = .ok (.aload_n 0, 1) := dX12_told_14
theorem eX12_told_15 : decode mX12_told.2.1 15 = .ok (.getfield 358, 3) := dX12_told_15
theorem eX12_told_18 : decode mX12_told.2.1 18 = .ok (.iconst (-1), 1) := dX12_told_18
theorem eX12_told_19 : decode mX12_told.2.1 19 = .ok (.if_icmp .eq 7, 3) := dX12_told_19
theorem eX12_told_22 : decode mX12_told.2.1 22 = .ok (.iconst 1, 1) := dX12_told_22
theorem eX12_told_23 : decode mX12_told.2.1 23 = .ok (.goto 4, 3) := dX12_told_23
theorem eX12_told_26 : decode mX12_told.2.1 26 = .ok (.iconst 0, 1) := dX12_told_26
theorem eX12_told_27 : decode mX12_told.2.1 27 = .ok (.iconst 1, 1) := dX12_told_27
theorem eX12_told_28 : decode mX12_told.2.1 28 = .ok (.invokevirtual 304, 3) := dX12_told_28
theorem eX12_told_31 : decode mX12_told.2.1 31 = .ok (.ifCond .eq 10, 3) := dX12_told_31
theorem eX12_told_34 : decode mX12_told.2.1 34 = .ok (.aload_n 0, 1) := dX12_told_34
theorem eX12_told_35 : decode mX12_told.2.1 35 = .ok (.getfield 358, 3) := dX12_told_35
theorem eX12_told_38 : decode mX12_told.2.1 38 = .ok (.goto 4, 3) := dX12_told_38
theorem eX12_told_41 : decode mX12_told.2.1 41 = .ok (.iconst 0, 1) := dX12_told_41
theorem eX12_told_42 : decode mX12_told.2.1 42 = .ok (.ireturn, 1) := dX12_told_42
theorem eX12_traceOf_0 : decode mX12_traceOf.2.1 0 = .ok (.iconst 0, 1) := dX12_traceOf_0
theorem eX12_traceOf_1 : decode mX12_traceOf.2.1 1 = .ok (.istore_n 2, 1) := dX12_traceOf_1
theorem eX12_traceOf_2 : decode mX12_traceOf.2.1 2 = .ok (.iload_n 1, 1) := dX12_traceOf_2
theorem eX12_traceOf_3 : decode mX12_traceOf.2.1 3 = .ok (.istore_n 3, 1) := dX12_traceOf_3
theorem eX12_traceOf_4 : decode mX12_traceOf.2.1 4 = .ok (.iconst 0, 1) := dX12_traceOf_4
theorem eX12_traceOf_5 : decode mX12_traceOf.2.1 5 = .ok (.istore 4, 2) := dX12_traceOf_5
theorem eX12_traceOf_7 : decode mX12_traceOf.2.1 7 = .ok (.iload 4, 2) := dX12_traceOf_7
theorem eX12_traceOf_9 : decode mX12_traceOf.2.1 9 = .ok (.aload_n 0, 1) := dX12_traceOf_9
theorem eX12_traceOf_10 : decode mX12_traceOf.2.1 10 = .ok (.getfield 19, 3) := dX12_traceOf_10
theorem eX12_traceOf_13 : decode mX12_traceOf.2.1 13 = .ok (.if_icmp .ge 23, 3) := dX12_traceOf_13
theorem eX12_traceOf_16 : decode mX12_traceOf.2.1 16 = .ok (.aload_n 0, 1) := dX12_traceOf_16
theorem eX12_traceOf_17 : decode mX12_traceOf.2.1 17 = .ok (.iload_n 2, 1) := dX12_traceOf_17
theorem eX12_traceOf_18 : decode mX12_traceOf.2.1 18 = .ok (.iload_n 3, 1) := dX12_traceOf_18
theorem eX12_traceOf_19 : decode mX12_traceOf.2.1 19 = .ok (.iconst 1, 1) := dX12_traceOf_19
theorem eX12_traceOf_20 : decode mX12_traceOf.2.1 20 = .ok (.invokevirtual 175, 3) := dX12_traceOf_20
theorem eX12_traceOf_23 : decode mX12_traceOf.2.1 23 = .ok (.istore_n 2, 1) := dX12_traceOf_23
theorem eX12_traceOf_24 : decode mX12_traceOf.2.1 24 = .ok (.aload_n 0, 1) := dX12_traceOf_24
theorem eX12_traceOf_25 : decode mX12_traceOf.2.1 25 = .ok (.iload_n 3, 1) := dX12_traceOf_25
theorem eX12_traceOf_26 : decode mX12_traceOf.2.1 26 = .ok (.invokevirtual 198, 3) := dX12_traceOf_26
theorem eX12_traceOf_29 : decode mX12_traceOf.2.1 29 = .ok (.istore_n 3, 1) := dX12_traceOf_29
theorem eX12_traceOf_30 : decode mX12_traceOf.2.1 30 = .ok (.iinc 4 1, 3) := dX12_traceOf_30
theorem eX12_traceOf_33 : decode mX12_traceOf.2.1 33 = .ok (.goto (-26), 3) := dX12_traceOf_33
theorem eX12_traceOf_36 : decode mX12_traceOf.2.1 36 = .ok (.iload_n 2, 1) := dX12_traceOf_36
theorem eX12_traceOf_37 : decode mX12_traceOf.2.1 37 = .ok (.ireturn, 1) := dX12_traceOf_37
theorem eX12_unitMany_0 : decode mX12_unitMany.2.1 0 = .ok (.aload_n 0, 1) := dX12_unitMany_0
theorem eX12_unitMany_1 : decode mX12_unitMany.2.1 1 = .ok (.getfield 28, 3) := dX12_unitMany_1
theorem eX12_unitMany_4 : decode mX12_unitMany.2.1 4 = .ok (.aload_n 0, 1) := dX12_unitMany_4
theorem eX12_unitMany_5 : decode mX12_unitMany.2.1 5 = .ok (.getfield 28, 3) := dX12_unitMany_5
theorem eX12_unitMany_8 : decode mX12_unitMany.2.1 8 = .ok (.aload_n 0, 1) := dX12_unitMany_8
theorem eX12_unitMany_9 : decode mX12_unitMany.2.1 9 = .ok (.getfield 25, 3) := dX12_unitMany_9
theorem eX12_unitMany_12 : decode mX12_unitMany.2.1 12 = .ok (.idiv, 1) := dX12_unitMany_12
theorem eX12_unitMany_13 : decode mX12_unitMany.2.1 13 = .ok (.isub, 1) := dX12_unitMany_13
theorem eX12_unitMany_14 : decode mX12_unitMany.2.1 14 = .ok (.ireturn, 1) := dX12_unitMany_14
theorem eX12_units_0 : decode mX12_units.2.1 0 = .ok (.aload_n 0, 1) := dX12_units_0
theorem eX12_units_1 : decode mX12_units.2.1 1 = .ok (.iconst 0, 1) := dX12_units_1
theorem eX12_units_2 : decode mX12_units.2.1 2 = .ok (.putfield 1, 3) := dX12_units_2
theorem eX12_units_5 : decode mX12_units.2.1 5 = .ok (.aload_n 0, 1) := dX12_units_5
theorem eX12_units_6 : decode mX12_units.2.1 6 = .ok (.iload_n 1, 1) := dX12_units_6
theorem eX12_units_7 : decode mX12_units.2.1 7 = .ok (.i2l, 1) := dX12_units_7
theorem eX12_units_8 : decode mX12_units.2.1 8 = .ok (.lconst 1, 1) := dX12_units_8
theorem eX12_units_9 : decode mX12_units.2.1 9 = .ok (.ldc2_w 372, 3) := dX12_units_9
theorem eX12_units_12 : decode mX12_units.2.1 12 = .ok (.invokestatic 206, 3) := dX12_units_12
theorem eX12_units_15 : decode mX12_units.2.1 15 = .ok (.iconst 1, 1) := dX12_units_15
theorem eX12_units_16 : decode mX12_units.2.1 16 = .ok (.invokevirtual 304, 3) := dX12_units_16
theorem eX12_units_19 : decode mX12_units.2.1 19 = .ok (.ifCond .ne 5, 3) := dX12_units_19
theorem eX12_units_22 : decode mX12_units.2.1 22 = .ok (.iconst 0, 1) := dX12_units_22
theorem eX12_units_23 : decode mX12_units.2.1 23 = .ok (.ireturn, 1) := dX12_units_23
theorem eX12_units_24 : decode mX12_units.2.1 24 = .ok (.iconst 0, 1) := dX12_units_24
theorem eX12_units_25 : decode mX12_units.2.1 25 = .ok (.istore_n 2, 1) := dX12_units_25
theorem eX12_units_26 : decode mX12_units.2.1 26 = .ok (.iconst 1, 1) := dX12_units_26
theorem eX12_units_27 : decode mX12_units.2.1 27 = .ok (.istore_n 3, 1) := dX12_units_27
theorem eX12_units_28 : decode mX12_units.2.1 28 = .ok (.iload_n 3, 1) := dX12_units_28
theorem eX12_units_29 : decode mX12_units.2.1 29 = .ok (.aload_n 0, 1) := dX12_units_29
theorem eX12_units_30 : decode mX12_units.2.1 30 = .ok (.getfield 28, 3) := dX12_units_30
theorem eX12_units_33 : decode mX12_units.2.1 33 = .ok (.if_icmp .ge 36, 3) := dX12_units_33
theorem eX12_units_36 : decode mX12_units.2.1 36 = .ok (.iload_n 2, 1) := dX12_units_36
theorem eX12_units_37 : decode mX12_units.2.1 37 = .ok (.aload_n 0, 1) := dX12_units_37
theorem eX12_units_38 : decode mX12_units.2.1 38 = .ok (.iload_n 3, 1) := dX12_units_38
theorem eX12_units_39 : decode mX12_units.2.1 39 = .ok (.invokevirtual 290, 3) := dX12_units_39
theorem eX12_units_42 : decode mX12_units.2.1 42 = .ok (.ifCond .eq 18, 3) := dX12_units_42
theorem eX12_units_45 : decode mX12_units.2.1 45 = .ok (.aload_n 0, 1) := dX12_units_45
theorem eX12_units_46 : decode mX12_units.2.1 46 = .ok (.iload_n 3, 1) := dX12_units_46
theorem eX12_units_47 : decode mX12_units.2.1 47 = .ok (.iload_n 1, 1) := dX12_units_47
theorem eX12_units_48 : decode mX12_units.2.1 48 = .ok (.i2l, 1) := dX12_units_48
theorem eX12_units_49 : decode mX12_units.2.1 49 = .ok (.invokevirtual 147, 3) := dX12_units_49
theorem eX12_units_52 : decode mX12_units.2.1 52 = .ok (.iconst 1, 1) := dX12_units_52
theorem eX12_units_53 : decode mX12_units.2.1 53 = .ok (.if_icmp .ne 7, 3) := dX12_units_53
theorem eX12_units_56 : decode mX12_units.2.1 56 = .ok (.iconst 1, 1) := dX12_units_56
theorem eX12_units_57 : decode mX12_units.2.1 57 = .ok (.goto 4, 3) := dX12_units_57
theorem eX12_units_60 : decode mX12_units.2.1 60 = .ok (.iconst 0, 1) := dX12_units_60
theorem eX12_units_61 : decode mX12_units.2.1 61 = .ok (.iadd, 1) := dX12_units_61
theorem eX12_units_62 : decode mX12_units.2.1 62 = .ok (.istore_n 2, 1) := dX12_units_62
theorem eX12_units_63 : decode mX12_units.2.1 63 = .ok (.iinc 3 1, 3) := dX12_units_63
theorem eX12_units_66 : decode mX12_units.2.1 66 = .ok (.goto (-38), 3) := dX12_units_66
theorem eX12_units_69 : decode mX12_units.2.1 69 = .ok (.iload_n 2, 1) := dX12_units_69
theorem eX12_units_70 : decode mX12_units.2.1 70 = .ok (.ireturn, 1) := dX12_units_70
theorem eX12_weighing_0 : decode mX12_weighing.2.1 0 = .ok (.aload_n 0, 1) := dX12_weighing_0
theorem eX12_weighing_1 : decode mX12_weighing.2.1 1 = .ok (.iconst 0, 1) := dX12_weighing_1
theorem eX12_weighing_2 : decode mX12_weighing.2.1 2 = .ok (.putfield 1, 3) := dX12_weighing_2
theorem eX12_weighing_5 : decode mX12_weighing.2.1 5 = .ok (.aload_n 0, 1) := dX12_weighing_5
theorem eX12_weighing_6 : decode mX12_weighing.2.1 6 = .ok (.invokevirtual 411, 3) := dX12_weighing_6
theorem eX12_weighing_9 : decode mX12_weighing.2.1 9 = .ok (.ifCond .eq 7, 3) := dX12_weighing_9
theorem eX12_weighing_12 : decode mX12_weighing.2.1 12 = .ok (.iload_n 2, 1) := dX12_weighing_12
theorem eX12_weighing_13 : decode mX12_weighing.2.1 13 = .ok (.ifCond .ge 5, 3) := dX12_weighing_13
theorem eX12_weighing_16 : decode mX12_weighing.2.1 16 = .ok (.iconst (-1), 1) := dX12_weighing_16
theorem eX12_weighing_17 : decode mX12_weighing.2.1 17 = .ok (.ireturn, 1) := dX12_weighing_17
theorem eX12_weighing_18 : decode mX12_weighing.2.1 18 = .ok (.aload_n 0, 1) := dX12_weighing_18
theorem eX12_weighing_19 : decode mX12_weighing.2.1 19 = .ok (.iconst 0, 1) := dX12_weighing_19
theorem eX12_weighing_20 : decode mX12_weighing.2.1 20 = .ok (.invokevirtual 414, 3) := dX12_weighing_20
theorem eX12_weighing_23 : decode mX12_weighing.2.1 23 = .ok (.iload_n 1, 1) := dX12_weighing_23
theorem eX12_weighing_24 : decode mX12_weighing.2.1 24 = .ok (.ifCond .eq 21, 3) := dX12_weighing_24
theorem eX12_weighing_27 : decode mX12_weighing.2.1 27 = .ok (.iload_n 2, 1) := dX12_weighing_27
theorem eX12_weighing_28 : decode mX12_weighing.2.1 28 = .ok (.sipush 8192, 3) := dX12_weighing_28
theorem eX12_weighing_31 : decode mX12_weighing.2.1 31 = .ok (.if_icmp .ge 12, 3) := dX12_weighing_31
theorem eX12_weighing_34 : decode mX12_weighing.2.1 34 = .ok (.aload_n 0, 1) := dX12_weighing_34
theorem eX12_weighing_35 : decode mX12_weighing.2.1 35 = .ok (.getfield 84, 3) := dX12_weighing_35
theorem eX12_weighing_38 : decode mX12_weighing.2.1 38 = .ok (.iload_n 2, 1) := dX12_weighing_38
theorem eX12_weighing_39 : decode mX12_weighing.2.1 39 = .ok (.iaload, 1) := dX12_weighing_39
theorem eX12_weighing_40 : decode mX12_weighing.2.1 40 = .ok (.goto 4, 3) := dX12_weighing_40
theorem eX12_weighing_43 : decode mX12_weighing.2.1 43 = .ok (.iconst 0, 1) := dX12_weighing_43
theorem eX12_weighing_44 : decode mX12_weighing.2.1 44 = .ok (.ireturn, 1) := dX12_weighing_44
theorem eX12_weighing_45 : decode mX12_weighing.2.1 45 = .ok (.iload_n 2, 1) := dX12_weighing_45
theorem eX12_weighing_46 : decode mX12_weighing.2.1 46 = .ok (.bipush 64, 2) := dX12_weighing_46
theorem eX12_weighing_48 : decode mX12_weighing.2.1 48 = .ok (.if_icmp .ge 12, 3) := dX12_weighing_48
theorem eX12_weighing_51 : decode mX12_weighing.2.1 51 = .ok (.aload_n 0, 1) := dX12_weighing_51
theorem eX12_weighing_52 : decode mX12_weighing.2.1 52 = .ok (.getfield 81, 3) := dX12_weighing_52
theorem eX12_weighing_55 : decode mX12_weighing.2.1 55 = .ok (.iload_n 2, 1) := dX12_weighing_55
theorem eX12_weighing_56 : decode mX12_weighing.2.1 56 = .ok (.iaload, 1) := dX12_weighing_56
theorem eX12_weighing_57 : decode mX12_weighing.2.1 57 = .ok (.goto 4, 3) := dX12_weighing_57
theorem eX12_weighing_60 : decode mX12_weighing.2.1 60 = .ok (.iconst 0, 1) := dX12_weighing_60
theorem eX12_weighing_61 : decode mX12_weighing.2.1 61 = .ok (.ireturn, 1) := dX12_weighing_61
theorem eX12_weighs_0 : decode mX12_weighs.2.1 0 = .ok (.iconst 0, 1) := dX12_weighs_0
theorem eX12_weighs_1 : decode mX12_weighs.2.1 1 = .ok (.istore_n 2, 1) := dX12_weighs_1
theorem eX12_weighs_2 : decode mX12_weighs.2.1 2 = .ok (.iconst 0, 1) := dX12_weighs_2
theorem eX12_weighs_3 : decode mX12_weighs.2.1 3 = .ok (.istore_n 3, 1) := dX12_weighs_3
theorem eX12_weighs_4 : decode mX12_weighs.2.1 4 = .ok (.iconst 0, 1) := dX12_weighs_4
theorem eX12_weighs_5 : decode mX12_weighs.2.1 5 = .ok (.istore 4, 2) := dX12_weighs_5
theorem eX12_weighs_7 : decode mX12_weighs.2.1 7 = .ok (.iload 4, 2) := dX12_weighs_7
theorem eX12_weighs_9 : decode mX12_weighs.2.1 9 = .ok (.aload_n 0, 1) := dX12_weighs_9
theorem eX12_weighs_10 : decode mX12_weighs.2.1 10 = .ok (.getfield 69, 3) := dX12_weighs_10
theorem eX12_weighs_13 : decode mX12_weighs.2.1 13 = .ok (.if_icmp .ge 48, 3) := dX12_weighs_13
theorem eX12_weighs_16 : decode mX12_weighs.2.1 16 = .ok (.aload_n 0, 1) := dX12_weighs_16
theorem eX12_weighs_17 : decode mX12_weighs.2.1 17 = .ok (.getfield 78, 3) := dX12_weighs_17
theorem eX12_weighs_20 : decode mX12_weighs.2.1 20 = .ok (.iload_n 1, 1) := dX12_weighs_20
theorem eX12_weighs_21 : decode mX12_weighs.2.1 21 = .ok (.iload 4, 2) := dX12_weighs_21
theorem eX12_weighs_23 : decode mX12_weighs.2.1 23 = .ok (.iadd, 1) := dX12_weighs_23
theorem eX12_weighs_24 : decode mX12_weighs.2.1 24 = .ok (.iaload, 1) := dX12_weighs_24
theorem eX12_weighs_25 : decode mX12_weighs.2.1 25 = .ok (.istore 5, 2) := dX12_weighs_25
theorem eX12_weighs_27 : decode mX12_weighs.2.1 27 = .ok (.iload_n 2, 1) := dX12_weighs_27
theorem eX12_weighs_28 : decode mX12_weighs.2.1 28 = .ok (.iload 5, 2) := dX12_weighs_28
theorem eX12_weighs_30 : decode mX12_weighs.2.1 30 = .ok (.ifCond .eq 7, 3) := dX12_weighs_30
theorem eX12_weighs_33 : decode mX12_weighs.2.1 33 = .ok (.iconst 1, 1) := dX12_weighs_33
theorem eX12_weighs_34 : decode mX12_weighs.2.1 34 = .ok (.goto 4, 3) := dX12_weighs_34
theorem eX12_weighs_37 : decode mX12_weighs.2.1 37 = .ok (.iconst 0, 1) := dX12_weighs_37
theorem eX12_weighs_38 : decode mX12_weighs.2.1 38 = .ok (.iadd, 1) := dX12_weighs_38
theorem eX12_weighs_39 : decode mX12_weighs.2.1 39 = .ok (.istore_n 2, 1) := dX12_weighs_39
theorem eX12_weighs_40 : decode mX12_weighs.2.1 40 = .ok (.iload_n 3, 1) := dX12_weighs_40
theorem eX12_weighs_41 : decode mX12_weighs.2.1 41 = .ok (.iload 5, 2) := dX12_weighs_41
theorem eX12_weighs_43 : decode mX12_weighs.2.1 43 = .ok (.aload_n 0, 1) := dX12_weighs_43
theorem eX12_weighs_44 : decode mX12_weighs.2.1 44 = .ok (.getfield 22, 3) := dX12_weighs_44
theorem eX12_weighs_47 : decode mX12_weighs.2.1 47 = .ok (.iload 5, 2) := dX12_weighs_47
theorem eX12_weighs_49 : decode mX12_weighs.2.1 49 = .ok (.isub, 1) := dX12_weighs_49
theorem eX12_weighs_50 : decode mX12_weighs.2.1 50 = .ok (.invokestatic 249, 3) := dX12_weighs_50
theorem eX12_weighs_53 : decode mX12_weighs.2.1 53 = .ok (.iadd, 1) := dX12_weighs_53
theorem eX12_weighs_54 : decode mX12_weighs.2.1 54 = .ok (.istore_n 3, 1) := dX12_weighs_54
theorem eX12_weighs_55 : decode mX12_weighs.2.1 55 = .ok (.iinc 4 1, 3) := dX12_weighs_55
theorem eX12_weighs_58 : decode mX12_weighs.2.1 58 = .ok (.goto (-51), 3) := dX12_weighs_58
theorem eX12_weighs_61 : decode mX12_weighs.2.1 61 = .ok (.aload_n 0, 1) := dX12_weighs_61
theorem eX12_weighs_62 : decode mX12_weighs.2.1 62 = .ok (.getfield 81, 3) := dX12_weighs_62
theorem eX12_weighs_65 : decode mX12_weighs.2.1 65 = .ok (.iload_n 2, 1) := dX12_weighs_65
theorem eX12_weighs_66 : decode mX12_weighs.2.1 66 = .ok (.dup2, 1) := dX12_weighs_66
theorem eX12_weighs_67 : decode mX12_weighs.2.1 67 = .ok (.iaload, 1) := dX12_weighs_67
theorem eX12_weighs_68 : decode mX12_weighs.2.1 68 = .ok (.iconst 1, 1) := dX12_weighs_68
theorem eX12_weighs_69 : decode mX12_weighs.2.1 69 = .ok (.iadd, 1) := dX12_weighs_69
theorem eX12_weighs_70 : decode mX12_weighs.2.1 70 = .ok (.iastore, 1) := dX12_weighs_70
theorem eX12_weighs_71 : decode mX12_weighs.2.1 71 = .ok (.aload_n 0, 1) := dX12_weighs_71
theorem eX12_weighs_72 : decode mX12_weighs.2.1 72 = .ok (.getfield 84, 3) := dX12_weighs_72
theorem eX12_weighs_75 : decode mX12_weighs.2.1 75 = .ok (.iload_n 3, 1) := dX12_weighs_75
theorem eX12_weighs_76 : decode mX12_weighs.2.1 76 = .ok (.dup2, 1) := dX12_weighs_76
theorem eX12_weighs_77 : decode mX12_weighs.2.1 77 = .ok (.iaload, 1) := dX12_weighs_77
theorem eX12_weighs_78 : decode mX12_weighs.2.1 78 = .ok (.iconst 1, 1) := dX12_weighs_78
theorem eX12_weighs_79 : decode mX12_weighs.2.1 79 = .ok (.iadd, 1) := dX12_weighs_79
theorem eX12_weighs_80 : decode mX12_weighs.2.1 80 = .ok (.iastore, 1) := dX12_weighs_80
theorem eX12_weighs_81 : decode mX12_weighs.2.1 81 = .ok (.return_, 1) := dX12_weighs_81
theorem eX12_whole_0 : decode mX12_whole.2.1 0 = .ok (.aload_n 0, 1) := dX12_whole_0
theorem eX12_whole_1 : decode mX12_whole.2.1 1 = .ok (.iconst 0, 1) := dX12_whole_1
theorem eX12_whole_2 : decode mX12_whole.2.1 2 = .ok (.putfield 1, 3) := dX12_whole_2
theorem eX12_whole_5 : decode mX12_whole.2.1 5 = .ok (.iconst 1, 1) := dX12_whole_5
theorem eX12_whole_6 : decode mX12_whole.2.1 6 = .ok (.istore 5, 2) := dX12_whole_6
theorem eX12_whole_8 : decode mX12_whole.2.1 8 = .ok (.iconst 0, 1) := dX12_whole_8
theorem eX12_whole_9 : decode mX12_whole.2.1 9 = .ok (.istore 6, 2) := dX12_whole_9
theorem eX12_whole_11 : decode mX12_whole.2.1 11 = .ok (.iload 6, 2) := dX12_whole_11
theorem eX12_whole_13 : decode mX12_whole.2.1 13 = .ok (.iconst 4, 1) := dX12_whole_13
theorem eX12_whole_14 : decode mX12_whole.2.1 14 = .ok (.if_icmp .ge 97, 3) := dX12_whole_14
theorem eX12_whole_17 : decode mX12_whole.2.1 17 = .ok (.iload 6, 2) := dX12_whole_17
theorem eX12_whole_19 : decode mX12_whole.2.1 19 = .ok (.ifCond .ne 7, 3) := dX12_whole_19
theorem eX12_whole_22 : decode mX12_whole.2.1 22 = .ok (.iload_n 1, 1) := dX12_whole_22
theorem eX12_whole_23 : decode mX12_whole.2.1 23 = .ok (.goto 25, 3) := dX12_whole_23
theorem eX12_whole_26 : decode mX12_whole.2.1 26 = .ok (.iload 6, 2) := dX12_whole_26
theorem eX12_whole_28 : decode mX12_whole.2.1 28 = .ok (.iconst 1, 1) := dX12_whole_28
theorem eX12_whole_29 : decode mX12_whole.2.1 29 = .ok (.if_icmp .ne 7, 3) := dX12_whole_29
theorem eX12_whole_32 : decode mX12_whole.2.1 32 = .ok (.iload_n 2, 1) := dX12_whole_32
theorem eX12_whole_33 : decode mX12_whole.2.1 33 = .ok (.goto 15, 3) := dX12_whole_33
theorem eX12_whole_36 : decode mX12_whole.2.1 36 = .ok (.iload 6, 2) := dX12_whole_36
theorem eX12_whole_38 : decode mX12_whole.2.1 38 = .ok (.iconst 2, 1) := dX12_whole_38
theorem eX12_whole_39 : decode mX12_whole.2.1 39 = .ok (.if_icmp .ne 7, 3) := dX12_whole_39
theorem eX12_whole_42 : decode mX12_whole.2.1 42 = .ok (.iload_n 3, 1) := dX12_whole_42
theorem eX12_whole_43 : decode mX12_whole.2.1 43 = .ok (.goto 5, 3) := dX12_whole_43
theorem eX12_whole_46 : decode mX12_whole.2.1 46 = .ok (.iload 4, 2) := dX12_whole_46
theorem eX12_whole_48 : decode mX12_whole.2.1 48 = .ok (.istore 7, 2) := dX12_whole_48
theorem eX12_whole_50 : decode mX12_whole.2.1 50 = .ok (.iload 5, 2) := dX12_whole_50
theorem eX12_whole_52 : decode mX12_whole.2.1 52 = .ok (.ifCond .eq 41, 3) := dX12_whole_52
theorem eX12_whole_55 : decode mX12_whole.2.1 55 = .ok (.iload 7, 2) := dX12_whole_55
theorem eX12_whole_57 : decode mX12_whole.2.1 57 = .ok (.i2l, 1) := dX12_whole_57
theorem eX12_whole_58 : decode mX12_whole.2.1 58 = .ok (.ldc2_w 350, 3) := dX12_whole_58
theorem eX12_whole_61 : decode mX12_whole.2.1 61 = .ok (.iload 6, 2) := dX12_whole_61
theorem eX12_whole_63 : decode mX12_whole.2.1 63 = .ok (.aload_n 0, 1) := dX12_whole_63
theorem eX12_whole_64 : decode mX12_whole.2.1 64 = .ok (.getfield 16, 3) := dX12_whole_64
theorem eX12_whole_67 : decode mX12_whole.2.1 67 = .ok (.if_icmp .ge 13, 3) := dX12_whole_67
theorem eX12_whole_70 : decode mX12_whole.2.1 70 = .ok (.aload_n 0, 1) := dX12_whole_70
theorem eX12_whole_71 : decode mX12_whole.2.1 71 = .ok (.getfield 25, 3) := dX12_whole_71
theorem eX12_whole_74 : decode mX12_whole.2.1 74 = .ok (.iconst 2, 1) := dX12_whole_74
theorem eX12_whole_75 : decode mX12_whole.2.1 75 = .ok (.isub, 1) := dX12_whole_75
theorem eX12_whole_76 : decode mX12_whole.2.1 76 = .ok (.i2l, 1) := dX12_whole_76
theorem eX12_whole_77 : decode mX12_whole.2.1 77 = .ok (.goto 6, 3) := dX12_whole_77
theorem eX12_whole_80 : decode mX12_whole.2.1 80 = .ok (.ldc2_w 350, 3) := dX12_whole_80
theorem eX12_whole_83 : decode mX12_whole.2.1 83 = .ok (.invokestatic 206, 3) := dX12_whole_83
theorem eX12_whole_86 : decode mX12_whole.2.1 86 = .ok (.ifCond .eq 7, 3) := dX12_whole_86
theorem eX12_whole_89 : decode mX12_whole.2.1 89 = .ok (.iconst 1, 1) := dX12_whole_89
theorem eX12_whole_90 : decode mX12_whole.2.1 90 = .ok (.goto 4, 3) := dX12_whole_90
theorem eX12_whole_93 : decode mX12_whole.2.1 93 = .ok (.iconst 0, 1) := dX12_whole_93
theorem eX12_whole_94 : decode mX12_whole.2.1 94 = .ok (.istore 5, 2) := dX12_whole_94
theorem eX12_whole_96 : decode mX12_whole.2.1 96 = .ok (.aload_n 0, 1) := dX12_whole_96
theorem eX12_whole_97 : decode mX12_whole.2.1 97 = .ok (.getfield 59, 3) := dX12_whole_97
theorem eX12_whole_100 : decode mX12_whole.2.1 100 = .ok (.iload 6, 2) := dX12_whole_100
theorem eX12_whole_102 : decode mX12_whole.2.1 102 = .ok (.iload 7, 2) := dX12_whole_102
theorem eX12_whole_104 : decode mX12_whole.2.1 104 = .ok (.iastore, 1) := dX12_whole_104
theorem eX12_whole_105 : decode mX12_whole.2.1 105 = .ok (.iinc 6 1, 3) := dX12_whole_105
theorem eX12_whole_108 : decode mX12_whole.2.1 108 = .ok (.goto (-97), 3) := dX12_whole_108
theorem eX12_whole_111 : decode mX12_whole.2.1 111 = .ok (.aload_n 0, 1) := dX12_whole_111
theorem eX12_whole_112 : decode mX12_whole.2.1 112 = .ok (.iload 5, 2) := dX12_whole_112
theorem eX12_whole_114 : decode mX12_whole.2.1 114 = .ok (.iconst 1, 1) := dX12_whole_114
theorem eX12_whole_115 : decode mX12_whole.2.1 115 = .ok (.invokevirtual 304, 3) := dX12_whole_115
theorem eX12_whole_118 : decode mX12_whole.2.1 118 = .ok (.ifCond .eq 11, 3) := dX12_whole_118
theorem eX12_whole_121 : decode mX12_whole.2.1 121 = .ok (.aload_n 0, 1) := dX12_whole_121
theorem eX12_whole_122 : decode mX12_whole.2.1 122 = .ok (.iconst 1, 1) := dX12_whole_122
theorem eX12_whole_123 : decode mX12_whole.2.1 123 = .ok (.invokevirtual 195, 3) := dX12_whole_123
theorem eX12_whole_126 : decode mX12_whole.2.1 126 = .ok (.goto 4, 3) := dX12_whole_126
theorem eX12_whole_129 : decode mX12_whole.2.1 129 = .ok (.iconst 0, 1) := dX12_whole_129
theorem eX12_whole_130 : decode mX12_whole.2.1 130 = .ok (.ireturn, 1) := dX12_whole_130
theorem eX12_within_0 : decode mX12_within.2.1 0 = .ok (.aload_n 0, 1) := dX12_within_0
theorem eX12_within_1 : decode mX12_within.2.1 1 = .ok (.iconst 0, 1) := dX12_within_1
theorem eX12_within_2 : decode mX12_within.2.1 2 = .ok (.putfield 1, 3) := dX12_within_2
theorem eX12_within_5 : decode mX12_within.2.1 5 = .ok (.aload_n 0, 1) := dX12_within_5
theorem eX12_within_6 : decode mX12_within.2.1 6 = .ok (.iload_n 1, 1) := dX12_within_6
theorem eX12_within_7 : decode mX12_within.2.1 7 = .ok (.iconst 1, 1) := dX12_within_7
theorem eX12_within_8 : decode mX12_within.2.1 8 = .ok (.if_icmp .lt 21, 3) := dX12_within_8
theorem eX12_within_11 : decode mX12_within.2.1 11 = .ok (.aload_n 0, 1) := dX12_within_11
theorem eX12_within_12 : decode mX12_within.2.1 12 = .ok (.getfield 19, 3) := dX12_within_12
theorem eX12_within_15 : decode mX12_within.2.1 15 = .ok (.iload_n 1, 1) := dX12_within_15
theorem eX12_within_16 : decode mX12_within.2.1 16 = .ok (.irem, 1) := dX12_within_16
theorem eX12_within_17 : decode mX12_within.2.1 17 = .ok (.ifCond .ne 12, 3) := dX12_within_17
theorem eX12_within_20 : decode mX12_within.2.1 20 = .ok (.iload_n 2, 1) := dX12_within_20
theorem eX12_within_21 : decode mX12_within.2.1 21 = .ok (.iconst (-1), 1) := dX12_within_21
theorem eX12_within_22 : decode mX12_within.2.1 22 = .ok (.if_icmp .lt 7, 3) := dX12_within_22
theorem eX12_within_25 : decode mX12_within.2.1 25 = .ok (.iconst 1, 1) := dX12_within_25
theorem eX12_within_26 : decode mX12_within.2.1 26 = .ok (.goto 4, 3) := dX12_within_26
theorem eX12_within_29 : decode mX12_within.2.1 29 = .ok (.iconst 0, 1) := dX12_within_29
theorem eX12_within_30 : decode mX12_within.2.1 30 = .ok (.iconst 1, 1) := dX12_within_30
theorem eX12_within_31 : decode mX12_within.2.1 31 = .ok (.invokevirtual 304, 3) := dX12_within_31
theorem eX12_within_34 : decode mX12_within.2.1 34 = .ok (.ifCond .ne 5, 3) := dX12_within_34
theorem eX12_within_37 : decode mX12_within.2.1 37 = .ok (.iconst 0, 1) := dX12_within_37
theorem eX12_within_38 : decode mX12_within.2.1 38 = .ok (.ireturn, 1) := dX12_within_38
theorem eX12_within_39 : decode mX12_within.2.1 39 = .ok (.aload_n 0, 1) := dX12_within_39
theorem eX12_within_40 : decode mX12_within.2.1 40 = .ok (.iload_n 2, 1) := dX12_within_40
theorem eX12_within_41 : decode mX12_within.2.1 41 = .ok (.invokevirtual 363, 3) := dX12_within_41
theorem eX12_within_44 : decode mX12_within.2.1 44 = .ok (.iconst 0, 1) := dX12_within_44
theorem eX12_within_45 : decode mX12_within.2.1 45 = .ok (.istore_n 3, 1) := dX12_within_45
theorem eX12_within_46 : decode mX12_within.2.1 46 = .ok (.iload_n 3, 1) := dX12_within_46
theorem eX12_within_47 : decode mX12_within.2.1 47 = .ok (.aload_n 0, 1) := dX12_within_47
theorem eX12_within_48 : decode mX12_within.2.1 48 = .ok (.getfield 28, 3) := dX12_within_48
theorem eX12_within_51 : decode mX12_within.2.1 51 = .ok (.if_icmp .ge 24, 3) := dX12_within_51
theorem eX12_within_54 : decode mX12_within.2.1 54 = .ok (.aload_n 0, 1) := dX12_within_54
theorem eX12_within_55 : decode mX12_within.2.1 55 = .ok (.iload_n 3, 1) := dX12_within_55
theorem eX12_within_56 : decode mX12_within.2.1 56 = .ok (.iload_n 1, 1) := dX12_within_56
theorem eX12_within_57 : decode mX12_within.2.1 57 = .ok (.invokevirtual 201, 3) := dX12_within_57
theorem eX12_within_60 : decode mX12_within.2.1 60 = .ok (.iload_n 3, 1) := dX12_within_60
theorem eX12_within_61 : decode mX12_within.2.1 61 = .ok (.if_icmp .ne 8, 3) := dX12_within_61
theorem eX12_within_64 : decode mX12_within.2.1 64 = .ok (.aload_n 0, 1) := dX12_within_64
theorem eX12_within_65 : decode mX12_within.2.1 65 = .ok (.iload_n 3, 1) := dX12_within_65
theorem eX12_within_66 : decode mX12_within.2.1 66 = .ok (.invokevirtual 366, 3) := dX12_within_66
theorem eX12_within_69 : decode mX12_within.2.1 69 = .ok (.iinc 3 1, 3) := dX12_within_69
theorem eX12_within_72 : decode mX12_within.2.1 72 = .ok (.goto (-26), 3) := dX12_within_72
theorem eX12_within_75 : decode mX12_within.2.1 75 = .ok (.aload_n 0, 1) := dX12_within_75
theorem eX12_within_76 : decode mX12_within.2.1 76 = .ok (.invokevirtual 369, 3) := dX12_within_76
theorem eX12_within_79 : decode mX12_within.2.1 79 = .ok (.ireturn, 1) := dX12_within_79
theorem eX12_withinOf_0 : decode mX12_withinOf.2.1 0 = .ok (.iconst 1, 1) := dX12_withinOf_0
theorem eX12_withinOf_1 : decode mX12_withinOf.2.1 1 = .ok (.istore_n 2, 1) := dX12_withinOf_1
theorem eX12_withinOf_2 : decode mX12_withinOf.2.1 2 = .ok (.aload_n 0, 1) := dX12_withinOf_2
theorem eX12_withinOf_3 : decode mX12_withinOf.2.1 3 = .ok (.getfield 19, 3) := dX12_withinOf_3
theorem eX12_withinOf_6 : decode mX12_withinOf.2.1 6 = .ok (.iload_n 2, 1) := dX12_withinOf_6
theorem eX12_withinOf_7 : decode mX12_withinOf.2.1 7 = .ok (.irem, 1) := dX12_withinOf_7
theorem eX12_withinOf_8 : decode mX12_withinOf.2.1 8 = .ok (.ifCond .ne 13, 3) := dX12_withinOf_8
theorem eX12_withinOf_11 : decode mX12_withinOf.2.1 11 = .ok (.aload_n 0, 1) := dX12_withinOf_11
theorem eX12_withinOf_12 : decode mX12_withinOf.2.1 12 = .ok (.iload_n 1, 1) := dX12_withinOf_12
theorem eX12_withinOf_13 : decode mX12_withinOf.2.1 13 = .ok (.iload_n 2, 1) := dX12_withinOf_13
theorem eX12_withinOf_14 : decode mX12_withinOf.2.1 14 = .ok (.invokevirtual 201, 3) := dX12_withinOf_14
theorem eX12_withinOf_17 : decode mX12_withinOf.2.1 17 = .ok (.iload_n 1, 1) := dX12_withinOf_17
theorem eX12_withinOf_18 : decode mX12_withinOf.2.1 18 = .ok (.if_icmp .eq 9, 3) := dX12_withinOf_18
theorem eX12_withinOf_21 : decode mX12_withinOf.2.1 21 = .ok (.iinc 2 1, 3) := dX12_withinOf_21
theorem eX12_withinOf_24 : decode mX12_withinOf.2.1 24 = .ok (.goto (-22), 3) := dX12_withinOf_24
theorem eX12_withinOf_27 : decode mX12_withinOf.2.1 27 = .ok (.iload_n 2, 1) := dX12_withinOf_27
theorem eX12_withinOf_28 : decode mX12_withinOf.2.1 28 = .ok (.ireturn, 1) := dX12_withinOf_28
theorem eX12_word_0 : decode mX12_word.2.1 0 = .ok (.aload_n 0, 1) := dX12_word_0
theorem eX12_word_1 : decode mX12_word.2.1 1 = .ok (.iconst 0, 1) := dX12_word_1
theorem eX12_word_2 : decode mX12_word.2.1 2 = .ok (.putfield 1, 3) := dX12_word_2
theorem eX12_word_5 : decode mX12_word.2.1 5 = .ok (.aload_n 0, 1) := dX12_word_5
theorem eX12_word_6 : decode mX12_word.2.1 6 = .ok (.aload_n 0, 1) := dX12_word_6
theorem eX12_word_7 : decode mX12_word.2.1 7 = .ok (.getfield 214, 3) := dX12_word_7
theorem eX12_word_10 : decode mX12_word.2.1 10 = .ok (.aload_n 0, 1) := dX12_word_10
theorem eX12_word_11 : decode mX12_word.2.1 11 = .ok (.getfield 69, 3) := dX12_word_11
theorem eX12_word_14 : decode mX12_word.2.1 14 = .ok (.if_icmp .lt 7, 3) := dX12_word_14
theorem eX12_word_17 : decode mX12_word.2.1 17 = .ok (.iconst 1, 1) := dX12_word_17
theorem eX12_word_18 : decode mX12_word.2.1 18 = .ok (.goto 4, 3) := dX12_word_18
theorem eX12_word_21 : decode mX12_word.2.1 21 = .ok (.iconst 0, 1) := dX12_word_21
theorem eX12_word_22 : decode mX12_word.2.1 22 = .ok (.iconst 1, 1) := dX12_word_22
theorem eX12_word_23 : decode mX12_word.2.1 23 = .ok (.invokevirtual 304, 3) := dX12_word_23
theorem eX12_word_26 : decode mX12_word.2.1 26 = .ok (.ifCond .ne 5, 3) := dX12_word_26
theorem eX12_word_29 : decode mX12_word.2.1 29 = .ok (.iconst 0, 1) := dX12_word_29
theorem eX12_word_30 : decode mX12_word.2.1 30 = .ok (.ireturn, 1) := dX12_word_30
theorem eX12_word_31 : decode mX12_word.2.1 31 = .ok (.aload_n 0, 1) := dX12_word_31
theorem eX12_word_32 : decode mX12_word.2.1 32 = .ok (.iconst 0, 1) := dX12_word_32
theorem eX12_word_33 : decode mX12_word.2.1 33 = .ok (.putfield 214, 3) := dX12_word_33
theorem eX12_word_36 : decode mX12_word.2.1 36 = .ok (.iconst 0, 1) := dX12_word_36
theorem eX12_word_37 : decode mX12_word.2.1 37 = .ok (.istore_n 1, 1) := dX12_word_37
theorem eX12_word_38 : decode mX12_word.2.1 38 = .ok (.iload_n 1, 1) := dX12_word_38
theorem eX12_word_39 : decode mX12_word.2.1 39 = .ok (.aload_n 0, 1) := dX12_word_39
theorem eX12_word_40 : decode mX12_word.2.1 40 = .ok (.getfield 69, 3) := dX12_word_40
theorem eX12_word_43 : decode mX12_word.2.1 43 = .ok (.if_icmp .ge 28, 3) := dX12_word_43
theorem eX12_word_46 : decode mX12_word.2.1 46 = .ok (.aload_n 0, 1) := dX12_word_46
theorem eX12_word_47 : decode mX12_word.2.1 47 = .ok (.getfield 62, 3) := dX12_word_47
theorem eX12_word_50 : decode mX12_word.2.1 50 = .ok (.iload_n 1, 1) := dX12_word_50
theorem eX12_word_51 : decode mX12_word.2.1 51 = .ok (.baload, 1) := dX12_word_51
theorem eX12_word_52 : decode mX12_word.2.1 52 = .ok (.sipush 255, 3) := dX12_word_52
theorem eX12_word_55 : decode mX12_word.2.1 55 = .ok (.iand, 1) := dX12_word_55
theorem eX12_word_56 : decode mX12_word.2.1 56 = .ok (.aload_n 0, 1) := dX12_word_56
theorem eX12_word_57 : decode mX12_word.2.1 57 = .ok (.getfield 22, 3) := dX12_word_57
theorem eX12_word_60 : decode mX12_word.2.1 60 = .ok (.if_icmp .lt 5, 3) := dX12_word_60
theorem eX12_word_63 : decode mX12_word.2.1 63 = .ok (.iconst (-1), 1) := dX12_word_63
theorem eX12_word_64 : decode mX12_word.2.1 64 = .ok (.ireturn, 1) := dX12_word_64
theorem eX12_word_65 : decode mX12_word.2.1 65 = .ok (.iinc 1 1, 3) := dX12_word_65
theorem eX12_word_68 : decode mX12_word.2.1 68 = .ok (.goto (-30), 3) := dX12_word_68
theorem eX12_word_71 : decode mX12_word.2.1 71 = .ok (.iconst 0, 1) := dX12_word_71
theorem eX12_word_72 : decode mX12_word.2.1 72 = .ok (.istore_n 1, 1) := dX12_word_72
theorem eX12_word_73 : decode mX12_word.2.1 73 = .ok (.iload_n 1, 1) := dX12_word_73
theorem eX12_word_74 : decode mX12_word.2.1 74 = .ok (.aload_n 0, 1) := dX12_word_74
theorem eX12_word_75 : decode mX12_word.2.1 75 = .ok (.getfield 69, 3) := dX12_word_75
theorem eX12_word_78 : decode mX12_word.2.1 78 = .ok (.if_icmp .ge 25, 3) := dX12_word_78
theorem eX12_word_81 : decode mX12_word.2.1 81 = .ok (.aload_n 0, 1) := dX12_word_81
theorem eX12_word_82 : decode mX12_word.2.1 82 = .ok (.getfield 90, 3) := dX12_word_82
theorem eX12_word_85 : decode mX12_word.2.1 85 = .ok (.iload_n 1, 1) := dX12_word_85
theorem eX12_word_86 : decode mX12_word.2.1 86 = .ok (.aload_n 0, 1) := dX12_word_86
theorem eX12_word_87 : decode mX12_word.2.1 87 = .ok (.getfield 62, 3) := dX12_word_87
theorem eX12_word_90 : decode mX12_word.2.1 90 = .ok (.iload_n 1, 1) := dX12_word_90
theorem eX12_word_91 : decode mX12_word.2.1 91 = .ok (.baload, 1) := dX12_word_91
theorem eX12_word_92 : decode mX12_word.2.1 92 = .ok (.sipush 255, 3) := dX12_word_92
theorem eX12_word_95 : decode mX12_word.2.1 95 = .ok (.iand, 1) := dX12_word_95
theorem eX12_word_96 : decode mX12_word.2.1 96 = .ok (.iastore, 1) := dX12_word_96
theorem eX12_word_97 : decode mX12_word.2.1 97 = .ok (.iinc 1 1, 3) := dX12_word_97
theorem eX12_word_100 : decode mX12_word.2.1 100 = .ok (.goto (-27), 3) := dX12_word_100
theorem eX12_word_103 : decode mX12_word.2.1 103 = .ok (.aload_n 0, 1) := dX12_word_103
theorem eX12_word_104 : decode mX12_word.2.1 104 = .ok (.iconst 1, 1) := dX12_word_104
theorem eX12_word_105 : decode mX12_word.2.1 105 = .ok (.putfield 160, 3) := dX12_word_105
theorem eX12_word_108 : decode mX12_word.2.1 108 = .ok (.aload_n 0, 1) := dX12_word_108
theorem eX12_word_109 : decode mX12_word.2.1 109 = .ok (.aload_n 0, 1) := dX12_word_109
theorem eX12_word_110 : decode mX12_word.2.1 110 = .ok (.getfield 90, 3) := dX12_word_110
theorem eX12_word_113 : decode mX12_word.2.1 113 = .ok (.invokevirtual 418, 3) := dX12_word_113
theorem eX12_word_116 : decode mX12_word.2.1 116 = .ok (.aload_n 0, 1) := dX12_word_116
theorem eX12_word_117 : decode mX12_word.2.1 117 = .ok (.invokevirtual 422, 3) := dX12_word_117
theorem eX12_word_120 : decode mX12_word.2.1 120 = .ok (.ifCond .eq 7, 3) := dX12_word_120
theorem eX12_word_123 : decode mX12_word.2.1 123 = .ok (.iconst 0, 1) := dX12_word_123
theorem eX12_word_124 : decode mX12_word.2.1 124 = .ok (.goto 4, 3) := dX12_word_124
theorem eX12_word_127 : decode mX12_word.2.1 127 = .ok (.iconst 1, 1) := dX12_word_127
theorem eX12_word_128 : decode mX12_word.2.1 128 = .ok (.ireturn, 1) := dX12_word_128
theorem eX12_zeros_0 : decode mX12_zeros.2.1 0 = .ok (.aload_n 0, 1) := dX12_zeros_0
theorem eX12_zeros_1 : decode mX12_zeros.2.1 1 = .ok (.iconst 0, 1) := dX12_zeros_1
theorem eX12_zeros_2 : decode mX12_zeros.2.1 2 = .ok (.putfield 1, 3) := dX12_zeros_2
theorem eX12_zeros_5 : decode mX12_zeros.2.1 5 = .ok (.aload_n 0, 1) := dX12_zeros_5
theorem eX12_zeros_6 : decode mX12_zeros.2.1 6 = .ok (.iload_n 1, 1) := dX12_zeros_6
theorem eX12_zeros_7 : decode mX12_zeros.2.1 7 = .ok (.i2l, 1) := dX12_zeros_7
theorem eX12_zeros_8 : decode mX12_zeros.2.1 8 = .ok (.lconst 0, 1) := dX12_zeros_8
theorem eX12_zeros_9 : decode mX12_zeros.2.1 9 = .ok (.ldc2_w 302, 3) := dX12_zeros_9
theorem eX12_zeros_12 : decode mX12_zeros.2.1 12 = .ok (.invokestatic 206, 3) := dX12_zeros_12
theorem eX12_zeros_15 : decode mX12_zeros.2.1 15 = .ok (.ifCond .eq 12, 3) := dX12_zeros_15
theorem eX12_zeros_18 : decode mX12_zeros.2.1 18 = .ok (.iload_n 2, 1) := dX12_zeros_18
theorem eX12_zeros_19 : decode mX12_zeros.2.1 19 = .ok (.iconst (-1), 1) := dX12_zeros_19
theorem eX12_zeros_20 : decode mX12_zeros.2.1 20 = .ok (.if_icmp .lt 7, 3) := dX12_zeros_20
theorem eX12_zeros_23 : decode mX12_zeros.2.1 23 = .ok (.iconst 1, 1) := dX12_zeros_23
theorem eX12_zeros_24 : decode mX12_zeros.2.1 24 = .ok (.goto 4, 3) := dX12_zeros_24
theorem eX12_zeros_27 : decode mX12_zeros.2.1 27 = .ok (.iconst 0, 1) := dX12_zeros_27
theorem eX12_zeros_28 : decode mX12_zeros.2.1 28 = .ok (.iconst 1, 1) := dX12_zeros_28
theorem eX12_zeros_29 : decode mX12_zeros.2.1 29 = .ok (.invokevirtual 304, 3) := dX12_zeros_29
theorem eX12_zeros_32 : decode mX12_zeros.2.1 32 = .ok (.ifCond .ne 5, 3) := dX12_zeros_32
theorem eX12_zeros_35 : decode mX12_zeros.2.1 35 = .ok (.iconst 0, 1) := dX12_zeros_35
theorem eX12_zeros_36 : decode mX12_zeros.2.1 36 = .ok (.ireturn, 1) := dX12_zeros_36
theorem eX12_zeros_37 : decode mX12_zeros.2.1 37 = .ok (.aload_n 0, 1) := dX12_zeros_37
theorem eX12_zeros_38 : decode mX12_zeros.2.1 38 = .ok (.iload_n 2, 1) := dX12_zeros_38
theorem eX12_zeros_39 : decode mX12_zeros.2.1 39 = .ok (.invokevirtual 363, 3) := dX12_zeros_39
theorem eX12_zeros_42 : decode mX12_zeros.2.1 42 = .ok (.iconst 0, 1) := dX12_zeros_42
theorem eX12_zeros_43 : decode mX12_zeros.2.1 43 = .ok (.istore_n 3, 1) := dX12_zeros_43
theorem eX12_zeros_44 : decode mX12_zeros.2.1 44 = .ok (.iload_n 3, 1) := dX12_zeros_44
theorem eX12_zeros_45 : decode mX12_zeros.2.1 45 = .ok (.aload_n 0, 1) := dX12_zeros_45
theorem eX12_zeros_46 : decode mX12_zeros.2.1 46 = .ok (.getfield 28, 3) := dX12_zeros_46
theorem eX12_zeros_49 : decode mX12_zeros.2.1 49 = .ok (.if_icmp .ge 57, 3) := dX12_zeros_49
theorem eX12_zeros_52 : decode mX12_zeros.2.1 52 = .ok (.iconst 0, 1) := dX12_zeros_52
theorem eX12_zeros_53 : decode mX12_zeros.2.1 53 = .ok (.istore 4, 2) := dX12_zeros_53
theorem eX12_zeros_55 : decode mX12_zeros.2.1 55 = .ok (.iload_n 1, 1) := dX12_zeros_55
theorem eX12_zeros_56 : decode mX12_zeros.2.1 56 = .ok (.istore 5, 2) := dX12_zeros_56
theorem eX12_zeros_58 : decode mX12_zeros.2.1 58 = .ok (.iload 5, 2) := dX12_zeros_58
theorem eX12_zeros_60 : decode mX12_zeros.2.1 60 = .ok (.ifCond .lt 30, 3) := dX12_zeros_60
theorem eX12_zeros_63 : decode mX12_zeros.2.1 63 = .ok (.aload_n 0, 1) := dX12_zeros_63
theorem eX12_zeros_64 : decode mX12_zeros.2.1 64 = .ok (.aload_n 0, 1) := dX12_zeros_64
theorem eX12_zeros_65 : decode mX12_zeros.2.1 65 = .ok (.iload 4, 2) := dX12_zeros_65
theorem eX12_zeros_67 : decode mX12_zeros.2.1 67 = .ok (.iload_n 3, 1) := dX12_zeros_67
theorem eX12_zeros_68 : decode mX12_zeros.2.1 68 = .ok (.invokevirtual 132, 3) := dX12_zeros_68
theorem eX12_zeros_71 : decode mX12_zeros.2.1 71 = .ok (.aload_n 0, 1) := dX12_zeros_71
theorem eX12_zeros_72 : decode mX12_zeros.2.1 72 = .ok (.getfield 44, 3) := dX12_zeros_72
theorem eX12_zeros_75 : decode mX12_zeros.2.1 75 = .ok (.iload 5, 2) := dX12_zeros_75
theorem eX12_zeros_77 : decode mX12_zeros.2.1 77 = .ok (.iaload, 1) := dX12_zeros_77
theorem eX12_zeros_78 : decode mX12_zeros.2.1 78 = .ok (.iconst 1, 1) := dX12_zeros_78
theorem eX12_zeros_79 : decode mX12_zeros.2.1 79 = .ok (.invokevirtual 175, 3) := dX12_zeros_79
theorem eX12_zeros_82 : decode mX12_zeros.2.1 82 = .ok (.istore 4, 2) := dX12_zeros_82
theorem eX12_zeros_84 : decode mX12_zeros.2.1 84 = .ok (.iinc 5 (-1), 3) := dX12_zeros_84
theorem eX12_zeros_87 : decode mX12_zeros.2.1 87 = .ok (.goto (-29), 3) := dX12_zeros_87
theorem eX12_zeros_90 : decode mX12_zeros.2.1 90 = .ok (.iload 4, 2) := dX12_zeros_90
theorem eX12_zeros_92 : decode mX12_zeros.2.1 92 = .ok (.ifCond .ne 8, 3) := dX12_zeros_92
theorem eX12_zeros_95 : decode mX12_zeros.2.1 95 = .ok (.aload_n 0, 1) := dX12_zeros_95
theorem eX12_zeros_96 : decode mX12_zeros.2.1 96 = .ok (.iload_n 3, 1) := dX12_zeros_96
theorem eX12_zeros_97 : decode mX12_zeros.2.1 97 = .ok (.invokevirtual 366, 3) := dX12_zeros_97
theorem eX12_zeros_100 : decode mX12_zeros.2.1 100 = .ok (.iinc 3 1, 3) := dX12_zeros_100
theorem eX12_zeros_103 : decode mX12_zeros.2.1 103 = .ok (.goto (-59), 3) := dX12_zeros_103
theorem eX12_zeros_106 : decode mX12_zeros.2.1 106 = .ok (.aload_n 0, 1) := dX12_zeros_106
theorem eX12_zeros_107 : decode mX12_zeros.2.1 107 = .ok (.invokevirtual 369, 3) := dX12_zeros_107
theorem eX12_zeros_110 : decode mX12_zeros.2.1 110 = .ok (.ireturn, 1) := dX12_zeros_110
