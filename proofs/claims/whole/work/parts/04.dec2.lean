theorem dX11_element_65 : decode cX11_element 65 = .ok (.iload_n 3, 1) := by decide +kernel
theorem dX11_element_66 : decode cX11_element 66 = .ok (.invokevirtual 172, 3) := by decide +kernel
theorem dX11_element_69 : decode cX11_element 69 = .ok (.ireturn, 1) := by decide +kernel
theorem dX11_element_70 : decode cX11_element 70 = .ok (.aload_n 0, 1) := by decide +kernel
theorem dX11_element_71 : decode cX11_element 71 = .ok (.getfield 10, 3) := by decide +kernel
theorem dX11_element_74 : decode cX11_element 74 = .ok (.iload_n 2, 1) := by decide +kernel
theorem dX11_element_75 : decode cX11_element 75 = .ok (.iload_n 3, 1) := by decide +kernel
theorem dX11_element_76 : decode cX11_element 76 = .ok (.invokevirtual 175, 3) := by decide +kernel
theorem dX11_element_79 : decode cX11_element 79 = .ok (.ireturn, 1) := by decide +kernel
theorem dX11_element_80 : decode cX11_element 80 = .ok (.aload_n 0, 1) := by decide +kernel
theorem dX11_element_81 : decode cX11_element 81 = .ok (.getfield 10, 3) := by decide +kernel
theorem dX11_element_84 : decode cX11_element 84 = .ok (.iload_n 2, 1) := by decide +kernel
theorem dX11_element_85 : decode cX11_element 85 = .ok (.iload_n 3, 1) := by decide +kernel
theorem dX11_element_86 : decode cX11_element 86 = .ok (.invokevirtual 178, 3) := by decide +kernel
theorem dX11_element_89 : decode cX11_element 89 = .ok (.ireturn, 1) := by decide +kernel
theorem dX11_element_90 : decode cX11_element 90 = .ok (.aload_n 0, 1) := by decide +kernel
theorem dX11_element_91 : decode cX11_element 91 = .ok (.getfield 10, 3) := by decide +kernel
theorem dX11_element_94 : decode cX11_element 94 = .ok (.iload_n 3, 1) := by decide +kernel
theorem dX11_element_95 : decode cX11_element 95 = .ok (.invokevirtual 181, 3) := by decide +kernel
theorem dX11_element_98 : decode cX11_element 98 = .ok (.invokestatic 117, 3) := by decide +kernel
theorem dX11_element_101 : decode cX11_element 101 = .ok (.aload_n 0, 1) := by decide +kernel
theorem dX11_element_102 : decode cX11_element 102 = .ok (.getfield 10, 3) := by decide +kernel
theorem dX11_element_105 : decode cX11_element 105 = .ok (.iload_n 2, 1) := by decide +kernel
theorem dX11_element_106 : decode cX11_element 106 = .ok (.aload_n 0, 1) := by decide +kernel
theorem dX11_element_107 : decode cX11_element 107 = .ok (.getfield 10, 3) := by decide +kernel
theorem dX11_element_110 : decode cX11_element 110 = .ok (.iload_n 3, 1) := by decide +kernel
theorem dX11_element_111 : decode cX11_element 111 = .ok (.invokevirtual 184, 3) := by decide +kernel
theorem dX11_element_114 : decode cX11_element 114 = .ok (.invokevirtual 178, 3) := by decide +kernel
theorem dX11_element_117 : decode cX11_element 117 = .ok (.ireturn, 1) := by decide +kernel
theorem dX11_element_118 : decode cX11_element 118 = .ok (.new 166, 3) := by decide +kernel
theorem dX11_element_121 : decode cX11_element 121 = .ok (.dup, 1) := by decide +kernel
theorem dX11_element_122 : decode cX11_element 122 = .ok (.invokespecial 168, 3) := by decide +kernel
theorem dX11_element_125 : decode cX11_element 125 = .ok (.athrow, 1) := by decide +kernel
theorem dX11_of_0 : decode cX11_of 0 = .ok (.aload_n 0, 1) := by decide +kernel
theorem dX11_of_1 : decode cX11_of 1 = .ok (.getfield 10, 3) := by decide +kernel
theorem dX11_of_4 : decode cX11_of 4 = .ok (.iload_n 1, 1) := by decide +kernel
theorem dX11_of_5 : decode cX11_of 5 = .ok (.invokevirtual 113, 3) := by decide +kernel
theorem dX11_of_8 : decode cX11_of 8 = .ok (.invokestatic 117, 3) := by decide +kernel
theorem dX11_of_11 : decode cX11_of 11 = .ok (.iload_n 2, 1) := by decide +kernel
theorem dX11_of_12 : decode cX11_of 12 = .ok (.tableswitch 178 0 8 #[52, 61, 70, 79, 88, 97, 106, 130, 154], 52) := by decide +kernel
theorem dX11_of_64 : decode cX11_of 64 = .ok (.aload_n 0, 1) := by decide +kernel
theorem dX11_of_65 : decode cX11_of 65 = .ok (.getfield 10, 3) := by decide +kernel
theorem dX11_of_68 : decode cX11_of 68 = .ok (.iload_n 1, 1) := by decide +kernel
theorem dX11_of_69 : decode cX11_of 69 = .ok (.invokevirtual 187, 3) := by decide +kernel
theorem dX11_of_72 : decode cX11_of 72 = .ok (.ireturn, 1) := by decide +kernel
theorem dX11_of_73 : decode cX11_of 73 = .ok (.aload_n 0, 1) := by decide +kernel
theorem dX11_of_74 : decode cX11_of 74 = .ok (.getfield 10, 3) := by decide +kernel
theorem dX11_of_77 : decode cX11_of 77 = .ok (.iload_n 1, 1) := by decide +kernel
theorem dX11_of_78 : decode cX11_of 78 = .ok (.invokevirtual 190, 3) := by decide +kernel
theorem dX11_of_81 : decode cX11_of 81 = .ok (.ireturn, 1) := by decide +kernel
theorem dX11_of_82 : decode cX11_of 82 = .ok (.aload_n 0, 1) := by decide +kernel
theorem dX11_of_83 : decode cX11_of 83 = .ok (.getfield 10, 3) := by decide +kernel
theorem dX11_of_86 : decode cX11_of 86 = .ok (.iload_n 1, 1) := by decide +kernel
theorem dX11_of_87 : decode cX11_of 87 = .ok (.invokevirtual 193, 3) := by decide +kernel
theorem dX11_of_90 : decode cX11_of 90 = .ok (.ireturn, 1) := by decide +kernel
theorem dX11_of_91 : decode cX11_of 91 = .ok (.aload_n 0, 1) := by decide +kernel
theorem dX11_of_92 : decode cX11_of 92 = .ok (.getfield 10, 3) := by decide +kernel
theorem dX11_of_95 : decode cX11_of 95 = .ok (.iload_n 1, 1) := by decide +kernel
theorem dX11_of_96 : decode cX11_of 96 = .ok (.invokevirtual 196, 3) := by decide +kernel
theorem dX11_of_99 : decode cX11_of 99 = .ok (.ireturn, 1) := by decide +kernel
theorem dX11_of_100 : decode cX11_of 100 = .ok (.aload_n 0, 1) := by decide +kernel
theorem dX11_of_101 : decode cX11_of 101 = .ok (.getfield 10, 3) := by decide +kernel
theorem dX11_of_104 : decode cX11_of 104 = .ok (.iload_n 1, 1) := by decide +kernel
theorem dX11_of_105 : decode cX11_of 105 = .ok (.invokevirtual 199, 3) := by decide +kernel
theorem dX11_of_108 : decode cX11_of 108 = .ok (.ireturn, 1) := by decide +kernel
theorem dX11_of_109 : decode cX11_of 109 = .ok (.aload_n 0, 1) := by decide +kernel
theorem dX11_of_110 : decode cX11_of 110 = .ok (.getfield 10, 3) := by decide +kernel
theorem dX11_of_113 : decode cX11_of 113 = .ok (.iload_n 1, 1) := by decide +kernel
theorem dX11_of_114 : decode cX11_of 114 = .ok (.invokevirtual 202, 3) := by decide +kernel
theorem dX11_of_117 : decode cX11_of 117 = .ok (.ireturn, 1) := by decide +kernel
theorem dX11_of_118 : decode cX11_of 118 = .ok (.aload_n 0, 1) := by decide +kernel
theorem dX11_of_119 : decode cX11_of 119 = .ok (.getfield 10, 3) := by decide +kernel
theorem dX11_of_122 : decode cX11_of 122 = .ok (.iload_n 1, 1) := by decide +kernel
theorem dX11_of_123 : decode cX11_of 123 = .ok (.invokevirtual 181, 3) := by decide +kernel
theorem dX11_of_126 : decode cX11_of 126 = .ok (.ifCond .eq 14, 3) := by decide +kernel
theorem dX11_of_129 : decode cX11_of 129 = .ok (.aload_n 0, 1) := by decide +kernel
theorem dX11_of_130 : decode cX11_of 130 = .ok (.getfield 10, 3) := by decide +kernel
theorem dX11_of_133 : decode cX11_of 133 = .ok (.iload_n 1, 1) := by decide +kernel
theorem dX11_of_134 : decode cX11_of 134 = .ok (.invokevirtual 205, 3) := by decide +kernel
theorem dX11_of_137 : decode cX11_of 137 = .ok (.goto 4, 3) := by decide +kernel
theorem dX11_of_140 : decode cX11_of 140 = .ok (.iconst (-1), 1) := by decide +kernel
theorem dX11_of_141 : decode cX11_of 141 = .ok (.ireturn, 1) := by decide +kernel
theorem dX11_of_142 : decode cX11_of 142 = .ok (.aload_n 0, 1) := by decide +kernel
theorem dX11_of_143 : decode cX11_of 143 = .ok (.getfield 10, 3) := by decide +kernel
theorem dX11_of_146 : decode cX11_of 146 = .ok (.iload_n 1, 1) := by decide +kernel
theorem dX11_of_147 : decode cX11_of 147 = .ok (.invokevirtual 181, 3) := by decide +kernel
theorem dX11_of_150 : decode cX11_of 150 = .ok (.ifCond .eq 14, 3) := by decide +kernel
theorem dX11_of_153 : decode cX11_of 153 = .ok (.aload_n 0, 1) := by decide +kernel
theorem dX11_of_154 : decode cX11_of 154 = .ok (.getfield 10, 3) := by decide +kernel
theorem dX11_of_157 : decode cX11_of 157 = .ok (.iload_n 1, 1) := by decide +kernel
theorem dX11_of_158 : decode cX11_of 158 = .ok (.invokevirtual 208, 3) := by decide +kernel
theorem dX11_of_161 : decode cX11_of 161 = .ok (.goto 4, 3) := by decide +kernel
theorem dX11_of_164 : decode cX11_of 164 = .ok (.iconst (-1), 1) := by decide +kernel
theorem dX11_of_165 : decode cX11_of 165 = .ok (.ireturn, 1) := by decide +kernel
theorem dX11_of_166 : decode cX11_of 166 = .ok (.aload_n 0, 1) := by decide +kernel
theorem dX11_of_167 : decode cX11_of 167 = .ok (.getfield 10, 3) := by decide +kernel
theorem dX11_of_170 : decode cX11_of 170 = .ok (.iload_n 1, 1) := by decide +kernel
theorem dX11_of_171 : decode cX11_of 171 = .ok (.invokevirtual 181, 3) := by decide +kernel
theorem dX11_of_174 : decode cX11_of 174 = .ok (.ifCond .eq 14, 3) := by decide +kernel
theorem dX11_of_177 : decode cX11_of 177 = .ok (.aload_n 0, 1) := by decide +kernel
theorem dX11_of_178 : decode cX11_of 178 = .ok (.getfield 10, 3) := by decide +kernel
theorem dX11_of_181 : decode cX11_of 181 = .ok (.iload_n 1, 1) := by decide +kernel
theorem dX11_of_182 : decode cX11_of 182 = .ok (.invokevirtual 184, 3) := by decide +kernel
theorem dX11_of_185 : decode cX11_of 185 = .ok (.goto 4, 3) := by decide +kernel
theorem dX11_of_188 : decode cX11_of 188 = .ok (.iconst (-1), 1) := by decide +kernel
theorem dX11_of_189 : decode cX11_of 189 = .ok (.ireturn, 1) := by decide +kernel
theorem dX11_of_190 : decode cX11_of 190 = .ok (.new 166, 3) := by decide +kernel
theorem dX11_of_193 : decode cX11_of 193 = .ok (.dup, 1) := by decide +kernel
theorem dX11_of_194 : decode cX11_of 194 = .ok (.invokespecial 168, 3) := by decide +kernel
theorem dX11_of_197 : decode cX11_of 197 = .ok (.athrow, 1) := by decide +kernel
theorem dX11_digit_0 : decode cX11_digit 0 = .ok (.aload_n 0, 1) := by decide +kernel
theorem dX11_digit_1 : decode cX11_digit 1 = .ok (.getfield 10, 3) := by decide +kernel
theorem dX11_digit_4 : decode cX11_digit 4 = .ok (.iload_n 1, 1) := by decide +kernel
theorem dX11_digit_5 : decode cX11_digit 5 = .ok (.invokevirtual 113, 3) := by decide +kernel
theorem dX11_digit_8 : decode cX11_digit 8 = .ok (.ifCond .eq 22, 3) := by decide +kernel
theorem dX11_digit_11 : decode cX11_digit 11 = .ok (.iload_n 2, 1) := by decide +kernel
theorem dX11_digit_12 : decode cX11_digit 12 = .ok (.ifCond .lt 18, 3) := by decide +kernel
theorem dX11_digit_15 : decode cX11_digit 15 = .ok (.iload_n 2, 1) := by decide +kernel
theorem dX11_digit_16 : decode cX11_digit 16 = .ok (.aload_n 0, 1) := by decide +kernel
theorem dX11_digit_17 : decode cX11_digit 17 = .ok (.getfield 10, 3) := by decide +kernel
theorem dX11_digit_20 : decode cX11_digit 20 = .ok (.getfield 134, 3) := by decide +kernel
theorem dX11_digit_23 : decode cX11_digit 23 = .ok (.if_icmp .ge 7, 3) := by decide +kernel
theorem dX11_digit_26 : decode cX11_digit 26 = .ok (.iconst 1, 1) := by decide +kernel
theorem dX11_digit_27 : decode cX11_digit 27 = .ok (.goto 4, 3) := by decide +kernel
theorem dX11_digit_30 : decode cX11_digit 30 = .ok (.iconst 0, 1) := by decide +kernel
theorem dX11_digit_31 : decode cX11_digit 31 = .ok (.invokestatic 117, 3) := by decide +kernel
theorem dX11_digit_34 : decode cX11_digit 34 = .ok (.aload_n 0, 1) := by decide +kernel
theorem dX11_digit_35 : decode cX11_digit 35 = .ok (.getfield 10, 3) := by decide +kernel
theorem dX11_digit_38 : decode cX11_digit 38 = .ok (.iload_n 1, 1) := by decide +kernel
theorem dX11_digit_39 : decode cX11_digit 39 = .ok (.iload_n 2, 1) := by decide +kernel
theorem dX11_digit_40 : decode cX11_digit 40 = .ok (.invokevirtual 211, 3) := by decide +kernel
theorem dX11_digit_43 : decode cX11_digit 43 = .ok (.ireturn, 1) := by decide +kernel
theorem dX11_whole_0 : decode cX11_whole 0 = .ok (.aload_n 0, 1) := by decide +kernel
theorem dX11_whole_1 : decode cX11_whole 1 = .ok (.iload_n 1, 1) := by decide +kernel
theorem dX11_whole_2 : decode cX11_whole 2 = .ok (.iconst 0, 1) := by decide +kernel
theorem dX11_whole_3 : decode cX11_whole 3 = .ok (.invokevirtual 214, 3) := by decide +kernel
theorem dX11_whole_6 : decode cX11_whole 6 = .ok (.ifCond .eq 35, 3) := by decide +kernel
theorem dX11_whole_9 : decode cX11_whole 9 = .ok (.aload_n 0, 1) := by decide +kernel
theorem dX11_whole_10 : decode cX11_whole 10 = .ok (.iload_n 2, 1) := by decide +kernel
theorem dX11_whole_11 : decode cX11_whole 11 = .ok (.iconst 1, 1) := by decide +kernel
theorem dX11_whole_12 : decode cX11_whole 12 = .ok (.invokevirtual 214, 3) := by decide +kernel
theorem dX11_whole_15 : decode cX11_whole 15 = .ok (.ifCond .eq 26, 3) := by decide +kernel
theorem dX11_whole_18 : decode cX11_whole 18 = .ok (.aload_n 0, 1) := by decide +kernel
theorem dX11_whole_19 : decode cX11_whole 19 = .ok (.iload_n 3, 1) := by decide +kernel
theorem dX11_whole_20 : decode cX11_whole 20 = .ok (.iconst 2, 1) := by decide +kernel
theorem dX11_whole_21 : decode cX11_whole 21 = .ok (.invokevirtual 214, 3) := by decide +kernel
theorem dX11_whole_24 : decode cX11_whole 24 = .ok (.ifCond .eq 17, 3) := by decide +kernel
theorem dX11_whole_27 : decode cX11_whole 27 = .ok (.aload_n 0, 1) := by decide +kernel
theorem dX11_whole_28 : decode cX11_whole 28 = .ok (.iload 4, 2) := by decide +kernel
theorem dX11_whole_30 : decode cX11_whole 30 = .ok (.iconst 3, 1) := by decide +kernel
theorem dX11_whole_31 : decode cX11_whole 31 = .ok (.invokevirtual 214, 3) := by decide +kernel
theorem dX11_whole_34 : decode cX11_whole 34 = .ok (.ifCond .eq 7, 3) := by decide +kernel
theorem dX11_whole_37 : decode cX11_whole 37 = .ok (.iconst 1, 1) := by decide +kernel
theorem dX11_whole_38 : decode cX11_whole 38 = .ok (.goto 4, 3) := by decide +kernel
theorem dX11_whole_41 : decode cX11_whole 41 = .ok (.iconst 0, 1) := by decide +kernel
theorem dX11_whole_42 : decode cX11_whole 42 = .ok (.invokestatic 117, 3) := by decide +kernel
theorem dX11_whole_45 : decode cX11_whole 45 = .ok (.aload_n 0, 1) := by decide +kernel
theorem dX11_whole_46 : decode cX11_whole 46 = .ok (.getfield 10, 3) := by decide +kernel
theorem dX11_whole_49 : decode cX11_whole 49 = .ok (.iconst 0, 1) := by decide +kernel
theorem dX11_whole_50 : decode cX11_whole 50 = .ok (.iconst 0, 1) := by decide +kernel
theorem dX11_whole_51 : decode cX11_whole 51 = .ok (.iload_n 1, 1) := by decide +kernel
theorem dX11_whole_52 : decode cX11_whole 52 = .ok (.invokevirtual 218, 3) := by decide +kernel
theorem dX11_whole_55 : decode cX11_whole 55 = .ok (.istore 5, 2) := by decide +kernel
theorem dX11_whole_57 : decode cX11_whole 57 = .ok (.aload_n 0, 1) := by decide +kernel
theorem dX11_whole_58 : decode cX11_whole 58 = .ok (.getfield 10, 3) := by decide +kernel
theorem dX11_whole_61 : decode cX11_whole 61 = .ok (.iload 5, 2) := by decide +kernel
theorem dX11_whole_63 : decode cX11_whole 63 = .ok (.iconst 1, 1) := by decide +kernel
theorem dX11_whole_64 : decode cX11_whole 64 = .ok (.iload_n 2, 1) := by decide +kernel
theorem dX11_whole_65 : decode cX11_whole 65 = .ok (.invokevirtual 218, 3) := by decide +kernel
theorem dX11_whole_68 : decode cX11_whole 68 = .ok (.istore 5, 2) := by decide +kernel
theorem dX11_whole_70 : decode cX11_whole 70 = .ok (.aload_n 0, 1) := by decide +kernel
theorem dX11_whole_71 : decode cX11_whole 71 = .ok (.getfield 10, 3) := by decide +kernel
theorem dX11_whole_74 : decode cX11_whole 74 = .ok (.iload 5, 2) := by decide +kernel
theorem dX11_whole_76 : decode cX11_whole 76 = .ok (.iconst 2, 1) := by decide +kernel
theorem dX11_whole_77 : decode cX11_whole 77 = .ok (.iload_n 3, 1) := by decide +kernel
theorem dX11_whole_78 : decode cX11_whole 78 = .ok (.invokevirtual 218, 3) := by decide +kernel
theorem dX11_whole_81 : decode cX11_whole 81 = .ok (.istore 5, 2) := by decide +kernel
theorem dX11_whole_83 : decode cX11_whole 83 = .ok (.aload_n 0, 1) := by decide +kernel
theorem dX11_whole_84 : decode cX11_whole 84 = .ok (.getfield 10, 3) := by decide +kernel
theorem dX11_whole_87 : decode cX11_whole 87 = .ok (.iload 5, 2) := by decide +kernel
theorem dX11_whole_89 : decode cX11_whole 89 = .ok (.iconst 3, 1) := by decide +kernel
theorem dX11_whole_90 : decode cX11_whole 90 = .ok (.iload 4, 2) := by decide +kernel
theorem dX11_whole_92 : decode cX11_whole 92 = .ok (.invokevirtual 218, 3) := by decide +kernel
theorem dX11_whole_95 : decode cX11_whole 95 = .ok (.ireturn, 1) := by decide +kernel
theorem dX11_sum_0 : decode cX11_sum 0 = .ok (.iload_n 1, 1) := by decide +kernel
theorem dX11_sum_1 : decode cX11_sum 1 = .ok (.ifCond .lt 35, 3) := by decide +kernel
theorem dX11_sum_4 : decode cX11_sum 4 = .ok (.iload_n 1, 1) := by decide +kernel
theorem dX11_sum_5 : decode cX11_sum 5 = .ok (.aload_n 0, 1) := by decide +kernel
theorem dX11_sum_6 : decode cX11_sum 6 = .ok (.getfield 10, 3) := by decide +kernel
theorem dX11_sum_9 : decode cX11_sum 9 = .ok (.getfield 143, 3) := by decide +kernel
theorem dX11_sum_12 : decode cX11_sum 12 = .ok (.iconst 2, 1) := by decide +kernel
theorem dX11_sum_13 : decode cX11_sum 13 = .ok (.isub, 1) := by decide +kernel
theorem dX11_sum_14 : decode cX11_sum 14 = .ok (.if_icmp .gt 22, 3) := by decide +kernel
theorem dX11_sum_17 : decode cX11_sum 17 = .ok (.iload_n 2, 1) := by decide +kernel
theorem dX11_sum_18 : decode cX11_sum 18 = .ok (.ifCond .lt 18, 3) := by decide +kernel
theorem dX11_sum_21 : decode cX11_sum 21 = .ok (.iload_n 2, 1) := by decide +kernel
theorem dX11_sum_22 : decode cX11_sum 22 = .ok (.aload_n 0, 1) := by decide +kernel
theorem dX11_sum_23 : decode cX11_sum 23 = .ok (.getfield 10, 3) := by decide +kernel
theorem dX11_sum_26 : decode cX11_sum 26 = .ok (.getfield 134, 3) := by decide +kernel
theorem dX11_sum_29 : decode cX11_sum 29 = .ok (.if_icmp .ge 7, 3) := by decide +kernel
theorem dX11_sum_32 : decode cX11_sum 32 = .ok (.iconst 1, 1) := by decide +kernel
theorem dX11_sum_33 : decode cX11_sum 33 = .ok (.goto 4, 3) := by decide +kernel
theorem dX11_sum_36 : decode cX11_sum 36 = .ok (.iconst 0, 1) := by decide +kernel
theorem dX11_sum_37 : decode cX11_sum 37 = .ok (.invokestatic 117, 3) := by decide +kernel
theorem dX11_sum_40 : decode cX11_sum 40 = .ok (.aload_n 0, 1) := by decide +kernel
theorem dX11_sum_41 : decode cX11_sum 41 = .ok (.getfield 10, 3) := by decide +kernel
theorem dX11_sum_44 : decode cX11_sum 44 = .ok (.aload_n 0, 1) := by decide +kernel
theorem dX11_sum_45 : decode cX11_sum 45 = .ok (.getfield 10, 3) := by decide +kernel
theorem dX11_sum_48 : decode cX11_sum 48 = .ok (.iconst 1, 1) := by decide +kernel
theorem dX11_sum_49 : decode cX11_sum 49 = .ok (.aload_n 0, 1) := by decide +kernel
theorem dX11_sum_50 : decode cX11_sum 50 = .ok (.getfield 10, 3) := by decide +kernel
theorem dX11_sum_53 : decode cX11_sum 53 = .ok (.getfield 222, 3) := by decide +kernel
theorem dX11_sum_56 : decode cX11_sum 56 = .ok (.iload_n 1, 1) := by decide +kernel
theorem dX11_sum_57 : decode cX11_sum 57 = .ok (.invokestatic 121, 3) := by decide +kernel
theorem dX11_sum_60 : decode cX11_sum 60 = .ok (.invokevirtual 172, 3) := by decide +kernel
theorem dX11_sum_63 : decode cX11_sum 63 = .ok (.iload_n 2, 1) := by decide +kernel
theorem dX11_sum_64 : decode cX11_sum 64 = .ok (.invokevirtual 211, 3) := by decide +kernel
theorem dX11_sum_67 : decode cX11_sum 67 = .ok (.ireturn, 1) := by decide +kernel
theorem dX11_roots_0 : decode cX11_roots 0 = .ok (.aload_n 0, 1) := by decide +kernel
theorem dX11_roots_1 : decode cX11_roots 1 = .ok (.getfield 10, 3) := by decide +kernel
theorem dX11_roots_4 : decode cX11_roots 4 = .ok (.iload_n 1, 1) := by decide +kernel
theorem dX11_roots_5 : decode cX11_roots 5 = .ok (.invokevirtual 113, 3) := by decide +kernel
theorem dX11_roots_8 : decode cX11_roots 8 = .ok (.ifCond .eq 18, 3) := by decide +kernel
theorem dX11_roots_11 : decode cX11_roots 11 = .ok (.iload_n 2, 1) := by decide +kernel
theorem dX11_roots_12 : decode cX11_roots 12 = .ok (.iconst 1, 1) := by decide +kernel
theorem dX11_roots_13 : decode cX11_roots 13 = .ok (.if_icmp .lt 13, 3) := by decide +kernel
theorem dX11_roots_16 : decode cX11_roots 16 = .ok (.iload_n 2, 1) := by decide +kernel
theorem dX11_roots_17 : decode cX11_roots 17 = .ok (.bipush 30, 2) := by decide +kernel
theorem dX11_roots_19 : decode cX11_roots 19 = .ok (.if_icmp .gt 7, 3) := by decide +kernel
theorem dX11_roots_22 : decode cX11_roots 22 = .ok (.iconst 1, 1) := by decide +kernel
theorem dX11_roots_23 : decode cX11_roots 23 = .ok (.goto 4, 3) := by decide +kernel
theorem dX11_roots_26 : decode cX11_roots 26 = .ok (.iconst 0, 1) := by decide +kernel
theorem dX11_roots_27 : decode cX11_roots 27 = .ok (.invokestatic 117, 3) := by decide +kernel
theorem dX11_roots_30 : decode cX11_roots 30 = .ok (.iconst 0, 1) := by decide +kernel
theorem dX11_roots_31 : decode cX11_roots 31 = .ok (.istore 4, 2) := by decide +kernel
theorem dX11_roots_33 : decode cX11_roots 33 = .ok (.iconst 0, 1) := by decide +kernel
theorem dX11_roots_34 : decode cX11_roots 34 = .ok (.istore 5, 2) := by decide +kernel
theorem dX11_roots_36 : decode cX11_roots 36 = .ok (.iload 5, 2) := by decide +kernel
theorem dX11_roots_38 : decode cX11_roots 38 = .ok (.aload_n 0, 1) := by decide +kernel
theorem dX11_roots_39 : decode cX11_roots 39 = .ok (.getfield 10, 3) := by decide +kernel
theorem dX11_roots_42 : decode cX11_roots 42 = .ok (.getfield 85, 3) := by decide +kernel
theorem dX11_roots_45 : decode cX11_roots 45 = .ok (.if_icmp .ge 59, 3) := by decide +kernel
theorem dX11_roots_48 : decode cX11_roots 48 = .ok (.iload 4, 2) := by decide +kernel
theorem dX11_roots_50 : decode cX11_roots 50 = .ok (.aload_n 0, 1) := by decide +kernel
theorem dX11_roots_51 : decode cX11_roots 51 = .ok (.getfield 20, 3) := by decide +kernel
theorem dX11_roots_54 : decode cX11_roots 54 = .ok (.arraylength, 1) := by decide +kernel
theorem dX11_roots_55 : decode cX11_roots 55 = .ok (.if_icmp .ge 49, 3) := by decide +kernel
theorem dX11_roots_58 : decode cX11_roots 58 = .ok (.aload_n 0, 1) := by decide +kernel
theorem dX11_roots_59 : decode cX11_roots 59 = .ok (.getfield 10, 3) := by decide +kernel
theorem dX11_roots_62 : decode cX11_roots 62 = .ok (.iload 5, 2) := by decide +kernel
theorem dX11_roots_64 : decode cX11_roots 64 = .ok (.iload_n 2, 1) := by decide +kernel
theorem dX11_roots_65 : decode cX11_roots 65 = .ok (.iload_n 1, 1) := by decide +kernel
theorem dX11_roots_66 : decode cX11_roots 66 = .ok (.invokevirtual 225, 3) := by decide +kernel
theorem dX11_roots_69 : decode cX11_roots 69 = .ok (.ifCond .eq 29, 3) := by decide +kernel
theorem dX11_roots_72 : decode cX11_roots 72 = .ok (.aload_n 0, 1) := by decide +kernel
theorem dX11_roots_73 : decode cX11_roots 73 = .ok (.getfield 10, 3) := by decide +kernel
theorem dX11_roots_76 : decode cX11_roots 76 = .ok (.iload 5, 2) := by decide +kernel
theorem dX11_roots_78 : decode cX11_roots 78 = .ok (.iload_n 2, 1) := by decide +kernel
theorem dX11_roots_79 : decode cX11_roots 79 = .ok (.invokevirtual 228, 3) := by decide +kernel
theorem dX11_roots_82 : decode cX11_roots 82 = .ok (.iload_n 1, 1) := by decide +kernel
theorem dX11_roots_83 : decode cX11_roots 83 = .ok (.if_icmp .ne 15, 3) := by decide +kernel
theorem dX11_roots_86 : decode cX11_roots 86 = .ok (.aload_n 0, 1) := by decide +kernel
theorem dX11_roots_87 : decode cX11_roots 87 = .ok (.getfield 20, 3) := by decide +kernel
theorem dX11_roots_90 : decode cX11_roots 90 = .ok (.iload 4, 2) := by decide +kernel
theorem dX11_roots_92 : decode cX11_roots 92 = .ok (.iload 5, 2) := by decide +kernel
theorem dX11_roots_94 : decode cX11_roots 94 = .ok (.iastore, 1) := by decide +kernel
theorem dX11_roots_95 : decode cX11_roots 95 = .ok (.iinc 4 1, 3) := by decide +kernel
theorem dX11_roots_98 : decode cX11_roots 98 = .ok (.iinc 5 1, 3) := by decide +kernel
theorem dX11_roots_101 : decode cX11_roots 101 = .ok (.goto (-65), 3) := by decide +kernel
theorem dX11_roots_104 : decode cX11_roots 104 = .ok (.aload_n 0, 1) := by decide +kernel
theorem dX11_roots_105 : decode cX11_roots 105 = .ok (.iload 4, 2) := by decide +kernel
theorem dX11_roots_107 : decode cX11_roots 107 = .ok (.iload_n 3, 1) := by decide +kernel
theorem dX11_roots_108 : decode cX11_roots 108 = .ok (.invokevirtual 231, 3) := by decide +kernel
theorem dX11_roots_111 : decode cX11_roots 111 = .ok (.ireturn, 1) := by decide +kernel
theorem dX11_zeros_0 : decode cX11_zeros 0 = .ok (.iload_n 1, 1) := by decide +kernel
theorem dX11_zeros_1 : decode cX11_zeros 1 = .ok (.ifCond .lt 13, 3) := by decide +kernel
theorem dX11_zeros_4 : decode cX11_zeros 4 = .ok (.iload_n 1, 1) := by decide +kernel
theorem dX11_zeros_5 : decode cX11_zeros 5 = .ok (.bipush 8, 2) := by decide +kernel
theorem dX11_zeros_7 : decode cX11_zeros 7 = .ok (.if_icmp .ge 7, 3) := by decide +kernel
theorem dX11_zeros_10 : decode cX11_zeros 10 = .ok (.iconst 1, 1) := by decide +kernel
theorem dX11_zeros_11 : decode cX11_zeros 11 = .ok (.goto 4, 3) := by decide +kernel
theorem dX11_zeros_14 : decode cX11_zeros 14 = .ok (.iconst 0, 1) := by decide +kernel
theorem dX11_zeros_15 : decode cX11_zeros 15 = .ok (.invokestatic 117, 3) := by decide +kernel
theorem dX11_zeros_18 : decode cX11_zeros 18 = .ok (.iconst 0, 1) := by decide +kernel
theorem dX11_zeros_19 : decode cX11_zeros 19 = .ok (.istore_n 3, 1) := by decide +kernel
theorem dX11_zeros_20 : decode cX11_zeros 20 = .ok (.iconst 0, 1) := by decide +kernel
theorem dX11_zeros_21 : decode cX11_zeros 21 = .ok (.istore 4, 2) := by decide +kernel
theorem dX11_zeros_23 : decode cX11_zeros 23 = .ok (.iload 4, 2) := by decide +kernel
theorem dX11_zeros_25 : decode cX11_zeros 25 = .ok (.aload_n 0, 1) := by decide +kernel
theorem dX11_zeros_26 : decode cX11_zeros 26 = .ok (.getfield 10, 3) := by decide +kernel
theorem dX11_zeros_29 : decode cX11_zeros 29 = .ok (.getfield 85, 3) := by decide +kernel
theorem dX11_zeros_32 : decode cX11_zeros 32 = .ok (.if_icmp .ge 46, 3) := by decide +kernel
theorem dX11_zeros_35 : decode cX11_zeros 35 = .ok (.iload_n 3, 1) := by decide +kernel
theorem dX11_zeros_36 : decode cX11_zeros 36 = .ok (.aload_n 0, 1) := by decide +kernel
theorem dX11_zeros_37 : decode cX11_zeros 37 = .ok (.getfield 20, 3) := by decide +kernel
theorem dX11_zeros_40 : decode cX11_zeros 40 = .ok (.arraylength, 1) := by decide +kernel
theorem dX11_zeros_41 : decode cX11_zeros 41 = .ok (.if_icmp .ge 37, 3) := by decide +kernel
theorem dX11_zeros_44 : decode cX11_zeros 44 = .ok (.aload_n 0, 1) := by decide +kernel
theorem dX11_zeros_45 : decode cX11_zeros 45 = .ok (.getfield 10, 3) := by decide +kernel
theorem dX11_zeros_48 : decode cX11_zeros 48 = .ok (.aload_n 0, 1) := by decide +kernel
theorem dX11_zeros_49 : decode cX11_zeros 49 = .ok (.getfield 16, 3) := by decide +kernel
theorem dX11_zeros_52 : decode cX11_zeros 52 = .ok (.iload_n 1, 1) := by decide +kernel
theorem dX11_zeros_53 : decode cX11_zeros 53 = .ok (.iload 4, 2) := by decide +kernel
theorem dX11_zeros_55 : decode cX11_zeros 55 = .ok (.invokevirtual 234, 3) := by decide +kernel
theorem dX11_zeros_58 : decode cX11_zeros 58 = .ok (.ifCond .ne 14, 3) := by decide +kernel
theorem dX11_zeros_61 : decode cX11_zeros 61 = .ok (.aload_n 0, 1) := by decide +kernel
theorem dX11_zeros_62 : decode cX11_zeros 62 = .ok (.getfield 20, 3) := by decide +kernel
theorem dX11_zeros_65 : decode cX11_zeros 65 = .ok (.iload_n 3, 1) := by decide +kernel
theorem dX11_zeros_66 : decode cX11_zeros 66 = .ok (.iload 4, 2) := by decide +kernel
theorem dX11_zeros_68 : decode cX11_zeros 68 = .ok (.iastore, 1) := by decide +kernel
theorem dX11_zeros_69 : decode cX11_zeros 69 = .ok (.iinc 3 1, 3) := by decide +kernel
theorem dX11_zeros_72 : decode cX11_zeros 72 = .ok (.iinc 4 1, 3) := by decide +kernel
theorem dX11_zeros_75 : decode cX11_zeros 75 = .ok (.goto (-52), 3) := by decide +kernel
theorem dX11_zeros_78 : decode cX11_zeros 78 = .ok (.aload_n 0, 1) := by decide +kernel
theorem dX11_zeros_79 : decode cX11_zeros 79 = .ok (.iload_n 3, 1) := by decide +kernel
theorem dX11_zeros_80 : decode cX11_zeros 80 = .ok (.iload_n 2, 1) := by decide +kernel
theorem dX11_zeros_81 : decode cX11_zeros 81 = .ok (.invokevirtual 231, 3) := by decide +kernel
theorem dX11_zeros_84 : decode cX11_zeros 84 = .ok (.ireturn, 1) := by decide +kernel
theorem dX11_within_0 : decode cX11_within 0 = .ok (.iload_n 1, 1) := by decide +kernel
theorem dX11_within_1 : decode cX11_within 1 = .ok (.iconst 1, 1) := by decide +kernel
theorem dX11_within_2 : decode cX11_within 2 = .ok (.if_icmp .lt 32, 3) := by decide +kernel
theorem dX11_within_5 : decode cX11_within 5 = .ok (.iload_n 1, 1) := by decide +kernel
theorem dX11_within_6 : decode cX11_within 6 = .ok (.aload_n 0, 1) := by decide +kernel
theorem dX11_within_7 : decode cX11_within 7 = .ok (.getfield 10, 3) := by decide +kernel
theorem dX11_within_10 : decode cX11_within 10 = .ok (.getfield 137, 3) := by decide +kernel
theorem dX11_within_13 : decode cX11_within 13 = .ok (.if_icmp .gt 21, 3) := by decide +kernel
theorem dX11_within_16 : decode cX11_within 16 = .ok (.aload_n 0, 1) := by decide +kernel
theorem dX11_within_17 : decode cX11_within 17 = .ok (.getfield 10, 3) := by decide +kernel
theorem dX11_within_20 : decode cX11_within 20 = .ok (.getfield 137, 3) := by decide +kernel
theorem dX11_within_23 : decode cX11_within 23 = .ok (.iload_n 1, 1) := by decide +kernel
theorem dX11_within_24 : decode cX11_within 24 = .ok (.invokestatic 238, 3) := by decide +kernel
theorem dX11_within_27 : decode cX11_within 27 = .ok (.ifCond .ne 7, 3) := by decide +kernel
theorem dX11_within_30 : decode cX11_within 30 = .ok (.iconst 1, 1) := by decide +kernel
theorem dX11_within_31 : decode cX11_within 31 = .ok (.goto 4, 3) := by decide +kernel
theorem dX11_within_34 : decode cX11_within 34 = .ok (.iconst 0, 1) := by decide +kernel
theorem dX11_within_35 : decode cX11_within 35 = .ok (.invokestatic 117, 3) := by decide +kernel
theorem dX11_within_38 : decode cX11_within 38 = .ok (.iconst 0, 1) := by decide +kernel
theorem dX11_within_39 : decode cX11_within 39 = .ok (.istore_n 3, 1) := by decide +kernel
theorem dX11_within_40 : decode cX11_within 40 = .ok (.iconst 0, 1) := by decide +kernel
theorem dX11_within_41 : decode cX11_within 41 = .ok (.istore 4, 2) := by decide +kernel
theorem dX11_within_43 : decode cX11_within 43 = .ok (.iload 4, 2) := by decide +kernel
theorem dX11_within_45 : decode cX11_within 45 = .ok (.aload_n 0, 1) := by decide +kernel
theorem dX11_within_46 : decode cX11_within 46 = .ok (.getfield 10, 3) := by decide +kernel
theorem dX11_within_49 : decode cX11_within 49 = .ok (.getfield 85, 3) := by decide +kernel
theorem dX11_within_52 : decode cX11_within 52 = .ok (.if_icmp .ge 42, 3) := by decide +kernel
theorem dX11_within_55 : decode cX11_within 55 = .ok (.iload_n 3, 1) := by decide +kernel
theorem dX11_within_56 : decode cX11_within 56 = .ok (.aload_n 0, 1) := by decide +kernel
theorem dX11_within_57 : decode cX11_within 57 = .ok (.getfield 20, 3) := by decide +kernel
theorem dX11_within_60 : decode cX11_within 60 = .ok (.arraylength, 1) := by decide +kernel
theorem dX11_within_61 : decode cX11_within 61 = .ok (.if_icmp .ge 33, 3) := by decide +kernel
theorem dX11_within_64 : decode cX11_within 64 = .ok (.aload_n 0, 1) := by decide +kernel
theorem dX11_within_65 : decode cX11_within 65 = .ok (.getfield 10, 3) := by decide +kernel
theorem dX11_within_68 : decode cX11_within 68 = .ok (.iload 4, 2) := by decide +kernel
theorem dX11_within_70 : decode cX11_within 70 = .ok (.iload_n 1, 1) := by decide +kernel
theorem dX11_within_71 : decode cX11_within 71 = .ok (.invokevirtual 241, 3) := by decide +kernel
theorem dX11_within_74 : decode cX11_within 74 = .ok (.ifCond .eq 14, 3) := by decide +kernel
theorem dX11_within_77 : decode cX11_within 77 = .ok (.aload_n 0, 1) := by decide +kernel
theorem dX11_within_78 : decode cX11_within 78 = .ok (.getfield 20, 3) := by decide +kernel
theorem dX11_within_81 : decode cX11_within 81 = .ok (.iload_n 3, 1) := by decide +kernel
theorem dX11_within_82 : decode cX11_within 82 = .ok (.iload 4, 2) := by decide +kernel
theorem dX11_within_84 : decode cX11_within 84 = .ok (.iastore, 1) := by decide +kernel
theorem dX11_within_85 : decode cX11_within 85 = .ok (.iinc 3 1, 3) := by decide +kernel
theorem dX11_within_88 : decode cX11_within 88 = .ok (.iinc 4 1, 3) := by decide +kernel
theorem dX11_within_91 : decode cX11_within 91 = .ok (.goto (-48), 3) := by decide +kernel
theorem dX11_within_94 : decode cX11_within 94 = .ok (.aload_n 0, 1) := by decide +kernel
theorem dX11_within_95 : decode cX11_within 95 = .ok (.iload_n 3, 1) := by decide +kernel
theorem dX11_within_96 : decode cX11_within 96 = .ok (.iload_n 2, 1) := by decide +kernel
theorem dX11_within_97 : decode cX11_within 97 = .ok (.invokevirtual 231, 3) := by decide +kernel
theorem dX11_within_100 : decode cX11_within 100 = .ok (.ireturn, 1) := by decide +kernel
theorem dX11_units_0 : decode cX11_units 0 = .ok (.iload_n 1, 1) := by decide +kernel
theorem dX11_units_1 : decode cX11_units 1 = .ok (.iconst 1, 1) := by decide +kernel
theorem dX11_units_2 : decode cX11_units 2 = .ok (.if_icmp .lt 14, 3) := by decide +kernel
theorem dX11_units_5 : decode cX11_units 5 = .ok (.iload_n 1, 1) := by decide +kernel
theorem dX11_units_6 : decode cX11_units 6 = .ok (.sipush 9999, 3) := by decide +kernel
theorem dX11_units_9 : decode cX11_units 9 = .ok (.if_icmp .gt 7, 3) := by decide +kernel
theorem dX11_units_12 : decode cX11_units 12 = .ok (.iconst 1, 1) := by decide +kernel
theorem dX11_units_13 : decode cX11_units 13 = .ok (.goto 4, 3) := by decide +kernel
theorem dX11_units_16 : decode cX11_units 16 = .ok (.iconst 0, 1) := by decide +kernel
theorem dX11_units_17 : decode cX11_units 17 = .ok (.invokestatic 117, 3) := by decide +kernel
theorem dX11_units_20 : decode cX11_units 20 = .ok (.aload_n 0, 1) := by decide +kernel
theorem dX11_units_21 : decode cX11_units 21 = .ok (.getfield 10, 3) := by decide +kernel
theorem dX11_units_24 : decode cX11_units 24 = .ok (.iload_n 1, 1) := by decide +kernel
theorem dX11_units_25 : decode cX11_units 25 = .ok (.invokevirtual 244, 3) := by decide +kernel
theorem dX11_units_28 : decode cX11_units 28 = .ok (.ireturn, 1) := by decide +kernel
theorem dX11_many_0 : decode cX11_many 0 = .ok (.iload_n 2, 1) := by decide +kernel
theorem dX11_many_1 : decode cX11_many 1 = .ok (.ifCond .lt 7, 3) := by decide +kernel
theorem dX11_many_4 : decode cX11_many 4 = .ok (.iconst 1, 1) := by decide +kernel
theorem dX11_many_5 : decode cX11_many 5 = .ok (.goto 4, 3) := by decide +kernel
theorem dX11_many_8 : decode cX11_many 8 = .ok (.iconst 0, 1) := by decide +kernel
theorem dX11_many_9 : decode cX11_many 9 = .ok (.invokestatic 117, 3) := by decide +kernel
theorem dX11_many_12 : decode cX11_many 12 = .ok (.iload_n 1, 1) := by decide +kernel
theorem dX11_many_13 : decode cX11_many 13 = .ok (.tableswitch 104 0 3 #[31, 40, 73, 82], 31) := by decide +kernel
theorem dX11_many_44 : decode cX11_many 44 = .ok (.aload_n 0, 1) := by decide +kernel
theorem dX11_many_45 : decode cX11_many 45 = .ok (.getfield 10, 3) := by decide +kernel
theorem dX11_many_48 : decode cX11_many 48 = .ok (.iload_n 2, 1) := by decide +kernel
theorem dX11_many_49 : decode cX11_many 49 = .ok (.invokevirtual 247, 3) := by decide +kernel
theorem dX11_many_52 : decode cX11_many 52 = .ok (.ireturn, 1) := by decide +kernel
theorem dX11_many_53 : decode cX11_many 53 = .ok (.iload_n 2, 1) := by decide +kernel
theorem dX11_many_54 : decode cX11_many 54 = .ok (.aload_n 0, 1) := by decide +kernel
theorem dX11_many_55 : decode cX11_many 55 = .ok (.getfield 10, 3) := by decide +kernel
theorem dX11_many_58 : decode cX11_many 58 = .ok (.getfield 140, 3) := by decide +kernel
theorem dX11_many_61 : decode cX11_many 61 = .ok (.if_icmp .ge 23, 3) := by decide +kernel
theorem dX11_many_64 : decode cX11_many 64 = .ok (.aload_n 0, 1) := by decide +kernel
theorem dX11_many_65 : decode cX11_many 65 = .ok (.getfield 10, 3) := by decide +kernel
theorem dX11_many_68 : decode cX11_many 68 = .ok (.getfield 85, 3) := by decide +kernel
theorem dX11_many_71 : decode cX11_many 71 = .ok (.aload_n 0, 1) := by decide +kernel
theorem dX11_many_72 : decode cX11_many 72 = .ok (.getfield 10, 3) := by decide +kernel
theorem dX11_many_75 : decode cX11_many 75 = .ok (.getfield 140, 3) := by decide +kernel
theorem dX11_many_78 : decode cX11_many 78 = .ok (.invokestatic 146, 3) := by decide +kernel
theorem dX11_many_81 : decode cX11_many 81 = .ok (.goto 4, 3) := by decide +kernel
theorem dX11_many_84 : decode cX11_many 84 = .ok (.iconst 0, 1) := by decide +kernel
theorem dX11_many_85 : decode cX11_many 85 = .ok (.ireturn, 1) := by decide +kernel
theorem dX11_many_86 : decode cX11_many 86 = .ok (.aload_n 0, 1) := by decide +kernel
theorem dX11_many_87 : decode cX11_many 87 = .ok (.getfield 10, 3) := by decide +kernel
theorem dX11_many_90 : decode cX11_many 90 = .ok (.iload_n 2, 1) := by decide +kernel
theorem dX11_many_91 : decode cX11_many 91 = .ok (.invokevirtual 250, 3) := by decide +kernel
theorem dX11_many_94 : decode cX11_many 94 = .ok (.ireturn, 1) := by decide +kernel
theorem dX11_many_95 : decode cX11_many 95 = .ok (.aload_n 0, 1) := by decide +kernel
theorem dX11_many_96 : decode cX11_many 96 = .ok (.getfield 10, 3) := by decide +kernel
theorem dX11_many_99 : decode cX11_many 99 = .ok (.getfield 140, 3) := by decide +kernel
theorem dX11_many_102 : decode cX11_many 102 = .ok (.iload_n 2, 1) := by decide +kernel
theorem dX11_many_103 : decode cX11_many 103 = .ok (.aload_n 0, 1) := by decide +kernel
theorem dX11_many_104 : decode cX11_many 104 = .ok (.getfield 10, 3) := by decide +kernel
theorem dX11_many_107 : decode cX11_many 107 = .ok (.getfield 137, 3) := by decide +kernel
theorem dX11_many_110 : decode cX11_many 110 = .ok (.invokestatic 253, 3) := by decide +kernel
theorem dX11_many_113 : decode cX11_many 113 = .ok (.invokestatic 256, 3) := by decide +kernel
theorem dX11_many_116 : decode cX11_many 116 = .ok (.ireturn, 1) := by decide +kernel
theorem dX11_many_117 : decode cX11_many 117 = .ok (.new 166, 3) := by decide +kernel
theorem dX11_many_120 : decode cX11_many 120 = .ok (.dup, 1) := by decide +kernel
theorem dX11_many_121 : decode cX11_many 121 = .ok (.invokespecial 168, 3) := by decide +kernel
theorem dX11_many_124 : decode cX11_many 124 = .ok (.athrow, 1) := by decide +kernel
theorem dX11_classes_0 : decode cX11_classes 0 = .ok (.aload_n 0, 1) := by decide +kernel
theorem dX11_classes_1 : decode cX11_classes 1 = .ok (.getfield 10, 3) := by decide +kernel
theorem dX11_classes_4 : decode cX11_classes 4 = .ok (.iload_n 1, 1) := by decide +kernel
theorem dX11_classes_5 : decode cX11_classes 5 = .ok (.invokevirtual 259, 3) := by decide +kernel
theorem dX11_classes_8 : decode cX11_classes 8 = .ok (.invokestatic 117, 3) := by decide +kernel
theorem dX11_classes_11 : decode cX11_classes 11 = .ok (.aload_n 0, 1) := by decide +kernel
theorem dX11_classes_12 : decode cX11_classes 12 = .ok (.getfield 40, 3) := by decide +kernel
theorem dX11_classes_15 : decode cX11_classes 15 = .ok (.iload_n 1, 1) := by decide +kernel
theorem dX11_classes_16 : decode cX11_classes 16 = .ok (.aload_n 0, 1) := by decide +kernel
theorem dX11_classes_17 : decode cX11_classes 17 = .ok (.getfield 10, 3) := by decide +kernel
theorem dX11_classes_20 : decode cX11_classes 20 = .ok (.getfield 131, 3) := by decide +kernel
theorem dX11_classes_23 : decode cX11_classes 23 = .ok (.invokevirtual 262, 3) := by decide +kernel
theorem dX11_classes_26 : decode cX11_classes 26 = .ok (.iload_n 2, 1) := by decide +kernel
theorem dX11_classes_27 : decode cX11_classes 27 = .ok (.iconst (-1), 1) := by decide +kernel
theorem dX11_classes_28 : decode cX11_classes 28 = .ok (.if_icmp .ne 11, 3) := by decide +kernel
theorem dX11_classes_31 : decode cX11_classes 31 = .ok (.aload_n 0, 1) := by decide +kernel
theorem dX11_classes_32 : decode cX11_classes 32 = .ok (.getfield 40, 3) := by decide +kernel
theorem dX11_classes_35 : decode cX11_classes 35 = .ok (.getfield 265, 3) := by decide +kernel
theorem dX11_classes_38 : decode cX11_classes 38 = .ok (.ireturn, 1) := by decide +kernel
theorem dX11_classes_39 : decode cX11_classes 39 = .ok (.iload_n 2, 1) := by decide +kernel
theorem dX11_classes_40 : decode cX11_classes 40 = .ok (.ifCond .lt 18, 3) := by decide +kernel
theorem dX11_classes_43 : decode cX11_classes 43 = .ok (.iload_n 2, 1) := by decide +kernel
theorem dX11_classes_44 : decode cX11_classes 44 = .ok (.aload_n 0, 1) := by decide +kernel
theorem dX11_classes_45 : decode cX11_classes 45 = .ok (.getfield 40, 3) := by decide +kernel
theorem dX11_classes_48 : decode cX11_classes 48 = .ok (.getfield 265, 3) := by decide +kernel
theorem dX11_classes_51 : decode cX11_classes 51 = .ok (.if_icmp .ge 7, 3) := by decide +kernel
theorem dX11_classes_54 : decode cX11_classes 54 = .ok (.iconst 1, 1) := by decide +kernel
theorem dX11_classes_55 : decode cX11_classes 55 = .ok (.goto 4, 3) := by decide +kernel
theorem dX11_classes_58 : decode cX11_classes 58 = .ok (.iconst 0, 1) := by decide +kernel
theorem dX11_classes_59 : decode cX11_classes 59 = .ok (.invokestatic 117, 3) := by decide +kernel
theorem dX11_classes_62 : decode cX11_classes 62 = .ok (.iload_n 3, 1) := by decide +kernel
theorem dX11_classes_63 : decode cX11_classes 63 = .ok (.iconst (-1), 1) := by decide +kernel
theorem dX11_classes_64 : decode cX11_classes 64 = .ok (.if_icmp .ne 12, 3) := by decide +kernel
theorem dX11_classes_67 : decode cX11_classes 67 = .ok (.aload_n 0, 1) := by decide +kernel
theorem dX11_classes_68 : decode cX11_classes 68 = .ok (.getfield 40, 3) := by decide +kernel
theorem dX11_classes_71 : decode cX11_classes 71 = .ok (.iload_n 2, 1) := by decide +kernel
theorem dX11_classes_72 : decode cX11_classes 72 = .ok (.invokevirtual 268, 3) := by decide +kernel
theorem dX11_classes_75 : decode cX11_classes 75 = .ok (.ireturn, 1) := by decide +kernel
theorem dX11_classes_76 : decode cX11_classes 76 = .ok (.iload_n 3, 1) := by decide +kernel
theorem dX11_classes_77 : decode cX11_classes 77 = .ok (.ifCond .lt 19, 3) := by decide +kernel
theorem dX11_classes_80 : decode cX11_classes 80 = .ok (.iload_n 3, 1) := by decide +kernel
theorem dX11_classes_81 : decode cX11_classes 81 = .ok (.aload_n 0, 1) := by decide +kernel
theorem dX11_classes_82 : decode cX11_classes 82 = .ok (.getfield 40, 3) := by decide +kernel
theorem dX11_classes_85 : decode cX11_classes 85 = .ok (.iload_n 2, 1) := by decide +kernel
theorem dX11_classes_86 : decode cX11_classes 86 = .ok (.invokevirtual 268, 3) := by decide +kernel
theorem dX11_classes_89 : decode cX11_classes 89 = .ok (.if_icmp .ge 7, 3) := by decide +kernel
theorem dX11_classes_92 : decode cX11_classes 92 = .ok (.iconst 1, 1) := by decide +kernel
theorem dX11_classes_93 : decode cX11_classes 93 = .ok (.goto 4, 3) := by decide +kernel
theorem dX11_classes_96 : decode cX11_classes 96 = .ok (.iconst 0, 1) := by decide +kernel
theorem dX11_classes_97 : decode cX11_classes 97 = .ok (.invokestatic 117, 3) := by decide +kernel
theorem dX11_classes_100 : decode cX11_classes 100 = .ok (.aload_n 0, 1) := by decide +kernel
theorem dX11_classes_101 : decode cX11_classes 101 = .ok (.getfield 40, 3) := by decide +kernel
theorem dX11_classes_104 : decode cX11_classes 104 = .ok (.iload_n 2, 1) := by decide +kernel
theorem dX11_classes_105 : decode cX11_classes 105 = .ok (.iload_n 3, 1) := by decide +kernel
theorem dX11_classes_106 : decode cX11_classes 106 = .ok (.invokevirtual 271, 3) := by decide +kernel
theorem dX11_classes_109 : decode cX11_classes 109 = .ok (.ireturn, 1) := by decide +kernel
theorem dX11_code_0 : decode cX11_code 0 = .ok (.aload_n 0, 1) := by decide +kernel
theorem dX11_code_1 : decode cX11_code 1 = .ok (.getfield 10, 3) := by decide +kernel
theorem dX11_code_4 : decode cX11_code 4 = .ok (.iload_n 1, 1) := by decide +kernel
theorem dX11_code_5 : decode cX11_code 5 = .ok (.invokevirtual 259, 3) := by decide +kernel
theorem dX11_code_8 : decode cX11_code 8 = .ok (.ifCond .eq 7, 3) := by decide +kernel
theorem dX11_code_11 : decode cX11_code 11 = .ok (.iload_n 2, 1) := by decide +kernel
theorem dX11_code_12 : decode cX11_code 12 = .ok (.ifCond .ge 5, 3) := by decide +kernel
theorem dX11_code_15 : decode cX11_code 15 = .ok (.iconst (-1), 1) := by decide +kernel
theorem dX11_code_16 : decode cX11_code 16 = .ok (.ireturn, 1) := by decide +kernel
theorem dX11_code_17 : decode cX11_code 17 = .ok (.aload_n 0, 1) := by decide +kernel
theorem dX11_code_18 : decode cX11_code 18 = .ok (.getfield 40, 3) := by decide +kernel
theorem dX11_code_21 : decode cX11_code 21 = .ok (.iload_n 1, 1) := by decide +kernel
theorem dX11_code_22 : decode cX11_code 22 = .ok (.aload_n 0, 1) := by decide +kernel
theorem dX11_code_23 : decode cX11_code 23 = .ok (.getfield 10, 3) := by decide +kernel
theorem dX11_code_26 : decode cX11_code 26 = .ok (.getfield 131, 3) := by decide +kernel
theorem dX11_code_29 : decode cX11_code 29 = .ok (.invokevirtual 262, 3) := by decide +kernel
theorem dX11_code_32 : decode cX11_code 32 = .ok (.aload_n 0, 1) := by decide +kernel
theorem dX11_code_33 : decode cX11_code 33 = .ok (.getfield 40, 3) := by decide +kernel
theorem dX11_code_36 : decode cX11_code 36 = .ok (.getfield 265, 3) := by decide +kernel
theorem dX11_code_39 : decode cX11_code 39 = .ok (.bipush 30, 2) := by decide +kernel
theorem dX11_code_41 : decode cX11_code 41 = .ok (.if_icmp .gt 17, 3) := by decide +kernel
theorem dX11_code_44 : decode cX11_code 44 = .ok (.iload_n 2, 1) := by decide +kernel
theorem dX11_code_45 : decode cX11_code 45 = .ok (.aload_n 0, 1) := by decide +kernel
theorem dX11_code_46 : decode cX11_code 46 = .ok (.getfield 40, 3) := by decide +kernel
theorem dX11_code_49 : decode cX11_code 49 = .ok (.getfield 265, 3) := by decide +kernel
theorem dX11_code_52 : decode cX11_code 52 = .ok (.ishr, 1) := by decide +kernel
theorem dX11_code_53 : decode cX11_code 53 = .ok (.ifCond .eq 5, 3) := by decide +kernel
theorem dX11_code_56 : decode cX11_code 56 = .ok (.iconst (-1), 1) := by decide +kernel
theorem dX11_code_57 : decode cX11_code 57 = .ok (.ireturn, 1) := by decide +kernel
theorem dX11_code_58 : decode cX11_code 58 = .ok (.aload_n 0, 1) := by decide +kernel
theorem dX11_code_59 : decode cX11_code 59 = .ok (.iload_n 2, 1) := by decide +kernel
theorem dX11_code_60 : decode cX11_code 60 = .ok (.invokevirtual 274, 3) := by decide +kernel
theorem dX11_code_63 : decode cX11_code 63 = .ok (.aload_n 0, 1) := by decide +kernel
theorem dX11_code_64 : decode cX11_code 64 = .ok (.getfield 58, 3) := by decide +kernel
theorem dX11_code_67 : decode cX11_code 67 = .ok (.getfield 156, 3) := by decide +kernel
theorem dX11_code_70 : decode cX11_code 70 = .ok (.ireturn, 1) := by decide +kernel
theorem dX11_coefficient_0 : decode cX11_coefficient 0 = .ok (.iload_n 1, 1) := by decide +kernel
theorem dX11_coefficient_1 : decode cX11_coefficient 1 = .ok (.ifCond .eq 8, 3) := by decide +kernel
theorem dX11_coefficient_4 : decode cX11_coefficient 4 = .ok (.iload_n 1, 1) := by decide +kernel
theorem dX11_coefficient_5 : decode cX11_coefficient 5 = .ok (.iconst 1, 1) := by decide +kernel
theorem dX11_coefficient_6 : decode cX11_coefficient 6 = .ok (.if_icmp .ne 7, 3) := by decide +kernel
theorem dX11_coefficient_9 : decode cX11_coefficient 9 = .ok (.iconst 1, 1) := by decide +kernel
theorem dX11_coefficient_10 : decode cX11_coefficient 10 = .ok (.goto 4, 3) := by decide +kernel
theorem dX11_coefficient_13 : decode cX11_coefficient 13 = .ok (.iconst 0, 1) := by decide +kernel
theorem dX11_coefficient_14 : decode cX11_coefficient 14 = .ok (.invokestatic 117, 3) := by decide +kernel
theorem dX11_coefficient_17 : decode cX11_coefficient 17 = .ok (.iload_n 1, 1) := by decide +kernel
theorem dX11_coefficient_18 : decode cX11_coefficient 18 = .ok (.ifCond .ne 13, 3) := by decide +kernel
theorem dX11_coefficient_21 : decode cX11_coefficient 21 = .ok (.aload_n 0, 1) := by decide +kernel
theorem dX11_coefficient_22 : decode cX11_coefficient 22 = .ok (.getfield 58, 3) := by decide +kernel
theorem dX11_coefficient_25 : decode cX11_coefficient 25 = .ok (.getfield 277, 3) := by decide +kernel
theorem dX11_coefficient_28 : decode cX11_coefficient 28 = .ok (.goto 18, 3) := by decide +kernel
theorem dX11_coefficient_31 : decode cX11_coefficient 31 = .ok (.aload_n 0, 1) := by decide +kernel
theorem dX11_coefficient_32 : decode cX11_coefficient 32 = .ok (.getfield 58, 3) := by decide +kernel
theorem dX11_coefficient_35 : decode cX11_coefficient 35 = .ok (.getfield 153, 3) := by decide +kernel
theorem dX11_coefficient_38 : decode cX11_coefficient 38 = .ok (.aload_n 0, 1) := by decide +kernel
theorem dX11_coefficient_39 : decode cX11_coefficient 39 = .ok (.getfield 58, 3) := by decide +kernel
theorem dX11_coefficient_42 : decode cX11_coefficient 42 = .ok (.getfield 277, 3) := by decide +kernel
theorem dX11_coefficient_45 : decode cX11_coefficient 45 = .ok (.isub, 1) := by decide +kernel
theorem dX11_coefficient_46 : decode cX11_coefficient 46 = .ok (.istore_n 3, 1) := by decide +kernel
theorem dX11_coefficient_47 : decode cX11_coefficient 47 = .ok (.iload_n 2, 1) := by decide +kernel
theorem dX11_coefficient_48 : decode cX11_coefficient 48 = .ok (.iconst (-1), 1) := by decide +kernel
theorem dX11_coefficient_49 : decode cX11_coefficient 49 = .ok (.if_icmp .ne 5, 3) := by decide +kernel
theorem dX11_coefficient_52 : decode cX11_coefficient 52 = .ok (.iload_n 3, 1) := by decide +kernel
theorem dX11_coefficient_53 : decode cX11_coefficient 53 = .ok (.ireturn, 1) := by decide +kernel
theorem dX11_coefficient_54 : decode cX11_coefficient 54 = .ok (.iload_n 2, 1) := by decide +kernel
theorem dX11_coefficient_55 : decode cX11_coefficient 55 = .ok (.ifCond .lt 12, 3) := by decide +kernel
theorem dX11_coefficient_58 : decode cX11_coefficient 58 = .ok (.iload_n 2, 1) := by decide +kernel
theorem dX11_coefficient_59 : decode cX11_coefficient 59 = .ok (.iload_n 3, 1) := by decide +kernel
theorem dX11_coefficient_60 : decode cX11_coefficient 60 = .ok (.if_icmp .gt 7, 3) := by decide +kernel
theorem dX11_coefficient_63 : decode cX11_coefficient 63 = .ok (.iconst 1, 1) := by decide +kernel
theorem dX11_coefficient_64 : decode cX11_coefficient 64 = .ok (.goto 4, 3) := by decide +kernel
theorem dX11_coefficient_67 : decode cX11_coefficient 67 = .ok (.iconst 0, 1) := by decide +kernel
theorem dX11_coefficient_68 : decode cX11_coefficient 68 = .ok (.invokestatic 117, 3) := by decide +kernel
theorem dX11_coefficient_71 : decode cX11_coefficient 71 = .ok (.iload_n 1, 1) := by decide +kernel
theorem dX11_coefficient_72 : decode cX11_coefficient 72 = .ok (.ifCond .ne 13, 3) := by decide +kernel
theorem dX11_coefficient_75 : decode cX11_coefficient 75 = .ok (.aload_n 0, 1) := by decide +kernel
theorem dX11_coefficient_76 : decode cX11_coefficient 76 = .ok (.getfield 58, 3) := by decide +kernel
theorem dX11_coefficient_79 : decode cX11_coefficient 79 = .ok (.getfield 280, 3) := by decide +kernel
theorem dX11_coefficient_82 : decode cX11_coefficient 82 = .ok (.goto 10, 3) := by decide +kernel
theorem dX11_coefficient_85 : decode cX11_coefficient 85 = .ok (.aload_n 0, 1) := by decide +kernel
theorem dX11_coefficient_86 : decode cX11_coefficient 86 = .ok (.getfield 58, 3) := by decide +kernel
theorem dX11_coefficient_89 : decode cX11_coefficient 89 = .ok (.getfield 283, 3) := by decide +kernel
theorem dX11_coefficient_92 : decode cX11_coefficient 92 = .ok (.iload_n 2, 1) := by decide +kernel
theorem dX11_coefficient_93 : decode cX11_coefficient 93 = .ok (.invokestatic 121, 3) := by decide +kernel
theorem dX11_coefficient_96 : decode cX11_coefficient 96 = .ok (.ireturn, 1) := by decide +kernel
theorem dX11_weighing_0 : decode cX11_weighing 0 = .ok (.aload_n 0, 1) := by decide +kernel
theorem dX11_weighing_1 : decode cX11_weighing 1 = .ok (.getfield 58, 3) := by decide +kernel
theorem dX11_weighing_4 : decode cX11_weighing 4 = .ok (.getfield 286, 3) := by decide +kernel
theorem dX11_weighing_7 : decode cX11_weighing 7 = .ok (.ifCond .eq 7, 3) := by decide +kernel
theorem dX11_weighing_10 : decode cX11_weighing 10 = .ok (.iload_n 2, 1) := by decide +kernel
theorem dX11_weighing_11 : decode cX11_weighing 11 = .ok (.ifCond .ge 5, 3) := by decide +kernel
theorem dX11_weighing_14 : decode cX11_weighing 14 = .ok (.iconst (-1), 1) := by decide +kernel
theorem dX11_weighing_15 : decode cX11_weighing 15 = .ok (.ireturn, 1) := by decide +kernel
theorem dX11_weighing_16 : decode cX11_weighing 16 = .ok (.aload_n 0, 1) := by decide +kernel
theorem dX11_weighing_17 : decode cX11_weighing 17 = .ok (.getfield 67, 3) := by decide +kernel
theorem dX11_weighing_20 : decode cX11_weighing 20 = .ok (.invokevirtual 289, 3) := by decide +kernel
theorem dX11_weighing_23 : decode cX11_weighing 23 = .ok (.iload_n 1, 1) := by decide +kernel
theorem dX11_weighing_24 : decode cX11_weighing 24 = .ok (.ifCond .eq 13, 3) := by decide +kernel
theorem dX11_weighing_27 : decode cX11_weighing 27 = .ok (.aload_n 0, 1) := by decide +kernel
theorem dX11_weighing_28 : decode cX11_weighing 28 = .ok (.getfield 67, 3) := by decide +kernel
theorem dX11_weighing_31 : decode cX11_weighing 31 = .ok (.getfield 292, 3) := by decide +kernel
theorem dX11_weighing_34 : decode cX11_weighing 34 = .ok (.goto 10, 3) := by decide +kernel
theorem dX11_weighing_37 : decode cX11_weighing 37 = .ok (.aload_n 0, 1) := by decide +kernel
theorem dX11_weighing_38 : decode cX11_weighing 38 = .ok (.getfield 67, 3) := by decide +kernel
theorem dX11_weighing_41 : decode cX11_weighing 41 = .ok (.getfield 295, 3) := by decide +kernel
theorem dX11_weighing_44 : decode cX11_weighing 44 = .ok (.iload_n 2, 1) := by decide +kernel
theorem dX11_weighing_45 : decode cX11_weighing 45 = .ok (.invokestatic 121, 3) := by decide +kernel
theorem dX11_weighing_48 : decode cX11_weighing 48 = .ok (.ireturn, 1) := by decide +kernel
theorem dX11_lightest_0 : decode cX11_lightest 0 = .ok (.aload_n 0, 1) := by decide +kernel
theorem dX11_lightest_1 : decode cX11_lightest 1 = .ok (.getfield 58, 3) := by decide +kernel
theorem dX11_lightest_4 : decode cX11_lightest 4 = .ok (.getfield 286, 3) := by decide +kernel
theorem dX11_lightest_7 : decode cX11_lightest 7 = .ok (.ifCond .ne 5, 3) := by decide +kernel
theorem dX11_lightest_10 : decode cX11_lightest 10 = .ok (.iconst (-1), 1) := by decide +kernel
theorem dX11_lightest_11 : decode cX11_lightest 11 = .ok (.ireturn, 1) := by decide +kernel
theorem dX11_lightest_12 : decode cX11_lightest 12 = .ok (.aload_n 0, 1) := by decide +kernel
theorem dX11_lightest_13 : decode cX11_lightest 13 = .ok (.getfield 67, 3) := by decide +kernel
theorem dX11_lightest_16 : decode cX11_lightest 16 = .ok (.invokevirtual 289, 3) := by decide +kernel
theorem dX11_lightest_19 : decode cX11_lightest 19 = .ok (.iload_n 1, 1) := by decide +kernel
theorem dX11_lightest_20 : decode cX11_lightest 20 = .ok (.ifCond .eq 13, 3) := by decide +kernel
theorem dX11_lightest_23 : decode cX11_lightest 23 = .ok (.aload_n 0, 1) := by decide +kernel
theorem dX11_lightest_24 : decode cX11_lightest 24 = .ok (.getfield 67, 3) := by decide +kernel
theorem dX11_lightest_27 : decode cX11_lightest 27 = .ok (.getfield 292, 3) := by decide +kernel
theorem dX11_lightest_30 : decode cX11_lightest 30 = .ok (.goto 10, 3) := by decide +kernel
theorem dX11_lightest_33 : decode cX11_lightest 33 = .ok (.aload_n 0, 1) := by decide +kernel
theorem dX11_lightest_34 : decode cX11_lightest 34 = .ok (.getfield 67, 3) := by decide +kernel
theorem dX11_lightest_37 : decode cX11_lightest 37 = .ok (.getfield 295, 3) := by decide +kernel
theorem dX11_lightest_40 : decode cX11_lightest 40 = .ok (.invokestatic 298, 3) := by decide +kernel
theorem dX11_lightest_43 : decode cX11_lightest 43 = .ok (.ireturn, 1) := by decide +kernel
theorem dX11_word_0 : decode cX11_word 0 = .ok (.aload_n 0, 1) := by decide +kernel
theorem dX11_word_1 : decode cX11_word 1 = .ok (.getfield 26, 3) := by decide +kernel
theorem dX11_word_4 : decode cX11_word 4 = .ok (.getfield 89, 3) := by decide +kernel
theorem dX11_word_7 : decode cX11_word 7 = .ok (.aload_n 0, 1) := by decide +kernel
theorem dX11_word_8 : decode cX11_word 8 = .ok (.getfield 58, 3) := by decide +kernel
theorem dX11_word_11 : decode cX11_word 11 = .ok (.getfield 153, 3) := by decide +kernel
theorem dX11_word_14 : decode cX11_word 14 = .ok (.if_icmp .ge 11, 3) := by decide +kernel
theorem dX11_word_17 : decode cX11_word 17 = .ok (.new 96, 3) := by decide +kernel
theorem dX11_word_20 : decode cX11_word 20 = .ok (.dup, 1) := by decide +kernel
theorem dX11_word_21 : decode cX11_word 21 = .ok (.invokespecial 98, 3) := by decide +kernel
theorem dX11_word_24 : decode cX11_word 24 = .ok (.athrow, 1) := by decide +kernel
theorem dX11_word_25 : decode cX11_word 25 = .ok (.aload_n 0, 1) := by decide +kernel
theorem dX11_word_26 : decode cX11_word 26 = .ok (.getfield 26, 3) := by decide +kernel
theorem dX11_word_29 : decode cX11_word 29 = .ok (.iconst 0, 1) := by decide +kernel
theorem dX11_word_30 : decode cX11_word 30 = .ok (.putfield 89, 3) := by decide +kernel
theorem dX11_word_33 : decode cX11_word 33 = .ok (.aload_n 0, 1) := by decide +kernel
theorem dX11_word_34 : decode cX11_word 34 = .ok (.getfield 26, 3) := by decide +kernel
theorem dX11_word_37 : decode cX11_word 37 = .ok (.aload_n 0, 1) := by decide +kernel
theorem dX11_word_38 : decode cX11_word 38 = .ok (.getfield 58, 3) := by decide +kernel
theorem dX11_word_41 : decode cX11_word 41 = .ok (.getfield 153, 3) := by decide +kernel
theorem dX11_word_44 : decode cX11_word 44 = .ok (.aload_n 0, 1) := by decide +kernel
theorem dX11_word_45 : decode cX11_word 45 = .ok (.getfield 10, 3) := by decide +kernel
theorem dX11_word_48 : decode cX11_word 48 = .ok (.getfield 140, 3) := by decide +kernel
theorem dX11_word_51 : decode cX11_word 51 = .ok (.invokevirtual 302, 3) := by decide +kernel
theorem dX11_word_54 : decode cX11_word 54 = .ok (.ifCond .ne 5, 3) := by decide +kernel
theorem dX11_word_57 : decode cX11_word 57 = .ok (.iconst (-1), 1) := by decide +kernel
theorem dX11_word_58 : decode cX11_word 58 = .ok (.ireturn, 1) := by decide +kernel
theorem dX11_word_59 : decode cX11_word 59 = .ok (.aload_n 0, 1) := by decide +kernel
theorem dX11_word_60 : decode cX11_word 60 = .ok (.getfield 74, 3) := by decide +kernel
theorem dX11_word_63 : decode cX11_word 63 = .ok (.aload_n 0, 1) := by decide +kernel
theorem dX11_word_64 : decode cX11_word 64 = .ok (.getfield 26, 3) := by decide +kernel
theorem dX11_word_67 : decode cX11_word 67 = .ok (.getfield 305, 3) := by decide +kernel
theorem dX11_word_70 : decode cX11_word 70 = .ok (.invokevirtual 308, 3) := by decide +kernel
theorem dX11_word_73 : decode cX11_word 73 = .ok (.aload_n 0, 1) := by decide +kernel
theorem dX11_word_74 : decode cX11_word 74 = .ok (.getfield 74, 3) := by decide +kernel
theorem dX11_word_77 : decode cX11_word 77 = .ok (.getfield 312, 3) := by decide +kernel
theorem dX11_word_80 : decode cX11_word 80 = .ok (.ifCond .eq 7, 3) := by decide +kernel
theorem dX11_word_83 : decode cX11_word 83 = .ok (.iconst 0, 1) := by decide +kernel
theorem dX11_word_84 : decode cX11_word 84 = .ok (.goto 4, 3) := by decide +kernel
theorem dX11_word_87 : decode cX11_word 87 = .ok (.iconst 1, 1) := by decide +kernel
theorem dX11_word_88 : decode cX11_word 88 = .ok (.ireturn, 1) := by decide +kernel
theorem dX11_number_0 : decode cX11_number 0 = .ok (.aload_n 0, 1) := by decide +kernel
theorem dX11_number_1 : decode cX11_number 1 = .ok (.getfield 74, 3) := by decide +kernel
theorem dX11_number_4 : decode cX11_number 4 = .ok (.getfield 315, 3) := by decide +kernel
theorem dX11_number_7 : decode cX11_number 7 = .ok (.ifCond .eq 22, 3) := by decide +kernel
theorem dX11_number_10 : decode cX11_number 10 = .ok (.iload_n 1, 1) := by decide +kernel
theorem dX11_number_11 : decode cX11_number 11 = .ok (.ifCond .lt 18, 3) := by decide +kernel
theorem dX11_number_14 : decode cX11_number 14 = .ok (.iload_n 1, 1) := by decide +kernel
theorem dX11_number_15 : decode cX11_number 15 = .ok (.aload_n 0, 1) := by decide +kernel
theorem dX11_number_16 : decode cX11_number 16 = .ok (.getfield 58, 3) := by decide +kernel
theorem dX11_number_19 : decode cX11_number 19 = .ok (.getfield 153, 3) := by decide +kernel
theorem dX11_number_22 : decode cX11_number 22 = .ok (.if_icmp .ge 7, 3) := by decide +kernel
theorem dX11_number_25 : decode cX11_number 25 = .ok (.iconst 1, 1) := by decide +kernel
theorem dX11_number_26 : decode cX11_number 26 = .ok (.goto 4, 3) := by decide +kernel
theorem dX11_number_29 : decode cX11_number 29 = .ok (.iconst 0, 1) := by decide +kernel
theorem dX11_number_30 : decode cX11_number 30 = .ok (.invokestatic 117, 3) := by decide +kernel
theorem dX11_number_33 : decode cX11_number 33 = .ok (.aload_n 0, 1) := by decide +kernel
theorem dX11_number_34 : decode cX11_number 34 = .ok (.getfield 74, 3) := by decide +kernel
theorem dX11_number_37 : decode cX11_number 37 = .ok (.getfield 318, 3) := by decide +kernel
theorem dX11_number_40 : decode cX11_number 40 = .ok (.iload_n 1, 1) := by decide +kernel
theorem dX11_number_41 : decode cX11_number 41 = .ok (.invokestatic 121, 3) := by decide +kernel
theorem dX11_number_44 : decode cX11_number 44 = .ok (.ireturn, 1) := by decide +kernel
theorem dX11_rest_0 : decode cX11_rest 0 = .ok (.aload_n 0, 1) := by decide +kernel
theorem dX11_rest_1 : decode cX11_rest 1 = .ok (.getfield 74, 3) := by decide +kernel
theorem dX11_rest_4 : decode cX11_rest 4 = .ok (.getfield 315, 3) := by decide +kernel
theorem dX11_rest_7 : decode cX11_rest 7 = .ok (.ifCond .eq 22, 3) := by decide +kernel
theorem dX11_rest_10 : decode cX11_rest 10 = .ok (.iload_n 1, 1) := by decide +kernel
theorem dX11_rest_11 : decode cX11_rest 11 = .ok (.ifCond .lt 18, 3) := by decide +kernel
theorem dX11_rest_14 : decode cX11_rest 14 = .ok (.iload_n 1, 1) := by decide +kernel
theorem dX11_rest_15 : decode cX11_rest 15 = .ok (.aload_n 0, 1) := by decide +kernel
theorem dX11_rest_16 : decode cX11_rest 16 = .ok (.getfield 58, 3) := by decide +kernel
theorem dX11_rest_19 : decode cX11_rest 19 = .ok (.getfield 277, 3) := by decide +kernel
theorem dX11_rest_22 : decode cX11_rest 22 = .ok (.if_icmp .ge 7, 3) := by decide +kernel
theorem dX11_rest_25 : decode cX11_rest 25 = .ok (.iconst 1, 1) := by decide +kernel
theorem dX11_rest_26 : decode cX11_rest 26 = .ok (.goto 4, 3) := by decide +kernel
theorem dX11_rest_29 : decode cX11_rest 29 = .ok (.iconst 0, 1) := by decide +kernel
theorem dX11_rest_30 : decode cX11_rest 30 = .ok (.invokestatic 117, 3) := by decide +kernel
theorem dX11_rest_33 : decode cX11_rest 33 = .ok (.aload_n 0, 1) := by decide +kernel
theorem dX11_rest_34 : decode cX11_rest 34 = .ok (.getfield 74, 3) := by decide +kernel
theorem dX11_rest_37 : decode cX11_rest 37 = .ok (.getfield 321, 3) := by decide +kernel
theorem dX11_rest_40 : decode cX11_rest 40 = .ok (.iload_n 1, 1) := by decide +kernel
theorem dX11_rest_41 : decode cX11_rest 41 = .ok (.invokestatic 121, 3) := by decide +kernel
theorem dX11_rest_44 : decode cX11_rest 44 = .ok (.ireturn, 1) := by decide +kernel
theorem dX11_mend_0 : decode cX11_mend 0 = .ok (.aload_n 0, 1) := by decide +kernel
theorem dX11_mend_1 : decode cX11_mend 1 = .ok (.getfield 74, 3) := by decide +kernel
theorem dX11_mend_4 : decode cX11_mend 4 = .ok (.getfield 315, 3) := by decide +kernel
theorem dX11_mend_7 : decode cX11_mend 7 = .ok (.invokestatic 117, 3) := by decide +kernel
theorem dX11_mend_10 : decode cX11_mend 10 = .ok (.iload_n 1, 1) := by decide +kernel
theorem dX11_mend_11 : decode cX11_mend 11 = .ok (.tableswitch 49 0 2 #[25, 33, 41], 25) := by decide +kernel
theorem dX11_mend_36 : decode cX11_mend 36 = .ok (.aload_n 0, 1) := by decide +kernel
theorem dX11_mend_37 : decode cX11_mend 37 = .ok (.getfield 74, 3) := by decide +kernel
theorem dX11_mend_40 : decode cX11_mend 40 = .ok (.getfield 324, 3) := by decide +kernel
theorem dX11_mend_43 : decode cX11_mend 43 = .ok (.ireturn, 1) := by decide +kernel
theorem dX11_mend_44 : decode cX11_mend 44 = .ok (.aload_n 0, 1) := by decide +kernel
theorem dX11_mend_45 : decode cX11_mend 45 = .ok (.getfield 74, 3) := by decide +kernel
theorem dX11_mend_48 : decode cX11_mend 48 = .ok (.getfield 327, 3) := by decide +kernel
theorem dX11_mend_51 : decode cX11_mend 51 = .ok (.ireturn, 1) := by decide +kernel
theorem dX11_mend_52 : decode cX11_mend 52 = .ok (.aload_n 0, 1) := by decide +kernel
theorem dX11_mend_53 : decode cX11_mend 53 = .ok (.getfield 74, 3) := by decide +kernel
theorem dX11_mend_56 : decode cX11_mend 56 = .ok (.getfield 330, 3) := by decide +kernel
theorem dX11_mend_59 : decode cX11_mend 59 = .ok (.ireturn, 1) := by decide +kernel
theorem dX11_mend_60 : decode cX11_mend 60 = .ok (.new 166, 3) := by decide +kernel
theorem dX11_mend_63 : decode cX11_mend 63 = .ok (.dup, 1) := by decide +kernel
theorem dX11_mend_64 : decode cX11_mend 64 = .ok (.invokespecial 168, 3) := by decide +kernel
theorem dX11_mend_67 : decode cX11_mend 67 = .ok (.athrow, 1) := by decide +kernel
theorem dX11_nearest_0 : decode cX11_nearest 0 = .ok (.aload_n 0, 1) := by decide +kernel
theorem dX11_nearest_1 : decode cX11_nearest 1 = .ok (.getfield 74, 3) := by decide +kernel
theorem dX11_nearest_4 : decode cX11_nearest 4 = .ok (.getfield 315, 3) := by decide +kernel
theorem dX11_nearest_7 : decode cX11_nearest 7 = .ok (.ifCond .eq 23, 3) := by decide +kernel
theorem dX11_nearest_10 : decode cX11_nearest 10 = .ok (.iload_n 1, 1) := by decide +kernel
theorem dX11_nearest_11 : decode cX11_nearest 11 = .ok (.iconst (-1), 1) := by decide +kernel
theorem dX11_nearest_12 : decode cX11_nearest 12 = .ok (.if_icmp .lt 18, 3) := by decide +kernel
theorem dX11_nearest_15 : decode cX11_nearest 15 = .ok (.iload_n 1, 1) := by decide +kernel
theorem dX11_nearest_16 : decode cX11_nearest 16 = .ok (.aload_n 0, 1) := by decide +kernel
theorem dX11_nearest_17 : decode cX11_nearest 17 = .ok (.getfield 58, 3) := by decide +kernel
theorem dX11_nearest_20 : decode cX11_nearest 20 = .ok (.getfield 153, 3) := by decide +kernel
theorem dX11_nearest_23 : decode cX11_nearest 23 = .ok (.if_icmp .ge 7, 3) := by decide +kernel
theorem dX11_nearest_26 : decode cX11_nearest 26 = .ok (.iconst 1, 1) := by decide +kernel
theorem dX11_nearest_27 : decode cX11_nearest 27 = .ok (.goto 4, 3) := by decide +kernel
theorem dX11_nearest_30 : decode cX11_nearest 30 = .ok (.iconst 0, 1) := by decide +kernel
theorem dX11_nearest_31 : decode cX11_nearest 31 = .ok (.invokestatic 117, 3) := by decide +kernel
theorem dX11_nearest_34 : decode cX11_nearest 34 = .ok (.aload_n 0, 1) := by decide +kernel
theorem dX11_nearest_35 : decode cX11_nearest 35 = .ok (.getfield 58, 3) := by decide +kernel
theorem dX11_nearest_38 : decode cX11_nearest 38 = .ok (.getfield 286, 3) := by decide +kernel
theorem dX11_nearest_41 : decode cX11_nearest 41 = .ok (.ifCond .ne 5, 3) := by decide +kernel
theorem dX11_nearest_44 : decode cX11_nearest 44 = .ok (.iconst (-1), 1) := by decide +kernel
theorem dX11_nearest_45 : decode cX11_nearest 45 = .ok (.ireturn, 1) := by decide +kernel
theorem dX11_nearest_46 : decode cX11_nearest 46 = .ok (.aload_n 0, 1) := by decide +kernel
theorem dX11_nearest_47 : decode cX11_nearest 47 = .ok (.getfield 74, 3) := by decide +kernel
theorem dX11_nearest_50 : decode cX11_nearest 50 = .ok (.invokevirtual 333, 3) := by decide +kernel
theorem dX11_nearest_53 : decode cX11_nearest 53 = .ok (.iload_n 1, 1) := by decide +kernel
theorem dX11_nearest_54 : decode cX11_nearest 54 = .ok (.iconst (-1), 1) := by decide +kernel
theorem dX11_nearest_55 : decode cX11_nearest 55 = .ok (.if_icmp .ne 13, 3) := by decide +kernel
theorem dX11_nearest_58 : decode cX11_nearest 58 = .ok (.aload_n 0, 1) := by decide +kernel
theorem dX11_nearest_59 : decode cX11_nearest 59 = .ok (.getfield 74, 3) := by decide +kernel
theorem dX11_nearest_62 : decode cX11_nearest 62 = .ok (.getfield 336, 3) := by decide +kernel
theorem dX11_nearest_65 : decode cX11_nearest 65 = .ok (.goto 14, 3) := by decide +kernel
theorem dX11_nearest_68 : decode cX11_nearest 68 = .ok (.aload_n 0, 1) := by decide +kernel
theorem dX11_nearest_69 : decode cX11_nearest 69 = .ok (.getfield 74, 3) := by decide +kernel
theorem dX11_nearest_72 : decode cX11_nearest 72 = .ok (.getfield 339, 3) := by decide +kernel
theorem dX11_nearest_75 : decode cX11_nearest 75 = .ok (.iload_n 1, 1) := by decide +kernel
theorem dX11_nearest_76 : decode cX11_nearest 76 = .ok (.invokestatic 121, 3) := by decide +kernel
theorem dX11_nearest_79 : decode cX11_nearest 79 = .ok (.ireturn, 1) := by decide +kernel
theorem dX11_say_0 : decode cX11_say 0 = .ok (.aload_n 0, 1) := by decide +kernel
theorem dX11_say_1 : decode cX11_say 1 = .ok (.getfield 10, 3) := by decide +kernel
theorem dX11_say_4 : decode cX11_say 4 = .ok (.iload_n 1, 1) := by decide +kernel
theorem dX11_say_5 : decode cX11_say 5 = .ok (.invokevirtual 113, 3) := by decide +kernel
theorem dX11_say_8 : decode cX11_say 8 = .ok (.invokestatic 117, 3) := by decide +kernel
theorem dX11_say_11 : decode cX11_say 11 = .ok (.aload_n 0, 1) := by decide +kernel
theorem dX11_say_12 : decode cX11_say 12 = .ok (.getfield 33, 3) := by decide +kernel
theorem dX11_say_15 : decode cX11_say 15 = .ok (.aload_n 0, 1) := by decide +kernel
theorem dX11_say_16 : decode cX11_say 16 = .ok (.getfield 10, 3) := by decide +kernel
theorem dX11_say_19 : decode cX11_say 19 = .ok (.iload_n 1, 1) := by decide +kernel
theorem dX11_say_20 : decode cX11_say 20 = .ok (.invokevirtual 342, 3) := by decide +kernel
theorem dX11_say_23 : decode cX11_say 23 = .ok (.aload_n 0, 1) := by decide +kernel
theorem dX11_say_24 : decode cX11_say 24 = .ok (.getfield 33, 3) := by decide +kernel
theorem dX11_say_27 : decode cX11_say 27 = .ok (.getfield 346, 3) := by decide +kernel
theorem dX11_say_30 : decode cX11_say 30 = .ok (.ireturn, 1) := by decide +kernel
theorem dX11_said_0 : decode cX11_said 0 = .ok (.iload_n 1, 1) := by decide +kernel
theorem dX11_said_1 : decode cX11_said 1 = .ok (.ifCond .lt 28, 3) := by decide +kernel
theorem dX11_said_4 : decode cX11_said 4 = .ok (.iload_n 1, 1) := by decide +kernel
theorem dX11_said_5 : decode cX11_said 5 = .ok (.aload_n 0, 1) := by decide +kernel
theorem dX11_said_6 : decode cX11_said 6 = .ok (.getfield 33, 3) := by decide +kernel
theorem dX11_said_9 : decode cX11_said 9 = .ok (.getfield 346, 3) := by decide +kernel
theorem dX11_said_12 : decode cX11_said 12 = .ok (.if_icmp .ge 17, 3) := by decide +kernel
theorem dX11_said_15 : decode cX11_said 15 = .ok (.aload_n 0, 1) := by decide +kernel
theorem dX11_said_16 : decode cX11_said 16 = .ok (.getfield 33, 3) := by decide +kernel
theorem dX11_said_19 : decode cX11_said 19 = .ok (.getfield 347, 3) := by decide +kernel
theorem dX11_said_22 : decode cX11_said 22 = .ok (.iload_n 1, 1) := by decide +kernel
theorem dX11_said_23 : decode cX11_said 23 = .ok (.invokestatic 121, 3) := by decide +kernel
theorem dX11_said_26 : decode cX11_said 26 = .ok (.goto 4, 3) := by decide +kernel
theorem dX11_said_29 : decode cX11_said 29 = .ok (.iconst (-1), 1) := by decide +kernel
theorem dX11_said_30 : decode cX11_said 30 = .ok (.ireturn, 1) := by decide +kernel
theorem dX11_need_0 : decode cX11_need 0 = .ok (.iload_n 0, 1) := by decide +kernel
theorem dX11_need_1 : decode cX11_need 1 = .ok (.ifCond .ne 11, 3) := by decide +kernel
theorem dX11_need_4 : decode cX11_need 4 = .ok (.new 166, 3) := by decide +kernel
theorem dX11_need_7 : decode cX11_need 7 = .ok (.dup, 1) := by decide +kernel
theorem dX11_need_8 : decode cX11_need 8 = .ok (.invokespecial 168, 3) := by decide +kernel
theorem dX11_need_11 : decode cX11_need 11 = .ok (.athrow, 1) := by decide +kernel
theorem dX11_need_12 : decode cX11_need 12 = .ok (.return_, 1) := by decide +kernel
theorem dX11_manyOrOne_0 : decode cX11_manyOrOne 0 = .ok (.iload_n 2, 1) := by decide +kernel
theorem dX11_manyOrOne_1 : decode cX11_manyOrOne 1 = .ok (.iconst (-1), 1) := by decide +kernel
theorem dX11_manyOrOne_2 : decode cX11_manyOrOne 2 = .ok (.if_icmp .ne 5, 3) := by decide +kernel
theorem dX11_manyOrOne_5 : decode cX11_manyOrOne 5 = .ok (.iload_n 1, 1) := by decide +kernel
theorem dX11_manyOrOne_6 : decode cX11_manyOrOne 6 = .ok (.ireturn, 1) := by decide +kernel
theorem dX11_manyOrOne_7 : decode cX11_manyOrOne 7 = .ok (.iload_n 2, 1) := by decide +kernel
theorem dX11_manyOrOne_8 : decode cX11_manyOrOne 8 = .ok (.ifCond .lt 12, 3) := by decide +kernel
theorem dX11_manyOrOne_11 : decode cX11_manyOrOne 11 = .ok (.iload_n 2, 1) := by decide +kernel
theorem dX11_manyOrOne_12 : decode cX11_manyOrOne 12 = .ok (.iload_n 1, 1) := by decide +kernel
theorem dX11_manyOrOne_13 : decode cX11_manyOrOne 13 = .ok (.if_icmp .ge 7, 3) := by decide +kernel
theorem dX11_manyOrOne_16 : decode cX11_manyOrOne 16 = .ok (.iconst 1, 1) := by decide +kernel
theorem dX11_manyOrOne_17 : decode cX11_manyOrOne 17 = .ok (.goto 4, 3) := by decide +kernel
theorem dX11_manyOrOne_20 : decode cX11_manyOrOne 20 = .ok (.iconst 0, 1) := by decide +kernel
theorem dX11_manyOrOne_21 : decode cX11_manyOrOne 21 = .ok (.invokestatic 117, 3) := by decide +kernel
theorem dX11_manyOrOne_24 : decode cX11_manyOrOne 24 = .ok (.aload_n 0, 1) := by decide +kernel
theorem dX11_manyOrOne_25 : decode cX11_manyOrOne 25 = .ok (.getfield 20, 3) := by decide +kernel
theorem dX11_manyOrOne_28 : decode cX11_manyOrOne 28 = .ok (.iload_n 2, 1) := by decide +kernel
theorem dX11_manyOrOne_29 : decode cX11_manyOrOne 29 = .ok (.invokestatic 121, 3) := by decide +kernel
theorem dX11_manyOrOne_32 : decode cX11_manyOrOne 32 = .ok (.ireturn, 1) := by decide +kernel
theorem dX11_canStand_0 : decode cX11_canStand 0 = .ok (.iload_n 1, 1) := by decide +kernel
theorem dX11_canStand_1 : decode cX11_canStand 1 = .ok (.iconst (-1), 1) := by decide +kernel
theorem dX11_canStand_2 : decode cX11_canStand 2 = .ok (.if_icmp .eq 31, 3) := by decide +kernel
theorem dX11_canStand_5 : decode cX11_canStand 5 = .ok (.iload_n 2, 1) := by decide +kernel
theorem dX11_canStand_6 : decode cX11_canStand 6 = .ok (.aload_n 0, 1) := by decide +kernel
theorem dX11_canStand_7 : decode cX11_canStand 7 = .ok (.getfield 10, 3) := by decide +kernel
theorem dX11_canStand_10 : decode cX11_canStand 10 = .ok (.getfield 134, 3) := by decide +kernel
theorem dX11_canStand_13 : decode cX11_canStand 13 = .ok (.if_icmp .ge 24, 3) := by decide +kernel
theorem dX11_canStand_16 : decode cX11_canStand 16 = .ok (.iload_n 1, 1) := by decide +kernel
theorem dX11_canStand_17 : decode cX11_canStand 17 = .ok (.ifCond .lt 20, 3) := by decide +kernel
theorem dX11_canStand_20 : decode cX11_canStand 20 = .ok (.iload_n 1, 1) := by decide +kernel
theorem dX11_canStand_21 : decode cX11_canStand 21 = .ok (.aload_n 0, 1) := by decide +kernel
theorem dX11_canStand_22 : decode cX11_canStand 22 = .ok (.getfield 10, 3) := by decide +kernel
theorem dX11_canStand_25 : decode cX11_canStand 25 = .ok (.getfield 143, 3) := by decide +kernel
theorem dX11_canStand_28 : decode cX11_canStand 28 = .ok (.iconst 2, 1) := by decide +kernel
theorem dX11_canStand_29 : decode cX11_canStand 29 = .ok (.isub, 1) := by decide +kernel
theorem dX11_canStand_30 : decode cX11_canStand 30 = .ok (.if_icmp .gt 7, 3) := by decide +kernel
theorem dX11_canStand_33 : decode cX11_canStand 33 = .ok (.iconst 1, 1) := by decide +kernel
theorem dX11_canStand_34 : decode cX11_canStand 34 = .ok (.goto 4, 3) := by decide +kernel
theorem dX11_canStand_37 : decode cX11_canStand 37 = .ok (.iconst 0, 1) := by decide +kernel
theorem dX11_canStand_38 : decode cX11_canStand 38 = .ok (.ireturn, 1) := by decide +kernel
theorem dX11_clear_0 : decode cX11_clear 0 = .ok (.aload_n 0, 1) := by decide +kernel
theorem dX11_clear_1 : decode cX11_clear 1 = .ok (.getfield 16, 3) := by decide +kernel
theorem dX11_clear_4 : decode cX11_clear 4 = .ok (.iconst 0, 1) := by decide +kernel
theorem dX11_clear_5 : decode cX11_clear 5 = .ok (.invokestatic 348, 3) := by decide +kernel
theorem dX11_clear_8 : decode cX11_clear 8 = .ok (.aload_n 0, 1) := by decide +kernel
theorem dX11_clear_9 : decode cX11_clear 9 = .ok (.getfield 40, 3) := by decide +kernel
theorem dX11_clear_12 : decode cX11_clear 12 = .ok (.iconst 1, 1) := by decide +kernel
theorem dX11_clear_13 : decode cX11_clear 13 = .ok (.aload_n 0, 1) := by decide +kernel
theorem dX11_clear_14 : decode cX11_clear 14 = .ok (.getfield 10, 3) := by decide +kernel
theorem dX11_clear_17 : decode cX11_clear 17 = .ok (.getfield 131, 3) := by decide +kernel
theorem dX11_clear_20 : decode cX11_clear 20 = .ok (.invokevirtual 262, 3) := by decide +kernel
theorem dX11_clear_23 : decode cX11_clear 23 = .ok (.aload_n 0, 1) := by decide +kernel
theorem dX11_clear_24 : decode cX11_clear 24 = .ok (.iconst 0, 1) := by decide +kernel
theorem dX11_clear_25 : decode cX11_clear 25 = .ok (.invokevirtual 274, 3) := by decide +kernel
theorem dX11_clear_28 : decode cX11_clear 28 = .ok (.return_, 1) := by decide +kernel
theorem dX11_choose_0 : decode cX11_choose 0 = .ok (.aload_n 0, 1) := by decide +kernel
theorem dX11_choose_1 : decode cX11_choose 1 = .ok (.getfield 58, 3) := by decide +kernel
theorem dX11_choose_4 : decode cX11_choose 4 = .ok (.aload_n 0, 1) := by decide +kernel
theorem dX11_choose_5 : decode cX11_choose 5 = .ok (.getfield 40, 3) := by decide +kernel
theorem dX11_choose_8 : decode cX11_choose 8 = .ok (.iload_n 1, 1) := by decide +kernel
theorem dX11_choose_9 : decode cX11_choose 9 = .ok (.invokevirtual 354, 3) := by decide +kernel
theorem dX11_choose_12 : decode cX11_choose 12 = .ok (.aload_n 0, 1) := by decide +kernel
theorem dX11_choose_13 : decode cX11_choose 13 = .ok (.getfield 67, 3) := by decide +kernel
theorem dX11_choose_16 : decode cX11_choose 16 = .ok (.iconst 0, 1) := by decide +kernel
theorem dX11_choose_17 : decode cX11_choose 17 = .ok (.putfield 357, 3) := by decide +kernel
theorem dX11_choose_20 : decode cX11_choose 20 = .ok (.aload_n 0, 1) := by decide +kernel
theorem dX11_choose_21 : decode cX11_choose 21 = .ok (.getfield 74, 3) := by decide +kernel
theorem dX11_choose_24 : decode cX11_choose 24 = .ok (.iconst 0, 1) := by decide +kernel
theorem dX11_choose_25 : decode cX11_choose 25 = .ok (.putfield 315, 3) := by decide +kernel
theorem dX11_choose_28 : decode cX11_choose 28 = .ok (.return_, 1) := by decide +kernel
theorem dX11_divisors_0 : decode cX11_divisors 0 = .ok (.iconst 0, 1) := by decide +kernel
theorem dX11_divisors_1 : decode cX11_divisors 1 = .ok (.istore_n 1, 1) := by decide +kernel
theorem dX11_divisors_2 : decode cX11_divisors 2 = .ok (.iconst 1, 1) := by decide +kernel
theorem dX11_divisors_3 : decode cX11_divisors 3 = .ok (.istore_n 2, 1) := by decide +kernel
theorem dX11_divisors_4 : decode cX11_divisors 4 = .ok (.iload_n 2, 1) := by decide +kernel
theorem dX11_divisors_5 : decode cX11_divisors 5 = .ok (.iload_n 0, 1) := by decide +kernel
theorem dX11_divisors_6 : decode cX11_divisors 6 = .ok (.if_icmp .gt 25, 3) := by decide +kernel
theorem dX11_divisors_9 : decode cX11_divisors 9 = .ok (.iload_n 1, 1) := by decide +kernel
theorem dX11_divisors_10 : decode cX11_divisors 10 = .ok (.iload_n 0, 1) := by decide +kernel
theorem dX11_divisors_11 : decode cX11_divisors 11 = .ok (.iload_n 2, 1) := by decide +kernel
theorem dX11_divisors_12 : decode cX11_divisors 12 = .ok (.invokestatic 238, 3) := by decide +kernel
theorem dX11_divisors_15 : decode cX11_divisors 15 = .ok (.ifCond .ne 7, 3) := by decide +kernel
theorem dX11_divisors_18 : decode cX11_divisors 18 = .ok (.iconst 1, 1) := by decide +kernel
theorem dX11_divisors_19 : decode cX11_divisors 19 = .ok (.goto 4, 3) := by decide +kernel
theorem dX11_divisors_22 : decode cX11_divisors 22 = .ok (.iconst 0, 1) := by decide +kernel
theorem dX11_divisors_23 : decode cX11_divisors 23 = .ok (.iadd, 1) := by decide +kernel
theorem dX11_divisors_24 : decode cX11_divisors 24 = .ok (.istore_n 1, 1) := by decide +kernel
theorem dX11_divisors_25 : decode cX11_divisors 25 = .ok (.iinc 2 1, 3) := by decide +kernel
theorem dX11_divisors_28 : decode cX11_divisors 28 = .ok (.goto (-24), 3) := by decide +kernel
theorem dX11_divisors_31 : decode cX11_divisors 31 = .ok (.iload_n 1, 1) := by decide +kernel
theorem dX11_divisors_32 : decode cX11_divisors 32 = .ok (.ireturn, 1) := by decide +kernel
theorem dX12_thrown_0 : decode cX12_thrown 0 = .ok (.aload_n 0, 1) := by decide +kernel
theorem dX12_thrown_1 : decode cX12_thrown 1 = .ok (.getfield 1, 3) := by decide +kernel
theorem dX12_thrown_4 : decode cX12_thrown 4 = .ok (.ireturn, 1) := by decide +kernel
theorem dX12_right_0 : decode cX12_right 0 = .ok (.aload_n 0, 1) := by decide +kernel
theorem dX12_right_1 : decode cX12_right 1 = .ok (.getfield 1, 3) := by decide +kernel
theorem dX12_right_4 : decode cX12_right 4 = .ok (.ifCond .ne 12, 3) := by decide +kernel
theorem dX12_right_7 : decode cX12_right 7 = .ok (.iload_n 1, 1) := by decide +kernel
theorem dX12_right_8 : decode cX12_right 8 = .ok (.ifCond .ne 8, 3) := by decide +kernel
theorem dX12_right_11 : decode cX12_right 11 = .ok (.aload_n 0, 1) := by decide +kernel
theorem dX12_right_12 : decode cX12_right 12 = .ok (.iload_n 2, 1) := by decide +kernel
theorem dX12_right_13 : decode cX12_right 13 = .ok (.putfield 1, 3) := by decide +kernel
theorem dX12_right_16 : decode cX12_right 16 = .ok (.aload_n 0, 1) := by decide +kernel
theorem dX12_right_17 : decode cX12_right 17 = .ok (.getfield 1, 3) := by decide +kernel
theorem dX12_right_20 : decode cX12_right 20 = .ok (.ifCond .ne 7, 3) := by decide +kernel
theorem dX12_right_23 : decode cX12_right 23 = .ok (.iconst 1, 1) := by decide +kernel
theorem dX12_right_24 : decode cX12_right 24 = .ok (.goto 4, 3) := by decide +kernel
theorem dX12_right_27 : decode cX12_right 27 = .ok (.iconst 0, 1) := by decide +kernel
theorem dX12_right_28 : decode cX12_right 28 = .ok (.ireturn, 1) := by decide +kernel
theorem dX12_isIn_0 : decode cX12_isIn 0 = .ok (.lload_n 0, 1) := by decide +kernel
theorem dX12_isIn_1 : decode cX12_isIn 1 = .ok (.lload_n 2, 1) := by decide +kernel
theorem dX12_isIn_2 : decode cX12_isIn 2 = .ok (.lcmp, 1) := by decide +kernel
theorem dX12_isIn_3 : decode cX12_isIn 3 = .ok (.ifCond .lt 14, 3) := by decide +kernel
theorem dX12_isIn_6 : decode cX12_isIn 6 = .ok (.lload_n 0, 1) := by decide +kernel
theorem dX12_isIn_7 : decode cX12_isIn 7 = .ok (.lload 4, 2) := by decide +kernel
theorem dX12_isIn_9 : decode cX12_isIn 9 = .ok (.lcmp, 1) := by decide +kernel
theorem dX12_isIn_10 : decode cX12_isIn 10 = .ok (.ifCond .gt 7, 3) := by decide +kernel
theorem dX12_isIn_13 : decode cX12_isIn 13 = .ok (.iconst 1, 1) := by decide +kernel
theorem dX12_isIn_14 : decode cX12_isIn 14 = .ok (.goto 4, 3) := by decide +kernel
theorem dX12_isIn_17 : decode cX12_isIn 17 = .ok (.iconst 0, 1) := by decide +kernel
theorem dX12_isIn_18 : decode cX12_isIn 18 = .ok (.ireturn, 1) := by decide +kernel
theorem dX12_init_0 : decode cX12_init 0 = .ok (.aload_n 0, 1) := by decide +kernel
theorem dX12_init_1 : decode cX12_init 1 = .ok (.invokespecial 7, 3) := by decide +kernel
theorem dX12_init_4 : decode cX12_init 4 = .ok (.aload_n 0, 1) := by decide +kernel
theorem dX12_init_5 : decode cX12_init 5 = .ok (.iconst 2, 1) := by decide +kernel
theorem dX12_init_6 : decode cX12_init 6 = .ok (.putfield 13, 3) := by decide +kernel
theorem dX12_init_9 : decode cX12_init 9 = .ok (.aload_n 0, 1) := by decide +kernel
theorem dX12_init_10 : decode cX12_init 10 = .ok (.iconst 1, 1) := by decide +kernel
theorem dX12_init_11 : decode cX12_init 11 = .ok (.putfield 16, 3) := by decide +kernel
theorem dX12_init_14 : decode cX12_init 14 = .ok (.aload_n 0, 1) := by decide +kernel
theorem dX12_init_15 : decode cX12_init 15 = .ok (.iconst 1, 1) := by decide +kernel
theorem dX12_init_16 : decode cX12_init 16 = .ok (.putfield 19, 3) := by decide +kernel
theorem dX12_init_19 : decode cX12_init 19 = .ok (.aload_n 0, 1) := by decide +kernel
theorem dX12_init_20 : decode cX12_init 20 = .ok (.iconst 2, 1) := by decide +kernel
theorem dX12_init_21 : decode cX12_init 21 = .ok (.putfield 22, 3) := by decide +kernel
theorem dX12_init_24 : decode cX12_init 24 = .ok (.aload_n 0, 1) := by decide +kernel
theorem dX12_init_25 : decode cX12_init 25 = .ok (.iconst 2, 1) := by decide +kernel
theorem dX12_init_26 : decode cX12_init 26 = .ok (.putfield 25, 3) := by decide +kernel
theorem dX12_init_29 : decode cX12_init 29 = .ok (.aload_n 0, 1) := by decide +kernel
theorem dX12_init_30 : decode cX12_init 30 = .ok (.iconst 2, 1) := by decide +kernel
theorem dX12_init_31 : decode cX12_init 31 = .ok (.putfield 28, 3) := by decide +kernel
theorem dX12_init_34 : decode cX12_init 34 = .ok (.aload_n 0, 1) := by decide +kernel
theorem dX12_init_35 : decode cX12_init 35 = .ok (.bipush 7, 2) := by decide +kernel
theorem dX12_init_37 : decode cX12_init 37 = .ok (.newarray .int, 2) := by decide +kernel
theorem dX12_init_39 : decode cX12_init 39 = .ok (.putfield 31, 3) := by decide +kernel
theorem dX12_init_42 : decode cX12_init 42 = .ok (.aload_n 0, 1) := by decide +kernel
theorem dX12_init_43 : decode cX12_init 43 = .ok (.sipush 4096, 3) := by decide +kernel
theorem dX12_init_46 : decode cX12_init 46 = .ok (.newarray .int, 2) := by decide +kernel
theorem dX12_init_48 : decode cX12_init 48 = .ok (.putfield 35, 3) := by decide +kernel
theorem dX12_init_51 : decode cX12_init 51 = .ok (.aload_n 0, 1) := by decide +kernel
theorem dX12_init_52 : decode cX12_init 52 = .ok (.sipush 4096, 3) := by decide +kernel
theorem dX12_init_55 : decode cX12_init 55 = .ok (.newarray .int, 2) := by decide +kernel
theorem dX12_init_57 : decode cX12_init 57 = .ok (.putfield 38, 3) := by decide +kernel
theorem dX12_init_60 : decode cX12_init 60 = .ok (.aload_n 0, 1) := by decide +kernel
theorem dX12_init_61 : decode cX12_init 61 = .ok (.sipush 4096, 3) := by decide +kernel
theorem dX12_init_64 : decode cX12_init 64 = .ok (.newarray .int, 2) := by decide +kernel
theorem dX12_init_66 : decode cX12_init 66 = .ok (.putfield 41, 3) := by decide +kernel
theorem dX12_init_69 : decode cX12_init 69 = .ok (.aload_n 0, 1) := by decide +kernel
theorem dX12_init_70 : decode cX12_init 70 = .ok (.bipush 8, 2) := by decide +kernel
theorem dX12_init_72 : decode cX12_init 72 = .ok (.newarray .int, 2) := by decide +kernel
theorem dX12_init_74 : decode cX12_init 74 = .ok (.putfield 44, 3) := by decide +kernel
theorem dX12_init_77 : decode cX12_init 77 = .ok (.aload_n 0, 1) := by decide +kernel
theorem dX12_init_78 : decode cX12_init 78 = .ok (.bipush 8, 2) := by decide +kernel
theorem dX12_init_80 : decode cX12_init 80 = .ok (.newarray .int, 2) := by decide +kernel
theorem dX12_init_82 : decode cX12_init 82 = .ok (.putfield 47, 3) := by decide +kernel
theorem dX12_init_85 : decode cX12_init 85 = .ok (.aload_n 0, 1) := by decide +kernel
theorem dX12_init_86 : decode cX12_init 86 = .ok (.bipush 6, 2) := by decide +kernel
theorem dX12_init_88 : decode cX12_init 88 = .ok (.newarray .int, 2) := by decide +kernel
theorem dX12_init_90 : decode cX12_init 90 = .ok (.putfield 50, 3) := by decide +kernel
theorem dX12_init_93 : decode cX12_init 93 = .ok (.aload_n 0, 1) := by decide +kernel
theorem dX12_init_94 : decode cX12_init 94 = .ok (.bipush 6, 2) := by decide +kernel
theorem dX12_init_96 : decode cX12_init 96 = .ok (.newarray .int, 2) := by decide +kernel
theorem dX12_init_98 : decode cX12_init 98 = .ok (.putfield 53, 3) := by decide +kernel
theorem dX12_init_101 : decode cX12_init 101 = .ok (.aload_n 0, 1) := by decide +kernel
theorem dX12_init_102 : decode cX12_init 102 = .ok (.bipush 12, 2) := by decide +kernel
theorem dX12_init_104 : decode cX12_init 104 = .ok (.newarray .int, 2) := by decide +kernel
theorem dX12_init_106 : decode cX12_init 106 = .ok (.putfield 56, 3) := by decide +kernel
theorem dX12_init_109 : decode cX12_init 109 = .ok (.aload_n 0, 1) := by decide +kernel
theorem dX12_init_110 : decode cX12_init 110 = .ok (.iconst 4, 1) := by decide +kernel
theorem dX12_init_111 : decode cX12_init 111 = .ok (.newarray .int, 2) := by decide +kernel
theorem dX12_init_113 : decode cX12_init 113 = .ok (.putfield 59, 3) := by decide +kernel
theorem dX12_init_116 : decode cX12_init 116 = .ok (.aload_n 0, 1) := by decide +kernel
theorem dX12_init_117 : decode cX12_init 117 = .ok (.sipush 200, 3) := by decide +kernel
theorem dX12_init_120 : decode cX12_init 120 = .ok (.newarray .byte, 2) := by decide +kernel
theorem dX12_init_122 : decode cX12_init 122 = .ok (.putfield 62, 3) := by decide +kernel
theorem dX12_init_125 : decode cX12_init 125 = .ok (.aload_n 0, 1) := by decide +kernel
theorem dX12_init_126 : decode cX12_init 126 = .ok (.iconst (-1), 1) := by decide +kernel
theorem dX12_init_127 : decode cX12_init 127 = .ok (.putfield 66, 3) := by decide +kernel
theorem dX12_init_130 : decode cX12_init 130 = .ok (.aload_n 0, 1) := by decide +kernel
theorem dX12_init_131 : decode cX12_init 131 = .ok (.iconst 1, 1) := by decide +kernel
theorem dX12_init_132 : decode cX12_init 132 = .ok (.putfield 69, 3) := by decide +kernel
theorem dX12_init_135 : decode cX12_init 135 = .ok (.aload_n 0, 1) := by decide +kernel
theorem dX12_init_136 : decode cX12_init 136 = .ok (.bipush 65, 2) := by decide +kernel
theorem dX12_init_138 : decode cX12_init 138 = .ok (.newarray .int, 2) := by decide +kernel
theorem dX12_init_140 : decode cX12_init 140 = .ok (.putfield 72, 3) := by decide +kernel
theorem dX12_init_143 : decode cX12_init 143 = .ok (.aload_n 0, 1) := by decide +kernel
theorem dX12_init_144 : decode cX12_init 144 = .ok (.bipush 65, 2) := by decide +kernel
theorem dX12_init_146 : decode cX12_init 146 = .ok (.newarray .int, 2) := by decide +kernel
theorem dX12_init_148 : decode cX12_init 148 = .ok (.putfield 75, 3) := by decide +kernel
theorem dX12_init_151 : decode cX12_init 151 = .ok (.aload_n 0, 1) := by decide +kernel
theorem dX12_init_152 : decode cX12_init 152 = .ok (.sipush 1088, 3) := by decide +kernel
theorem dX12_init_155 : decode cX12_init 155 = .ok (.newarray .int, 2) := by decide +kernel
theorem dX12_init_157 : decode cX12_init 157 = .ok (.putfield 78, 3) := by decide +kernel
theorem dX12_init_160 : decode cX12_init 160 = .ok (.aload_n 0, 1) := by decide +kernel
theorem dX12_init_161 : decode cX12_init 161 = .ok (.bipush 64, 2) := by decide +kernel
theorem dX12_init_163 : decode cX12_init 163 = .ok (.newarray .int, 2) := by decide +kernel
theorem dX12_init_165 : decode cX12_init 165 = .ok (.putfield 81, 3) := by decide +kernel
theorem dX12_init_168 : decode cX12_init 168 = .ok (.aload_n 0, 1) := by decide +kernel
theorem dX12_init_169 : decode cX12_init 169 = .ok (.sipush 8192, 3) := by decide +kernel
theorem dX12_init_172 : decode cX12_init 172 = .ok (.newarray .int, 2) := by decide +kernel
theorem dX12_init_174 : decode cX12_init 174 = .ok (.putfield 84, 3) := by decide +kernel
theorem dX12_init_177 : decode cX12_init 177 = .ok (.aload_n 0, 1) := by decide +kernel
theorem dX12_init_178 : decode cX12_init 178 = .ok (.bipush 64, 2) := by decide +kernel
theorem dX12_init_180 : decode cX12_init 180 = .ok (.newarray .int, 2) := by decide +kernel
theorem dX12_init_182 : decode cX12_init 182 = .ok (.putfield 87, 3) := by decide +kernel
theorem dX12_init_185 : decode cX12_init 185 = .ok (.aload_n 0, 1) := by decide +kernel
theorem dX12_init_186 : decode cX12_init 186 = .ok (.bipush 64, 2) := by decide +kernel
theorem dX12_init_188 : decode cX12_init 188 = .ok (.newarray .int, 2) := by decide +kernel
theorem dX12_init_190 : decode cX12_init 190 = .ok (.putfield 90, 3) := by decide +kernel
theorem dX12_init_193 : decode cX12_init 193 = .ok (.aload_n 0, 1) := by decide +kernel
theorem dX12_init_194 : decode cX12_init 194 = .ok (.bipush 64, 2) := by decide +kernel
theorem dX12_init_196 : decode cX12_init 196 = .ok (.newarray .int, 2) := by decide +kernel
theorem dX12_init_198 : decode cX12_init 198 = .ok (.putfield 93, 3) := by decide +kernel
theorem dX12_init_201 : decode cX12_init 201 = .ok (.aload_n 0, 1) := by decide +kernel
theorem dX12_init_202 : decode cX12_init 202 = .ok (.bipush 64, 2) := by decide +kernel
theorem dX12_init_204 : decode cX12_init 204 = .ok (.newarray .int, 2) := by decide +kernel
theorem dX12_init_206 : decode cX12_init 206 = .ok (.putfield 96, 3) := by decide +kernel
theorem dX12_init_209 : decode cX12_init 209 = .ok (.aload_n 0, 1) := by decide +kernel
theorem dX12_init_210 : decode cX12_init 210 = .ok (.sipush 128, 3) := by decide +kernel
theorem dX12_init_213 : decode cX12_init 213 = .ok (.newarray .byte, 2) := by decide +kernel
theorem dX12_init_215 : decode cX12_init 215 = .ok (.putfield 99, 3) := by decide +kernel
theorem dX12_init_218 : decode cX12_init 218 = .ok (.aload_n 0, 1) := by decide +kernel
theorem dX12_init_219 : decode cX12_init 219 = .ok (.bipush 6, 2) := by decide +kernel
theorem dX12_init_221 : decode cX12_init 221 = .ok (.newarray .int, 2) := by decide +kernel
theorem dX12_init_223 : decode cX12_init 223 = .ok (.putfield 102, 3) := by decide +kernel
theorem dX12_init_226 : decode cX12_init 226 = .ok (.aload_n 0, 1) := by decide +kernel
theorem dX12_init_227 : decode cX12_init 227 = .ok (.iconst 2, 1) := by decide +kernel
theorem dX12_init_228 : decode cX12_init 228 = .ok (.iconst 1, 1) := by decide +kernel
theorem dX12_init_229 : decode cX12_init 229 = .ok (.iconst 1, 1) := by decide +kernel
theorem dX12_init_230 : decode cX12_init 230 = .ok (.invokevirtual 105, 3) := by decide +kernel
theorem dX12_init_233 : decode cX12_init 233 = .ok (.return_, 1) := by decide +kernel
theorem dX12_power_0 : decode cX12_power 0 = .ok (.iconst 1, 1) := by decide +kernel
theorem dX12_power_1 : decode cX12_power 1 = .ok (.istore_n 2, 1) := by decide +kernel
theorem dX12_power_2 : decode cX12_power 2 = .ok (.iconst 0, 1) := by decide +kernel
theorem dX12_power_3 : decode cX12_power 3 = .ok (.istore_n 3, 1) := by decide +kernel
theorem dX12_power_4 : decode cX12_power 4 = .ok (.iload_n 3, 1) := by decide +kernel
theorem dX12_power_5 : decode cX12_power 5 = .ok (.iload_n 1, 1) := by decide +kernel
theorem dX12_power_6 : decode cX12_power 6 = .ok (.if_icmp .ge 13, 3) := by decide +kernel
theorem dX12_power_9 : decode cX12_power 9 = .ok (.iload_n 2, 1) := by decide +kernel
theorem dX12_power_10 : decode cX12_power 10 = .ok (.iload_n 0, 1) := by decide +kernel
theorem dX12_power_11 : decode cX12_power 11 = .ok (.imul, 1) := by decide +kernel
theorem dX12_power_12 : decode cX12_power 12 = .ok (.istore_n 2, 1) := by decide +kernel
theorem dX12_power_13 : decode cX12_power 13 = .ok (.iinc 3 1, 3) := by decide +kernel
theorem dX12_power_16 : decode cX12_power 16 = .ok (.goto (-12), 3) := by decide +kernel
theorem dX12_power_19 : decode cX12_power 19 = .ok (.iload_n 2, 1) := by decide +kernel
theorem dX12_power_20 : decode cX12_power 20 = .ok (.ireturn, 1) := by decide +kernel
theorem dX12_isDivided_0 : decode cX12_isDivided 0 = .ok (.iload_n 1, 1) := by decide +kernel
theorem dX12_isDivided_1 : decode cX12_isDivided 1 = .ok (.istore 4, 2) := by decide +kernel
theorem dX12_isDivided_3 : decode cX12_isDivided 3 = .ok (.iconst 0, 1) := by decide +kernel
theorem dX12_isDivided_4 : decode cX12_isDivided 4 = .ok (.istore 5, 2) := by decide +kernel
theorem dX12_isDivided_6 : decode cX12_isDivided 6 = .ok (.iload 5, 2) := by decide +kernel
theorem dX12_isDivided_8 : decode cX12_isDivided 8 = .ok (.aload_n 0, 1) := by decide +kernel
theorem dX12_isDivided_9 : decode cX12_isDivided 9 = .ok (.getfield 19, 3) := by decide +kernel
theorem dX12_isDivided_12 : decode cX12_isDivided 12 = .ok (.if_icmp .ge 32, 3) := by decide +kernel
theorem dX12_isDivided_15 : decode cX12_isDivided 15 = .ok (.aload_n 0, 1) := by decide +kernel
theorem dX12_isDivided_16 : decode cX12_isDivided 16 = .ok (.getfield 47, 3) := by decide +kernel
theorem dX12_isDivided_19 : decode cX12_isDivided 19 = .ok (.iload 5, 2) := by decide +kernel
theorem dX12_isDivided_21 : decode cX12_isDivided 21 = .ok (.iload 4, 2) := by decide +kernel
theorem dX12_isDivided_23 : decode cX12_isDivided 23 = .ok (.aload_n 0, 1) := by decide +kernel
theorem dX12_isDivided_24 : decode cX12_isDivided 24 = .ok (.getfield 13, 3) := by decide +kernel
theorem dX12_isDivided_27 : decode cX12_isDivided 27 = .ok (.irem, 1) := by decide +kernel
theorem dX12_isDivided_28 : decode cX12_isDivided 28 = .ok (.iastore, 1) := by decide +kernel
theorem dX12_isDivided_29 : decode cX12_isDivided 29 = .ok (.iload 4, 2) := by decide +kernel
theorem dX12_isDivided_31 : decode cX12_isDivided 31 = .ok (.aload_n 0, 1) := by decide +kernel
theorem dX12_isDivided_32 : decode cX12_isDivided 32 = .ok (.getfield 13, 3) := by decide +kernel
theorem dX12_isDivided_35 : decode cX12_isDivided 35 = .ok (.idiv, 1) := by decide +kernel
theorem dX12_isDivided_36 : decode cX12_isDivided 36 = .ok (.istore 4, 2) := by decide +kernel
theorem dX12_isDivided_38 : decode cX12_isDivided 38 = .ok (.iinc 5 1, 3) := by decide +kernel
theorem dX12_isDivided_41 : decode cX12_isDivided 41 = .ok (.goto (-35), 3) := by decide +kernel
theorem dX12_isDivided_44 : decode cX12_isDivided 44 = .ok (.aload_n 0, 1) := by decide +kernel
theorem dX12_isDivided_45 : decode cX12_isDivided 45 = .ok (.getfield 47, 3) := by decide +kernel
theorem dX12_isDivided_48 : decode cX12_isDivided 48 = .ok (.aload_n 0, 1) := by decide +kernel
theorem dX12_isDivided_49 : decode cX12_isDivided 49 = .ok (.getfield 19, 3) := by decide +kernel
theorem dX12_isDivided_52 : decode cX12_isDivided 52 = .ok (.iconst 1, 1) := by decide +kernel
theorem dX12_isDivided_53 : decode cX12_isDivided 53 = .ok (.iastore, 1) := by decide +kernel
theorem dX12_isDivided_54 : decode cX12_isDivided 54 = .ok (.aload_n 0, 1) := by decide +kernel
theorem dX12_isDivided_55 : decode cX12_isDivided 55 = .ok (.getfield 19, 3) := by decide +kernel
theorem dX12_isDivided_58 : decode cX12_isDivided 58 = .ok (.istore 5, 2) := by decide +kernel
theorem dX12_isDivided_60 : decode cX12_isDivided 60 = .ok (.iload 5, 2) := by decide +kernel
theorem dX12_isDivided_62 : decode cX12_isDivided 62 = .ok (.iload_n 2, 1) := by decide +kernel
theorem dX12_isDivided_63 : decode cX12_isDivided 63 = .ok (.if_icmp .lt 95, 3) := by decide +kernel
theorem dX12_isDivided_66 : decode cX12_isDivided 66 = .ok (.aload_n 0, 1) := by decide +kernel
theorem dX12_isDivided_67 : decode cX12_isDivided 67 = .ok (.getfield 47, 3) := by decide +kernel
theorem dX12_isDivided_70 : decode cX12_isDivided 70 = .ok (.iload 5, 2) := by decide +kernel
theorem dX12_isDivided_72 : decode cX12_isDivided 72 = .ok (.iaload, 1) := by decide +kernel
theorem dX12_isDivided_73 : decode cX12_isDivided 73 = .ok (.istore 6, 2) := by decide +kernel
theorem dX12_isDivided_75 : decode cX12_isDivided 75 = .ok (.iload_n 3, 1) := by decide +kernel
theorem dX12_isDivided_76 : decode cX12_isDivided 76 = .ok (.istore 7, 2) := by decide +kernel
theorem dX12_isDivided_78 : decode cX12_isDivided 78 = .ok (.iconst 0, 1) := by decide +kernel
theorem dX12_isDivided_79 : decode cX12_isDivided 79 = .ok (.istore 8, 2) := by decide +kernel
theorem dX12_isDivided_81 : decode cX12_isDivided 81 = .ok (.iload 8, 2) := by decide +kernel
theorem dX12_isDivided_83 : decode cX12_isDivided 83 = .ok (.iload_n 2, 1) := by decide +kernel
theorem dX12_isDivided_84 : decode cX12_isDivided 84 = .ok (.if_icmp .ge 60, 3) := by decide +kernel
theorem dX12_isDivided_87 : decode cX12_isDivided 87 = .ok (.aload_n 0, 1) := by decide +kernel
theorem dX12_isDivided_88 : decode cX12_isDivided 88 = .ok (.getfield 47, 3) := by decide +kernel
theorem dX12_isDivided_91 : decode cX12_isDivided 91 = .ok (.iload 5, 2) := by decide +kernel
theorem dX12_isDivided_93 : decode cX12_isDivided 93 = .ok (.iload_n 2, 1) := by decide +kernel
theorem dX12_isDivided_94 : decode cX12_isDivided 94 = .ok (.isub, 1) := by decide +kernel
theorem dX12_isDivided_95 : decode cX12_isDivided 95 = .ok (.iload 8, 2) := by decide +kernel
theorem dX12_isDivided_97 : decode cX12_isDivided 97 = .ok (.iadd, 1) := by decide +kernel
theorem dX12_isDivided_98 : decode cX12_isDivided 98 = .ok (.aload_n 0, 1) := by decide +kernel
theorem dX12_isDivided_99 : decode cX12_isDivided 99 = .ok (.getfield 47, 3) := by decide +kernel
theorem dX12_isDivided_102 : decode cX12_isDivided 102 = .ok (.iload 5, 2) := by decide +kernel
theorem dX12_isDivided_104 : decode cX12_isDivided 104 = .ok (.iload_n 2, 1) := by decide +kernel
theorem dX12_isDivided_105 : decode cX12_isDivided 105 = .ok (.isub, 1) := by decide +kernel
theorem dX12_isDivided_106 : decode cX12_isDivided 106 = .ok (.iload 8, 2) := by decide +kernel
theorem dX12_isDivided_108 : decode cX12_isDivided 108 = .ok (.iadd, 1) := by decide +kernel
theorem dX12_isDivided_109 : decode cX12_isDivided 109 = .ok (.iaload, 1) := by decide +kernel
theorem dX12_isDivided_110 : decode cX12_isDivided 110 = .ok (.iload 6, 2) := by decide +kernel
theorem dX12_isDivided_112 : decode cX12_isDivided 112 = .ok (.iload 7, 2) := by decide +kernel
theorem dX12_isDivided_114 : decode cX12_isDivided 114 = .ok (.aload_n 0, 1) := by decide +kernel
theorem dX12_isDivided_115 : decode cX12_isDivided 115 = .ok (.getfield 13, 3) := by decide +kernel
theorem dX12_isDivided_118 : decode cX12_isDivided 118 = .ok (.irem, 1) := by decide +kernel
theorem dX12_isDivided_119 : decode cX12_isDivided 119 = .ok (.imul, 1) := by decide +kernel
theorem dX12_isDivided_120 : decode cX12_isDivided 120 = .ok (.isub, 1) := by decide +kernel
theorem dX12_isDivided_121 : decode cX12_isDivided 121 = .ok (.aload_n 0, 1) := by decide +kernel
theorem dX12_isDivided_122 : decode cX12_isDivided 122 = .ok (.getfield 13, 3) := by decide +kernel
theorem dX12_isDivided_125 : decode cX12_isDivided 125 = .ok (.invokestatic 109, 3) := by decide +kernel
theorem dX12_isDivided_128 : decode cX12_isDivided 128 = .ok (.iastore, 1) := by decide +kernel
theorem dX12_isDivided_129 : decode cX12_isDivided 129 = .ok (.iload 7, 2) := by decide +kernel
theorem dX12_isDivided_131 : decode cX12_isDivided 131 = .ok (.aload_n 0, 1) := by decide +kernel
theorem dX12_isDivided_132 : decode cX12_isDivided 132 = .ok (.getfield 13, 3) := by decide +kernel
theorem dX12_isDivided_135 : decode cX12_isDivided 135 = .ok (.idiv, 1) := by decide +kernel
theorem dX12_isDivided_136 : decode cX12_isDivided 136 = .ok (.istore 7, 2) := by decide +kernel
theorem dX12_isDivided_138 : decode cX12_isDivided 138 = .ok (.iinc 8 1, 3) := by decide +kernel
theorem dX12_isDivided_141 : decode cX12_isDivided 141 = .ok (.goto (-60), 3) := by decide +kernel
theorem dX12_isDivided_144 : decode cX12_isDivided 144 = .ok (.aload_n 0, 1) := by decide +kernel
theorem dX12_isDivided_145 : decode cX12_isDivided 145 = .ok (.getfield 47, 3) := by decide +kernel
theorem dX12_isDivided_148 : decode cX12_isDivided 148 = .ok (.iload 5, 2) := by decide +kernel
theorem dX12_isDivided_150 : decode cX12_isDivided 150 = .ok (.iconst 0, 1) := by decide +kernel
theorem dX12_isDivided_151 : decode cX12_isDivided 151 = .ok (.iastore, 1) := by decide +kernel
theorem dX12_isDivided_152 : decode cX12_isDivided 152 = .ok (.iinc 5 (-1), 3) := by decide +kernel
theorem dX12_isDivided_155 : decode cX12_isDivided 155 = .ok (.goto (-95), 3) := by decide +kernel
theorem dX12_isDivided_158 : decode cX12_isDivided 158 = .ok (.iconst 0, 1) := by decide +kernel
theorem dX12_isDivided_159 : decode cX12_isDivided 159 = .ok (.istore 5, 2) := by decide +kernel
theorem dX12_isDivided_161 : decode cX12_isDivided 161 = .ok (.iload 5, 2) := by decide +kernel
theorem dX12_isDivided_163 : decode cX12_isDivided 163 = .ok (.iload_n 2, 1) := by decide +kernel
theorem dX12_isDivided_164 : decode cX12_isDivided 164 = .ok (.if_icmp .ge 21, 3) := by decide +kernel
theorem dX12_isDivided_167 : decode cX12_isDivided 167 = .ok (.aload_n 0, 1) := by decide +kernel
theorem dX12_isDivided_168 : decode cX12_isDivided 168 = .ok (.getfield 47, 3) := by decide +kernel
theorem dX12_isDivided_171 : decode cX12_isDivided 171 = .ok (.iload 5, 2) := by decide +kernel
theorem dX12_isDivided_173 : decode cX12_isDivided 173 = .ok (.iaload, 1) := by decide +kernel
theorem dX12_isDivided_174 : decode cX12_isDivided 174 = .ok (.ifCond .eq 5, 3) := by decide +kernel
theorem dX12_isDivided_177 : decode cX12_isDivided 177 = .ok (.iconst 0, 1) := by decide +kernel
theorem dX12_isDivided_178 : decode cX12_isDivided 178 = .ok (.ireturn, 1) := by decide +kernel
theorem dX12_isDivided_179 : decode cX12_isDivided 179 = .ok (.iinc 5 1, 3) := by decide +kernel
theorem dX12_isDivided_182 : decode cX12_isDivided 182 = .ok (.goto (-21), 3) := by decide +kernel
theorem dX12_isDivided_185 : decode cX12_isDivided 185 = .ok (.iconst 1, 1) := by decide +kernel
theorem dX12_isDivided_186 : decode cX12_isDivided 186 = .ok (.ireturn, 1) := by decide +kernel
theorem dX12_isPrime_0 : decode cX12_isPrime 0 = .ok (.iconst 1, 1) := by decide +kernel
theorem dX12_isPrime_1 : decode cX12_isPrime 1 = .ok (.istore_n 2, 1) := by decide +kernel
theorem dX12_isPrime_2 : decode cX12_isPrime 2 = .ok (.iconst 2, 1) := by decide +kernel
theorem dX12_isPrime_3 : decode cX12_isPrime 3 = .ok (.iload_n 2, 1) := by decide +kernel
theorem dX12_isPrime_4 : decode cX12_isPrime 4 = .ok (.imul, 1) := by decide +kernel
theorem dX12_isPrime_5 : decode cX12_isPrime 5 = .ok (.aload_n 0, 1) := by decide +kernel
theorem dX12_isPrime_6 : decode cX12_isPrime 6 = .ok (.getfield 19, 3) := by decide +kernel
theorem dX12_isPrime_9 : decode cX12_isPrime 9 = .ok (.if_icmp .gt 41, 3) := by decide +kernel
theorem dX12_isPrime_12 : decode cX12_isPrime 12 = .ok (.iconst 0, 1) := by decide +kernel
theorem dX12_isPrime_13 : decode cX12_isPrime 13 = .ok (.istore_n 3, 1) := by decide +kernel
theorem dX12_isPrime_14 : decode cX12_isPrime 14 = .ok (.iload_n 3, 1) := by decide +kernel
theorem dX12_isPrime_15 : decode cX12_isPrime 15 = .ok (.aload_n 0, 1) := by decide +kernel
theorem dX12_isPrime_16 : decode cX12_isPrime 16 = .ok (.getfield 13, 3) := by decide +kernel
theorem dX12_isPrime_19 : decode cX12_isPrime 19 = .ok (.iload_n 2, 1) := by decide +kernel
theorem dX12_isPrime_20 : decode cX12_isPrime 20 = .ok (.invokestatic 115, 3) := by decide +kernel
theorem dX12_isPrime_23 : decode cX12_isPrime 23 = .ok (.if_icmp .ge 21, 3) := by decide +kernel
theorem dX12_isPrime_26 : decode cX12_isPrime 26 = .ok (.aload_n 0, 1) := by decide +kernel
theorem dX12_isPrime_27 : decode cX12_isPrime 27 = .ok (.iload_n 1, 1) := by decide +kernel
theorem dX12_isPrime_28 : decode cX12_isPrime 28 = .ok (.iload_n 2, 1) := by decide +kernel
theorem dX12_isPrime_29 : decode cX12_isPrime 29 = .ok (.iload_n 3, 1) := by decide +kernel
theorem dX12_isPrime_30 : decode cX12_isPrime 30 = .ok (.invokevirtual 118, 3) := by decide +kernel
theorem dX12_isPrime_33 : decode cX12_isPrime 33 = .ok (.ifCond .eq 5, 3) := by decide +kernel
theorem dX12_isPrime_36 : decode cX12_isPrime 36 = .ok (.iconst 0, 1) := by decide +kernel
theorem dX12_isPrime_37 : decode cX12_isPrime 37 = .ok (.ireturn, 1) := by decide +kernel
theorem dX12_isPrime_38 : decode cX12_isPrime 38 = .ok (.iinc 3 1, 3) := by decide +kernel
theorem dX12_isPrime_41 : decode cX12_isPrime 41 = .ok (.goto (-27), 3) := by decide +kernel
theorem dX12_isPrime_44 : decode cX12_isPrime 44 = .ok (.iinc 2 1, 3) := by decide +kernel
theorem dX12_isPrime_47 : decode cX12_isPrime 47 = .ok (.goto (-45), 3) := by decide +kernel
theorem dX12_isPrime_50 : decode cX12_isPrime 50 = .ok (.iconst 1, 1) := by decide +kernel
theorem dX12_isPrime_51 : decode cX12_isPrime 51 = .ok (.ireturn, 1) := by decide +kernel
theorem dX12_lays_0 : decode cX12_lays 0 = .ok (.iload_n 2, 1) := by decide +kernel
theorem dX12_lays_1 : decode cX12_lays 1 = .ok (.istore_n 3, 1) := by decide +kernel
theorem dX12_lays_2 : decode cX12_lays 2 = .ok (.iconst 0, 1) := by decide +kernel
theorem dX12_lays_3 : decode cX12_lays 3 = .ok (.istore 4, 2) := by decide +kernel
theorem dX12_lays_5 : decode cX12_lays 5 = .ok (.iload 4, 2) := by decide +kernel
theorem dX12_lays_7 : decode cX12_lays 7 = .ok (.aload_n 0, 1) := by decide +kernel
theorem dX12_lays_8 : decode cX12_lays 8 = .ok (.getfield 19, 3) := by decide +kernel
theorem dX12_lays_11 : decode cX12_lays 11 = .ok (.if_icmp .ge 26, 3) := by decide +kernel
theorem dX12_lays_14 : decode cX12_lays 14 = .ok (.aload_n 1, 1) := by decide +kernel
theorem dX12_lays_15 : decode cX12_lays 15 = .ok (.iload 4, 2) := by decide +kernel
theorem dX12_lays_17 : decode cX12_lays 17 = .ok (.iload_n 3, 1) := by decide +kernel
theorem dX12_lays_18 : decode cX12_lays 18 = .ok (.aload_n 0, 1) := by decide +kernel
theorem dX12_lays_19 : decode cX12_lays 19 = .ok (.getfield 22, 3) := by decide +kernel
theorem dX12_lays_22 : decode cX12_lays 22 = .ok (.irem, 1) := by decide +kernel
theorem dX12_lays_23 : decode cX12_lays 23 = .ok (.iastore, 1) := by decide +kernel
theorem dX12_lays_24 : decode cX12_lays 24 = .ok (.iload_n 3, 1) := by decide +kernel
theorem dX12_lays_25 : decode cX12_lays 25 = .ok (.aload_n 0, 1) := by decide +kernel
theorem dX12_lays_26 : decode cX12_lays 26 = .ok (.getfield 22, 3) := by decide +kernel
theorem dX12_lays_29 : decode cX12_lays 29 = .ok (.idiv, 1) := by decide +kernel
theorem dX12_lays_30 : decode cX12_lays 30 = .ok (.istore_n 3, 1) := by decide +kernel
theorem dX12_lays_31 : decode cX12_lays 31 = .ok (.iinc 4 1, 3) := by decide +kernel
theorem dX12_lays_34 : decode cX12_lays 34 = .ok (.goto (-29), 3) := by decide +kernel
theorem dX12_lays_37 : decode cX12_lays 37 = .ok (.return_, 1) := by decide +kernel
theorem dX12_elementOf_0 : decode cX12_elementOf 0 = .ok (.iconst 0, 1) := by decide +kernel
theorem dX12_elementOf_1 : decode cX12_elementOf 1 = .ok (.istore_n 2, 1) := by decide +kernel
theorem dX12_elementOf_2 : decode cX12_elementOf 2 = .ok (.aload_n 0, 1) := by decide +kernel
theorem dX12_elementOf_3 : decode cX12_elementOf 3 = .ok (.getfield 19, 3) := by decide +kernel
theorem dX12_elementOf_6 : decode cX12_elementOf 6 = .ok (.iconst 1, 1) := by decide +kernel
theorem dX12_elementOf_7 : decode cX12_elementOf 7 = .ok (.isub, 1) := by decide +kernel
theorem dX12_elementOf_8 : decode cX12_elementOf 8 = .ok (.istore_n 3, 1) := by decide +kernel
theorem dX12_elementOf_9 : decode cX12_elementOf 9 = .ok (.iload_n 3, 1) := by decide +kernel
theorem dX12_elementOf_10 : decode cX12_elementOf 10 = .ok (.ifCond .lt 20, 3) := by decide +kernel
theorem dX12_elementOf_13 : decode cX12_elementOf 13 = .ok (.iload_n 2, 1) := by decide +kernel
theorem dX12_elementOf_14 : decode cX12_elementOf 14 = .ok (.aload_n 0, 1) := by decide +kernel
theorem dX12_elementOf_15 : decode cX12_elementOf 15 = .ok (.getfield 22, 3) := by decide +kernel
theorem dX12_elementOf_18 : decode cX12_elementOf 18 = .ok (.imul, 1) := by decide +kernel
theorem dX12_elementOf_19 : decode cX12_elementOf 19 = .ok (.aload_n 1, 1) := by decide +kernel
theorem dX12_elementOf_20 : decode cX12_elementOf 20 = .ok (.iload_n 3, 1) := by decide +kernel
theorem dX12_elementOf_21 : decode cX12_elementOf 21 = .ok (.iaload, 1) := by decide +kernel
theorem dX12_elementOf_22 : decode cX12_elementOf 22 = .ok (.iadd, 1) := by decide +kernel
theorem dX12_elementOf_23 : decode cX12_elementOf 23 = .ok (.istore_n 2, 1) := by decide +kernel
theorem dX12_elementOf_24 : decode cX12_elementOf 24 = .ok (.iinc 3 (-1), 3) := by decide +kernel
theorem dX12_elementOf_27 : decode cX12_elementOf 27 = .ok (.goto (-18), 3) := by decide +kernel
theorem dX12_elementOf_30 : decode cX12_elementOf 30 = .ok (.iload_n 2, 1) := by decide +kernel
theorem dX12_elementOf_31 : decode cX12_elementOf 31 = .ok (.ireturn, 1) := by decide +kernel
theorem dX12_added_0 : decode cX12_added 0 = .ok (.aload_n 0, 1) := by decide +kernel
theorem dX12_added_1 : decode cX12_added 1 = .ok (.aload_n 0, 1) := by decide +kernel
theorem dX12_added_2 : decode cX12_added 2 = .ok (.getfield 50, 3) := by decide +kernel
theorem dX12_added_5 : decode cX12_added 5 = .ok (.iload_n 1, 1) := by decide +kernel
theorem dX12_added_6 : decode cX12_added 6 = .ok (.invokevirtual 122, 3) := by decide +kernel
theorem dX12_added_9 : decode cX12_added 9 = .ok (.aload_n 0, 1) := by decide +kernel
theorem dX12_added_10 : decode cX12_added 10 = .ok (.aload_n 0, 1) := by decide +kernel
theorem dX12_added_11 : decode cX12_added 11 = .ok (.getfield 53, 3) := by decide +kernel
theorem dX12_added_14 : decode cX12_added 14 = .ok (.iload_n 2, 1) := by decide +kernel
theorem dX12_added_15 : decode cX12_added 15 = .ok (.invokevirtual 122, 3) := by decide +kernel
theorem dX12_added_18 : decode cX12_added 18 = .ok (.iconst 0, 1) := by decide +kernel
theorem dX12_added_19 : decode cX12_added 19 = .ok (.istore 4, 2) := by decide +kernel
theorem dX12_added_21 : decode cX12_added 21 = .ok (.iload 4, 2) := by decide +kernel
theorem dX12_added_23 : decode cX12_added 23 = .ok (.aload_n 0, 1) := by decide +kernel
theorem dX12_added_24 : decode cX12_added 24 = .ok (.getfield 19, 3) := by decide +kernel
theorem dX12_added_27 : decode cX12_added 27 = .ok (.if_icmp .ge 40, 3) := by decide +kernel
theorem dX12_added_30 : decode cX12_added 30 = .ok (.aload_n 0, 1) := by decide +kernel
theorem dX12_added_31 : decode cX12_added 31 = .ok (.getfield 50, 3) := by decide +kernel
theorem dX12_added_34 : decode cX12_added 34 = .ok (.iload 4, 2) := by decide +kernel
theorem dX12_added_36 : decode cX12_added 36 = .ok (.aload_n 0, 1) := by decide +kernel
theorem dX12_added_37 : decode cX12_added 37 = .ok (.getfield 50, 3) := by decide +kernel
theorem dX12_added_40 : decode cX12_added 40 = .ok (.iload 4, 2) := by decide +kernel
theorem dX12_added_42 : decode cX12_added 42 = .ok (.iaload, 1) := by decide +kernel
theorem dX12_added_43 : decode cX12_added 43 = .ok (.iload_n 3, 1) := by decide +kernel
theorem dX12_added_44 : decode cX12_added 44 = .ok (.aload_n 0, 1) := by decide +kernel
theorem dX12_added_45 : decode cX12_added 45 = .ok (.getfield 53, 3) := by decide +kernel
theorem dX12_added_48 : decode cX12_added 48 = .ok (.iload 4, 2) := by decide +kernel
theorem dX12_added_50 : decode cX12_added 50 = .ok (.iaload, 1) := by decide +kernel
theorem dX12_added_51 : decode cX12_added 51 = .ok (.imul, 1) := by decide +kernel
theorem dX12_added_52 : decode cX12_added 52 = .ok (.iadd, 1) := by decide +kernel
theorem dX12_added_53 : decode cX12_added 53 = .ok (.aload_n 0, 1) := by decide +kernel
theorem dX12_added_54 : decode cX12_added 54 = .ok (.getfield 22, 3) := by decide +kernel
theorem dX12_added_57 : decode cX12_added 57 = .ok (.invokestatic 109, 3) := by decide +kernel
theorem dX12_added_60 : decode cX12_added 60 = .ok (.iastore, 1) := by decide +kernel
theorem dX12_added_61 : decode cX12_added 61 = .ok (.iinc 4 1, 3) := by decide +kernel
theorem dX12_added_64 : decode cX12_added 64 = .ok (.goto (-43), 3) := by decide +kernel
theorem dX12_added_67 : decode cX12_added 67 = .ok (.aload_n 0, 1) := by decide +kernel
theorem dX12_added_68 : decode cX12_added 68 = .ok (.aload_n 0, 1) := by decide +kernel
theorem dX12_added_69 : decode cX12_added 69 = .ok (.getfield 50, 3) := by decide +kernel
theorem dX12_added_72 : decode cX12_added 72 = .ok (.invokevirtual 126, 3) := by decide +kernel
theorem dX12_added_75 : decode cX12_added 75 = .ok (.ireturn, 1) := by decide +kernel
theorem dX12_times_0 : decode cX12_times 0 = .ok (.aload_n 0, 1) := by decide +kernel
theorem dX12_times_1 : decode cX12_times 1 = .ok (.aload_n 0, 1) := by decide +kernel
theorem dX12_times_2 : decode cX12_times 2 = .ok (.getfield 50, 3) := by decide +kernel
theorem dX12_times_5 : decode cX12_times 5 = .ok (.iload_n 1, 1) := by decide +kernel
theorem dX12_times_6 : decode cX12_times 6 = .ok (.invokevirtual 122, 3) := by decide +kernel
theorem dX12_times_9 : decode cX12_times 9 = .ok (.aload_n 0, 1) := by decide +kernel
theorem dX12_times_10 : decode cX12_times 10 = .ok (.aload_n 0, 1) := by decide +kernel
theorem dX12_times_11 : decode cX12_times 11 = .ok (.getfield 53, 3) := by decide +kernel
theorem dX12_times_14 : decode cX12_times 14 = .ok (.iload_n 2, 1) := by decide +kernel
theorem dX12_times_15 : decode cX12_times 15 = .ok (.invokevirtual 122, 3) := by decide +kernel
theorem dX12_times_18 : decode cX12_times 18 = .ok (.iconst 0, 1) := by decide +kernel
theorem dX12_times_19 : decode cX12_times 19 = .ok (.istore_n 3, 1) := by decide +kernel
theorem dX12_times_20 : decode cX12_times 20 = .ok (.iload_n 3, 1) := by decide +kernel
theorem dX12_times_21 : decode cX12_times 21 = .ok (.iconst 2, 1) := by decide +kernel
theorem dX12_times_22 : decode cX12_times 22 = .ok (.aload_n 0, 1) := by decide +kernel
theorem dX12_times_23 : decode cX12_times 23 = .ok (.getfield 19, 3) := by decide +kernel
theorem dX12_times_26 : decode cX12_times 26 = .ok (.imul, 1) := by decide +kernel
theorem dX12_times_27 : decode cX12_times 27 = .ok (.if_icmp .ge 16, 3) := by decide +kernel
theorem dX12_times_30 : decode cX12_times 30 = .ok (.aload_n 0, 1) := by decide +kernel
theorem dX12_times_31 : decode cX12_times 31 = .ok (.getfield 56, 3) := by decide +kernel
theorem dX12_times_34 : decode cX12_times 34 = .ok (.iload_n 3, 1) := by decide +kernel
theorem dX12_times_35 : decode cX12_times 35 = .ok (.iconst 0, 1) := by decide +kernel
theorem dX12_times_36 : decode cX12_times 36 = .ok (.iastore, 1) := by decide +kernel
theorem dX12_times_37 : decode cX12_times 37 = .ok (.iinc 3 1, 3) := by decide +kernel
theorem dX12_times_40 : decode cX12_times 40 = .ok (.goto (-20), 3) := by decide +kernel
theorem dX12_times_43 : decode cX12_times 43 = .ok (.iconst 0, 1) := by decide +kernel
theorem dX12_times_44 : decode cX12_times 44 = .ok (.istore_n 3, 1) := by decide +kernel
theorem dX12_times_45 : decode cX12_times 45 = .ok (.iload_n 3, 1) := by decide +kernel
theorem dX12_times_46 : decode cX12_times 46 = .ok (.aload_n 0, 1) := by decide +kernel
theorem dX12_times_47 : decode cX12_times 47 = .ok (.getfield 19, 3) := by decide +kernel
theorem dX12_times_50 : decode cX12_times 50 = .ok (.if_icmp .ge 65, 3) := by decide +kernel
theorem dX12_times_53 : decode cX12_times 53 = .ok (.iconst 0, 1) := by decide +kernel
theorem dX12_times_54 : decode cX12_times 54 = .ok (.istore 4, 2) := by decide +kernel
theorem dX12_times_56 : decode cX12_times 56 = .ok (.iload 4, 2) := by decide +kernel
theorem dX12_times_58 : decode cX12_times 58 = .ok (.aload_n 0, 1) := by decide +kernel
theorem dX12_times_59 : decode cX12_times 59 = .ok (.getfield 19, 3) := by decide +kernel
theorem dX12_times_62 : decode cX12_times 62 = .ok (.if_icmp .ge 47, 3) := by decide +kernel
theorem dX12_times_65 : decode cX12_times 65 = .ok (.aload_n 0, 1) := by decide +kernel
theorem dX12_times_66 : decode cX12_times 66 = .ok (.getfield 56, 3) := by decide +kernel
theorem dX12_times_69 : decode cX12_times 69 = .ok (.iload_n 3, 1) := by decide +kernel
theorem dX12_times_70 : decode cX12_times 70 = .ok (.iload 4, 2) := by decide +kernel
theorem dX12_times_72 : decode cX12_times 72 = .ok (.iadd, 1) := by decide +kernel
theorem dX12_times_73 : decode cX12_times 73 = .ok (.aload_n 0, 1) := by decide +kernel
theorem dX12_times_74 : decode cX12_times 74 = .ok (.getfield 56, 3) := by decide +kernel
theorem dX12_times_77 : decode cX12_times 77 = .ok (.iload_n 3, 1) := by decide +kernel
theorem dX12_times_78 : decode cX12_times 78 = .ok (.iload 4, 2) := by decide +kernel
theorem dX12_times_80 : decode cX12_times 80 = .ok (.iadd, 1) := by decide +kernel
theorem dX12_times_81 : decode cX12_times 81 = .ok (.iaload, 1) := by decide +kernel
theorem dX12_times_82 : decode cX12_times 82 = .ok (.aload_n 0, 1) := by decide +kernel
theorem dX12_times_83 : decode cX12_times 83 = .ok (.getfield 50, 3) := by decide +kernel
theorem dX12_times_86 : decode cX12_times 86 = .ok (.iload_n 3, 1) := by decide +kernel
theorem dX12_times_87 : decode cX12_times 87 = .ok (.iaload, 1) := by decide +kernel
theorem dX12_times_88 : decode cX12_times 88 = .ok (.aload_n 0, 1) := by decide +kernel
theorem dX12_times_89 : decode cX12_times 89 = .ok (.getfield 53, 3) := by decide +kernel
theorem dX12_times_92 : decode cX12_times 92 = .ok (.iload 4, 2) := by decide +kernel
theorem dX12_times_94 : decode cX12_times 94 = .ok (.iaload, 1) := by decide +kernel
theorem dX12_times_95 : decode cX12_times 95 = .ok (.imul, 1) := by decide +kernel
theorem dX12_times_96 : decode cX12_times 96 = .ok (.iadd, 1) := by decide +kernel
theorem dX12_times_97 : decode cX12_times 97 = .ok (.aload_n 0, 1) := by decide +kernel
theorem dX12_times_98 : decode cX12_times 98 = .ok (.getfield 22, 3) := by decide +kernel
theorem dX12_times_101 : decode cX12_times 101 = .ok (.irem, 1) := by decide +kernel
theorem dX12_times_102 : decode cX12_times 102 = .ok (.iastore, 1) := by decide +kernel
theorem dX12_times_103 : decode cX12_times 103 = .ok (.iinc 4 1, 3) := by decide +kernel
theorem dX12_times_106 : decode cX12_times 106 = .ok (.goto (-50), 3) := by decide +kernel
theorem dX12_times_109 : decode cX12_times 109 = .ok (.iinc 3 1, 3) := by decide +kernel
theorem dX12_times_112 : decode cX12_times 112 = .ok (.goto (-67), 3) := by decide +kernel
theorem dX12_times_115 : decode cX12_times 115 = .ok (.iconst 2, 1) := by decide +kernel
theorem dX12_times_116 : decode cX12_times 116 = .ok (.aload_n 0, 1) := by decide +kernel
theorem dX12_times_117 : decode cX12_times 117 = .ok (.getfield 19, 3) := by decide +kernel
theorem dX12_times_120 : decode cX12_times 120 = .ok (.imul, 1) := by decide +kernel
theorem dX12_times_121 : decode cX12_times 121 = .ok (.iconst 1, 1) := by decide +kernel
theorem dX12_times_122 : decode cX12_times 122 = .ok (.isub, 1) := by decide +kernel
theorem dX12_times_123 : decode cX12_times 123 = .ok (.istore_n 3, 1) := by decide +kernel
theorem dX12_times_124 : decode cX12_times 124 = .ok (.iload_n 3, 1) := by decide +kernel
theorem dX12_times_125 : decode cX12_times 125 = .ok (.aload_n 0, 1) := by decide +kernel
theorem dX12_times_126 : decode cX12_times 126 = .ok (.getfield 19, 3) := by decide +kernel
theorem dX12_times_129 : decode cX12_times 129 = .ok (.if_icmp .lt 93, 3) := by decide +kernel
theorem dX12_times_132 : decode cX12_times 132 = .ok (.aload_n 0, 1) := by decide +kernel
theorem dX12_times_133 : decode cX12_times 133 = .ok (.getfield 56, 3) := by decide +kernel
theorem dX12_times_136 : decode cX12_times 136 = .ok (.iload_n 3, 1) := by decide +kernel
theorem dX12_times_137 : decode cX12_times 137 = .ok (.iaload, 1) := by decide +kernel
theorem dX12_times_138 : decode cX12_times 138 = .ok (.istore 4, 2) := by decide +kernel
theorem dX12_times_140 : decode cX12_times 140 = .ok (.iconst 0, 1) := by decide +kernel
theorem dX12_times_141 : decode cX12_times 141 = .ok (.istore 5, 2) := by decide +kernel
theorem dX12_times_143 : decode cX12_times 143 = .ok (.iload 5, 2) := by decide +kernel
theorem dX12_times_145 : decode cX12_times 145 = .ok (.aload_n 0, 1) := by decide +kernel
theorem dX12_times_146 : decode cX12_times 146 = .ok (.getfield 19, 3) := by decide +kernel
theorem dX12_times_149 : decode cX12_times 149 = .ok (.if_icmp .ge 60, 3) := by decide +kernel
theorem dX12_times_152 : decode cX12_times 152 = .ok (.iload 4, 2) := by decide +kernel
theorem dX12_times_154 : decode cX12_times 154 = .ok (.ifCond .eq 55, 3) := by decide +kernel
theorem dX12_times_157 : decode cX12_times 157 = .ok (.aload_n 0, 1) := by decide +kernel
theorem dX12_times_158 : decode cX12_times 158 = .ok (.getfield 56, 3) := by decide +kernel
theorem dX12_times_161 : decode cX12_times 161 = .ok (.iload_n 3, 1) := by decide +kernel
theorem dX12_times_162 : decode cX12_times 162 = .ok (.aload_n 0, 1) := by decide +kernel
theorem dX12_times_163 : decode cX12_times 163 = .ok (.getfield 19, 3) := by decide +kernel
theorem dX12_times_166 : decode cX12_times 166 = .ok (.isub, 1) := by decide +kernel
theorem dX12_times_167 : decode cX12_times 167 = .ok (.iload 5, 2) := by decide +kernel
theorem dX12_times_169 : decode cX12_times 169 = .ok (.iadd, 1) := by decide +kernel
theorem dX12_times_170 : decode cX12_times 170 = .ok (.aload_n 0, 1) := by decide +kernel
theorem dX12_times_171 : decode cX12_times 171 = .ok (.getfield 56, 3) := by decide +kernel
theorem dX12_times_174 : decode cX12_times 174 = .ok (.iload_n 3, 1) := by decide +kernel
theorem dX12_times_175 : decode cX12_times 175 = .ok (.aload_n 0, 1) := by decide +kernel
theorem dX12_times_176 : decode cX12_times 176 = .ok (.getfield 19, 3) := by decide +kernel
theorem dX12_times_179 : decode cX12_times 179 = .ok (.isub, 1) := by decide +kernel
theorem dX12_times_180 : decode cX12_times 180 = .ok (.iload 5, 2) := by decide +kernel
theorem dX12_times_182 : decode cX12_times 182 = .ok (.iadd, 1) := by decide +kernel
theorem dX12_times_183 : decode cX12_times 183 = .ok (.iaload, 1) := by decide +kernel
theorem dX12_times_184 : decode cX12_times 184 = .ok (.iload 4, 2) := by decide +kernel
theorem dX12_times_186 : decode cX12_times 186 = .ok (.aload_n 0, 1) := by decide +kernel
theorem dX12_times_187 : decode cX12_times 187 = .ok (.getfield 31, 3) := by decide +kernel
theorem dX12_times_190 : decode cX12_times 190 = .ok (.iload 5, 2) := by decide +kernel
theorem dX12_times_192 : decode cX12_times 192 = .ok (.iaload, 1) := by decide +kernel
theorem dX12_times_193 : decode cX12_times 193 = .ok (.imul, 1) := by decide +kernel
theorem dX12_times_194 : decode cX12_times 194 = .ok (.isub, 1) := by decide +kernel
theorem dX12_times_195 : decode cX12_times 195 = .ok (.aload_n 0, 1) := by decide +kernel
theorem dX12_times_196 : decode cX12_times 196 = .ok (.getfield 22, 3) := by decide +kernel
theorem dX12_times_199 : decode cX12_times 199 = .ok (.invokestatic 109, 3) := by decide +kernel
theorem dX12_times_202 : decode cX12_times 202 = .ok (.iastore, 1) := by decide +kernel
theorem dX12_times_203 : decode cX12_times 203 = .ok (.iinc 5 1, 3) := by decide +kernel
theorem dX12_times_206 : decode cX12_times 206 = .ok (.goto (-63), 3) := by decide +kernel
theorem dX12_times_209 : decode cX12_times 209 = .ok (.aload_n 0, 1) := by decide +kernel
theorem dX12_times_210 : decode cX12_times 210 = .ok (.getfield 56, 3) := by decide +kernel
theorem dX12_times_213 : decode cX12_times 213 = .ok (.iload_n 3, 1) := by decide +kernel
theorem dX12_times_214 : decode cX12_times 214 = .ok (.iconst 0, 1) := by decide +kernel
theorem dX12_times_215 : decode cX12_times 215 = .ok (.iastore, 1) := by decide +kernel
theorem dX12_times_216 : decode cX12_times 216 = .ok (.iinc 3 (-1), 3) := by decide +kernel
theorem dX12_times_219 : decode cX12_times 219 = .ok (.goto (-95), 3) := by decide +kernel
theorem dX12_times_222 : decode cX12_times 222 = .ok (.aload_n 0, 1) := by decide +kernel
theorem dX12_times_223 : decode cX12_times 223 = .ok (.aload_n 0, 1) := by decide +kernel
theorem dX12_times_224 : decode cX12_times 224 = .ok (.getfield 56, 3) := by decide +kernel
theorem dX12_times_227 : decode cX12_times 227 = .ok (.invokevirtual 126, 3) := by decide +kernel
theorem dX12_times_230 : decode cX12_times 230 = .ok (.ireturn, 1) := by decide +kernel
theorem dX12_raised_0 : decode cX12_raised 0 = .ok (.iconst 1, 1) := by decide +kernel
theorem dX12_raised_1 : decode cX12_raised 1 = .ok (.istore 4, 2) := by decide +kernel
theorem dX12_raised_3 : decode cX12_raised 3 = .ok (.iload_n 1, 1) := by decide +kernel
theorem dX12_raised_4 : decode cX12_raised 4 = .ok (.istore 5, 2) := by decide +kernel
theorem dX12_raised_6 : decode cX12_raised 6 = .ok (.lload_n 2, 1) := by decide +kernel
theorem dX12_raised_7 : decode cX12_raised 7 = .ok (.lstore 6, 2) := by decide +kernel
theorem dX12_raised_9 : decode cX12_raised 9 = .ok (.lload 6, 2) := by decide +kernel
theorem dX12_raised_11 : decode cX12_raised 11 = .ok (.lconst 0, 1) := by decide +kernel
theorem dX12_raised_12 : decode cX12_raised 12 = .ok (.lcmp, 1) := by decide +kernel
theorem dX12_raised_13 : decode cX12_raised 13 = .ok (.ifCond .le 45, 3) := by decide +kernel
theorem dX12_raised_16 : decode cX12_raised 16 = .ok (.lload 6, 2) := by decide +kernel
theorem dX12_raised_18 : decode cX12_raised 18 = .ok (.ldc2_w 130, 3) := by decide +kernel
theorem dX12_raised_21 : decode cX12_raised 21 = .ok (.lrem, 1) := by decide +kernel
theorem dX12_raised_22 : decode cX12_raised 22 = .ok (.lconst 1, 1) := by decide +kernel
theorem dX12_raised_23 : decode cX12_raised 23 = .ok (.lcmp, 1) := by decide +kernel
theorem dX12_raised_24 : decode cX12_raised 24 = .ok (.ifCond .ne 13, 3) := by decide +kernel
theorem dX12_raised_27 : decode cX12_raised 27 = .ok (.aload_n 0, 1) := by decide +kernel
theorem dX12_raised_28 : decode cX12_raised 28 = .ok (.iload 4, 2) := by decide +kernel
theorem dX12_raised_30 : decode cX12_raised 30 = .ok (.iload 5, 2) := by decide +kernel
theorem dX12_raised_32 : decode cX12_raised 32 = .ok (.invokevirtual 132, 3) := by decide +kernel
theorem dX12_raised_35 : decode cX12_raised 35 = .ok (.istore 4, 2) := by decide +kernel
theorem dX12_raised_37 : decode cX12_raised 37 = .ok (.aload_n 0, 1) := by decide +kernel
theorem dX12_raised_38 : decode cX12_raised 38 = .ok (.iload 5, 2) := by decide +kernel
theorem dX12_raised_40 : decode cX12_raised 40 = .ok (.iload 5, 2) := by decide +kernel
theorem dX12_raised_42 : decode cX12_raised 42 = .ok (.invokevirtual 132, 3) := by decide +kernel
theorem dX12_raised_45 : decode cX12_raised 45 = .ok (.istore 5, 2) := by decide +kernel
theorem dX12_raised_47 : decode cX12_raised 47 = .ok (.lload 6, 2) := by decide +kernel
theorem dX12_raised_49 : decode cX12_raised 49 = .ok (.ldc2_w 130, 3) := by decide +kernel
theorem dX12_raised_52 : decode cX12_raised 52 = .ok (.ldiv, 1) := by decide +kernel
theorem dX12_raised_53 : decode cX12_raised 53 = .ok (.lstore 6, 2) := by decide +kernel
theorem dX12_raised_55 : decode cX12_raised 55 = .ok (.goto (-46), 3) := by decide +kernel
theorem dX12_raised_58 : decode cX12_raised 58 = .ok (.iload 4, 2) := by decide +kernel
theorem dX12_raised_60 : decode cX12_raised 60 = .ok (.ireturn, 1) := by decide +kernel
theorem dX12_lowOf_0 : decode cX12_lowOf 0 = .ok (.iconst 0, 1) := by decide +kernel
theorem dX12_lowOf_1 : decode cX12_lowOf 1 = .ok (.istore_n 2, 1) := by decide +kernel
theorem dX12_lowOf_2 : decode cX12_lowOf 2 = .ok (.iconst 1, 1) := by decide +kernel
theorem dX12_lowOf_3 : decode cX12_lowOf 3 = .ok (.istore_n 3, 1) := by decide +kernel
theorem dX12_lowOf_4 : decode cX12_lowOf 4 = .ok (.iload_n 1, 1) := by decide +kernel
theorem dX12_lowOf_5 : decode cX12_lowOf 5 = .ok (.istore 4, 2) := by decide +kernel
theorem dX12_lowOf_7 : decode cX12_lowOf 7 = .ok (.iconst 0, 1) := by decide +kernel
theorem dX12_lowOf_8 : decode cX12_lowOf 8 = .ok (.istore 5, 2) := by decide +kernel
theorem dX12_lowOf_10 : decode cX12_lowOf 10 = .ok (.iload 5, 2) := by decide +kernel
theorem dX12_lowOf_12 : decode cX12_lowOf 12 = .ok (.aload_n 0, 1) := by decide +kernel
theorem dX12_lowOf_13 : decode cX12_lowOf 13 = .ok (.getfield 19, 3) := by decide +kernel
theorem dX12_lowOf_16 : decode cX12_lowOf 16 = .ok (.if_icmp .ge 42, 3) := by decide +kernel
theorem dX12_lowOf_19 : decode cX12_lowOf 19 = .ok (.iload_n 2, 1) := by decide +kernel
theorem dX12_lowOf_20 : decode cX12_lowOf 20 = .ok (.iload_n 3, 1) := by decide +kernel
theorem dX12_lowOf_21 : decode cX12_lowOf 21 = .ok (.iload 4, 2) := by decide +kernel
theorem dX12_lowOf_23 : decode cX12_lowOf 23 = .ok (.aload_n 0, 1) := by decide +kernel
theorem dX12_lowOf_24 : decode cX12_lowOf 24 = .ok (.getfield 22, 3) := by decide +kernel
theorem dX12_lowOf_27 : decode cX12_lowOf 27 = .ok (.irem, 1) := by decide +kernel
theorem dX12_lowOf_28 : decode cX12_lowOf 28 = .ok (.aload_n 0, 1) := by decide +kernel
theorem dX12_lowOf_29 : decode cX12_lowOf 29 = .ok (.getfield 13, 3) := by decide +kernel
theorem dX12_lowOf_32 : decode cX12_lowOf 32 = .ok (.irem, 1) := by decide +kernel
theorem dX12_lowOf_33 : decode cX12_lowOf 33 = .ok (.imul, 1) := by decide +kernel
theorem dX12_lowOf_34 : decode cX12_lowOf 34 = .ok (.iadd, 1) := by decide +kernel
theorem dX12_lowOf_35 : decode cX12_lowOf 35 = .ok (.istore_n 2, 1) := by decide +kernel
theorem dX12_lowOf_36 : decode cX12_lowOf 36 = .ok (.iload_n 3, 1) := by decide +kernel
theorem dX12_lowOf_37 : decode cX12_lowOf 37 = .ok (.aload_n 0, 1) := by decide +kernel
theorem dX12_lowOf_38 : decode cX12_lowOf 38 = .ok (.getfield 13, 3) := by decide +kernel
theorem dX12_lowOf_41 : decode cX12_lowOf 41 = .ok (.imul, 1) := by decide +kernel
theorem dX12_lowOf_42 : decode cX12_lowOf 42 = .ok (.istore_n 3, 1) := by decide +kernel
theorem dX12_lowOf_43 : decode cX12_lowOf 43 = .ok (.iload 4, 2) := by decide +kernel
theorem dX12_lowOf_45 : decode cX12_lowOf 45 = .ok (.aload_n 0, 1) := by decide +kernel
theorem dX12_lowOf_46 : decode cX12_lowOf 46 = .ok (.getfield 22, 3) := by decide +kernel
theorem dX12_lowOf_49 : decode cX12_lowOf 49 = .ok (.idiv, 1) := by decide +kernel
theorem dX12_lowOf_50 : decode cX12_lowOf 50 = .ok (.istore 4, 2) := by decide +kernel
theorem dX12_lowOf_52 : decode cX12_lowOf 52 = .ok (.iinc 5 1, 3) := by decide +kernel
theorem dX12_lowOf_55 : decode cX12_lowOf 55 = .ok (.goto (-45), 3) := by decide +kernel
theorem dX12_lowOf_58 : decode cX12_lowOf 58 = .ok (.iload_n 2, 1) := by decide +kernel
theorem dX12_lowOf_59 : decode cX12_lowOf 59 = .ok (.ireturn, 1) := by decide +kernel
theorem dX12_levelOf_0 : decode cX12_levelOf 0 = .ok (.iconst 0, 1) := by decide +kernel
theorem dX12_levelOf_1 : decode cX12_levelOf 1 = .ok (.istore_n 2, 1) := by decide +kernel
theorem dX12_levelOf_2 : decode cX12_levelOf 2 = .ok (.aload_n 0, 1) := by decide +kernel
theorem dX12_levelOf_3 : decode cX12_levelOf 3 = .ok (.getfield 13, 3) := by decide +kernel
theorem dX12_levelOf_6 : decode cX12_levelOf 6 = .ok (.istore_n 3, 1) := by decide +kernel
theorem dX12_levelOf_7 : decode cX12_levelOf 7 = .ok (.iload_n 2, 1) := by decide +kernel
theorem dX12_levelOf_8 : decode cX12_levelOf 8 = .ok (.aload_n 0, 1) := by decide +kernel
theorem dX12_levelOf_9 : decode cX12_levelOf 9 = .ok (.getfield 16, 3) := by decide +kernel
theorem dX12_levelOf_12 : decode cX12_levelOf 12 = .ok (.if_icmp .ge 25, 3) := by decide +kernel
theorem dX12_levelOf_15 : decode cX12_levelOf 15 = .ok (.aload_n 0, 1) := by decide +kernel
theorem dX12_levelOf_16 : decode cX12_levelOf 16 = .ok (.iload_n 1, 1) := by decide +kernel
theorem dX12_levelOf_17 : decode cX12_levelOf 17 = .ok (.iload_n 3, 1) := by decide +kernel
theorem dX12_levelOf_18 : decode cX12_levelOf 18 = .ok (.invokevirtual 135, 3) := by decide +kernel
theorem dX12_levelOf_21 : decode cX12_levelOf 21 = .ok (.ifCond .eq 16, 3) := by decide +kernel
theorem dX12_levelOf_24 : decode cX12_levelOf 24 = .ok (.iinc 2 1, 3) := by decide +kernel
theorem dX12_levelOf_27 : decode cX12_levelOf 27 = .ok (.iload_n 3, 1) := by decide +kernel
theorem dX12_levelOf_28 : decode cX12_levelOf 28 = .ok (.aload_n 0, 1) := by decide +kernel
theorem dX12_levelOf_29 : decode cX12_levelOf 29 = .ok (.getfield 13, 3) := by decide +kernel
theorem dX12_levelOf_32 : decode cX12_levelOf 32 = .ok (.imul, 1) := by decide +kernel
theorem dX12_levelOf_33 : decode cX12_levelOf 33 = .ok (.istore_n 3, 1) := by decide +kernel
theorem dX12_levelOf_34 : decode cX12_levelOf 34 = .ok (.goto (-27), 3) := by decide +kernel
theorem dX12_levelOf_37 : decode cX12_levelOf 37 = .ok (.iload_n 2, 1) := by decide +kernel
theorem dX12_levelOf_38 : decode cX12_levelOf 38 = .ok (.ireturn, 1) := by decide +kernel
theorem dX12_isMultiple_0 : decode cX12_isMultiple 0 = .ok (.aload_n 0, 1) := by decide +kernel
theorem dX12_isMultiple_1 : decode cX12_isMultiple 1 = .ok (.aload_n 0, 1) := by decide +kernel
theorem dX12_isMultiple_2 : decode cX12_isMultiple 2 = .ok (.getfield 50, 3) := by decide +kernel
theorem dX12_isMultiple_5 : decode cX12_isMultiple 5 = .ok (.iload_n 1, 1) := by decide +kernel
theorem dX12_isMultiple_6 : decode cX12_isMultiple 6 = .ok (.invokevirtual 122, 3) := by decide +kernel
theorem dX12_isMultiple_9 : decode cX12_isMultiple 9 = .ok (.iconst 0, 1) := by decide +kernel
theorem dX12_isMultiple_10 : decode cX12_isMultiple 10 = .ok (.istore_n 3, 1) := by decide +kernel
theorem dX12_isMultiple_11 : decode cX12_isMultiple 11 = .ok (.iload_n 3, 1) := by decide +kernel
theorem dX12_isMultiple_12 : decode cX12_isMultiple 12 = .ok (.aload_n 0, 1) := by decide +kernel
theorem dX12_isMultiple_13 : decode cX12_isMultiple 13 = .ok (.getfield 19, 3) := by decide +kernel
theorem dX12_isMultiple_16 : decode cX12_isMultiple 16 = .ok (.if_icmp .ge 22, 3) := by decide +kernel
theorem dX12_isMultiple_19 : decode cX12_isMultiple 19 = .ok (.aload_n 0, 1) := by decide +kernel
theorem dX12_isMultiple_20 : decode cX12_isMultiple 20 = .ok (.getfield 50, 3) := by decide +kernel
theorem dX12_isMultiple_23 : decode cX12_isMultiple 23 = .ok (.iload_n 3, 1) := by decide +kernel
theorem dX12_isMultiple_24 : decode cX12_isMultiple 24 = .ok (.iaload, 1) := by decide +kernel
theorem dX12_isMultiple_25 : decode cX12_isMultiple 25 = .ok (.iload_n 2, 1) := by decide +kernel
theorem dX12_isMultiple_26 : decode cX12_isMultiple 26 = .ok (.irem, 1) := by decide +kernel
theorem dX12_isMultiple_27 : decode cX12_isMultiple 27 = .ok (.ifCond .eq 5, 3) := by decide +kernel
theorem dX12_isMultiple_30 : decode cX12_isMultiple 30 = .ok (.iconst 0, 1) := by decide +kernel
theorem dX12_isMultiple_31 : decode cX12_isMultiple 31 = .ok (.ireturn, 1) := by decide +kernel
theorem dX12_isMultiple_32 : decode cX12_isMultiple 32 = .ok (.iinc 3 1, 3) := by decide +kernel
theorem dX12_isMultiple_35 : decode cX12_isMultiple 35 = .ok (.goto (-24), 3) := by decide +kernel
theorem dX12_isMultiple_38 : decode cX12_isMultiple 38 = .ok (.iconst 1, 1) := by decide +kernel
theorem dX12_isMultiple_39 : decode cX12_isMultiple 39 = .ok (.ireturn, 1) := by decide +kernel
theorem dX12_isUnit_0 : decode cX12_isUnit 0 = .ok (.aload_n 0, 1) := by decide +kernel
theorem dX12_isUnit_1 : decode cX12_isUnit 1 = .ok (.iload_n 1, 1) := by decide +kernel
theorem dX12_isUnit_2 : decode cX12_isUnit 2 = .ok (.invokevirtual 139, 3) := by decide +kernel
theorem dX12_isUnit_5 : decode cX12_isUnit 5 = .ok (.ifCond .eq 7, 3) := by decide +kernel
theorem dX12_isUnit_8 : decode cX12_isUnit 8 = .ok (.iconst 1, 1) := by decide +kernel
theorem dX12_isUnit_9 : decode cX12_isUnit 9 = .ok (.goto 4, 3) := by decide +kernel
theorem dX12_isUnit_12 : decode cX12_isUnit 12 = .ok (.iconst 0, 1) := by decide +kernel
theorem dX12_isUnit_13 : decode cX12_isUnit 13 = .ok (.ireturn, 1) := by decide +kernel
theorem dX12_inverse_0 : decode cX12_inverse 0 = .ok (.aload_n 0, 1) := by decide +kernel
theorem dX12_inverse_1 : decode cX12_inverse 1 = .ok (.iload_n 1, 1) := by decide +kernel
theorem dX12_inverse_2 : decode cX12_inverse 2 = .ok (.aload_n 0, 1) := by decide +kernel
theorem dX12_inverse_3 : decode cX12_inverse 3 = .ok (.invokevirtual 143, 3) := by decide +kernel
theorem dX12_inverse_6 : decode cX12_inverse 6 = .ok (.i2l, 1) := by decide +kernel
theorem dX12_inverse_7 : decode cX12_inverse 7 = .ok (.lconst 1, 1) := by decide +kernel
theorem dX12_inverse_8 : decode cX12_inverse 8 = .ok (.lsub, 1) := by decide +kernel
theorem dX12_inverse_9 : decode cX12_inverse 9 = .ok (.invokevirtual 147, 3) := by decide +kernel
theorem dX12_inverse_12 : decode cX12_inverse 12 = .ok (.ireturn, 1) := by decide +kernel
theorem dX12_unitMany_0 : decode cX12_unitMany 0 = .ok (.aload_n 0, 1) := by decide +kernel
theorem dX12_unitMany_1 : decode cX12_unitMany 1 = .ok (.getfield 28, 3) := by decide +kernel
theorem dX12_unitMany_4 : decode cX12_unitMany 4 = .ok (.aload_n 0, 1) := by decide +kernel
theorem dX12_unitMany_5 : decode cX12_unitMany 5 = .ok (.getfield 28, 3) := by decide +kernel
theorem dX12_unitMany_8 : decode cX12_unitMany 8 = .ok (.aload_n 0, 1) := by decide +kernel
theorem dX12_unitMany_9 : decode cX12_unitMany 9 = .ok (.getfield 25, 3) := by decide +kernel
theorem dX12_unitMany_12 : decode cX12_unitMany 12 = .ok (.idiv, 1) := by decide +kernel
theorem dX12_unitMany_13 : decode cX12_unitMany 13 = .ok (.isub, 1) := by decide +kernel
theorem dX12_unitMany_14 : decode cX12_unitMany 14 = .ok (.ireturn, 1) := by decide +kernel
theorem dX12_beginsRing_0 : decode cX12_beginsRing 0 = .ok (.aload_n 0, 1) := by decide +kernel
theorem dX12_beginsRing_1 : decode cX12_beginsRing 1 = .ok (.iload_n 1, 1) := by decide +kernel
theorem dX12_beginsRing_2 : decode cX12_beginsRing 2 = .ok (.putfield 13, 3) := by decide +kernel
theorem dX12_beginsRing_5 : decode cX12_beginsRing 5 = .ok (.aload_n 0, 1) := by decide +kernel
theorem dX12_beginsRing_6 : decode cX12_beginsRing 6 = .ok (.iload_n 2, 1) := by decide +kernel
theorem dX12_beginsRing_7 : decode cX12_beginsRing 7 = .ok (.putfield 16, 3) := by decide +kernel
theorem dX12_beginsRing_10 : decode cX12_beginsRing 10 = .ok (.aload_n 0, 1) := by decide +kernel
theorem dX12_beginsRing_11 : decode cX12_beginsRing 11 = .ok (.iload_n 3, 1) := by decide +kernel
theorem dX12_beginsRing_12 : decode cX12_beginsRing 12 = .ok (.putfield 19, 3) := by decide +kernel
theorem dX12_beginsRing_15 : decode cX12_beginsRing 15 = .ok (.aload_n 0, 1) := by decide +kernel
theorem dX12_beginsRing_16 : decode cX12_beginsRing 16 = .ok (.aload_n 0, 1) := by decide +kernel
theorem dX12_beginsRing_17 : decode cX12_beginsRing 17 = .ok (.getfield 13, 3) := by decide +kernel
theorem dX12_beginsRing_20 : decode cX12_beginsRing 20 = .ok (.aload_n 0, 1) := by decide +kernel
theorem dX12_beginsRing_21 : decode cX12_beginsRing 21 = .ok (.getfield 16, 3) := by decide +kernel
theorem dX12_beginsRing_24 : decode cX12_beginsRing 24 = .ok (.invokestatic 115, 3) := by decide +kernel
theorem dX12_beginsRing_27 : decode cX12_beginsRing 27 = .ok (.putfield 22, 3) := by decide +kernel
theorem dX12_beginsRing_30 : decode cX12_beginsRing 30 = .ok (.aload_n 0, 1) := by decide +kernel
theorem dX12_beginsRing_31 : decode cX12_beginsRing 31 = .ok (.aload_n 0, 1) := by decide +kernel
theorem dX12_beginsRing_32 : decode cX12_beginsRing 32 = .ok (.getfield 13, 3) := by decide +kernel
theorem dX12_beginsRing_35 : decode cX12_beginsRing 35 = .ok (.aload_n 0, 1) := by decide +kernel
theorem dX12_beginsRing_36 : decode cX12_beginsRing 36 = .ok (.getfield 19, 3) := by decide +kernel
theorem dX12_beginsRing_39 : decode cX12_beginsRing 39 = .ok (.invokestatic 115, 3) := by decide +kernel
theorem dX12_beginsRing_42 : decode cX12_beginsRing 42 = .ok (.putfield 25, 3) := by decide +kernel
theorem dX12_beginsRing_45 : decode cX12_beginsRing 45 = .ok (.aload_n 0, 1) := by decide +kernel
theorem dX12_beginsRing_46 : decode cX12_beginsRing 46 = .ok (.aload_n 0, 1) := by decide +kernel
theorem dX12_beginsRing_47 : decode cX12_beginsRing 47 = .ok (.getfield 22, 3) := by decide +kernel
theorem dX12_beginsRing_50 : decode cX12_beginsRing 50 = .ok (.aload_n 0, 1) := by decide +kernel
theorem dX12_beginsRing_51 : decode cX12_beginsRing 51 = .ok (.getfield 19, 3) := by decide +kernel
theorem dX12_beginsRing_54 : decode cX12_beginsRing 54 = .ok (.invokestatic 115, 3) := by decide +kernel
theorem dX12_beginsRing_57 : decode cX12_beginsRing 57 = .ok (.putfield 28, 3) := by decide +kernel
theorem dX12_beginsRing_60 : decode cX12_beginsRing 60 = .ok (.aload_n 0, 1) := by decide +kernel
theorem dX12_beginsRing_61 : decode cX12_beginsRing 61 = .ok (.invokevirtual 151, 3) := by decide +kernel
theorem dX12_beginsRing_64 : decode cX12_beginsRing 64 = .ok (.aload_n 0, 1) := by decide +kernel
theorem dX12_beginsRing_65 : decode cX12_beginsRing 65 = .ok (.invokevirtual 154, 3) := by decide +kernel
theorem dX12_beginsRing_68 : decode cX12_beginsRing 68 = .ok (.iconst 0, 1) := by decide +kernel
theorem dX12_beginsRing_69 : decode cX12_beginsRing 69 = .ok (.istore 4, 2) := by decide +kernel
theorem dX12_beginsRing_71 : decode cX12_beginsRing 71 = .ok (.iload 4, 2) := by decide +kernel
theorem dX12_beginsRing_73 : decode cX12_beginsRing 73 = .ok (.bipush 8, 2) := by decide +kernel
theorem dX12_beginsRing_75 : decode cX12_beginsRing 75 = .ok (.if_icmp .ge 17, 3) := by decide +kernel
theorem dX12_beginsRing_78 : decode cX12_beginsRing 78 = .ok (.aload_n 0, 1) := by decide +kernel
theorem dX12_beginsRing_79 : decode cX12_beginsRing 79 = .ok (.getfield 44, 3) := by decide +kernel
theorem dX12_beginsRing_82 : decode cX12_beginsRing 82 = .ok (.iload 4, 2) := by decide +kernel
theorem dX12_beginsRing_84 : decode cX12_beginsRing 84 = .ok (.iconst 0, 1) := by decide +kernel
theorem dX12_beginsRing_85 : decode cX12_beginsRing 85 = .ok (.iastore, 1) := by decide +kernel
theorem dX12_beginsRing_86 : decode cX12_beginsRing 86 = .ok (.iinc 4 1, 3) := by decide +kernel
theorem dX12_beginsRing_89 : decode cX12_beginsRing 89 = .ok (.goto (-18), 3) := by decide +kernel
theorem dX12_beginsRing_92 : decode cX12_beginsRing 92 = .ok (.aload_n 0, 1) := by decide +kernel
theorem dX12_beginsRing_93 : decode cX12_beginsRing 93 = .ok (.iconst 1, 1) := by decide +kernel
theorem dX12_beginsRing_94 : decode cX12_beginsRing 94 = .ok (.putfield 69, 3) := by decide +kernel
theorem dX12_beginsRing_97 : decode cX12_beginsRing 97 = .ok (.aload_n 0, 1) := by decide +kernel
theorem dX12_beginsRing_98 : decode cX12_beginsRing 98 = .ok (.iconst 0, 1) := by decide +kernel
theorem dX12_beginsRing_99 : decode cX12_beginsRing 99 = .ok (.putfield 157, 3) := by decide +kernel
theorem dX12_beginsRing_102 : decode cX12_beginsRing 102 = .ok (.aload_n 0, 1) := by decide +kernel
theorem dX12_beginsRing_103 : decode cX12_beginsRing 103 = .ok (.iconst 0, 1) := by decide +kernel
theorem dX12_beginsRing_104 : decode cX12_beginsRing 104 = .ok (.putfield 160, 3) := by decide +kernel
theorem dX12_beginsRing_107 : decode cX12_beginsRing 107 = .ok (.aload_n 0, 1) := by decide +kernel
theorem dX12_beginsRing_108 : decode cX12_beginsRing 108 = .ok (.invokevirtual 164, 3) := by decide +kernel
theorem dX12_beginsRing_111 : decode cX12_beginsRing 111 = .ok (.return_, 1) := by decide +kernel
theorem dX12_laysModulus_0 : decode cX12_laysModulus 0 = .ok (.iconst 0, 1) := by decide +kernel
theorem dX12_laysModulus_1 : decode cX12_laysModulus 1 = .ok (.istore_n 1, 1) := by decide +kernel
theorem dX12_laysModulus_2 : decode cX12_laysModulus 2 = .ok (.iload_n 1, 1) := by decide +kernel
theorem dX12_laysModulus_3 : decode cX12_laysModulus 3 = .ok (.bipush 7, 2) := by decide +kernel
theorem dX12_laysModulus_5 : decode cX12_laysModulus 5 = .ok (.if_icmp .ge 16, 3) := by decide +kernel
theorem dX12_laysModulus_8 : decode cX12_laysModulus 8 = .ok (.aload_n 0, 1) := by decide +kernel
theorem dX12_laysModulus_9 : decode cX12_laysModulus 9 = .ok (.getfield 31, 3) := by decide +kernel
theorem dX12_laysModulus_12 : decode cX12_laysModulus 12 = .ok (.iload_n 1, 1) := by decide +kernel
theorem dX12_laysModulus_13 : decode cX12_laysModulus 13 = .ok (.iconst 0, 1) := by decide +kernel
theorem dX12_laysModulus_14 : decode cX12_laysModulus 14 = .ok (.iastore, 1) := by decide +kernel
theorem dX12_laysModulus_15 : decode cX12_laysModulus 15 = .ok (.iinc 1 1, 3) := by decide +kernel
theorem dX12_laysModulus_18 : decode cX12_laysModulus 18 = .ok (.goto (-16), 3) := by decide +kernel
theorem dX12_laysModulus_21 : decode cX12_laysModulus 21 = .ok (.aload_n 0, 1) := by decide +kernel
theorem dX12_laysModulus_22 : decode cX12_laysModulus 22 = .ok (.getfield 31, 3) := by decide +kernel
theorem dX12_laysModulus_25 : decode cX12_laysModulus 25 = .ok (.aload_n 0, 1) := by decide +kernel
theorem dX12_laysModulus_26 : decode cX12_laysModulus 26 = .ok (.getfield 19, 3) := by decide +kernel
theorem dX12_laysModulus_29 : decode cX12_laysModulus 29 = .ok (.iconst 1, 1) := by decide +kernel
theorem dX12_laysModulus_30 : decode cX12_laysModulus 30 = .ok (.iastore, 1) := by decide +kernel
theorem dX12_laysModulus_31 : decode cX12_laysModulus 31 = .ok (.aload_n 0, 1) := by decide +kernel
theorem dX12_laysModulus_32 : decode cX12_laysModulus 32 = .ok (.getfield 19, 3) := by decide +kernel
theorem dX12_laysModulus_35 : decode cX12_laysModulus 35 = .ok (.iconst 1, 1) := by decide +kernel
theorem dX12_laysModulus_36 : decode cX12_laysModulus 36 = .ok (.if_icmp .ne 4, 3) := by decide +kernel
theorem dX12_laysModulus_39 : decode cX12_laysModulus 39 = .ok (.return_, 1) := by decide +kernel
theorem dX12_laysModulus_40 : decode cX12_laysModulus 40 = .ok (.iconst 0, 1) := by decide +kernel
theorem dX12_laysModulus_41 : decode cX12_laysModulus 41 = .ok (.istore_n 1, 1) := by decide +kernel
theorem dX12_laysModulus_42 : decode cX12_laysModulus 42 = .ok (.aload_n 0, 1) := by decide +kernel
theorem dX12_laysModulus_43 : decode cX12_laysModulus 43 = .ok (.iload_n 1, 1) := by decide +kernel
theorem dX12_laysModulus_44 : decode cX12_laysModulus 44 = .ok (.invokevirtual 167, 3) := by decide +kernel
theorem dX12_laysModulus_47 : decode cX12_laysModulus 47 = .ok (.ifCond .ne 9, 3) := by decide +kernel
theorem dX12_laysModulus_50 : decode cX12_laysModulus 50 = .ok (.iinc 1 1, 3) := by decide +kernel
theorem dX12_laysModulus_53 : decode cX12_laysModulus 53 = .ok (.goto (-11), 3) := by decide +kernel
theorem dX12_laysModulus_56 : decode cX12_laysModulus 56 = .ok (.iload_n 1, 1) := by decide +kernel
theorem dX12_laysModulus_57 : decode cX12_laysModulus 57 = .ok (.istore_n 2, 1) := by decide +kernel
theorem dX12_laysModulus_58 : decode cX12_laysModulus 58 = .ok (.iconst 0, 1) := by decide +kernel
theorem dX12_laysModulus_59 : decode cX12_laysModulus 59 = .ok (.istore_n 3, 1) := by decide +kernel
theorem dX12_laysModulus_60 : decode cX12_laysModulus 60 = .ok (.iload_n 3, 1) := by decide +kernel
theorem dX12_laysModulus_61 : decode cX12_laysModulus 61 = .ok (.aload_n 0, 1) := by decide +kernel
theorem dX12_laysModulus_62 : decode cX12_laysModulus 62 = .ok (.getfield 19, 3) := by decide +kernel
theorem dX12_laysModulus_65 : decode cX12_laysModulus 65 = .ok (.if_icmp .ge 28, 3) := by decide +kernel
theorem dX12_laysModulus_68 : decode cX12_laysModulus 68 = .ok (.aload_n 0, 1) := by decide +kernel
theorem dX12_laysModulus_69 : decode cX12_laysModulus 69 = .ok (.getfield 31, 3) := by decide +kernel
theorem dX12_laysModulus_72 : decode cX12_laysModulus 72 = .ok (.iload_n 3, 1) := by decide +kernel
theorem dX12_laysModulus_73 : decode cX12_laysModulus 73 = .ok (.iload_n 2, 1) := by decide +kernel
theorem dX12_laysModulus_74 : decode cX12_laysModulus 74 = .ok (.aload_n 0, 1) := by decide +kernel
theorem dX12_laysModulus_75 : decode cX12_laysModulus 75 = .ok (.getfield 13, 3) := by decide +kernel
theorem dX12_laysModulus_78 : decode cX12_laysModulus 78 = .ok (.irem, 1) := by decide +kernel
theorem dX12_laysModulus_79 : decode cX12_laysModulus 79 = .ok (.iastore, 1) := by decide +kernel
theorem dX12_laysModulus_80 : decode cX12_laysModulus 80 = .ok (.iload_n 2, 1) := by decide +kernel
theorem dX12_laysModulus_81 : decode cX12_laysModulus 81 = .ok (.aload_n 0, 1) := by decide +kernel
theorem dX12_laysModulus_82 : decode cX12_laysModulus 82 = .ok (.getfield 13, 3) := by decide +kernel
theorem dX12_laysModulus_85 : decode cX12_laysModulus 85 = .ok (.idiv, 1) := by decide +kernel
theorem dX12_laysModulus_86 : decode cX12_laysModulus 86 = .ok (.istore_n 2, 1) := by decide +kernel
theorem dX12_laysModulus_87 : decode cX12_laysModulus 87 = .ok (.iinc 3 1, 3) := by decide +kernel
theorem dX12_laysModulus_90 : decode cX12_laysModulus 90 = .ok (.goto (-30), 3) := by decide +kernel
theorem dX12_laysModulus_93 : decode cX12_laysModulus 93 = .ok (.aload_n 0, 1) := by decide +kernel
theorem dX12_laysModulus_94 : decode cX12_laysModulus 94 = .ok (.getfield 22, 3) := by decide +kernel
theorem dX12_laysModulus_97 : decode cX12_laysModulus 97 = .ok (.istore_n 3, 1) := by decide +kernel
theorem dX12_laysModulus_98 : decode cX12_laysModulus 98 = .ok (.iconst 1, 1) := by decide +kernel
theorem dX12_laysModulus_99 : decode cX12_laysModulus 99 = .ok (.istore 4, 2) := by decide +kernel
theorem dX12_laysModulus_101 : decode cX12_laysModulus 101 = .ok (.iload 4, 2) := by decide +kernel
theorem dX12_laysModulus_103 : decode cX12_laysModulus 103 = .ok (.aload_n 0, 1) := by decide +kernel
theorem dX12_laysModulus_104 : decode cX12_laysModulus 104 = .ok (.getfield 16, 3) := by decide +kernel
theorem dX12_laysModulus_107 : decode cX12_laysModulus 107 = .ok (.if_icmp .ge 20, 3) := by decide +kernel
theorem dX12_laysModulus_110 : decode cX12_laysModulus 110 = .ok (.aload_n 0, 1) := by decide +kernel
theorem dX12_laysModulus_111 : decode cX12_laysModulus 111 = .ok (.iload_n 3, 1) := by decide +kernel
theorem dX12_laysModulus_112 : decode cX12_laysModulus 112 = .ok (.aload_n 0, 1) := by decide +kernel
theorem dX12_laysModulus_113 : decode cX12_laysModulus 113 = .ok (.getfield 25, 3) := by decide +kernel
theorem dX12_laysModulus_116 : decode cX12_laysModulus 116 = .ok (.i2l, 1) := by decide +kernel
theorem dX12_laysModulus_117 : decode cX12_laysModulus 117 = .ok (.invokevirtual 147, 3) := by decide +kernel
theorem dX12_laysModulus_120 : decode cX12_laysModulus 120 = .ok (.istore_n 3, 1) := by decide +kernel
theorem dX12_laysModulus_121 : decode cX12_laysModulus 121 = .ok (.iinc 4 1, 3) := by decide +kernel
theorem dX12_laysModulus_124 : decode cX12_laysModulus 124 = .ok (.goto (-23), 3) := by decide +kernel
theorem dX12_laysModulus_127 : decode cX12_laysModulus 127 = .ok (.aload_n 0, 1) := by decide +kernel
theorem dX12_laysModulus_128 : decode cX12_laysModulus 128 = .ok (.getfield 19, 3) := by decide +kernel
theorem dX12_laysModulus_131 : decode cX12_laysModulus 131 = .ok (.iconst 1, 1) := by decide +kernel
theorem dX12_laysModulus_132 : decode cX12_laysModulus 132 = .ok (.iadd, 1) := by decide +kernel
theorem dX12_laysModulus_133 : decode cX12_laysModulus 133 = .ok (.newarray .int, 2) := by decide +kernel
theorem dX12_laysModulus_135 : decode cX12_laysModulus 135 = .ok (.astore 4, 2) := by decide +kernel
theorem dX12_laysModulus_137 : decode cX12_laysModulus 137 = .ok (.aload 4, 2) := by decide +kernel
theorem dX12_laysModulus_139 : decode cX12_laysModulus 139 = .ok (.iconst 0, 1) := by decide +kernel
theorem dX12_laysModulus_140 : decode cX12_laysModulus 140 = .ok (.iconst 1, 1) := by decide +kernel
theorem dX12_laysModulus_141 : decode cX12_laysModulus 141 = .ok (.iastore, 1) := by decide +kernel
theorem dX12_laysModulus_142 : decode cX12_laysModulus 142 = .ok (.iconst 0, 1) := by decide +kernel
theorem dX12_laysModulus_143 : decode cX12_laysModulus 143 = .ok (.istore 5, 2) := by decide +kernel
theorem dX12_laysModulus_145 : decode cX12_laysModulus 145 = .ok (.iload 5, 2) := by decide +kernel
theorem dX12_laysModulus_147 : decode cX12_laysModulus 147 = .ok (.aload_n 0, 1) := by decide +kernel
theorem dX12_laysModulus_148 : decode cX12_laysModulus 148 = .ok (.getfield 19, 3) := by decide +kernel
theorem dX12_laysModulus_151 : decode cX12_laysModulus 151 = .ok (.if_icmp .ge 29, 3) := by decide +kernel
theorem dX12_laysModulus_154 : decode cX12_laysModulus 154 = .ok (.aload_n 0, 1) := by decide +kernel
theorem dX12_laysModulus_155 : decode cX12_laysModulus 155 = .ok (.aload 4, 2) := by decide +kernel
theorem dX12_laysModulus_157 : decode cX12_laysModulus 157 = .ok (.iload 5, 2) := by decide +kernel
theorem dX12_laysModulus_159 : decode cX12_laysModulus 159 = .ok (.iload_n 3, 1) := by decide +kernel
theorem dX12_laysModulus_160 : decode cX12_laysModulus 160 = .ok (.invokevirtual 171, 3) := by decide +kernel
theorem dX12_laysModulus_163 : decode cX12_laysModulus 163 = .ok (.aload_n 0, 1) := by decide +kernel
theorem dX12_laysModulus_164 : decode cX12_laysModulus 164 = .ok (.iload_n 3, 1) := by decide +kernel
theorem dX12_laysModulus_165 : decode cX12_laysModulus 165 = .ok (.aload_n 0, 1) := by decide +kernel
theorem dX12_laysModulus_166 : decode cX12_laysModulus 166 = .ok (.getfield 13, 3) := by decide +kernel
theorem dX12_laysModulus_169 : decode cX12_laysModulus 169 = .ok (.i2l, 1) := by decide +kernel
theorem dX12_laysModulus_170 : decode cX12_laysModulus 170 = .ok (.invokevirtual 147, 3) := by decide +kernel
theorem dX12_laysModulus_173 : decode cX12_laysModulus 173 = .ok (.istore_n 3, 1) := by decide +kernel
theorem dX12_laysModulus_174 : decode cX12_laysModulus 174 = .ok (.iinc 5 1, 3) := by decide +kernel
theorem dX12_laysModulus_177 : decode cX12_laysModulus 177 = .ok (.goto (-32), 3) := by decide +kernel
theorem dX12_laysModulus_180 : decode cX12_laysModulus 180 = .ok (.iconst 0, 1) := by decide +kernel
theorem dX12_laysModulus_181 : decode cX12_laysModulus 181 = .ok (.istore 5, 2) := by decide +kernel
theorem dX12_laysModulus_183 : decode cX12_laysModulus 183 = .ok (.iload 5, 2) := by decide +kernel
theorem dX12_laysModulus_185 : decode cX12_laysModulus 185 = .ok (.aload_n 0, 1) := by decide +kernel
theorem dX12_laysModulus_186 : decode cX12_laysModulus 186 = .ok (.getfield 19, 3) := by decide +kernel
theorem dX12_laysModulus_189 : decode cX12_laysModulus 189 = .ok (.if_icmp .ge 21, 3) := by decide +kernel
theorem dX12_laysModulus_192 : decode cX12_laysModulus 192 = .ok (.aload_n 0, 1) := by decide +kernel
theorem dX12_laysModulus_193 : decode cX12_laysModulus 193 = .ok (.getfield 31, 3) := by decide +kernel
theorem dX12_laysModulus_196 : decode cX12_laysModulus 196 = .ok (.iload 5, 2) := by decide +kernel
theorem dX12_laysModulus_198 : decode cX12_laysModulus 198 = .ok (.aload 4, 2) := by decide +kernel
theorem dX12_laysModulus_200 : decode cX12_laysModulus 200 = .ok (.iload 5, 2) := by decide +kernel
theorem dX12_laysModulus_202 : decode cX12_laysModulus 202 = .ok (.iaload, 1) := by decide +kernel
theorem dX12_laysModulus_203 : decode cX12_laysModulus 203 = .ok (.iastore, 1) := by decide +kernel
theorem dX12_laysModulus_204 : decode cX12_laysModulus 204 = .ok (.iinc 5 1, 3) := by decide +kernel
theorem dX12_laysModulus_207 : decode cX12_laysModulus 207 = .ok (.goto (-24), 3) := by decide +kernel
theorem dX12_laysModulus_210 : decode cX12_laysModulus 210 = .ok (.return_, 1) := by decide +kernel
theorem dX12_joins_0 : decode cX12_joins 0 = .ok (.iload_n 2, 1) := by decide +kernel
theorem dX12_joins_1 : decode cX12_joins 1 = .ok (.iconst 1, 1) := by decide +kernel
theorem dX12_joins_2 : decode cX12_joins 2 = .ok (.iadd, 1) := by decide +kernel
theorem dX12_joins_3 : decode cX12_joins 3 = .ok (.istore 4, 2) := by decide +kernel
theorem dX12_joins_5 : decode cX12_joins 5 = .ok (.iload 4, 2) := by decide +kernel
theorem dX12_joins_7 : decode cX12_joins 7 = .ok (.ifCond .lt 52, 3) := by decide +kernel
theorem dX12_joins_10 : decode cX12_joins 10 = .ok (.aload_n 1, 1) := by decide +kernel
theorem dX12_joins_11 : decode cX12_joins 11 = .ok (.iload 4, 2) := by decide +kernel
theorem dX12_joins_13 : decode cX12_joins 13 = .ok (.aload_n 0, 1) := by decide +kernel
theorem dX12_joins_14 : decode cX12_joins 14 = .ok (.iload 4, 2) := by decide +kernel
theorem dX12_joins_16 : decode cX12_joins 16 = .ok (.ifCond .ne 7, 3) := by decide +kernel
theorem dX12_joins_19 : decode cX12_joins 19 = .ok (.iconst 0, 1) := by decide +kernel
theorem dX12_joins_20 : decode cX12_joins 20 = .ok (.goto 9, 3) := by decide +kernel
theorem dX12_joins_23 : decode cX12_joins 23 = .ok (.aload_n 1, 1) := by decide +kernel
theorem dX12_joins_24 : decode cX12_joins 24 = .ok (.iload 4, 2) := by decide +kernel
theorem dX12_joins_26 : decode cX12_joins 26 = .ok (.iconst 1, 1) := by decide +kernel
theorem dX12_joins_27 : decode cX12_joins 27 = .ok (.isub, 1) := by decide +kernel
theorem dX12_joins_28 : decode cX12_joins 28 = .ok (.iaload, 1) := by decide +kernel
theorem dX12_joins_29 : decode cX12_joins 29 = .ok (.iload 4, 2) := by decide +kernel
theorem dX12_joins_31 : decode cX12_joins 31 = .ok (.iload_n 2, 1) := by decide +kernel
theorem dX12_joins_32 : decode cX12_joins 32 = .ok (.if_icmp .le 7, 3) := by decide +kernel
theorem dX12_joins_35 : decode cX12_joins 35 = .ok (.iconst 0, 1) := by decide +kernel
theorem dX12_joins_36 : decode cX12_joins 36 = .ok (.goto 12, 3) := by decide +kernel
theorem dX12_joins_39 : decode cX12_joins 39 = .ok (.aload_n 0, 1) := by decide +kernel
theorem dX12_joins_40 : decode cX12_joins 40 = .ok (.aload_n 1, 1) := by decide +kernel
theorem dX12_joins_41 : decode cX12_joins 41 = .ok (.iload 4, 2) := by decide +kernel
theorem dX12_joins_43 : decode cX12_joins 43 = .ok (.iaload, 1) := by decide +kernel
theorem dX12_joins_44 : decode cX12_joins 44 = .ok (.iload_n 3, 1) := by decide +kernel
theorem dX12_joins_45 : decode cX12_joins 45 = .ok (.invokevirtual 132, 3) := by decide +kernel
theorem dX12_joins_48 : decode cX12_joins 48 = .ok (.iconst (-1), 1) := by decide +kernel
theorem dX12_joins_49 : decode cX12_joins 49 = .ok (.invokevirtual 175, 3) := by decide +kernel
theorem dX12_joins_52 : decode cX12_joins 52 = .ok (.iastore, 1) := by decide +kernel
theorem dX12_joins_53 : decode cX12_joins 53 = .ok (.iinc 4 (-1), 3) := by decide +kernel
theorem dX12_joins_56 : decode cX12_joins 56 = .ok (.goto (-51), 3) := by decide +kernel
theorem dX12_joins_59 : decode cX12_joins 59 = .ok (.return_, 1) := by decide +kernel
theorem dX12_laysRoots_0 : decode cX12_laysRoots 0 = .ok (.iconst 0, 1) := by decide +kernel
theorem dX12_laysRoots_1 : decode cX12_laysRoots 1 = .ok (.istore_n 1, 1) := by decide +kernel
theorem dX12_laysRoots_2 : decode cX12_laysRoots 2 = .ok (.iload_n 1, 1) := by decide +kernel
theorem dX12_laysRoots_3 : decode cX12_laysRoots 3 = .ok (.aload_n 0, 1) := by decide +kernel
theorem dX12_laysRoots_4 : decode cX12_laysRoots 4 = .ok (.getfield 25, 3) := by decide +kernel
theorem dX12_laysRoots_7 : decode cX12_laysRoots 7 = .ok (.if_icmp .ge 98, 3) := by decide +kernel
theorem dX12_laysRoots_10 : decode cX12_laysRoots 10 = .ok (.iconst 0, 1) := by decide +kernel
theorem dX12_laysRoots_11 : decode cX12_laysRoots 11 = .ok (.istore_n 2, 1) := by decide +kernel
theorem dX12_laysRoots_12 : decode cX12_laysRoots 12 = .ok (.iload_n 1, 1) := by decide +kernel
theorem dX12_laysRoots_13 : decode cX12_laysRoots 13 = .ok (.istore_n 3, 1) := by decide +kernel
theorem dX12_laysRoots_14 : decode cX12_laysRoots 14 = .ok (.iconst 1, 1) := by decide +kernel
theorem dX12_laysRoots_15 : decode cX12_laysRoots 15 = .ok (.istore 4, 2) := by decide +kernel
theorem dX12_laysRoots_17 : decode cX12_laysRoots 17 = .ok (.iconst 0, 1) := by decide +kernel
theorem dX12_laysRoots_18 : decode cX12_laysRoots 18 = .ok (.istore 5, 2) := by decide +kernel
theorem dX12_laysRoots_20 : decode cX12_laysRoots 20 = .ok (.iload 5, 2) := by decide +kernel
theorem dX12_laysRoots_22 : decode cX12_laysRoots 22 = .ok (.aload_n 0, 1) := by decide +kernel
theorem dX12_laysRoots_23 : decode cX12_laysRoots 23 = .ok (.getfield 19, 3) := by decide +kernel
theorem dX12_laysRoots_26 : decode cX12_laysRoots 26 = .ok (.if_icmp .ge 37, 3) := by decide +kernel
theorem dX12_laysRoots_29 : decode cX12_laysRoots 29 = .ok (.iload_n 2, 1) := by decide +kernel
theorem dX12_laysRoots_30 : decode cX12_laysRoots 30 = .ok (.iload 4, 2) := by decide +kernel
theorem dX12_laysRoots_32 : decode cX12_laysRoots 32 = .ok (.iload_n 3, 1) := by decide +kernel
theorem dX12_laysRoots_33 : decode cX12_laysRoots 33 = .ok (.aload_n 0, 1) := by decide +kernel
theorem dX12_laysRoots_34 : decode cX12_laysRoots 34 = .ok (.getfield 13, 3) := by decide +kernel
theorem dX12_laysRoots_37 : decode cX12_laysRoots 37 = .ok (.irem, 1) := by decide +kernel
theorem dX12_laysRoots_38 : decode cX12_laysRoots 38 = .ok (.imul, 1) := by decide +kernel
theorem dX12_laysRoots_39 : decode cX12_laysRoots 39 = .ok (.iadd, 1) := by decide +kernel
theorem dX12_laysRoots_40 : decode cX12_laysRoots 40 = .ok (.istore_n 2, 1) := by decide +kernel
theorem dX12_laysRoots_41 : decode cX12_laysRoots 41 = .ok (.iload 4, 2) := by decide +kernel
theorem dX12_laysRoots_43 : decode cX12_laysRoots 43 = .ok (.aload_n 0, 1) := by decide +kernel
theorem dX12_laysRoots_44 : decode cX12_laysRoots 44 = .ok (.getfield 22, 3) := by decide +kernel
theorem dX12_laysRoots_47 : decode cX12_laysRoots 47 = .ok (.imul, 1) := by decide +kernel
theorem dX12_laysRoots_48 : decode cX12_laysRoots 48 = .ok (.istore 4, 2) := by decide +kernel
theorem dX12_laysRoots_50 : decode cX12_laysRoots 50 = .ok (.iload_n 3, 1) := by decide +kernel
theorem dX12_laysRoots_51 : decode cX12_laysRoots 51 = .ok (.aload_n 0, 1) := by decide +kernel
theorem dX12_laysRoots_52 : decode cX12_laysRoots 52 = .ok (.getfield 13, 3) := by decide +kernel
theorem dX12_laysRoots_55 : decode cX12_laysRoots 55 = .ok (.idiv, 1) := by decide +kernel
theorem dX12_laysRoots_56 : decode cX12_laysRoots 56 = .ok (.istore_n 3, 1) := by decide +kernel
theorem dX12_laysRoots_57 : decode cX12_laysRoots 57 = .ok (.iinc 5 1, 3) := by decide +kernel
theorem dX12_laysRoots_60 : decode cX12_laysRoots 60 = .ok (.goto (-40), 3) := by decide +kernel
theorem dX12_laysRoots_63 : decode cX12_laysRoots 63 = .ok (.iconst 1, 1) := by decide +kernel
theorem dX12_laysRoots_64 : decode cX12_laysRoots 64 = .ok (.istore 5, 2) := by decide +kernel
theorem dX12_laysRoots_66 : decode cX12_laysRoots 66 = .ok (.iload 5, 2) := by decide +kernel
theorem dX12_laysRoots_68 : decode cX12_laysRoots 68 = .ok (.aload_n 0, 1) := by decide +kernel
theorem dX12_laysRoots_69 : decode cX12_laysRoots 69 = .ok (.getfield 16, 3) := by decide +kernel
theorem dX12_laysRoots_72 : decode cX12_laysRoots 72 = .ok (.if_icmp .ge 20, 3) := by decide +kernel
theorem dX12_laysRoots_75 : decode cX12_laysRoots 75 = .ok (.aload_n 0, 1) := by decide +kernel
theorem dX12_laysRoots_76 : decode cX12_laysRoots 76 = .ok (.iload_n 2, 1) := by decide +kernel
theorem dX12_laysRoots_77 : decode cX12_laysRoots 77 = .ok (.aload_n 0, 1) := by decide +kernel
theorem dX12_laysRoots_78 : decode cX12_laysRoots 78 = .ok (.getfield 25, 3) := by decide +kernel
theorem dX12_laysRoots_81 : decode cX12_laysRoots 81 = .ok (.i2l, 1) := by decide +kernel
theorem dX12_laysRoots_82 : decode cX12_laysRoots 82 = .ok (.invokevirtual 147, 3) := by decide +kernel
theorem dX12_laysRoots_85 : decode cX12_laysRoots 85 = .ok (.istore_n 2, 1) := by decide +kernel
theorem dX12_laysRoots_86 : decode cX12_laysRoots 86 = .ok (.iinc 5 1, 3) := by decide +kernel
theorem dX12_laysRoots_89 : decode cX12_laysRoots 89 = .ok (.goto (-23), 3) := by decide +kernel
theorem dX12_laysRoots_92 : decode cX12_laysRoots 92 = .ok (.aload_n 0, 1) := by decide +kernel
theorem dX12_laysRoots_93 : decode cX12_laysRoots 93 = .ok (.getfield 35, 3) := by decide +kernel
theorem dX12_laysRoots_96 : decode cX12_laysRoots 96 = .ok (.iload_n 1, 1) := by decide +kernel
theorem dX12_laysRoots_97 : decode cX12_laysRoots 97 = .ok (.iload_n 2, 1) := by decide +kernel
theorem dX12_laysRoots_98 : decode cX12_laysRoots 98 = .ok (.iastore, 1) := by decide +kernel
theorem dX12_laysRoots_99 : decode cX12_laysRoots 99 = .ok (.iinc 1 1, 3) := by decide +kernel
theorem dX12_laysRoots_102 : decode cX12_laysRoots 102 = .ok (.goto (-100), 3) := by decide +kernel
theorem dX12_laysRoots_105 : decode cX12_laysRoots 105 = .ok (.aload_n 0, 1) := by decide +kernel
theorem dX12_laysRoots_106 : decode cX12_laysRoots 106 = .ok (.sipush 4096, 3) := by decide +kernel
theorem dX12_laysRoots_109 : decode cX12_laysRoots 109 = .ok (.putfield 179, 3) := by decide +kernel
theorem dX12_laysRoots_112 : decode cX12_laysRoots 112 = .ok (.iconst 1, 1) := by decide +kernel
theorem dX12_laysRoots_113 : decode cX12_laysRoots 113 = .ok (.istore_n 1, 1) := by decide +kernel
theorem dX12_laysRoots_114 : decode cX12_laysRoots 114 = .ok (.iload_n 1, 1) := by decide +kernel
theorem dX12_laysRoots_115 : decode cX12_laysRoots 115 = .ok (.aload_n 0, 1) := by decide +kernel
theorem dX12_laysRoots_116 : decode cX12_laysRoots 116 = .ok (.getfield 25, 3) := by decide +kernel
theorem dX12_laysRoots_119 : decode cX12_laysRoots 119 = .ok (.if_icmp .ge 45, 3) := by decide +kernel
theorem dX12_laysRoots_122 : decode cX12_laysRoots 122 = .ok (.aload_n 0, 1) := by decide +kernel
theorem dX12_laysRoots_123 : decode cX12_laysRoots 123 = .ok (.getfield 35, 3) := by decide +kernel
theorem dX12_laysRoots_126 : decode cX12_laysRoots 126 = .ok (.iload_n 1, 1) := by decide +kernel
theorem dX12_laysRoots_127 : decode cX12_laysRoots 127 = .ok (.iaload, 1) := by decide +kernel
theorem dX12_laysRoots_128 : decode cX12_laysRoots 128 = .ok (.aload_n 0, 1) := by decide +kernel
theorem dX12_laysRoots_129 : decode cX12_laysRoots 129 = .ok (.getfield 179, 3) := by decide +kernel
theorem dX12_laysRoots_132 : decode cX12_laysRoots 132 = .ok (.if_icmp .ge 26, 3) := by decide +kernel
theorem dX12_laysRoots_135 : decode cX12_laysRoots 135 = .ok (.aload_n 0, 1) := by decide +kernel
theorem dX12_laysRoots_136 : decode cX12_laysRoots 136 = .ok (.aload_n 0, 1) := by decide +kernel
theorem dX12_laysRoots_137 : decode cX12_laysRoots 137 = .ok (.getfield 35, 3) := by decide +kernel
theorem dX12_laysRoots_140 : decode cX12_laysRoots 140 = .ok (.iload_n 1, 1) := by decide +kernel
theorem dX12_laysRoots_141 : decode cX12_laysRoots 141 = .ok (.iaload, 1) := by decide +kernel
theorem dX12_laysRoots_142 : decode cX12_laysRoots 142 = .ok (.invokevirtual 182, 3) := by decide +kernel
theorem dX12_laysRoots_145 : decode cX12_laysRoots 145 = .ok (.ifCond .eq 13, 3) := by decide +kernel
theorem dX12_laysRoots_148 : decode cX12_laysRoots 148 = .ok (.aload_n 0, 1) := by decide +kernel
theorem dX12_laysRoots_149 : decode cX12_laysRoots 149 = .ok (.aload_n 0, 1) := by decide +kernel
theorem dX12_laysRoots_150 : decode cX12_laysRoots 150 = .ok (.getfield 35, 3) := by decide +kernel
theorem dX12_laysRoots_153 : decode cX12_laysRoots 153 = .ok (.iload_n 1, 1) := by decide +kernel
theorem dX12_laysRoots_154 : decode cX12_laysRoots 154 = .ok (.iaload, 1) := by decide +kernel
theorem dX12_laysRoots_155 : decode cX12_laysRoots 155 = .ok (.putfield 179, 3) := by decide +kernel
theorem dX12_laysRoots_158 : decode cX12_laysRoots 158 = .ok (.iinc 1 1, 3) := by decide +kernel
theorem dX12_laysRoots_161 : decode cX12_laysRoots 161 = .ok (.goto (-47), 3) := by decide +kernel
theorem dX12_laysRoots_164 : decode cX12_laysRoots 164 = .ok (.iconst 1, 1) := by decide +kernel
theorem dX12_laysRoots_165 : decode cX12_laysRoots 165 = .ok (.istore_n 1, 1) := by decide +kernel
theorem dX12_laysRoots_166 : decode cX12_laysRoots 166 = .ok (.iconst 0, 1) := by decide +kernel
theorem dX12_laysRoots_167 : decode cX12_laysRoots 167 = .ok (.istore_n 2, 1) := by decide +kernel
theorem dX12_laysRoots_168 : decode cX12_laysRoots 168 = .ok (.iload_n 2, 1) := by decide +kernel
theorem dX12_laysRoots_169 : decode cX12_laysRoots 169 = .ok (.aload_n 0, 1) := by decide +kernel
theorem dX12_laysRoots_170 : decode cX12_laysRoots 170 = .ok (.getfield 25, 3) := by decide +kernel
theorem dX12_laysRoots_173 : decode cX12_laysRoots 173 = .ok (.iconst 1, 1) := by decide +kernel
theorem dX12_laysRoots_174 : decode cX12_laysRoots 174 = .ok (.isub, 1) := by decide +kernel
theorem dX12_laysRoots_175 : decode cX12_laysRoots 175 = .ok (.if_icmp .ge 37, 3) := by decide +kernel
theorem dX12_laysRoots_178 : decode cX12_laysRoots 178 = .ok (.aload_n 0, 1) := by decide +kernel
theorem dX12_laysRoots_179 : decode cX12_laysRoots 179 = .ok (.getfield 41, 3) := by decide +kernel
theorem dX12_laysRoots_182 : decode cX12_laysRoots 182 = .ok (.iload_n 2, 1) := by decide +kernel
theorem dX12_laysRoots_183 : decode cX12_laysRoots 183 = .ok (.iload_n 1, 1) := by decide +kernel
theorem dX12_laysRoots_184 : decode cX12_laysRoots 184 = .ok (.iastore, 1) := by decide +kernel
theorem dX12_laysRoots_185 : decode cX12_laysRoots 185 = .ok (.aload_n 0, 1) := by decide +kernel
theorem dX12_laysRoots_186 : decode cX12_laysRoots 186 = .ok (.getfield 38, 3) := by decide +kernel
theorem dX12_laysRoots_189 : decode cX12_laysRoots 189 = .ok (.aload_n 0, 1) := by decide +kernel
theorem dX12_laysRoots_190 : decode cX12_laysRoots 190 = .ok (.iload_n 1, 1) := by decide +kernel
theorem dX12_laysRoots_191 : decode cX12_laysRoots 191 = .ok (.invokevirtual 139, 3) := by decide +kernel
theorem dX12_laysRoots_194 : decode cX12_laysRoots 194 = .ok (.iload_n 2, 1) := by decide +kernel
theorem dX12_laysRoots_195 : decode cX12_laysRoots 195 = .ok (.iastore, 1) := by decide +kernel
theorem dX12_laysRoots_196 : decode cX12_laysRoots 196 = .ok (.aload_n 0, 1) := by decide +kernel
theorem dX12_laysRoots_197 : decode cX12_laysRoots 197 = .ok (.iload_n 1, 1) := by decide +kernel
theorem dX12_laysRoots_198 : decode cX12_laysRoots 198 = .ok (.aload_n 0, 1) := by decide +kernel
theorem dX12_laysRoots_199 : decode cX12_laysRoots 199 = .ok (.getfield 179, 3) := by decide +kernel
theorem dX12_laysRoots_202 : decode cX12_laysRoots 202 = .ok (.invokevirtual 132, 3) := by decide +kernel
theorem dX12_laysRoots_205 : decode cX12_laysRoots 205 = .ok (.istore_n 1, 1) := by decide +kernel
theorem dX12_laysRoots_206 : decode cX12_laysRoots 206 = .ok (.iinc 2 1, 3) := by decide +kernel
theorem dX12_laysRoots_209 : decode cX12_laysRoots 209 = .ok (.goto (-41), 3) := by decide +kernel
theorem dX12_laysRoots_212 : decode cX12_laysRoots 212 = .ok (.aload_n 0, 1) := by decide +kernel
theorem dX12_laysRoots_213 : decode cX12_laysRoots 213 = .ok (.getfield 38, 3) := by decide +kernel
theorem dX12_laysRoots_216 : decode cX12_laysRoots 216 = .ok (.iconst 0, 1) := by decide +kernel
theorem dX12_laysRoots_217 : decode cX12_laysRoots 217 = .ok (.iconst (-1), 1) := by decide +kernel
theorem dX12_laysRoots_218 : decode cX12_laysRoots 218 = .ok (.iastore, 1) := by decide +kernel
theorem dX12_laysRoots_219 : decode cX12_laysRoots 219 = .ok (.return_, 1) := by decide +kernel
theorem dX12_isGenerator_0 : decode cX12_isGenerator 0 = .ok (.aload_n 0, 1) := by decide +kernel
theorem dX12_isGenerator_1 : decode cX12_isGenerator 1 = .ok (.getfield 25, 3) := by decide +kernel
theorem dX12_isGenerator_4 : decode cX12_isGenerator 4 = .ok (.iconst 1, 1) := by decide +kernel
theorem dX12_isGenerator_5 : decode cX12_isGenerator 5 = .ok (.isub, 1) := by decide +kernel
theorem dX12_isGenerator_6 : decode cX12_isGenerator 6 = .ok (.istore_n 2, 1) := by decide +kernel
theorem dX12_isGenerator_7 : decode cX12_isGenerator 7 = .ok (.iconst 2, 1) := by decide +kernel
theorem dX12_isGenerator_8 : decode cX12_isGenerator 8 = .ok (.istore_n 3, 1) := by decide +kernel
theorem dX12_isGenerator_9 : decode cX12_isGenerator 9 = .ok (.iload_n 2, 1) := by decide +kernel
theorem dX12_isGenerator_10 : decode cX12_isGenerator 10 = .ok (.iconst 1, 1) := by decide +kernel
theorem dX12_isGenerator_11 : decode cX12_isGenerator 11 = .ok (.if_icmp .le 51, 3) := by decide +kernel
theorem dX12_isGenerator_14 : decode cX12_isGenerator 14 = .ok (.iload_n 2, 1) := by decide +kernel
theorem dX12_isGenerator_15 : decode cX12_isGenerator 15 = .ok (.iload_n 3, 1) := by decide +kernel
theorem dX12_isGenerator_16 : decode cX12_isGenerator 16 = .ok (.irem, 1) := by decide +kernel
theorem dX12_isGenerator_17 : decode cX12_isGenerator 17 = .ok (.ifCond .eq 6, 3) := by decide +kernel
theorem dX12_isGenerator_20 : decode cX12_isGenerator 20 = .ok (.goto 36, 3) := by decide +kernel
theorem dX12_isGenerator_23 : decode cX12_isGenerator 23 = .ok (.aload_n 0, 1) := by decide +kernel
theorem dX12_isGenerator_24 : decode cX12_isGenerator 24 = .ok (.iload_n 1, 1) := by decide +kernel
theorem dX12_isGenerator_25 : decode cX12_isGenerator 25 = .ok (.aload_n 0, 1) := by decide +kernel
theorem dX12_isGenerator_26 : decode cX12_isGenerator 26 = .ok (.getfield 25, 3) := by decide +kernel
theorem dX12_isGenerator_29 : decode cX12_isGenerator 29 = .ok (.iconst 1, 1) := by decide +kernel
theorem dX12_isGenerator_30 : decode cX12_isGenerator 30 = .ok (.isub, 1) := by decide +kernel
theorem dX12_isGenerator_31 : decode cX12_isGenerator 31 = .ok (.iload_n 3, 1) := by decide +kernel
theorem dX12_isGenerator_32 : decode cX12_isGenerator 32 = .ok (.idiv, 1) := by decide +kernel
theorem dX12_isGenerator_33 : decode cX12_isGenerator 33 = .ok (.i2l, 1) := by decide +kernel
theorem dX12_isGenerator_34 : decode cX12_isGenerator 34 = .ok (.invokevirtual 147, 3) := by decide +kernel
theorem dX12_isGenerator_37 : decode cX12_isGenerator 37 = .ok (.iconst 1, 1) := by decide +kernel
theorem dX12_isGenerator_38 : decode cX12_isGenerator 38 = .ok (.if_icmp .ne 5, 3) := by decide +kernel
theorem dX12_isGenerator_41 : decode cX12_isGenerator 41 = .ok (.iconst 0, 1) := by decide +kernel
theorem dX12_isGenerator_42 : decode cX12_isGenerator 42 = .ok (.ireturn, 1) := by decide +kernel
theorem dX12_isGenerator_43 : decode cX12_isGenerator 43 = .ok (.iload_n 2, 1) := by decide +kernel
theorem dX12_isGenerator_44 : decode cX12_isGenerator 44 = .ok (.iload_n 3, 1) := by decide +kernel
theorem dX12_isGenerator_45 : decode cX12_isGenerator 45 = .ok (.irem, 1) := by decide +kernel
theorem dX12_isGenerator_46 : decode cX12_isGenerator 46 = .ok (.ifCond .ne 10, 3) := by decide +kernel
theorem dX12_isGenerator_49 : decode cX12_isGenerator 49 = .ok (.iload_n 2, 1) := by decide +kernel
theorem dX12_isGenerator_50 : decode cX12_isGenerator 50 = .ok (.iload_n 3, 1) := by decide +kernel
theorem dX12_isGenerator_51 : decode cX12_isGenerator 51 = .ok (.idiv, 1) := by decide +kernel
theorem dX12_isGenerator_52 : decode cX12_isGenerator 52 = .ok (.istore_n 2, 1) := by decide +kernel
theorem dX12_isGenerator_53 : decode cX12_isGenerator 53 = .ok (.goto (-10), 3) := by decide +kernel
theorem dX12_isGenerator_56 : decode cX12_isGenerator 56 = .ok (.iinc 3 1, 3) := by decide +kernel
theorem dX12_isGenerator_59 : decode cX12_isGenerator 59 = .ok (.goto (-50), 3) := by decide +kernel
theorem dX12_isGenerator_62 : decode cX12_isGenerator 62 = .ok (.iconst 1, 1) := by decide +kernel
theorem dX12_isGenerator_63 : decode cX12_isGenerator 63 = .ok (.ireturn, 1) := by decide +kernel
theorem dX12_orderOf_0 : decode cX12_orderOf 0 = .ok (.iconst 1, 1) := by decide +kernel
theorem dX12_orderOf_1 : decode cX12_orderOf 1 = .ok (.istore_n 2, 1) := by decide +kernel
theorem dX12_orderOf_2 : decode cX12_orderOf 2 = .ok (.iload_n 1, 1) := by decide +kernel
theorem dX12_orderOf_3 : decode cX12_orderOf 3 = .ok (.istore_n 3, 1) := by decide +kernel
theorem dX12_orderOf_4 : decode cX12_orderOf 4 = .ok (.iload_n 3, 1) := by decide +kernel
theorem dX12_orderOf_5 : decode cX12_orderOf 5 = .ok (.iconst 1, 1) := by decide +kernel
theorem dX12_orderOf_6 : decode cX12_orderOf 6 = .ok (.if_icmp .eq 16, 3) := by decide +kernel
theorem dX12_orderOf_9 : decode cX12_orderOf 9 = .ok (.aload_n 0, 1) := by decide +kernel
theorem dX12_orderOf_10 : decode cX12_orderOf 10 = .ok (.iload_n 3, 1) := by decide +kernel
theorem dX12_orderOf_11 : decode cX12_orderOf 11 = .ok (.iload_n 1, 1) := by decide +kernel
theorem dX12_orderOf_12 : decode cX12_orderOf 12 = .ok (.invokevirtual 132, 3) := by decide +kernel
theorem dX12_orderOf_15 : decode cX12_orderOf 15 = .ok (.istore_n 3, 1) := by decide +kernel
theorem dX12_orderOf_16 : decode cX12_orderOf 16 = .ok (.iinc 2 1, 3) := by decide +kernel
theorem dX12_orderOf_19 : decode cX12_orderOf 19 = .ok (.goto (-15), 3) := by decide +kernel
theorem dX12_orderOf_22 : decode cX12_orderOf 22 = .ok (.iload_n 2, 1) := by decide +kernel
theorem dX12_orderOf_23 : decode cX12_orderOf 23 = .ok (.ireturn, 1) := by decide +kernel
theorem dX12_rootOf_0 : decode cX12_rootOf 0 = .ok (.aload_n 0, 1) := by decide +kernel
theorem dX12_rootOf_1 : decode cX12_rootOf 1 = .ok (.getfield 35, 3) := by decide +kernel
theorem dX12_rootOf_4 : decode cX12_rootOf 4 = .ok (.aload_n 0, 1) := by decide +kernel
theorem dX12_rootOf_5 : decode cX12_rootOf 5 = .ok (.iload_n 1, 1) := by decide +kernel
theorem dX12_rootOf_6 : decode cX12_rootOf 6 = .ok (.invokevirtual 139, 3) := by decide +kernel
theorem dX12_rootOf_9 : decode cX12_rootOf 9 = .ok (.iaload, 1) := by decide +kernel
theorem dX12_rootOf_10 : decode cX12_rootOf 10 = .ok (.ireturn, 1) := by decide +kernel
theorem dX12_byP_0 : decode cX12_byP 0 = .ok (.aload_n 0, 1) := by decide +kernel
theorem dX12_byP_1 : decode cX12_byP 1 = .ok (.aload_n 0, 1) := by decide +kernel
theorem dX12_byP_2 : decode cX12_byP 2 = .ok (.getfield 50, 3) := by decide +kernel
theorem dX12_byP_5 : decode cX12_byP 5 = .ok (.iload_n 1, 1) := by decide +kernel
theorem dX12_byP_6 : decode cX12_byP 6 = .ok (.invokevirtual 122, 3) := by decide +kernel
theorem dX12_byP_9 : decode cX12_byP 9 = .ok (.iconst 0, 1) := by decide +kernel
theorem dX12_byP_10 : decode cX12_byP 10 = .ok (.istore_n 2, 1) := by decide +kernel
theorem dX12_byP_11 : decode cX12_byP 11 = .ok (.iload_n 2, 1) := by decide +kernel
theorem dX12_byP_12 : decode cX12_byP 12 = .ok (.aload_n 0, 1) := by decide +kernel
theorem dX12_byP_13 : decode cX12_byP 13 = .ok (.getfield 19, 3) := by decide +kernel
theorem dX12_byP_16 : decode cX12_byP 16 = .ok (.if_icmp .ge 22, 3) := by decide +kernel
theorem dX12_byP_19 : decode cX12_byP 19 = .ok (.aload_n 0, 1) := by decide +kernel
theorem dX12_byP_20 : decode cX12_byP 20 = .ok (.getfield 50, 3) := by decide +kernel
theorem dX12_byP_23 : decode cX12_byP 23 = .ok (.iload_n 2, 1) := by decide +kernel
theorem dX12_byP_24 : decode cX12_byP 24 = .ok (.dup2, 1) := by decide +kernel
theorem dX12_byP_25 : decode cX12_byP 25 = .ok (.iaload, 1) := by decide +kernel
theorem dX12_byP_26 : decode cX12_byP 26 = .ok (.aload_n 0, 1) := by decide +kernel
theorem dX12_byP_27 : decode cX12_byP 27 = .ok (.getfield 13, 3) := by decide +kernel
theorem dX12_byP_30 : decode cX12_byP 30 = .ok (.idiv, 1) := by decide +kernel
theorem dX12_byP_31 : decode cX12_byP 31 = .ok (.iastore, 1) := by decide +kernel
theorem dX12_byP_32 : decode cX12_byP 32 = .ok (.iinc 2 1, 3) := by decide +kernel
theorem dX12_byP_35 : decode cX12_byP 35 = .ok (.goto (-24), 3) := by decide +kernel
theorem dX12_byP_38 : decode cX12_byP 38 = .ok (.aload_n 0, 1) := by decide +kernel
theorem dX12_byP_39 : decode cX12_byP 39 = .ok (.aload_n 0, 1) := by decide +kernel
theorem dX12_byP_40 : decode cX12_byP 40 = .ok (.getfield 50, 3) := by decide +kernel
theorem dX12_byP_43 : decode cX12_byP 43 = .ok (.invokevirtual 126, 3) := by decide +kernel
theorem dX12_byP_46 : decode cX12_byP 46 = .ok (.ireturn, 1) := by decide +kernel
theorem dX12_laysDigits_0 : decode cX12_laysDigits 0 = .ok (.iload_n 1, 1) := by decide +kernel
theorem dX12_laysDigits_1 : decode cX12_laysDigits 1 = .ok (.istore_n 2, 1) := by decide +kernel
theorem dX12_laysDigits_2 : decode cX12_laysDigits 2 = .ok (.iconst 0, 1) := by decide +kernel
theorem dX12_laysDigits_3 : decode cX12_laysDigits 3 = .ok (.istore_n 3, 1) := by decide +kernel
theorem dX12_laysDigits_4 : decode cX12_laysDigits 4 = .ok (.iload_n 3, 1) := by decide +kernel
theorem dX12_laysDigits_5 : decode cX12_laysDigits 5 = .ok (.aload_n 0, 1) := by decide +kernel
theorem dX12_laysDigits_6 : decode cX12_laysDigits 6 = .ok (.getfield 16, 3) := by decide +kernel
theorem dX12_laysDigits_9 : decode cX12_laysDigits 9 = .ok (.if_icmp .ge 41, 3) := by decide +kernel
theorem dX12_laysDigits_12 : decode cX12_laysDigits 12 = .ok (.aload_n 0, 1) := by decide +kernel
theorem dX12_laysDigits_13 : decode cX12_laysDigits 13 = .ok (.getfield 59, 3) := by decide +kernel
theorem dX12_laysDigits_16 : decode cX12_laysDigits 16 = .ok (.iload_n 3, 1) := by decide +kernel
theorem dX12_laysDigits_17 : decode cX12_laysDigits 17 = .ok (.aload_n 0, 1) := by decide +kernel
theorem dX12_laysDigits_18 : decode cX12_laysDigits 18 = .ok (.getfield 38, 3) := by decide +kernel
theorem dX12_laysDigits_21 : decode cX12_laysDigits 21 = .ok (.aload_n 0, 1) := by decide +kernel
theorem dX12_laysDigits_22 : decode cX12_laysDigits 22 = .ok (.iload_n 2, 1) := by decide +kernel
theorem dX12_laysDigits_23 : decode cX12_laysDigits 23 = .ok (.invokevirtual 139, 3) := by decide +kernel
theorem dX12_laysDigits_26 : decode cX12_laysDigits 26 = .ok (.iaload, 1) := by decide +kernel
theorem dX12_laysDigits_27 : decode cX12_laysDigits 27 = .ok (.iastore, 1) := by decide +kernel
theorem dX12_laysDigits_28 : decode cX12_laysDigits 28 = .ok (.aload_n 0, 1) := by decide +kernel
theorem dX12_laysDigits_29 : decode cX12_laysDigits 29 = .ok (.aload_n 0, 1) := by decide +kernel
theorem dX12_laysDigits_30 : decode cX12_laysDigits 30 = .ok (.iload_n 2, 1) := by decide +kernel
theorem dX12_laysDigits_31 : decode cX12_laysDigits 31 = .ok (.aload_n 0, 1) := by decide +kernel
theorem dX12_laysDigits_32 : decode cX12_laysDigits 32 = .ok (.iload_n 2, 1) := by decide +kernel
theorem dX12_laysDigits_33 : decode cX12_laysDigits 33 = .ok (.invokevirtual 185, 3) := by decide +kernel
theorem dX12_laysDigits_36 : decode cX12_laysDigits 36 = .ok (.iconst (-1), 1) := by decide +kernel
theorem dX12_laysDigits_37 : decode cX12_laysDigits 37 = .ok (.invokevirtual 175, 3) := by decide +kernel
theorem dX12_laysDigits_40 : decode cX12_laysDigits 40 = .ok (.invokevirtual 188, 3) := by decide +kernel
theorem dX12_laysDigits_43 : decode cX12_laysDigits 43 = .ok (.istore_n 2, 1) := by decide +kernel
theorem dX12_laysDigits_44 : decode cX12_laysDigits 44 = .ok (.iinc 3 1, 3) := by decide +kernel
theorem dX12_laysDigits_47 : decode cX12_laysDigits 47 = .ok (.goto (-43), 3) := by decide +kernel
theorem dX12_laysDigits_50 : decode cX12_laysDigits 50 = .ok (.return_, 1) := by decide +kernel
theorem dX12_joined_0 : decode cX12_joined 0 = .ok (.iconst 0, 1) := by decide +kernel
theorem dX12_joined_1 : decode cX12_joined 1 = .ok (.istore_n 2, 1) := by decide +kernel
theorem dX12_joined_2 : decode cX12_joined 2 = .ok (.iconst 1, 1) := by decide +kernel
theorem dX12_joined_3 : decode cX12_joined 3 = .ok (.istore_n 3, 1) := by decide +kernel
theorem dX12_joined_4 : decode cX12_joined 4 = .ok (.iconst 0, 1) := by decide +kernel
theorem dX12_joined_5 : decode cX12_joined 5 = .ok (.istore 4, 2) := by decide +kernel
theorem dX12_joined_7 : decode cX12_joined 7 = .ok (.iload 4, 2) := by decide +kernel
theorem dX12_joined_9 : decode cX12_joined 9 = .ok (.aload_n 0, 1) := by decide +kernel
theorem dX12_joined_10 : decode cX12_joined 10 = .ok (.getfield 16, 3) := by decide +kernel
theorem dX12_joined_13 : decode cX12_joined 13 = .ok (.if_icmp .ge 60, 3) := by decide +kernel
theorem dX12_joined_16 : decode cX12_joined 16 = .ok (.aload_n 0, 1) := by decide +kernel
theorem dX12_joined_17 : decode cX12_joined 17 = .ok (.getfield 59, 3) := by decide +kernel
theorem dX12_joined_20 : decode cX12_joined 20 = .ok (.iload 4, 2) := by decide +kernel
theorem dX12_joined_22 : decode cX12_joined 22 = .ok (.iaload, 1) := by decide +kernel
theorem dX12_joined_23 : decode cX12_joined 23 = .ok (.iconst (-1), 1) := by decide +kernel
theorem dX12_joined_24 : decode cX12_joined 24 = .ok (.if_icmp .eq 36, 3) := by decide +kernel
theorem dX12_joined_27 : decode cX12_joined 27 = .ok (.aload_n 0, 1) := by decide +kernel
theorem dX12_joined_28 : decode cX12_joined 28 = .ok (.iload_n 2, 1) := by decide +kernel
theorem dX12_joined_29 : decode cX12_joined 29 = .ok (.aload_n 0, 1) := by decide +kernel
theorem dX12_joined_30 : decode cX12_joined 30 = .ok (.iload_n 3, 1) := by decide +kernel
theorem dX12_joined_31 : decode cX12_joined 31 = .ok (.aload_n 0, 1) := by decide +kernel
theorem dX12_joined_32 : decode cX12_joined 32 = .ok (.getfield 41, 3) := by decide +kernel
theorem dX12_joined_35 : decode cX12_joined 35 = .ok (.aload_n 0, 1) := by decide +kernel
theorem dX12_joined_36 : decode cX12_joined 36 = .ok (.getfield 59, 3) := by decide +kernel
theorem dX12_joined_39 : decode cX12_joined 39 = .ok (.iload 4, 2) := by decide +kernel
theorem dX12_joined_41 : decode cX12_joined 41 = .ok (.iaload, 1) := by decide +kernel
theorem dX12_joined_42 : decode cX12_joined 42 = .ok (.iload_n 1, 1) := by decide +kernel
theorem dX12_joined_43 : decode cX12_joined 43 = .ok (.imul, 1) := by decide +kernel
theorem dX12_joined_44 : decode cX12_joined 44 = .ok (.aload_n 0, 1) := by decide +kernel
theorem dX12_joined_45 : decode cX12_joined 45 = .ok (.getfield 25, 3) := by decide +kernel
theorem dX12_joined_48 : decode cX12_joined 48 = .ok (.iconst 1, 1) := by decide +kernel
theorem dX12_joined_49 : decode cX12_joined 49 = .ok (.isub, 1) := by decide +kernel
theorem dX12_joined_50 : decode cX12_joined 50 = .ok (.irem, 1) := by decide +kernel
theorem dX12_joined_51 : decode cX12_joined 51 = .ok (.iaload, 1) := by decide +kernel
theorem dX12_joined_52 : decode cX12_joined 52 = .ok (.invokevirtual 132, 3) := by decide +kernel
theorem dX12_joined_55 : decode cX12_joined 55 = .ok (.iconst 1, 1) := by decide +kernel
theorem dX12_joined_56 : decode cX12_joined 56 = .ok (.invokevirtual 175, 3) := by decide +kernel
theorem dX12_joined_59 : decode cX12_joined 59 = .ok (.istore_n 2, 1) := by decide +kernel
theorem dX12_joined_60 : decode cX12_joined 60 = .ok (.iload_n 3, 1) := by decide +kernel
theorem dX12_joined_61 : decode cX12_joined 61 = .ok (.aload_n 0, 1) := by decide +kernel
theorem dX12_joined_62 : decode cX12_joined 62 = .ok (.getfield 13, 3) := by decide +kernel
theorem dX12_joined_65 : decode cX12_joined 65 = .ok (.imul, 1) := by decide +kernel
theorem dX12_joined_66 : decode cX12_joined 66 = .ok (.istore_n 3, 1) := by decide +kernel
theorem dX12_joined_67 : decode cX12_joined 67 = .ok (.iinc 4 1, 3) := by decide +kernel
theorem dX12_joined_70 : decode cX12_joined 70 = .ok (.goto (-63), 3) := by decide +kernel
theorem dX12_joined_73 : decode cX12_joined 73 = .ok (.iload_n 2, 1) := by decide +kernel
theorem dX12_joined_74 : decode cX12_joined 74 = .ok (.ireturn, 1) := by decide +kernel
theorem dX12_moved_0 : decode cX12_moved 0 = .ok (.aload_n 0, 1) := by decide +kernel
theorem dX12_moved_1 : decode cX12_moved 1 = .ok (.iload_n 1, 1) := by decide +kernel
theorem dX12_moved_2 : decode cX12_moved 2 = .ok (.invokevirtual 191, 3) := by decide +kernel
theorem dX12_moved_5 : decode cX12_moved 5 = .ok (.aload_n 0, 1) := by decide +kernel
theorem dX12_moved_6 : decode cX12_moved 6 = .ok (.aload_n 0, 1) := by decide +kernel
theorem dX12_moved_7 : decode cX12_moved 7 = .ok (.getfield 13, 3) := by decide +kernel
theorem dX12_moved_10 : decode cX12_moved 10 = .ok (.invokevirtual 195, 3) := by decide +kernel
theorem dX12_moved_13 : decode cX12_moved 13 = .ok (.ireturn, 1) := by decide +kernel
theorem dX12_movedTimes_0 : decode cX12_movedTimes 0 = .ok (.iload_n 1, 1) := by decide +kernel
theorem dX12_movedTimes_1 : decode cX12_movedTimes 1 = .ok (.istore_n 3, 1) := by decide +kernel
theorem dX12_movedTimes_2 : decode cX12_movedTimes 2 = .ok (.iconst 0, 1) := by decide +kernel
theorem dX12_movedTimes_3 : decode cX12_movedTimes 3 = .ok (.istore 4, 2) := by decide +kernel
theorem dX12_movedTimes_5 : decode cX12_movedTimes 5 = .ok (.iload 4, 2) := by decide +kernel
theorem dX12_movedTimes_7 : decode cX12_movedTimes 7 = .ok (.iload_n 2, 1) := by decide +kernel
theorem dX12_movedTimes_8 : decode cX12_movedTimes 8 = .ok (.aload_n 0, 1) := by decide +kernel
theorem dX12_movedTimes_9 : decode cX12_movedTimes 9 = .ok (.getfield 19, 3) := by decide +kernel
theorem dX12_movedTimes_12 : decode cX12_movedTimes 12 = .ok (.irem, 1) := by decide +kernel
theorem dX12_movedTimes_13 : decode cX12_movedTimes 13 = .ok (.if_icmp .ge 15, 3) := by decide +kernel
theorem dX12_movedTimes_16 : decode cX12_movedTimes 16 = .ok (.aload_n 0, 1) := by decide +kernel
theorem dX12_movedTimes_17 : decode cX12_movedTimes 17 = .ok (.iload_n 3, 1) := by decide +kernel
theorem dX12_movedTimes_18 : decode cX12_movedTimes 18 = .ok (.invokevirtual 198, 3) := by decide +kernel
theorem dX12_movedTimes_21 : decode cX12_movedTimes 21 = .ok (.istore_n 3, 1) := by decide +kernel
theorem dX12_movedTimes_22 : decode cX12_movedTimes 22 = .ok (.iinc 4 1, 3) := by decide +kernel
theorem dX12_movedTimes_25 : decode cX12_movedTimes 25 = .ok (.goto (-20), 3) := by decide +kernel
theorem dX12_movedTimes_28 : decode cX12_movedTimes 28 = .ok (.iload_n 3, 1) := by decide +kernel
theorem dX12_movedTimes_29 : decode cX12_movedTimes 29 = .ok (.ireturn, 1) := by decide +kernel
theorem dX12_traceOf_0 : decode cX12_traceOf 0 = .ok (.iconst 0, 1) := by decide +kernel
theorem dX12_traceOf_1 : decode cX12_traceOf 1 = .ok (.istore_n 2, 1) := by decide +kernel
theorem dX12_traceOf_2 : decode cX12_traceOf 2 = .ok (.iload_n 1, 1) := by decide +kernel
theorem dX12_traceOf_3 : decode cX12_traceOf 3 = .ok (.istore_n 3, 1) := by decide +kernel
theorem dX12_traceOf_4 : decode cX12_traceOf 4 = .ok (.iconst 0, 1) := by decide +kernel
theorem dX12_traceOf_5 : decode cX12_traceOf 5 = .ok (.istore 4, 2) := by decide +kernel
theorem dX12_traceOf_7 : decode cX12_traceOf 7 = .ok (.iload 4, 2) := by decide +kernel
theorem dX12_traceOf_9 : decode cX12_traceOf 9 = .ok (.aload_n 0, 1) := by decide +kernel
theorem dX12_traceOf_10 : decode cX12_traceOf 10 = .ok (.getfield 19, 3) := by decide +kernel
theorem dX12_traceOf_13 : decode cX12_traceOf 13 = .ok (.if_icmp .ge 23, 3) := by decide +kernel
theorem dX12_traceOf_16 : decode cX12_traceOf 16 = .ok (.aload_n 0, 1) := by decide +kernel
theorem dX12_traceOf_17 : decode cX12_traceOf 17 = .ok (.iload_n 2, 1) := by decide +kernel
theorem dX12_traceOf_18 : decode cX12_traceOf 18 = .ok (.iload_n 3, 1) := by decide +kernel
theorem dX12_traceOf_19 : decode cX12_traceOf 19 = .ok (.iconst 1, 1) := by decide +kernel
theorem dX12_traceOf_20 : decode cX12_traceOf 20 = .ok (.invokevirtual 175, 3) := by decide +kernel
theorem dX12_traceOf_23 : decode cX12_traceOf 23 = .ok (.istore_n 2, 1) := by decide +kernel
theorem dX12_traceOf_24 : decode cX12_traceOf 24 = .ok (.aload_n 0, 1) := by decide +kernel
theorem dX12_traceOf_25 : decode cX12_traceOf 25 = .ok (.iload_n 3, 1) := by decide +kernel
theorem dX12_traceOf_26 : decode cX12_traceOf 26 = .ok (.invokevirtual 198, 3) := by decide +kernel
theorem dX12_traceOf_29 : decode cX12_traceOf 29 = .ok (.istore_n 3, 1) := by decide +kernel
theorem dX12_traceOf_30 : decode cX12_traceOf 30 = .ok (.iinc 4 1, 3) := by decide +kernel
theorem dX12_traceOf_33 : decode cX12_traceOf 33 = .ok (.goto (-26), 3) := by decide +kernel
theorem dX12_traceOf_36 : decode cX12_traceOf 36 = .ok (.iload_n 2, 1) := by decide +kernel
theorem dX12_traceOf_37 : decode cX12_traceOf 37 = .ok (.ireturn, 1) := by decide +kernel
theorem dX12_normOf_0 : decode cX12_normOf 0 = .ok (.iload_n 1, 1) := by decide +kernel
theorem dX12_normOf_1 : decode cX12_normOf 1 = .ok (.istore_n 2, 1) := by decide +kernel
theorem dX12_normOf_2 : decode cX12_normOf 2 = .ok (.iconst 1, 1) := by decide +kernel
theorem dX12_normOf_3 : decode cX12_normOf 3 = .ok (.istore_n 3, 1) := by decide +kernel
theorem dX12_normOf_4 : decode cX12_normOf 4 = .ok (.iconst 0, 1) := by decide +kernel
theorem dX12_normOf_5 : decode cX12_normOf 5 = .ok (.istore 4, 2) := by decide +kernel
theorem dX12_normOf_7 : decode cX12_normOf 7 = .ok (.iload 4, 2) := by decide +kernel
theorem dX12_normOf_9 : decode cX12_normOf 9 = .ok (.aload_n 0, 1) := by decide +kernel
theorem dX12_normOf_10 : decode cX12_normOf 10 = .ok (.getfield 19, 3) := by decide +kernel
theorem dX12_normOf_13 : decode cX12_normOf 13 = .ok (.if_icmp .ge 22, 3) := by decide +kernel
theorem dX12_normOf_16 : decode cX12_normOf 16 = .ok (.aload_n 0, 1) := by decide +kernel
theorem dX12_normOf_17 : decode cX12_normOf 17 = .ok (.iload_n 3, 1) := by decide +kernel
theorem dX12_normOf_18 : decode cX12_normOf 18 = .ok (.iload_n 2, 1) := by decide +kernel
theorem dX12_normOf_19 : decode cX12_normOf 19 = .ok (.invokevirtual 132, 3) := by decide +kernel
theorem dX12_normOf_22 : decode cX12_normOf 22 = .ok (.istore_n 3, 1) := by decide +kernel
theorem dX12_normOf_23 : decode cX12_normOf 23 = .ok (.aload_n 0, 1) := by decide +kernel
theorem dX12_normOf_24 : decode cX12_normOf 24 = .ok (.iload_n 2, 1) := by decide +kernel
theorem dX12_normOf_25 : decode cX12_normOf 25 = .ok (.invokevirtual 198, 3) := by decide +kernel
theorem dX12_normOf_28 : decode cX12_normOf 28 = .ok (.istore_n 2, 1) := by decide +kernel
theorem dX12_normOf_29 : decode cX12_normOf 29 = .ok (.iinc 4 1, 3) := by decide +kernel
theorem dX12_normOf_32 : decode cX12_normOf 32 = .ok (.goto (-25), 3) := by decide +kernel
theorem dX12_normOf_35 : decode cX12_normOf 35 = .ok (.iload_n 3, 1) := by decide +kernel
theorem dX12_normOf_36 : decode cX12_normOf 36 = .ok (.ireturn, 1) := by decide +kernel
theorem dX12_withinOf_0 : decode cX12_withinOf 0 = .ok (.iconst 1, 1) := by decide +kernel
theorem dX12_withinOf_1 : decode cX12_withinOf 1 = .ok (.istore_n 2, 1) := by decide +kernel
theorem dX12_withinOf_2 : decode cX12_withinOf 2 = .ok (.aload_n 0, 1) := by decide +kernel
theorem dX12_withinOf_3 : decode cX12_withinOf 3 = .ok (.getfield 19, 3) := by decide +kernel
theorem dX12_withinOf_6 : decode cX12_withinOf 6 = .ok (.iload_n 2, 1) := by decide +kernel
theorem dX12_withinOf_7 : decode cX12_withinOf 7 = .ok (.irem, 1) := by decide +kernel
theorem dX12_withinOf_8 : decode cX12_withinOf 8 = .ok (.ifCond .ne 13, 3) := by decide +kernel
theorem dX12_withinOf_11 : decode cX12_withinOf 11 = .ok (.aload_n 0, 1) := by decide +kernel
theorem dX12_withinOf_12 : decode cX12_withinOf 12 = .ok (.iload_n 1, 1) := by decide +kernel
theorem dX12_withinOf_13 : decode cX12_withinOf 13 = .ok (.iload_n 2, 1) := by decide +kernel
theorem dX12_withinOf_14 : decode cX12_withinOf 14 = .ok (.invokevirtual 201, 3) := by decide +kernel
theorem dX12_withinOf_17 : decode cX12_withinOf 17 = .ok (.iload_n 1, 1) := by decide +kernel
theorem dX12_withinOf_18 : decode cX12_withinOf 18 = .ok (.if_icmp .eq 9, 3) := by decide +kernel
theorem dX12_withinOf_21 : decode cX12_withinOf 21 = .ok (.iinc 2 1, 3) := by decide +kernel
theorem dX12_withinOf_24 : decode cX12_withinOf 24 = .ok (.goto (-22), 3) := by decide +kernel
theorem dX12_withinOf_27 : decode cX12_withinOf 27 = .ok (.iload_n 2, 1) := by decide +kernel
theorem dX12_withinOf_28 : decode cX12_withinOf 28 = .ok (.ireturn, 1) := by decide +kernel
theorem dX12_ring_0 : decode cX12_ring 0 = .ok (.aload_n 0, 1) := by decide +kernel
theorem dX12_ring_1 : decode cX12_ring 1 = .ok (.iconst 0, 1) := by decide +kernel
theorem dX12_ring_2 : decode cX12_ring 2 = .ok (.putfield 1, 3) := by decide +kernel
theorem dX12_ring_5 : decode cX12_ring 5 = .ok (.iload_n 1, 1) := by decide +kernel
theorem dX12_ring_6 : decode cX12_ring 6 = .ok (.iconst 2, 1) := by decide +kernel
theorem dX12_ring_7 : decode cX12_ring 7 = .ok (.if_icmp .eq 19, 3) := by decide +kernel
theorem dX12_ring_10 : decode cX12_ring 10 = .ok (.iload_n 1, 1) := by decide +kernel
theorem dX12_ring_11 : decode cX12_ring 11 = .ok (.iconst 3, 1) := by decide +kernel
theorem dX12_ring_12 : decode cX12_ring 12 = .ok (.if_icmp .eq 14, 3) := by decide +kernel
theorem dX12_ring_15 : decode cX12_ring 15 = .ok (.iload_n 1, 1) := by decide +kernel
theorem dX12_ring_16 : decode cX12_ring 16 = .ok (.iconst 5, 1) := by decide +kernel
theorem dX12_ring_17 : decode cX12_ring 17 = .ok (.if_icmp .eq 9, 3) := by decide +kernel
theorem dX12_ring_20 : decode cX12_ring 20 = .ok (.iload_n 1, 1) := by decide +kernel
theorem dX12_ring_21 : decode cX12_ring 21 = .ok (.bipush 7, 2) := by decide +kernel
theorem dX12_ring_23 : decode cX12_ring 23 = .ok (.if_icmp .ne 7, 3) := by decide +kernel
theorem dX12_ring_26 : decode cX12_ring 26 = .ok (.iconst 1, 1) := by decide +kernel
theorem dX12_ring_27 : decode cX12_ring 27 = .ok (.goto 4, 3) := by decide +kernel
theorem dX12_ring_30 : decode cX12_ring 30 = .ok (.iconst 0, 1) := by decide +kernel
theorem dX12_ring_31 : decode cX12_ring 31 = .ok (.istore 4, 2) := by decide +kernel
theorem dX12_ring_33 : decode cX12_ring 33 = .ok (.iload 4, 2) := by decide +kernel
theorem dX12_ring_35 : decode cX12_ring 35 = .ok (.ifCond .eq 27, 3) := by decide +kernel
theorem dX12_ring_38 : decode cX12_ring 38 = .ok (.iload_n 2, 1) := by decide +kernel
theorem dX12_ring_39 : decode cX12_ring 39 = .ok (.i2l, 1) := by decide +kernel
theorem dX12_ring_40 : decode cX12_ring 40 = .ok (.lconst 1, 1) := by decide +kernel
theorem dX12_ring_41 : decode cX12_ring 41 = .ok (.ldc2_w 204, 3) := by decide +kernel
theorem dX12_ring_44 : decode cX12_ring 44 = .ok (.invokestatic 206, 3) := by decide +kernel
theorem dX12_ring_47 : decode cX12_ring 47 = .ok (.ifCond .eq 15, 3) := by decide +kernel
theorem dX12_ring_50 : decode cX12_ring 50 = .ok (.iload_n 3, 1) := by decide +kernel
theorem dX12_ring_51 : decode cX12_ring 51 = .ok (.i2l, 1) := by decide +kernel
theorem dX12_ring_52 : decode cX12_ring 52 = .ok (.lconst 1, 1) := by decide +kernel
theorem dX12_ring_53 : decode cX12_ring 53 = .ok (.ldc2_w 210, 3) := by decide +kernel
theorem dX12_ring_56 : decode cX12_ring 56 = .ok (.invokestatic 206, 3) := by decide +kernel
theorem dX12_ring_59 : decode cX12_ring 59 = .ok (.ifCond .ne 5, 3) := by decide +kernel
theorem dX12_ring_62 : decode cX12_ring 62 = .ok (.iconst (-1), 1) := by decide +kernel
theorem dX12_ring_63 : decode cX12_ring 63 = .ok (.ireturn, 1) := by decide +kernel
theorem dX12_ring_64 : decode cX12_ring 64 = .ok (.lconst 1, 1) := by decide +kernel
theorem dX12_ring_65 : decode cX12_ring 65 = .ok (.lstore 5, 2) := by decide +kernel
theorem dX12_ring_67 : decode cX12_ring 67 = .ok (.iconst 0, 1) := by decide +kernel
theorem dX12_ring_68 : decode cX12_ring 68 = .ok (.istore 7, 2) := by decide +kernel
theorem dX12_ring_70 : decode cX12_ring 70 = .ok (.iload 7, 2) := by decide +kernel
theorem dX12_ring_72 : decode cX12_ring 72 = .ok (.iload_n 2, 1) := by decide +kernel
theorem dX12_ring_73 : decode cX12_ring 73 = .ok (.iload_n 3, 1) := by decide +kernel
theorem dX12_ring_74 : decode cX12_ring 74 = .ok (.imul, 1) := by decide +kernel
theorem dX12_ring_75 : decode cX12_ring 75 = .ok (.if_icmp .ge 16, 3) := by decide +kernel
theorem dX12_ring_78 : decode cX12_ring 78 = .ok (.lload 5, 2) := by decide +kernel
theorem dX12_ring_80 : decode cX12_ring 80 = .ok (.iload_n 1, 1) := by decide +kernel
theorem dX12_ring_81 : decode cX12_ring 81 = .ok (.i2l, 1) := by decide +kernel
theorem dX12_ring_82 : decode cX12_ring 82 = .ok (.lmul, 1) := by decide +kernel
theorem dX12_ring_83 : decode cX12_ring 83 = .ok (.lstore 5, 2) := by decide +kernel
theorem dX12_ring_85 : decode cX12_ring 85 = .ok (.iinc 7 1, 3) := by decide +kernel
theorem dX12_ring_88 : decode cX12_ring 88 = .ok (.goto (-18), 3) := by decide +kernel
theorem dX12_ring_91 : decode cX12_ring 91 = .ok (.lload 5, 2) := by decide +kernel
theorem dX12_ring_93 : decode cX12_ring 93 = .ok (.ldc2_w 212, 3) := by decide +kernel
theorem dX12_ring_96 : decode cX12_ring 96 = .ok (.lcmp, 1) := by decide +kernel
theorem dX12_ring_97 : decode cX12_ring 97 = .ok (.ifCond .le 5, 3) := by decide +kernel
theorem dX12_ring_100 : decode cX12_ring 100 = .ok (.iconst (-1), 1) := by decide +kernel
theorem dX12_ring_101 : decode cX12_ring 101 = .ok (.ireturn, 1) := by decide +kernel
theorem dX12_ring_102 : decode cX12_ring 102 = .ok (.aload_n 0, 1) := by decide +kernel
theorem dX12_ring_103 : decode cX12_ring 103 = .ok (.iload_n 1, 1) := by decide +kernel
theorem dX12_ring_104 : decode cX12_ring 104 = .ok (.iload_n 2, 1) := by decide +kernel
theorem dX12_ring_105 : decode cX12_ring 105 = .ok (.iload_n 3, 1) := by decide +kernel
theorem dX12_ring_106 : decode cX12_ring 106 = .ok (.invokevirtual 105, 3) := by decide +kernel
theorem dX12_ring_109 : decode cX12_ring 109 = .ok (.aload_n 0, 1) := by decide +kernel
theorem dX12_ring_110 : decode cX12_ring 110 = .ok (.getfield 28, 3) := by decide +kernel
theorem dX12_ring_113 : decode cX12_ring 113 = .ok (.ireturn, 1) := by decide +kernel
theorem dX12_comes_0 : decode cX12_comes 0 = .ok (.bipush 24, 2) := by decide +kernel
theorem dX12_comes_2 : decode cX12_comes 2 = .ok (.istore_n 2, 1) := by decide +kernel
theorem dX12_comes_3 : decode cX12_comes 3 = .ok (.iload_n 2, 1) := by decide +kernel
theorem dX12_comes_4 : decode cX12_comes 4 = .ok (.ifCond .lt 32, 3) := by decide +kernel
theorem dX12_comes_7 : decode cX12_comes 7 = .ok (.aload_n 0, 1) := by decide +kernel
theorem dX12_comes_8 : decode cX12_comes 8 = .ok (.getfield 62, 3) := by decide +kernel
theorem dX12_comes_11 : decode cX12_comes 11 = .ok (.aload_n 0, 1) := by decide +kernel
theorem dX12_comes_12 : decode cX12_comes 12 = .ok (.getfield 214, 3) := by decide +kernel
theorem dX12_comes_15 : decode cX12_comes 15 = .ok (.iload_n 1, 1) := by decide +kernel
theorem dX12_comes_16 : decode cX12_comes 16 = .ok (.iload_n 2, 1) := by decide +kernel
theorem dX12_comes_17 : decode cX12_comes 17 = .ok (.ishr, 1) := by decide +kernel
theorem dX12_comes_18 : decode cX12_comes 18 = .ok (.i2b, 1) := by decide +kernel
theorem dX12_comes_19 : decode cX12_comes 19 = .ok (.bastore, 1) := by decide +kernel
theorem dX12_comes_20 : decode cX12_comes 20 = .ok (.aload_n 0, 1) := by decide +kernel
theorem dX12_comes_21 : decode cX12_comes 21 = .ok (.dup, 1) := by decide +kernel
theorem dX12_comes_22 : decode cX12_comes 22 = .ok (.getfield 214, 3) := by decide +kernel
theorem dX12_comes_25 : decode cX12_comes 25 = .ok (.iconst 1, 1) := by decide +kernel
theorem dX12_comes_26 : decode cX12_comes 26 = .ok (.iadd, 1) := by decide +kernel
theorem dX12_comes_27 : decode cX12_comes 27 = .ok (.putfield 214, 3) := by decide +kernel
theorem dX12_comes_30 : decode cX12_comes 30 = .ok (.iinc 2 (-8), 3) := by decide +kernel
theorem dX12_comes_33 : decode cX12_comes 33 = .ok (.goto (-30), 3) := by decide +kernel
theorem dX12_comes_36 : decode cX12_comes 36 = .ok (.return_, 1) := by decide +kernel
theorem dX12_feed_0 : decode cX12_feed 0 = .ok (.aload_n 0, 1) := by decide +kernel
theorem dX12_feed_1 : decode cX12_feed 1 = .ok (.iconst 0, 1) := by decide +kernel
theorem dX12_feed_2 : decode cX12_feed 2 = .ok (.putfield 1, 3) := by decide +kernel
theorem dX12_feed_5 : decode cX12_feed 5 = .ok (.aload_n 0, 1) := by decide +kernel
theorem dX12_feed_6 : decode cX12_feed 6 = .ok (.getfield 214, 3) := by decide +kernel
theorem dX12_feed_9 : decode cX12_feed 9 = .ok (.bipush 20, 2) := by decide +kernel
theorem dX12_feed_11 : decode cX12_feed 11 = .ok (.iadd, 1) := by decide +kernel
theorem dX12_feed_12 : decode cX12_feed 12 = .ok (.sipush 200, 3) := by decide +kernel
theorem dX12_feed_15 : decode cX12_feed 15 = .ok (.if_icmp .le 5, 3) := by decide +kernel
theorem dX12_feed_18 : decode cX12_feed 18 = .ok (.iconst (-1), 1) := by decide +kernel
theorem dX12_feed_19 : decode cX12_feed 19 = .ok (.ireturn, 1) := by decide +kernel
theorem dX12_feed_20 : decode cX12_feed 20 = .ok (.aload_n 0, 1) := by decide +kernel
theorem dX12_feed_21 : decode cX12_feed 21 = .ok (.iload_n 1, 1) := by decide +kernel
theorem dX12_feed_22 : decode cX12_feed 22 = .ok (.invokevirtual 217, 3) := by decide +kernel
theorem dX12_feed_25 : decode cX12_feed 25 = .ok (.aload_n 0, 1) := by decide +kernel
theorem dX12_feed_26 : decode cX12_feed 26 = .ok (.iload_n 2, 1) := by decide +kernel
theorem dX12_feed_27 : decode cX12_feed 27 = .ok (.invokevirtual 217, 3) := by decide +kernel
theorem dX12_feed_30 : decode cX12_feed 30 = .ok (.aload_n 0, 1) := by decide +kernel
theorem dX12_feed_31 : decode cX12_feed 31 = .ok (.iload_n 3, 1) := by decide +kernel
theorem dX12_feed_32 : decode cX12_feed 32 = .ok (.invokevirtual 217, 3) := by decide +kernel
theorem dX12_feed_35 : decode cX12_feed 35 = .ok (.aload_n 0, 1) := by decide +kernel
theorem dX12_feed_36 : decode cX12_feed 36 = .ok (.iload 4, 2) := by decide +kernel
theorem dX12_feed_38 : decode cX12_feed 38 = .ok (.invokevirtual 217, 3) := by decide +kernel
theorem dX12_feed_41 : decode cX12_feed 41 = .ok (.aload_n 0, 1) := by decide +kernel
theorem dX12_feed_42 : decode cX12_feed 42 = .ok (.iload 5, 2) := by decide +kernel
theorem dX12_feed_44 : decode cX12_feed 44 = .ok (.invokevirtual 217, 3) := by decide +kernel
theorem dX12_feed_47 : decode cX12_feed 47 = .ok (.aload_n 0, 1) := by decide +kernel
theorem dX12_feed_48 : decode cX12_feed 48 = .ok (.getfield 214, 3) := by decide +kernel
theorem dX12_feed_51 : decode cX12_feed 51 = .ok (.ireturn, 1) := by decide +kernel
theorem dX12_byteAt_0 : decode cX12_byteAt 0 = .ok (.iload_n 1, 1) := by decide +kernel
theorem dX12_byteAt_1 : decode cX12_byteAt 1 = .ok (.aload_n 0, 1) := by decide +kernel
theorem dX12_byteAt_2 : decode cX12_byteAt 2 = .ok (.getfield 220, 3) := by decide +kernel
theorem dX12_byteAt_5 : decode cX12_byteAt 5 = .ok (.if_icmp .ge 16, 3) := by decide +kernel
theorem dX12_byteAt_8 : decode cX12_byteAt 8 = .ok (.aload_n 0, 1) := by decide +kernel
theorem dX12_byteAt_9 : decode cX12_byteAt 9 = .ok (.getfield 62, 3) := by decide +kernel
theorem dX12_byteAt_12 : decode cX12_byteAt 12 = .ok (.iload_n 1, 1) := by decide +kernel
theorem dX12_byteAt_13 : decode cX12_byteAt 13 = .ok (.baload, 1) := by decide +kernel
theorem dX12_byteAt_14 : decode cX12_byteAt 14 = .ok (.sipush 255, 3) := by decide +kernel
theorem dX12_byteAt_17 : decode cX12_byteAt 17 = .ok (.iand, 1) := by decide +kernel
theorem dX12_byteAt_18 : decode cX12_byteAt 18 = .ok (.goto 4, 3) := by decide +kernel
theorem dX12_byteAt_21 : decode cX12_byteAt 21 = .ok (.iconst 0, 1) := by decide +kernel
theorem dX12_byteAt_22 : decode cX12_byteAt 22 = .ok (.ireturn, 1) := by decide +kernel
theorem dX12_isFigure_0 : decode cX12_isFigure 0 = .ok (.iload_n 0, 1) := by decide +kernel
theorem dX12_isFigure_1 : decode cX12_isFigure 1 = .ok (.i2l, 1) := by decide +kernel
theorem dX12_isFigure_2 : decode cX12_isFigure 2 = .ok (.ldc2_w 223, 3) := by decide +kernel
theorem dX12_isFigure_5 : decode cX12_isFigure 5 = .ok (.ldc2_w 225, 3) := by decide +kernel
theorem dX12_isFigure_8 : decode cX12_isFigure 8 = .ok (.invokestatic 206, 3) := by decide +kernel
theorem dX12_isFigure_11 : decode cX12_isFigure 11 = .ok (.ireturn, 1) := by decide +kernel
theorem dX12_isSign_0 : decode cX12_isSign 0 = .ok (.iload_n 0, 1) := by decide +kernel
theorem dX12_isSign_1 : decode cX12_isSign 1 = .ok (.lookupswitch 117 #[(35, 115), (40, 115), (41, 115), (42, 115), (43, 115), (45, 115), (94, 115), (103, 115), (105, 115), (109, 115), (112, 115), (114, 115), (116, 115)], 115) := by decide +kernel
theorem dX12_isSign_116 : decode cX12_isSign 116 = .ok (.iconst 1, 1) := by decide +kernel
theorem dX12_isSign_117 : decode cX12_isSign 117 = .ok (.ireturn, 1) := by decide +kernel
theorem dX12_isSign_118 : decode cX12_isSign 118 = .ok (.iconst 0, 1) := by decide +kernel
theorem dX12_isSign_119 : decode cX12_isSign 119 = .ok (.ireturn, 1) := by decide +kernel
theorem dX12_go_0 : decode cX12_go 0 = .ok (.aload_n 0, 1) := by decide +kernel
theorem dX12_go_1 : decode cX12_go 1 = .ok (.getfield 227, 3) := by decide +kernel
theorem dX12_go_4 : decode cX12_go 4 = .ok (.aload_n 0, 1) := by decide +kernel
theorem dX12_go_5 : decode cX12_go 5 = .ok (.getfield 220, 3) := by decide +kernel
theorem dX12_go_8 : decode cX12_go 8 = .ok (.if_icmp .ge 42, 3) := by decide +kernel
theorem dX12_go_11 : decode cX12_go 11 = .ok (.aload_n 0, 1) := by decide +kernel
theorem dX12_go_12 : decode cX12_go 12 = .ok (.aload_n 0, 1) := by decide +kernel
theorem dX12_go_13 : decode cX12_go 13 = .ok (.getfield 227, 3) := by decide +kernel
theorem dX12_go_16 : decode cX12_go 16 = .ok (.invokevirtual 230, 3) := by decide +kernel
theorem dX12_go_19 : decode cX12_go 19 = .ok (.bipush 32, 2) := by decide +kernel
theorem dX12_go_21 : decode cX12_go 21 = .ok (.if_icmp .eq 16, 3) := by decide +kernel
theorem dX12_go_24 : decode cX12_go 24 = .ok (.aload_n 0, 1) := by decide +kernel
theorem dX12_go_25 : decode cX12_go 25 = .ok (.aload_n 0, 1) := by decide +kernel
theorem dX12_go_26 : decode cX12_go 26 = .ok (.getfield 227, 3) := by decide +kernel
theorem dX12_go_29 : decode cX12_go 29 = .ok (.invokevirtual 230, 3) := by decide +kernel
theorem dX12_go_32 : decode cX12_go 32 = .ok (.bipush 10, 2) := by decide +kernel
theorem dX12_go_34 : decode cX12_go 34 = .ok (.if_icmp .ne 16, 3) := by decide +kernel
theorem dX12_go_37 : decode cX12_go 37 = .ok (.aload_n 0, 1) := by decide +kernel
theorem dX12_go_38 : decode cX12_go 38 = .ok (.dup, 1) := by decide +kernel
theorem dX12_go_39 : decode cX12_go 39 = .ok (.getfield 227, 3) := by decide +kernel
theorem dX12_go_42 : decode cX12_go 42 = .ok (.iconst 1, 1) := by decide +kernel
theorem dX12_go_43 : decode cX12_go 43 = .ok (.iadd, 1) := by decide +kernel
theorem dX12_go_44 : decode cX12_go 44 = .ok (.putfield 227, 3) := by decide +kernel
theorem dX12_go_47 : decode cX12_go 47 = .ok (.goto (-47), 3) := by decide +kernel
theorem dX12_go_50 : decode cX12_go 50 = .ok (.aload_n 0, 1) := by decide +kernel
theorem dX12_go_51 : decode cX12_go 51 = .ok (.aload_n 0, 1) := by decide +kernel
theorem dX12_go_52 : decode cX12_go 52 = .ok (.getfield 227, 3) := by decide +kernel
theorem dX12_go_55 : decode cX12_go 55 = .ok (.putfield 233, 3) := by decide +kernel
theorem dX12_go_58 : decode cX12_go 58 = .ok (.aload_n 0, 1) := by decide +kernel
theorem dX12_go_59 : decode cX12_go 59 = .ok (.getfield 227, 3) := by decide +kernel
theorem dX12_go_62 : decode cX12_go 62 = .ok (.aload_n 0, 1) := by decide +kernel
theorem dX12_go_63 : decode cX12_go 63 = .ok (.getfield 220, 3) := by decide +kernel
theorem dX12_go_66 : decode cX12_go 66 = .ok (.if_icmp .ne 11, 3) := by decide +kernel
theorem dX12_go_69 : decode cX12_go 69 = .ok (.aload_n 0, 1) := by decide +kernel
theorem dX12_go_70 : decode cX12_go 70 = .ok (.sipush 1002, 3) := by decide +kernel
theorem dX12_go_73 : decode cX12_go 73 = .ok (.putfield 236, 3) := by decide +kernel
theorem dX12_go_76 : decode cX12_go 76 = .ok (.return_, 1) := by decide +kernel
theorem dX12_go_77 : decode cX12_go 77 = .ok (.aload_n 0, 1) := by decide +kernel
theorem dX12_go_78 : decode cX12_go 78 = .ok (.aload_n 0, 1) := by decide +kernel
theorem dX12_go_79 : decode cX12_go 79 = .ok (.getfield 227, 3) := by decide +kernel
theorem dX12_go_82 : decode cX12_go 82 = .ok (.invokevirtual 230, 3) := by decide +kernel
theorem dX12_go_85 : decode cX12_go 85 = .ok (.istore_n 1, 1) := by decide +kernel
theorem dX12_go_86 : decode cX12_go 86 = .ok (.iload_n 1, 1) := by decide +kernel
theorem dX12_go_87 : decode cX12_go 87 = .ok (.invokestatic 239, 3) := by decide +kernel
theorem dX12_go_90 : decode cX12_go 90 = .ok (.ifCond .ne 32, 3) := by decide +kernel
theorem dX12_go_93 : decode cX12_go 93 = .ok (.aload_n 0, 1) := by decide +kernel
theorem dX12_go_94 : decode cX12_go 94 = .ok (.iload_n 1, 1) := by decide +kernel
theorem dX12_go_95 : decode cX12_go 95 = .ok (.invokestatic 242, 3) := by decide +kernel
theorem dX12_go_98 : decode cX12_go 98 = .ok (.ifCond .eq 7, 3) := by decide +kernel
theorem dX12_go_101 : decode cX12_go 101 = .ok (.iload_n 1, 1) := by decide +kernel
theorem dX12_go_102 : decode cX12_go 102 = .ok (.goto 6, 3) := by decide +kernel
theorem dX12_go_105 : decode cX12_go 105 = .ok (.sipush 1001, 3) := by decide +kernel
theorem dX12_go_108 : decode cX12_go 108 = .ok (.putfield 236, 3) := by decide +kernel
theorem dX12_go_111 : decode cX12_go 111 = .ok (.aload_n 0, 1) := by decide +kernel
theorem dX12_go_112 : decode cX12_go 112 = .ok (.dup, 1) := by decide +kernel
theorem dX12_go_113 : decode cX12_go 113 = .ok (.getfield 227, 3) := by decide +kernel
theorem dX12_go_116 : decode cX12_go 116 = .ok (.iconst 1, 1) := by decide +kernel
theorem dX12_go_117 : decode cX12_go 117 = .ok (.iadd, 1) := by decide +kernel
theorem dX12_go_118 : decode cX12_go 118 = .ok (.putfield 227, 3) := by decide +kernel
theorem dX12_go_121 : decode cX12_go 121 = .ok (.return_, 1) := by decide +kernel
theorem dX12_go_122 : decode cX12_go 122 = .ok (.aload_n 0, 1) := by decide +kernel
theorem dX12_go_123 : decode cX12_go 123 = .ok (.sipush 1000, 3) := by decide +kernel
theorem dX12_go_126 : decode cX12_go 126 = .ok (.putfield 236, 3) := by decide +kernel
theorem dX12_go_129 : decode cX12_go 129 = .ok (.aload_n 0, 1) := by decide +kernel
theorem dX12_go_130 : decode cX12_go 130 = .ok (.iconst 0, 1) := by decide +kernel
theorem dX12_go_131 : decode cX12_go 131 = .ok (.putfield 245, 3) := by decide +kernel
theorem dX12_go_134 : decode cX12_go 134 = .ok (.aload_n 0, 1) := by decide +kernel
theorem dX12_go_135 : decode cX12_go 135 = .ok (.aload_n 0, 1) := by decide +kernel
theorem dX12_go_136 : decode cX12_go 136 = .ok (.getfield 227, 3) := by decide +kernel
theorem dX12_go_139 : decode cX12_go 139 = .ok (.invokevirtual 230, 3) := by decide +kernel
theorem dX12_go_142 : decode cX12_go 142 = .ok (.invokestatic 239, 3) := by decide +kernel
theorem dX12_go_145 : decode cX12_go 145 = .ok (.ifCond .eq 44, 3) := by decide +kernel
theorem dX12_go_148 : decode cX12_go 148 = .ok (.aload_n 0, 1) := by decide +kernel
theorem dX12_go_149 : decode cX12_go 149 = .ok (.ldc 248, 2) := by decide +kernel
theorem dX12_go_151 : decode cX12_go 151 = .ok (.bipush 10, 2) := by decide +kernel
theorem dX12_go_153 : decode cX12_go 153 = .ok (.aload_n 0, 1) := by decide +kernel
theorem dX12_go_154 : decode cX12_go 154 = .ok (.getfield 245, 3) := by decide +kernel
theorem dX12_go_157 : decode cX12_go 157 = .ok (.imul, 1) := by decide +kernel
theorem dX12_go_158 : decode cX12_go 158 = .ok (.aload_n 0, 1) := by decide +kernel
theorem dX12_go_159 : decode cX12_go 159 = .ok (.aload_n 0, 1) := by decide +kernel
theorem dX12_go_160 : decode cX12_go 160 = .ok (.getfield 227, 3) := by decide +kernel
theorem dX12_go_163 : decode cX12_go 163 = .ok (.invokevirtual 230, 3) := by decide +kernel
theorem dX12_go_166 : decode cX12_go 166 = .ok (.iadd, 1) := by decide +kernel
theorem dX12_go_167 : decode cX12_go 167 = .ok (.bipush 48, 2) := by decide +kernel
theorem dX12_go_169 : decode cX12_go 169 = .ok (.isub, 1) := by decide +kernel
theorem dX12_go_170 : decode cX12_go 170 = .ok (.invokestatic 249, 3) := by decide +kernel
theorem dX12_go_173 : decode cX12_go 173 = .ok (.putfield 245, 3) := by decide +kernel
theorem dX12_go_176 : decode cX12_go 176 = .ok (.aload_n 0, 1) := by decide +kernel
theorem dX12_go_177 : decode cX12_go 177 = .ok (.dup, 1) := by decide +kernel
theorem dX12_go_178 : decode cX12_go 178 = .ok (.getfield 227, 3) := by decide +kernel
theorem dX12_go_181 : decode cX12_go 181 = .ok (.iconst 1, 1) := by decide +kernel
theorem dX12_go_182 : decode cX12_go 182 = .ok (.iadd, 1) := by decide +kernel
theorem dX12_go_183 : decode cX12_go 183 = .ok (.putfield 227, 3) := by decide +kernel
theorem dX12_go_186 : decode cX12_go 186 = .ok (.goto (-52), 3) := by decide +kernel
theorem dX12_go_189 : decode cX12_go 189 = .ok (.return_, 1) := by decide +kernel
theorem dX12_fine_0 : decode cX12_fine 0 = .ok (.aload_n 0, 1) := by decide +kernel
theorem dX12_fine_1 : decode cX12_fine 1 = .ok (.getfield 252, 3) := by decide +kernel
theorem dX12_fine_4 : decode cX12_fine 4 = .ok (.ifCond .ne 7, 3) := by decide +kernel
theorem dX12_fine_7 : decode cX12_fine 7 = .ok (.iconst 1, 1) := by decide +kernel
theorem dX12_fine_8 : decode cX12_fine 8 = .ok (.goto 4, 3) := by decide +kernel
theorem dX12_fine_11 : decode cX12_fine 11 = .ok (.iconst 0, 1) := by decide +kernel
theorem dX12_fine_12 : decode cX12_fine 12 = .ok (.ireturn, 1) := by decide +kernel
theorem dX12_check_0 : decode cX12_check 0 = .ok (.aload_n 0, 1) := by decide +kernel
theorem dX12_check_1 : decode cX12_check 1 = .ok (.invokevirtual 255, 3) := by decide +kernel
theorem dX12_check_4 : decode cX12_check 4 = .ok (.ifCond .eq 20, 3) := by decide +kernel
theorem dX12_check_7 : decode cX12_check 7 = .ok (.iload_n 1, 1) := by decide +kernel
theorem dX12_check_8 : decode cX12_check 8 = .ok (.ifCond .ne 16, 3) := by decide +kernel
theorem dX12_check_11 : decode cX12_check 11 = .ok (.aload_n 0, 1) := by decide +kernel
theorem dX12_check_12 : decode cX12_check 12 = .ok (.iload_n 2, 1) := by decide +kernel
theorem dX12_check_13 : decode cX12_check 13 = .ok (.putfield 252, 3) := by decide +kernel
theorem dX12_check_16 : decode cX12_check 16 = .ok (.aload_n 0, 1) := by decide +kernel
theorem dX12_check_17 : decode cX12_check 17 = .ok (.aload_n 0, 1) := by decide +kernel
theorem dX12_check_18 : decode cX12_check 18 = .ok (.getfield 233, 3) := by decide +kernel
theorem dX12_check_21 : decode cX12_check 21 = .ok (.putfield 66, 3) := by decide +kernel
theorem dX12_check_24 : decode cX12_check 24 = .ok (.aload_n 0, 1) := by decide +kernel
theorem dX12_check_25 : decode cX12_check 25 = .ok (.invokevirtual 255, 3) := by decide +kernel
theorem dX12_check_28 : decode cX12_check 28 = .ok (.ireturn, 1) := by decide +kernel
theorem dX12_figure_0 : decode cX12_figure 0 = .ok (.aload_n 0, 1) := by decide +kernel
theorem dX12_figure_1 : decode cX12_figure 1 = .ok (.aload_n 0, 1) := by decide +kernel
theorem dX12_figure_2 : decode cX12_figure 2 = .ok (.getfield 236, 3) := by decide +kernel
theorem dX12_figure_5 : decode cX12_figure 5 = .ok (.sipush 1000, 3) := by decide +kernel
theorem dX12_figure_8 : decode cX12_figure 8 = .ok (.if_icmp .ne 7, 3) := by decide +kernel
theorem dX12_figure_11 : decode cX12_figure 11 = .ok (.iconst 1, 1) := by decide +kernel
theorem dX12_figure_12 : decode cX12_figure 12 = .ok (.goto 4, 3) := by decide +kernel
theorem dX12_figure_15 : decode cX12_figure 15 = .ok (.iconst 0, 1) := by decide +kernel
theorem dX12_figure_16 : decode cX12_figure 16 = .ok (.iconst 1, 1) := by decide +kernel
theorem dX12_figure_17 : decode cX12_figure 17 = .ok (.invokevirtual 259, 3) := by decide +kernel
theorem dX12_figure_20 : decode cX12_figure 20 = .ok (.ifCond .eq 24, 3) := by decide +kernel
theorem dX12_figure_23 : decode cX12_figure 23 = .ok (.aload_n 0, 1) := by decide +kernel
theorem dX12_figure_24 : decode cX12_figure 24 = .ok (.aload_n 0, 1) := by decide +kernel
theorem dX12_figure_25 : decode cX12_figure 25 = .ok (.getfield 245, 3) := by decide +kernel
theorem dX12_figure_28 : decode cX12_figure 28 = .ok (.iload_n 1, 1) := by decide +kernel
theorem dX12_figure_29 : decode cX12_figure 29 = .ok (.if_icmp .gt 7, 3) := by decide +kernel
theorem dX12_figure_32 : decode cX12_figure 32 = .ok (.iconst 1, 1) := by decide +kernel
theorem dX12_figure_33 : decode cX12_figure 33 = .ok (.goto 4, 3) := by decide +kernel
theorem dX12_figure_36 : decode cX12_figure 36 = .ok (.iconst 0, 1) := by decide +kernel
theorem dX12_figure_37 : decode cX12_figure 37 = .ok (.iconst 2, 1) := by decide +kernel
theorem dX12_figure_38 : decode cX12_figure 38 = .ok (.invokevirtual 259, 3) := by decide +kernel
theorem dX12_figure_41 : decode cX12_figure 41 = .ok (.ifCond .ne 5, 3) := by decide +kernel
theorem dX12_figure_44 : decode cX12_figure 44 = .ok (.iconst 0, 1) := by decide +kernel
theorem dX12_figure_45 : decode cX12_figure 45 = .ok (.ireturn, 1) := by decide +kernel
theorem dX12_figure_46 : decode cX12_figure 46 = .ok (.aload_n 0, 1) := by decide +kernel
theorem dX12_figure_47 : decode cX12_figure 47 = .ok (.getfield 245, 3) := by decide +kernel
theorem dX12_figure_50 : decode cX12_figure 50 = .ok (.istore_n 2, 1) := by decide +kernel
theorem dX12_figure_51 : decode cX12_figure 51 = .ok (.aload_n 0, 1) := by decide +kernel
theorem dX12_figure_52 : decode cX12_figure 52 = .ok (.invokevirtual 263, 3) := by decide +kernel
theorem dX12_figure_55 : decode cX12_figure 55 = .ok (.iload_n 2, 1) := by decide +kernel
theorem dX12_figure_56 : decode cX12_figure 56 = .ok (.ireturn, 1) := by decide +kernel
theorem dX12_goesIn_0 : decode cX12_goesIn 0 = .ok (.aload_n 0, 1) := by decide +kernel
theorem dX12_goesIn_1 : decode cX12_goesIn 1 = .ok (.aload_n 0, 1) := by decide +kernel
theorem dX12_goesIn_2 : decode cX12_goesIn 2 = .ok (.getfield 266, 3) := by decide +kernel
theorem dX12_goesIn_5 : decode cX12_goesIn 5 = .ok (.bipush 8, 2) := by decide +kernel
theorem dX12_goesIn_7 : decode cX12_goesIn 7 = .ok (.if_icmp .ge 7, 3) := by decide +kernel
theorem dX12_goesIn_10 : decode cX12_goesIn 10 = .ok (.iconst 1, 1) := by decide +kernel
theorem dX12_goesIn_11 : decode cX12_goesIn 11 = .ok (.goto 4, 3) := by decide +kernel
theorem dX12_goesIn_14 : decode cX12_goesIn 14 = .ok (.iconst 0, 1) := by decide +kernel
theorem dX12_goesIn_15 : decode cX12_goesIn 15 = .ok (.iconst 3, 1) := by decide +kernel
theorem dX12_goesIn_16 : decode cX12_goesIn 16 = .ok (.invokevirtual 259, 3) := by decide +kernel
theorem dX12_goesIn_19 : decode cX12_goesIn 19 = .ok (.ifCond .ne 5, 3) := by decide +kernel
theorem dX12_goesIn_22 : decode cX12_goesIn 22 = .ok (.iconst 0, 1) := by decide +kernel
theorem dX12_goesIn_23 : decode cX12_goesIn 23 = .ok (.ireturn, 1) := by decide +kernel
theorem dX12_goesIn_24 : decode cX12_goesIn 24 = .ok (.aload_n 0, 1) := by decide +kernel
theorem dX12_goesIn_25 : decode cX12_goesIn 25 = .ok (.dup, 1) := by decide +kernel
theorem dX12_goesIn_26 : decode cX12_goesIn 26 = .ok (.getfield 266, 3) := by decide +kernel
theorem dX12_goesIn_29 : decode cX12_goesIn 29 = .ok (.iconst 1, 1) := by decide +kernel
theorem dX12_goesIn_30 : decode cX12_goesIn 30 = .ok (.iadd, 1) := by decide +kernel
theorem dX12_goesIn_31 : decode cX12_goesIn 31 = .ok (.putfield 266, 3) := by decide +kernel
theorem dX12_goesIn_34 : decode cX12_goesIn 34 = .ok (.aload_n 0, 1) := by decide +kernel
theorem dX12_goesIn_35 : decode cX12_goesIn 35 = .ok (.invokevirtual 263, 3) := by decide +kernel
theorem dX12_goesIn_38 : decode cX12_goesIn 38 = .ok (.iconst 1, 1) := by decide +kernel
theorem dX12_goesIn_39 : decode cX12_goesIn 39 = .ok (.ireturn, 1) := by decide +kernel
theorem dX12_atom_0 : decode cX12_atom 0 = .ok (.aload_n 0, 1) := by decide +kernel
theorem dX12_atom_1 : decode cX12_atom 1 = .ok (.getfield 236, 3) := by decide +kernel
theorem dX12_atom_4 : decode cX12_atom 4 = .ok (.istore_n 1, 1) := by decide +kernel
theorem dX12_atom_5 : decode cX12_atom 5 = .ok (.iload_n 1, 1) := by decide +kernel
theorem dX12_atom_6 : decode cX12_atom 6 = .ok (.sipush 1000, 3) := by decide +kernel
theorem dX12_atom_9 : decode cX12_atom 9 = .ok (.if_icmp .ne 16, 3) := by decide +kernel
theorem dX12_atom_12 : decode cX12_atom 12 = .ok (.aload_n 0, 1) := by decide +kernel
theorem dX12_atom_13 : decode cX12_atom 13 = .ok (.sipush 9999, 3) := by decide +kernel
theorem dX12_atom_16 : decode cX12_atom 16 = .ok (.invokevirtual 269, 3) := by decide +kernel
theorem dX12_atom_19 : decode cX12_atom 19 = .ok (.aload_n 0, 1) := by decide +kernel
theorem dX12_atom_20 : decode cX12_atom 20 = .ok (.getfield 22, 3) := by decide +kernel
theorem dX12_atom_23 : decode cX12_atom 23 = .ok (.irem, 1) := by decide +kernel
theorem dX12_atom_24 : decode cX12_atom 24 = .ok (.ireturn, 1) := by decide +kernel
theorem dX12_atom_25 : decode cX12_atom 25 = .ok (.iload_n 1, 1) := by decide +kernel
theorem dX12_atom_26 : decode cX12_atom 26 = .ok (.bipush 116, 2) := by decide +kernel
theorem dX12_atom_28 : decode cX12_atom 28 = .ok (.if_icmp .eq 15, 3) := by decide +kernel
theorem dX12_atom_31 : decode cX12_atom 31 = .ok (.iload_n 1, 1) := by decide +kernel
theorem dX12_atom_32 : decode cX12_atom 32 = .ok (.bipush 103, 2) := by decide +kernel
theorem dX12_atom_34 : decode cX12_atom 34 = .ok (.if_icmp .eq 9, 3) := by decide +kernel
theorem dX12_atom_37 : decode cX12_atom 37 = .ok (.iload_n 1, 1) := by decide +kernel
theorem dX12_atom_38 : decode cX12_atom 38 = .ok (.bipush 112, 2) := by decide +kernel
theorem dX12_atom_40 : decode cX12_atom 40 = .ok (.if_icmp .ne 55, 3) := by decide +kernel
theorem dX12_atom_43 : decode cX12_atom 43 = .ok (.aload_n 0, 1) := by decide +kernel
theorem dX12_atom_44 : decode cX12_atom 44 = .ok (.invokevirtual 263, 3) := by decide +kernel
theorem dX12_atom_47 : decode cX12_atom 47 = .ok (.iload_n 1, 1) := by decide +kernel
theorem dX12_atom_48 : decode cX12_atom 48 = .ok (.bipush 116, 2) := by decide +kernel
theorem dX12_atom_50 : decode cX12_atom 50 = .ok (.if_icmp .ne 22, 3) := by decide +kernel
theorem dX12_atom_53 : decode cX12_atom 53 = .ok (.aload_n 0, 1) := by decide +kernel
theorem dX12_atom_54 : decode cX12_atom 54 = .ok (.getfield 19, 3) := by decide +kernel
theorem dX12_atom_57 : decode cX12_atom 57 = .ok (.iconst 1, 1) := by decide +kernel
theorem dX12_atom_58 : decode cX12_atom 58 = .ok (.if_icmp .ne 7, 3) := by decide +kernel
theorem dX12_atom_61 : decode cX12_atom 61 = .ok (.iconst 0, 1) := by decide +kernel
theorem dX12_atom_62 : decode cX12_atom 62 = .ok (.goto 32, 3) := by decide +kernel
theorem dX12_atom_65 : decode cX12_atom 65 = .ok (.aload_n 0, 1) := by decide +kernel
theorem dX12_atom_66 : decode cX12_atom 66 = .ok (.getfield 22, 3) := by decide +kernel
theorem dX12_atom_69 : decode cX12_atom 69 = .ok (.goto 25, 3) := by decide +kernel
theorem dX12_atom_72 : decode cX12_atom 72 = .ok (.iload_n 1, 1) := by decide +kernel
theorem dX12_atom_73 : decode cX12_atom 73 = .ok (.bipush 103, 2) := by decide +kernel
theorem dX12_atom_75 : decode cX12_atom 75 = .ok (.if_icmp .ne 10, 3) := by decide +kernel
theorem dX12_atom_78 : decode cX12_atom 78 = .ok (.aload_n 0, 1) := by decide +kernel
theorem dX12_atom_79 : decode cX12_atom 79 = .ok (.getfield 179, 3) := by decide +kernel
theorem dX12_atom_82 : decode cX12_atom 82 = .ok (.goto 12, 3) := by decide +kernel
theorem dX12_atom_85 : decode cX12_atom 85 = .ok (.aload_n 0, 1) := by decide +kernel
theorem dX12_atom_86 : decode cX12_atom 86 = .ok (.getfield 13, 3) := by decide +kernel
theorem dX12_atom_89 : decode cX12_atom 89 = .ok (.aload_n 0, 1) := by decide +kernel
theorem dX12_atom_90 : decode cX12_atom 90 = .ok (.getfield 22, 3) := by decide +kernel
theorem dX12_atom_93 : decode cX12_atom 93 = .ok (.irem, 1) := by decide +kernel
theorem dX12_atom_94 : decode cX12_atom 94 = .ok (.ireturn, 1) := by decide +kernel
theorem dX12_atom_95 : decode cX12_atom 95 = .ok (.iload_n 1, 1) := by decide +kernel
theorem dX12_atom_96 : decode cX12_atom 96 = .ok (.bipush 35, 2) := by decide +kernel
theorem dX12_atom_98 : decode cX12_atom 98 = .ok (.if_icmp .ne 21, 3) := by decide +kernel
theorem dX12_atom_101 : decode cX12_atom 101 = .ok (.aload_n 0, 1) := by decide +kernel
theorem dX12_atom_102 : decode cX12_atom 102 = .ok (.invokevirtual 263, 3) := by decide +kernel
theorem dX12_atom_105 : decode cX12_atom 105 = .ok (.aload_n 0, 1) := by decide +kernel
theorem dX12_atom_106 : decode cX12_atom 106 = .ok (.bipush 7, 2) := by decide +kernel
theorem dX12_atom_108 : decode cX12_atom 108 = .ok (.invokevirtual 269, 3) := by decide +kernel
theorem dX12_atom_111 : decode cX12_atom 111 = .ok (.istore_n 2, 1) := by decide +kernel
theorem dX12_atom_112 : decode cX12_atom 112 = .ok (.aload_n 0, 1) := by decide +kernel
theorem dX12_atom_113 : decode cX12_atom 113 = .ok (.getfield 44, 3) := by decide +kernel
theorem dX12_atom_116 : decode cX12_atom 116 = .ok (.iload_n 2, 1) := by decide +kernel
theorem dX12_atom_117 : decode cX12_atom 117 = .ok (.iaload, 1) := by decide +kernel
theorem dX12_atom_118 : decode cX12_atom 118 = .ok (.ireturn, 1) := by decide +kernel
theorem dX12_atom_119 : decode cX12_atom 119 = .ok (.aload_n 0, 1) := by decide +kernel
theorem dX12_atom_120 : decode cX12_atom 120 = .ok (.iload_n 1, 1) := by decide +kernel
theorem dX12_atom_121 : decode cX12_atom 121 = .ok (.bipush 40, 2) := by decide +kernel
theorem dX12_atom_123 : decode cX12_atom 123 = .ok (.if_icmp .eq 27, 3) := by decide +kernel
theorem dX12_atom_126 : decode cX12_atom 126 = .ok (.iload_n 1, 1) := by decide +kernel
theorem dX12_atom_127 : decode cX12_atom 127 = .ok (.bipush 45, 2) := by decide +kernel
theorem dX12_atom_129 : decode cX12_atom 129 = .ok (.if_icmp .eq 21, 3) := by decide +kernel
theorem dX12_atom_132 : decode cX12_atom 132 = .ok (.iload_n 1, 1) := by decide +kernel
theorem dX12_atom_133 : decode cX12_atom 133 = .ok (.bipush 109, 2) := by decide +kernel
theorem dX12_atom_135 : decode cX12_atom 135 = .ok (.if_icmp .eq 15, 3) := by decide +kernel
theorem dX12_atom_138 : decode cX12_atom 138 = .ok (.iload_n 1, 1) := by decide +kernel
theorem dX12_atom_139 : decode cX12_atom 139 = .ok (.bipush 114, 2) := by decide +kernel
theorem dX12_atom_141 : decode cX12_atom 141 = .ok (.if_icmp .eq 9, 3) := by decide +kernel
theorem dX12_atom_144 : decode cX12_atom 144 = .ok (.iload_n 1, 1) := by decide +kernel
theorem dX12_atom_145 : decode cX12_atom 145 = .ok (.bipush 105, 2) := by decide +kernel
theorem dX12_atom_147 : decode cX12_atom 147 = .ok (.if_icmp .ne 7, 3) := by decide +kernel
theorem dX12_atom_150 : decode cX12_atom 150 = .ok (.iconst 1, 1) := by decide +kernel
theorem dX12_atom_151 : decode cX12_atom 151 = .ok (.goto 4, 3) := by decide +kernel
theorem dX12_atom_154 : decode cX12_atom 154 = .ok (.iconst 0, 1) := by decide +kernel
theorem dX12_atom_155 : decode cX12_atom 155 = .ok (.iconst 1, 1) := by decide +kernel
theorem dX12_atom_156 : decode cX12_atom 156 = .ok (.invokevirtual 259, 3) := by decide +kernel
theorem dX12_atom_159 : decode cX12_atom 159 = .ok (.ifCond .eq 10, 3) := by decide +kernel
theorem dX12_atom_162 : decode cX12_atom 162 = .ok (.aload_n 0, 1) := by decide +kernel
theorem dX12_atom_163 : decode cX12_atom 163 = .ok (.invokevirtual 272, 3) := by decide +kernel
theorem dX12_atom_166 : decode cX12_atom 166 = .ok (.ifCond .ne 5, 3) := by decide +kernel
theorem dX12_atom_169 : decode cX12_atom 169 = .ok (.iconst 0, 1) := by decide +kernel
theorem dX12_atom_170 : decode cX12_atom 170 = .ok (.ireturn, 1) := by decide +kernel
theorem dX12_atom_171 : decode cX12_atom 171 = .ok (.iload_n 1, 1) := by decide +kernel
theorem dX12_atom_172 : decode cX12_atom 172 = .ok (.bipush 40, 2) := by decide +kernel
theorem dX12_atom_174 : decode cX12_atom 174 = .ok (.if_icmp .ne 10, 3) := by decide +kernel
theorem dX12_atom_177 : decode cX12_atom 177 = .ok (.aload_n 0, 1) := by decide +kernel
theorem dX12_atom_178 : decode cX12_atom 178 = .ok (.invokevirtual 275, 3) := by decide +kernel
theorem dX12_atom_181 : decode cX12_atom 181 = .ok (.goto 7, 3) := by decide +kernel
theorem dX12_atom_184 : decode cX12_atom 184 = .ok (.aload_n 0, 1) := by decide +kernel
theorem dX12_atom_185 : decode cX12_atom 185 = .ok (.invokevirtual 278, 3) := by decide +kernel
theorem dX12_atom_188 : decode cX12_atom 188 = .ok (.istore_n 2, 1) := by decide +kernel
theorem dX12_atom_189 : decode cX12_atom 189 = .ok (.iload_n 1, 1) := by decide +kernel
theorem dX12_atom_190 : decode cX12_atom 190 = .ok (.bipush 40, 2) := by decide +kernel
theorem dX12_atom_192 : decode cX12_atom 192 = .ok (.if_icmp .ne 29, 3) := by decide +kernel
theorem dX12_atom_195 : decode cX12_atom 195 = .ok (.aload_n 0, 1) := by decide +kernel
theorem dX12_atom_196 : decode cX12_atom 196 = .ok (.aload_n 0, 1) := by decide +kernel
theorem dX12_atom_197 : decode cX12_atom 197 = .ok (.getfield 236, 3) := by decide +kernel
theorem dX12_atom_200 : decode cX12_atom 200 = .ok (.bipush 41, 2) := by decide +kernel
theorem dX12_atom_202 : decode cX12_atom 202 = .ok (.if_icmp .ne 7, 3) := by decide +kernel
theorem dX12_atom_205 : decode cX12_atom 205 = .ok (.iconst 1, 1) := by decide +kernel
theorem dX12_atom_206 : decode cX12_atom 206 = .ok (.goto 4, 3) := by decide +kernel
theorem dX12_atom_209 : decode cX12_atom 209 = .ok (.iconst 0, 1) := by decide +kernel
theorem dX12_atom_210 : decode cX12_atom 210 = .ok (.iconst 1, 1) := by decide +kernel
theorem dX12_atom_211 : decode cX12_atom 211 = .ok (.invokevirtual 259, 3) := by decide +kernel
theorem dX12_atom_214 : decode cX12_atom 214 = .ok (.ifCond .eq 7, 3) := by decide +kernel
theorem dX12_atom_217 : decode cX12_atom 217 = .ok (.aload_n 0, 1) := by decide +kernel
theorem dX12_atom_218 : decode cX12_atom 218 = .ok (.invokevirtual 263, 3) := by decide +kernel
theorem dX12_atom_221 : decode cX12_atom 221 = .ok (.aload_n 0, 1) := by decide +kernel
theorem dX12_atom_222 : decode cX12_atom 222 = .ok (.dup, 1) := by decide +kernel
theorem dX12_atom_223 : decode cX12_atom 223 = .ok (.getfield 266, 3) := by decide +kernel
theorem dX12_atom_226 : decode cX12_atom 226 = .ok (.iconst 1, 1) := by decide +kernel
theorem dX12_atom_227 : decode cX12_atom 227 = .ok (.isub, 1) := by decide +kernel
theorem dX12_atom_228 : decode cX12_atom 228 = .ok (.putfield 266, 3) := by decide +kernel
theorem dX12_atom_231 : decode cX12_atom 231 = .ok (.aload_n 0, 1) := by decide +kernel
theorem dX12_atom_232 : decode cX12_atom 232 = .ok (.invokevirtual 255, 3) := by decide +kernel
theorem dX12_atom_235 : decode cX12_atom 235 = .ok (.ifCond .eq 19, 3) := by decide +kernel
theorem dX12_atom_238 : decode cX12_atom 238 = .ok (.aload_n 0, 1) := by decide +kernel
theorem dX12_atom_239 : decode cX12_atom 239 = .ok (.getfield 281, 3) := by decide +kernel
theorem dX12_atom_242 : decode cX12_atom 242 = .ok (.ifCond .eq 12, 3) := by decide +kernel
theorem dX12_atom_245 : decode cX12_atom 245 = .ok (.aload_n 0, 1) := by decide +kernel
theorem dX12_atom_246 : decode cX12_atom 246 = .ok (.iload_n 1, 1) := by decide +kernel
theorem dX12_atom_247 : decode cX12_atom 247 = .ok (.iload_n 2, 1) := by decide +kernel
theorem dX12_atom_248 : decode cX12_atom 248 = .ok (.invokevirtual 284, 3) := by decide +kernel
theorem dX12_atom_251 : decode cX12_atom 251 = .ok (.goto 4, 3) := by decide +kernel
theorem dX12_atom_254 : decode cX12_atom 254 = .ok (.iconst 0, 1) := by decide +kernel
theorem dX12_atom_255 : decode cX12_atom 255 = .ok (.ireturn, 1) := by decide +kernel
theorem dX12_done_0 : decode cX12_done 0 = .ok (.iload_n 1, 1) := by decide +kernel
theorem dX12_done_1 : decode cX12_done 1 = .ok (.bipush 45, 2) := by decide +kernel
theorem dX12_done_3 : decode cX12_done 3 = .ok (.if_icmp .ne 11, 3) := by decide +kernel
theorem dX12_done_6 : decode cX12_done 6 = .ok (.aload_n 0, 1) := by decide +kernel
theorem dX12_done_7 : decode cX12_done 7 = .ok (.iconst 0, 1) := by decide +kernel
theorem dX12_done_8 : decode cX12_done 8 = .ok (.iload_n 2, 1) := by decide +kernel
theorem dX12_done_9 : decode cX12_done 9 = .ok (.iconst (-1), 1) := by decide +kernel
theorem dX12_done_10 : decode cX12_done 10 = .ok (.invokevirtual 175, 3) := by decide +kernel
theorem dX12_done_13 : decode cX12_done 13 = .ok (.ireturn, 1) := by decide +kernel
theorem dX12_done_14 : decode cX12_done 14 = .ok (.iload_n 1, 1) := by decide +kernel
theorem dX12_done_15 : decode cX12_done 15 = .ok (.bipush 109, 2) := by decide +kernel
theorem dX12_done_17 : decode cX12_done 17 = .ok (.if_icmp .ne 9, 3) := by decide +kernel
theorem dX12_done_20 : decode cX12_done 20 = .ok (.aload_n 0, 1) := by decide +kernel
theorem dX12_done_21 : decode cX12_done 21 = .ok (.iload_n 2, 1) := by decide +kernel
theorem dX12_done_22 : decode cX12_done 22 = .ok (.invokevirtual 198, 3) := by decide +kernel
theorem dX12_done_25 : decode cX12_done 25 = .ok (.ireturn, 1) := by decide +kernel
theorem dX12_done_26 : decode cX12_done 26 = .ok (.iload_n 1, 1) := by decide +kernel
theorem dX12_done_27 : decode cX12_done 27 = .ok (.bipush 114, 2) := by decide +kernel
theorem dX12_done_29 : decode cX12_done 29 = .ok (.if_icmp .ne 9, 3) := by decide +kernel
theorem dX12_done_32 : decode cX12_done 32 = .ok (.aload_n 0, 1) := by decide +kernel
theorem dX12_done_33 : decode cX12_done 33 = .ok (.iload_n 2, 1) := by decide +kernel
theorem dX12_done_34 : decode cX12_done 34 = .ok (.invokevirtual 185, 3) := by decide +kernel
theorem dX12_done_37 : decode cX12_done 37 = .ok (.ireturn, 1) := by decide +kernel
theorem dX12_done_38 : decode cX12_done 38 = .ok (.iload_n 1, 1) := by decide +kernel
theorem dX12_done_39 : decode cX12_done 39 = .ok (.bipush 105, 2) := by decide +kernel
theorem dX12_done_41 : decode cX12_done 41 = .ok (.if_icmp .ne 44, 3) := by decide +kernel
theorem dX12_done_44 : decode cX12_done 44 = .ok (.aload_n 0, 1) := by decide +kernel
theorem dX12_done_45 : decode cX12_done 45 = .ok (.aload_n 0, 1) := by decide +kernel
theorem dX12_done_46 : decode cX12_done 46 = .ok (.getfield 287, 3) := by decide +kernel
theorem dX12_done_49 : decode cX12_done 49 = .ok (.ifCond .ne 11, 3) := by decide +kernel
theorem dX12_done_52 : decode cX12_done 52 = .ok (.aload_n 0, 1) := by decide +kernel
theorem dX12_done_53 : decode cX12_done 53 = .ok (.iload_n 2, 1) := by decide +kernel
theorem dX12_done_54 : decode cX12_done 54 = .ok (.invokevirtual 290, 3) := by decide +kernel
theorem dX12_done_57 : decode cX12_done 57 = .ok (.ifCond .ne 7, 3) := by decide +kernel
theorem dX12_done_60 : decode cX12_done 60 = .ok (.iconst 1, 1) := by decide +kernel
theorem dX12_done_61 : decode cX12_done 61 = .ok (.goto 4, 3) := by decide +kernel
theorem dX12_done_64 : decode cX12_done 64 = .ok (.iconst 0, 1) := by decide +kernel
theorem dX12_done_65 : decode cX12_done 65 = .ok (.putfield 287, 3) := by decide +kernel
theorem dX12_done_68 : decode cX12_done 68 = .ok (.aload_n 0, 1) := by decide +kernel
theorem dX12_done_69 : decode cX12_done 69 = .ok (.getfield 287, 3) := by decide +kernel
theorem dX12_done_72 : decode cX12_done 72 = .ok (.ifCond .eq 7, 3) := by decide +kernel
theorem dX12_done_75 : decode cX12_done 75 = .ok (.iconst 0, 1) := by decide +kernel
theorem dX12_done_76 : decode cX12_done 76 = .ok (.goto 8, 3) := by decide +kernel
theorem dX12_done_79 : decode cX12_done 79 = .ok (.aload_n 0, 1) := by decide +kernel
theorem dX12_done_80 : decode cX12_done 80 = .ok (.iload_n 2, 1) := by decide +kernel
theorem dX12_done_81 : decode cX12_done 81 = .ok (.invokevirtual 293, 3) := by decide +kernel
theorem dX12_done_84 : decode cX12_done 84 = .ok (.ireturn, 1) := by decide +kernel
theorem dX12_done_85 : decode cX12_done 85 = .ok (.iload_n 2, 1) := by decide +kernel
theorem dX12_done_86 : decode cX12_done 86 = .ok (.ireturn, 1) := by decide +kernel
theorem dX12_factor_0 : decode cX12_factor 0 = .ok (.aload_n 0, 1) := by decide +kernel
theorem dX12_factor_1 : decode cX12_factor 1 = .ok (.invokevirtual 278, 3) := by decide +kernel
theorem dX12_factor_4 : decode cX12_factor 4 = .ok (.istore_n 1, 1) := by decide +kernel
theorem dX12_factor_5 : decode cX12_factor 5 = .ok (.aload_n 0, 1) := by decide +kernel
theorem dX12_factor_6 : decode cX12_factor 6 = .ok (.invokevirtual 255, 3) := by decide +kernel
theorem dX12_factor_9 : decode cX12_factor 9 = .ok (.ifCond .eq 12, 3) := by decide +kernel
theorem dX12_factor_12 : decode cX12_factor 12 = .ok (.aload_n 0, 1) := by decide +kernel
theorem dX12_factor_13 : decode cX12_factor 13 = .ok (.getfield 236, 3) := by decide +kernel
theorem dX12_factor_16 : decode cX12_factor 16 = .ok (.bipush 94, 2) := by decide +kernel
theorem dX12_factor_18 : decode cX12_factor 18 = .ok (.if_icmp .eq 5, 3) := by decide +kernel
theorem dX12_factor_21 : decode cX12_factor 21 = .ok (.iload_n 1, 1) := by decide +kernel
theorem dX12_factor_22 : decode cX12_factor 22 = .ok (.ireturn, 1) := by decide +kernel
theorem dX12_factor_23 : decode cX12_factor 23 = .ok (.aload_n 0, 1) := by decide +kernel
theorem dX12_factor_24 : decode cX12_factor 24 = .ok (.invokevirtual 263, 3) := by decide +kernel
theorem dX12_factor_27 : decode cX12_factor 27 = .ok (.aload_n 0, 1) := by decide +kernel
theorem dX12_factor_28 : decode cX12_factor 28 = .ok (.sipush 9999, 3) := by decide +kernel
theorem dX12_factor_31 : decode cX12_factor 31 = .ok (.invokevirtual 269, 3) := by decide +kernel
theorem dX12_factor_34 : decode cX12_factor 34 = .ok (.istore_n 2, 1) := by decide +kernel
theorem dX12_factor_35 : decode cX12_factor 35 = .ok (.aload_n 0, 1) := by decide +kernel
theorem dX12_factor_36 : decode cX12_factor 36 = .ok (.invokevirtual 255, 3) := by decide +kernel
theorem dX12_factor_39 : decode cX12_factor 39 = .ok (.ifCond .eq 20, 3) := by decide +kernel
theorem dX12_factor_42 : decode cX12_factor 42 = .ok (.aload_n 0, 1) := by decide +kernel
theorem dX12_factor_43 : decode cX12_factor 43 = .ok (.getfield 281, 3) := by decide +kernel
theorem dX12_factor_46 : decode cX12_factor 46 = .ok (.ifCond .eq 13, 3) := by decide +kernel
theorem dX12_factor_49 : decode cX12_factor 49 = .ok (.aload_n 0, 1) := by decide +kernel
theorem dX12_factor_50 : decode cX12_factor 50 = .ok (.iload_n 1, 1) := by decide +kernel
theorem dX12_factor_51 : decode cX12_factor 51 = .ok (.iload_n 2, 1) := by decide +kernel
theorem dX12_factor_52 : decode cX12_factor 52 = .ok (.i2l, 1) := by decide +kernel
theorem dX12_factor_53 : decode cX12_factor 53 = .ok (.invokevirtual 147, 3) := by decide +kernel
theorem dX12_factor_56 : decode cX12_factor 56 = .ok (.goto 4, 3) := by decide +kernel
theorem dX12_factor_59 : decode cX12_factor 59 = .ok (.iconst 0, 1) := by decide +kernel
theorem dX12_factor_60 : decode cX12_factor 60 = .ok (.ireturn, 1) := by decide +kernel
theorem dX12_term_0 : decode cX12_term 0 = .ok (.aload_n 0, 1) := by decide +kernel
theorem dX12_term_1 : decode cX12_term 1 = .ok (.invokevirtual 296, 3) := by decide +kernel
theorem dX12_term_4 : decode cX12_term 4 = .ok (.istore_n 1, 1) := by decide +kernel
theorem dX12_term_5 : decode cX12_term 5 = .ok (.aload_n 0, 1) := by decide +kernel
theorem dX12_term_6 : decode cX12_term 6 = .ok (.invokevirtual 255, 3) := by decide +kernel
theorem dX12_term_9 : decode cX12_term 9 = .ok (.ifCond .eq 49, 3) := by decide +kernel
theorem dX12_term_12 : decode cX12_term 12 = .ok (.aload_n 0, 1) := by decide +kernel
theorem dX12_term_13 : decode cX12_term 13 = .ok (.getfield 236, 3) := by decide +kernel
theorem dX12_term_16 : decode cX12_term 16 = .ok (.bipush 42, 2) := by decide +kernel
theorem dX12_term_18 : decode cX12_term 18 = .ok (.if_icmp .ne 40, 3) := by decide +kernel
theorem dX12_term_21 : decode cX12_term 21 = .ok (.aload_n 0, 1) := by decide +kernel
theorem dX12_term_22 : decode cX12_term 22 = .ok (.invokevirtual 263, 3) := by decide +kernel
theorem dX12_term_25 : decode cX12_term 25 = .ok (.aload_n 0, 1) := by decide +kernel
theorem dX12_term_26 : decode cX12_term 26 = .ok (.invokevirtual 296, 3) := by decide +kernel
theorem dX12_term_29 : decode cX12_term 29 = .ok (.istore_n 2, 1) := by decide +kernel
theorem dX12_term_30 : decode cX12_term 30 = .ok (.aload_n 0, 1) := by decide +kernel
theorem dX12_term_31 : decode cX12_term 31 = .ok (.invokevirtual 255, 3) := by decide +kernel
theorem dX12_term_34 : decode cX12_term 34 = .ok (.ifCond .eq 19, 3) := by decide +kernel
theorem dX12_term_37 : decode cX12_term 37 = .ok (.aload_n 0, 1) := by decide +kernel
theorem dX12_term_38 : decode cX12_term 38 = .ok (.getfield 281, 3) := by decide +kernel
theorem dX12_term_41 : decode cX12_term 41 = .ok (.ifCond .eq 12, 3) := by decide +kernel
theorem dX12_term_44 : decode cX12_term 44 = .ok (.aload_n 0, 1) := by decide +kernel
theorem dX12_term_45 : decode cX12_term 45 = .ok (.iload_n 1, 1) := by decide +kernel
theorem dX12_term_46 : decode cX12_term 46 = .ok (.iload_n 2, 1) := by decide +kernel
theorem dX12_term_47 : decode cX12_term 47 = .ok (.invokevirtual 132, 3) := by decide +kernel
theorem dX12_term_50 : decode cX12_term 50 = .ok (.goto 4, 3) := by decide +kernel
theorem dX12_term_53 : decode cX12_term 53 = .ok (.iconst 0, 1) := by decide +kernel
theorem dX12_term_54 : decode cX12_term 54 = .ok (.istore_n 1, 1) := by decide +kernel
theorem dX12_term_55 : decode cX12_term 55 = .ok (.goto (-50), 3) := by decide +kernel
theorem dX12_term_58 : decode cX12_term 58 = .ok (.iload_n 1, 1) := by decide +kernel
theorem dX12_term_59 : decode cX12_term 59 = .ok (.ireturn, 1) := by decide +kernel
theorem dX12_expr_0 : decode cX12_expr 0 = .ok (.aload_n 0, 1) := by decide +kernel
theorem dX12_expr_1 : decode cX12_expr 1 = .ok (.invokevirtual 299, 3) := by decide +kernel
theorem dX12_expr_4 : decode cX12_expr 4 = .ok (.istore_n 1, 1) := by decide +kernel
theorem dX12_expr_5 : decode cX12_expr 5 = .ok (.aload_n 0, 1) := by decide +kernel
theorem dX12_expr_6 : decode cX12_expr 6 = .ok (.invokevirtual 255, 3) := by decide +kernel
theorem dX12_expr_9 : decode cX12_expr 9 = .ok (.ifCond .eq 74, 3) := by decide +kernel
theorem dX12_expr_12 : decode cX12_expr 12 = .ok (.aload_n 0, 1) := by decide +kernel
theorem dX12_expr_13 : decode cX12_expr 13 = .ok (.getfield 236, 3) := by decide +kernel
theorem dX12_expr_16 : decode cX12_expr 16 = .ok (.bipush 43, 2) := by decide +kernel
theorem dX12_expr_18 : decode cX12_expr 18 = .ok (.if_icmp .eq 12, 3) := by decide +kernel
theorem dX12_expr_21 : decode cX12_expr 21 = .ok (.aload_n 0, 1) := by decide +kernel
theorem dX12_expr_22 : decode cX12_expr 22 = .ok (.getfield 236, 3) := by decide +kernel
theorem dX12_expr_25 : decode cX12_expr 25 = .ok (.bipush 45, 2) := by decide +kernel
theorem dX12_expr_27 : decode cX12_expr 27 = .ok (.if_icmp .ne 56, 3) := by decide +kernel
theorem dX12_expr_30 : decode cX12_expr 30 = .ok (.aload_n 0, 1) := by decide +kernel
theorem dX12_expr_31 : decode cX12_expr 31 = .ok (.getfield 236, 3) := by decide +kernel
theorem dX12_expr_34 : decode cX12_expr 34 = .ok (.bipush 43, 2) := by decide +kernel
theorem dX12_expr_36 : decode cX12_expr 36 = .ok (.if_icmp .ne 7, 3) := by decide +kernel
theorem dX12_expr_39 : decode cX12_expr 39 = .ok (.iconst 1, 1) := by decide +kernel
theorem dX12_expr_40 : decode cX12_expr 40 = .ok (.goto 4, 3) := by decide +kernel
theorem dX12_expr_43 : decode cX12_expr 43 = .ok (.iconst (-1), 1) := by decide +kernel
theorem dX12_expr_44 : decode cX12_expr 44 = .ok (.istore_n 2, 1) := by decide +kernel
theorem dX12_expr_45 : decode cX12_expr 45 = .ok (.aload_n 0, 1) := by decide +kernel
theorem dX12_expr_46 : decode cX12_expr 46 = .ok (.invokevirtual 263, 3) := by decide +kernel
theorem dX12_expr_49 : decode cX12_expr 49 = .ok (.aload_n 0, 1) := by decide +kernel
theorem dX12_expr_50 : decode cX12_expr 50 = .ok (.invokevirtual 299, 3) := by decide +kernel
theorem dX12_expr_53 : decode cX12_expr 53 = .ok (.istore_n 3, 1) := by decide +kernel
theorem dX12_expr_54 : decode cX12_expr 54 = .ok (.aload_n 0, 1) := by decide +kernel
theorem dX12_expr_55 : decode cX12_expr 55 = .ok (.invokevirtual 255, 3) := by decide +kernel
theorem dX12_expr_58 : decode cX12_expr 58 = .ok (.ifCond .eq 20, 3) := by decide +kernel
theorem dX12_expr_61 : decode cX12_expr 61 = .ok (.aload_n 0, 1) := by decide +kernel
theorem dX12_expr_62 : decode cX12_expr 62 = .ok (.getfield 281, 3) := by decide +kernel
theorem dX12_expr_65 : decode cX12_expr 65 = .ok (.ifCond .eq 13, 3) := by decide +kernel
theorem dX12_expr_68 : decode cX12_expr 68 = .ok (.aload_n 0, 1) := by decide +kernel
theorem dX12_expr_69 : decode cX12_expr 69 = .ok (.iload_n 1, 1) := by decide +kernel
theorem dX12_expr_70 : decode cX12_expr 70 = .ok (.iload_n 3, 1) := by decide +kernel
theorem dX12_expr_71 : decode cX12_expr 71 = .ok (.iload_n 2, 1) := by decide +kernel
theorem dX12_expr_72 : decode cX12_expr 72 = .ok (.invokevirtual 175, 3) := by decide +kernel
theorem dX12_expr_75 : decode cX12_expr 75 = .ok (.goto 4, 3) := by decide +kernel
theorem dX12_expr_78 : decode cX12_expr 78 = .ok (.iconst 0, 1) := by decide +kernel
theorem dX12_expr_79 : decode cX12_expr 79 = .ok (.istore_n 1, 1) := by decide +kernel
theorem dX12_expr_80 : decode cX12_expr 80 = .ok (.goto (-75), 3) := by decide +kernel
theorem dX12_expr_83 : decode cX12_expr 83 = .ok (.iload_n 1, 1) := by decide +kernel
theorem dX12_expr_84 : decode cX12_expr 84 = .ok (.ireturn, 1) := by decide +kernel
theorem dX12_reads_0 : decode cX12_reads 0 = .ok (.aload_n 0, 1) := by decide +kernel
theorem dX12_reads_1 : decode cX12_reads 1 = .ok (.iconst 0, 1) := by decide +kernel
theorem dX12_reads_2 : decode cX12_reads 2 = .ok (.putfield 227, 3) := by decide +kernel
theorem dX12_reads_5 : decode cX12_reads 5 = .ok (.aload_n 0, 1) := by decide +kernel
theorem dX12_reads_6 : decode cX12_reads 6 = .ok (.iconst 0, 1) := by decide +kernel
theorem dX12_reads_7 : decode cX12_reads 7 = .ok (.putfield 266, 3) := by decide +kernel
theorem dX12_reads_10 : decode cX12_reads 10 = .ok (.aload_n 0, 1) := by decide +kernel
theorem dX12_reads_11 : decode cX12_reads 11 = .ok (.iload_n 1, 1) := by decide +kernel
theorem dX12_reads_12 : decode cX12_reads 12 = .ok (.putfield 281, 3) := by decide +kernel
theorem dX12_reads_15 : decode cX12_reads 15 = .ok (.aload_n 0, 1) := by decide +kernel
theorem dX12_reads_16 : decode cX12_reads 16 = .ok (.iconst 0, 1) := by decide +kernel
theorem dX12_reads_17 : decode cX12_reads 17 = .ok (.putfield 287, 3) := by decide +kernel
theorem dX12_reads_20 : decode cX12_reads 20 = .ok (.aload_n 0, 1) := by decide +kernel
theorem dX12_reads_21 : decode cX12_reads 21 = .ok (.invokevirtual 263, 3) := by decide +kernel
theorem dX12_reads_24 : decode cX12_reads 24 = .ok (.aload_n 0, 1) := by decide +kernel
theorem dX12_reads_25 : decode cX12_reads 25 = .ok (.invokevirtual 275, 3) := by decide +kernel
theorem dX12_reads_28 : decode cX12_reads 28 = .ok (.istore_n 2, 1) := by decide +kernel
theorem dX12_reads_29 : decode cX12_reads 29 = .ok (.aload_n 0, 1) := by decide +kernel
theorem dX12_reads_30 : decode cX12_reads 30 = .ok (.invokevirtual 255, 3) := by decide +kernel
theorem dX12_reads_33 : decode cX12_reads 33 = .ok (.ifCond .eq 24, 3) := by decide +kernel
theorem dX12_reads_36 : decode cX12_reads 36 = .ok (.aload_n 0, 1) := by decide +kernel
theorem dX12_reads_37 : decode cX12_reads 37 = .ok (.aload_n 0, 1) := by decide +kernel
theorem dX12_reads_38 : decode cX12_reads 38 = .ok (.getfield 236, 3) := by decide +kernel
theorem dX12_reads_41 : decode cX12_reads 41 = .ok (.sipush 1002, 3) := by decide +kernel
theorem dX12_reads_44 : decode cX12_reads 44 = .ok (.if_icmp .ne 7, 3) := by decide +kernel
theorem dX12_reads_47 : decode cX12_reads 47 = .ok (.iconst 1, 1) := by decide +kernel
theorem dX12_reads_48 : decode cX12_reads 48 = .ok (.goto 4, 3) := by decide +kernel
theorem dX12_reads_51 : decode cX12_reads 51 = .ok (.iconst 0, 1) := by decide +kernel
theorem dX12_reads_52 : decode cX12_reads 52 = .ok (.iconst 1, 1) := by decide +kernel
theorem dX12_reads_53 : decode cX12_reads 53 = .ok (.invokevirtual 259, 3) := by decide +kernel
theorem dX12_reads_56 : decode cX12_reads 56 = .ok (.pop, 1) := by decide +kernel
theorem dX12_reads_57 : decode cX12_reads 57 = .ok (.iload_n 2, 1) := by decide +kernel
theorem dX12_reads_58 : decode cX12_reads 58 = .ok (.ireturn, 1) := by decide +kernel
theorem dX12_tell_0 : decode cX12_tell 0 = .ok (.aload_n 0, 1) := by decide +kernel
theorem dX12_tell_1 : decode cX12_tell 1 = .ok (.iconst 0, 1) := by decide +kernel
theorem dX12_tell_2 : decode cX12_tell 2 = .ok (.putfield 1, 3) := by decide +kernel
theorem dX12_tell_5 : decode cX12_tell 5 = .ok (.aload_n 0, 1) := by decide +kernel
theorem dX12_tell_6 : decode cX12_tell 6 = .ok (.iload_n 1, 1) := by decide +kernel
theorem dX12_tell_7 : decode cX12_tell 7 = .ok (.i2l, 1) := by decide +kernel
theorem dX12_tell_8 : decode cX12_tell 8 = .ok (.lconst 0, 1) := by decide +kernel
theorem dX12_tell_9 : decode cX12_tell 9 = .ok (.ldc2_w 302, 3) := by decide +kernel
theorem dX12_tell_12 : decode cX12_tell 12 = .ok (.invokestatic 206, 3) := by decide +kernel
theorem dX12_tell_15 : decode cX12_tell 15 = .ok (.ifCond .eq 21, 3) := by decide +kernel
theorem dX12_tell_18 : decode cX12_tell 18 = .ok (.iload_n 2, 1) := by decide +kernel
theorem dX12_tell_19 : decode cX12_tell 19 = .ok (.i2l, 1) := by decide +kernel
theorem dX12_tell_20 : decode cX12_tell 20 = .ok (.lconst 0, 1) := by decide +kernel
theorem dX12_tell_21 : decode cX12_tell 21 = .ok (.aload_n 0, 1) := by decide +kernel
theorem dX12_tell_22 : decode cX12_tell 22 = .ok (.getfield 214, 3) := by decide +kernel
theorem dX12_tell_25 : decode cX12_tell 25 = .ok (.i2l, 1) := by decide +kernel
theorem dX12_tell_26 : decode cX12_tell 26 = .ok (.invokestatic 206, 3) := by decide +kernel
theorem dX12_tell_29 : decode cX12_tell 29 = .ok (.ifCond .eq 7, 3) := by decide +kernel
theorem dX12_tell_32 : decode cX12_tell 32 = .ok (.iconst 1, 1) := by decide +kernel
theorem dX12_tell_33 : decode cX12_tell 33 = .ok (.goto 4, 3) := by decide +kernel
theorem dX12_tell_36 : decode cX12_tell 36 = .ok (.iconst 0, 1) := by decide +kernel
theorem dX12_tell_37 : decode cX12_tell 37 = .ok (.iconst 1, 1) := by decide +kernel
theorem dX12_tell_38 : decode cX12_tell 38 = .ok (.invokevirtual 304, 3) := by decide +kernel
theorem dX12_tell_41 : decode cX12_tell 41 = .ok (.ifCond .ne 5, 3) := by decide +kernel
theorem dX12_tell_44 : decode cX12_tell 44 = .ok (.iconst 0, 1) := by decide +kernel
theorem dX12_tell_45 : decode cX12_tell 45 = .ok (.ireturn, 1) := by decide +kernel
theorem dX12_tell_46 : decode cX12_tell 46 = .ok (.aload_n 0, 1) := by decide +kernel
theorem dX12_tell_47 : decode cX12_tell 47 = .ok (.iload_n 2, 1) := by decide +kernel
theorem dX12_tell_48 : decode cX12_tell 48 = .ok (.putfield 220, 3) := by decide +kernel
theorem dX12_tell_51 : decode cX12_tell 51 = .ok (.aload_n 0, 1) := by decide +kernel
theorem dX12_tell_52 : decode cX12_tell 52 = .ok (.iconst 0, 1) := by decide +kernel
theorem dX12_tell_53 : decode cX12_tell 53 = .ok (.putfield 214, 3) := by decide +kernel
theorem dX12_tell_56 : decode cX12_tell 56 = .ok (.aload_n 0, 1) := by decide +kernel
theorem dX12_tell_57 : decode cX12_tell 57 = .ok (.iconst 0, 1) := by decide +kernel
theorem dX12_tell_58 : decode cX12_tell 58 = .ok (.putfield 252, 3) := by decide +kernel
theorem dX12_tell_61 : decode cX12_tell 61 = .ok (.aload_n 0, 1) := by decide +kernel
theorem dX12_tell_62 : decode cX12_tell 62 = .ok (.iconst (-1), 1) := by decide +kernel
theorem dX12_tell_63 : decode cX12_tell 63 = .ok (.putfield 66, 3) := by decide +kernel
theorem dX12_tell_66 : decode cX12_tell 66 = .ok (.aload_n 0, 1) := by decide +kernel
theorem dX12_tell_67 : decode cX12_tell 67 = .ok (.iconst 0, 1) := by decide +kernel
theorem dX12_tell_68 : decode cX12_tell 68 = .ok (.invokevirtual 307, 3) := by decide +kernel
theorem dX12_tell_71 : decode cX12_tell 71 = .ok (.pop, 1) := by decide +kernel
theorem dX12_tell_72 : decode cX12_tell 72 = .ok (.aload_n 0, 1) := by decide +kernel
theorem dX12_tell_73 : decode cX12_tell 73 = .ok (.invokevirtual 255, 3) := by decide +kernel
theorem dX12_tell_76 : decode cX12_tell 76 = .ok (.ifCond .ne 11, 3) := by decide +kernel
theorem dX12_tell_79 : decode cX12_tell 79 = .ok (.bipush (-10), 2) := by decide +kernel
theorem dX12_tell_81 : decode cX12_tell 81 = .ok (.aload_n 0, 1) := by decide +kernel
theorem dX12_tell_82 : decode cX12_tell 82 = .ok (.getfield 252, 3) := by decide +kernel
theorem dX12_tell_85 : decode cX12_tell 85 = .ok (.isub, 1) := by decide +kernel
theorem dX12_tell_86 : decode cX12_tell 86 = .ok (.ireturn, 1) := by decide +kernel
theorem dX12_tell_87 : decode cX12_tell 87 = .ok (.aload_n 0, 1) := by decide +kernel
theorem dX12_tell_88 : decode cX12_tell 88 = .ok (.iconst 1, 1) := by decide +kernel
theorem dX12_tell_89 : decode cX12_tell 89 = .ok (.invokevirtual 307, 3) := by decide +kernel
theorem dX12_tell_92 : decode cX12_tell 92 = .ok (.istore_n 3, 1) := by decide +kernel
theorem dX12_tell_93 : decode cX12_tell 93 = .ok (.aload_n 0, 1) := by decide +kernel
theorem dX12_tell_94 : decode cX12_tell 94 = .ok (.getfield 287, 3) := by decide +kernel
theorem dX12_tell_97 : decode cX12_tell 97 = .ok (.ifCond .eq 6, 3) := by decide +kernel
theorem dX12_tell_100 : decode cX12_tell 100 = .ok (.bipush (-2), 2) := by decide +kernel
theorem dX12_tell_102 : decode cX12_tell 102 = .ok (.ireturn, 1) := by decide +kernel
theorem dX12_tell_103 : decode cX12_tell 103 = .ok (.aload_n 0, 1) := by decide +kernel
theorem dX12_tell_104 : decode cX12_tell 104 = .ok (.getfield 44, 3) := by decide +kernel
theorem dX12_tell_107 : decode cX12_tell 107 = .ok (.iload_n 1, 1) := by decide +kernel
theorem dX12_tell_108 : decode cX12_tell 108 = .ok (.iload_n 3, 1) := by decide +kernel
theorem dX12_tell_109 : decode cX12_tell 109 = .ok (.iastore, 1) := by decide +kernel
theorem dX12_tell_110 : decode cX12_tell 110 = .ok (.iload_n 3, 1) := by decide +kernel
theorem dX12_tell_111 : decode cX12_tell 111 = .ok (.ireturn, 1) := by decide +kernel
theorem dX12_fault_0 : decode cX12_fault 0 = .ok (.aload_n 0, 1) := by decide +kernel
theorem dX12_fault_1 : decode cX12_fault 1 = .ok (.iconst 0, 1) := by decide +kernel
theorem dX12_fault_2 : decode cX12_fault 2 = .ok (.putfield 1, 3) := by decide +kernel
theorem dX12_fault_5 : decode cX12_fault 5 = .ok (.aload_n 0, 1) := by decide +kernel
theorem dX12_fault_6 : decode cX12_fault 6 = .ok (.getfield 66, 3) := by decide +kernel
theorem dX12_fault_9 : decode cX12_fault 9 = .ok (.ireturn, 1) := by decide +kernel
theorem dX12_isElement_0 : decode cX12_isElement 0 = .ok (.iload_n 1, 1) := by decide +kernel
theorem dX12_isElement_1 : decode cX12_isElement 1 = .ok (.i2l, 1) := by decide +kernel
theorem dX12_isElement_2 : decode cX12_isElement 2 = .ok (.lconst 0, 1) := by decide +kernel
theorem dX12_isElement_3 : decode cX12_isElement 3 = .ok (.aload_n 0, 1) := by decide +kernel
theorem dX12_isElement_4 : decode cX12_isElement 4 = .ok (.getfield 28, 3) := by decide +kernel
theorem dX12_isElement_7 : decode cX12_isElement 7 = .ok (.iconst 1, 1) := by decide +kernel
theorem dX12_isElement_8 : decode cX12_isElement 8 = .ok (.isub, 1) := by decide +kernel
theorem dX12_isElement_9 : decode cX12_isElement 9 = .ok (.i2l, 1) := by decide +kernel
theorem dX12_isElement_10 : decode cX12_isElement 10 = .ok (.invokestatic 206, 3) := by decide +kernel
theorem dX12_isElement_13 : decode cX12_isElement 13 = .ok (.ireturn, 1) := by decide +kernel
theorem dX12_put_0 : decode cX12_put 0 = .ok (.aload_n 0, 1) := by decide +kernel
theorem dX12_put_1 : decode cX12_put 1 = .ok (.iconst 0, 1) := by decide +kernel
theorem dX12_put_2 : decode cX12_put 2 = .ok (.putfield 1, 3) := by decide +kernel
theorem dX12_put_5 : decode cX12_put 5 = .ok (.aload_n 0, 1) := by decide +kernel
theorem dX12_put_6 : decode cX12_put 6 = .ok (.iload_n 1, 1) := by decide +kernel
theorem dX12_put_7 : decode cX12_put 7 = .ok (.i2l, 1) := by decide +kernel
theorem dX12_put_8 : decode cX12_put 8 = .ok (.lconst 0, 1) := by decide +kernel
theorem dX12_put_9 : decode cX12_put 9 = .ok (.ldc2_w 302, 3) := by decide +kernel
theorem dX12_put_12 : decode cX12_put 12 = .ok (.invokestatic 206, 3) := by decide +kernel
theorem dX12_put_15 : decode cX12_put 15 = .ok (.ifCond .eq 15, 3) := by decide +kernel
theorem dX12_put_18 : decode cX12_put 18 = .ok (.aload_n 0, 1) := by decide +kernel
theorem dX12_put_19 : decode cX12_put 19 = .ok (.iload_n 2, 1) := by decide +kernel
theorem dX12_put_20 : decode cX12_put 20 = .ok (.invokevirtual 311, 3) := by decide +kernel
theorem dX12_put_23 : decode cX12_put 23 = .ok (.ifCond .eq 7, 3) := by decide +kernel
theorem dX12_put_26 : decode cX12_put 26 = .ok (.iconst 1, 1) := by decide +kernel
theorem dX12_put_27 : decode cX12_put 27 = .ok (.goto 4, 3) := by decide +kernel
theorem dX12_put_30 : decode cX12_put 30 = .ok (.iconst 0, 1) := by decide +kernel
theorem dX12_put_31 : decode cX12_put 31 = .ok (.iconst 1, 1) := by decide +kernel
theorem dX12_put_32 : decode cX12_put 32 = .ok (.invokevirtual 304, 3) := by decide +kernel
theorem dX12_put_35 : decode cX12_put 35 = .ok (.ifCond .ne 5, 3) := by decide +kernel
theorem dX12_put_38 : decode cX12_put 38 = .ok (.iconst 0, 1) := by decide +kernel
theorem dX12_put_39 : decode cX12_put 39 = .ok (.ireturn, 1) := by decide +kernel
theorem dX12_put_40 : decode cX12_put 40 = .ok (.aload_n 0, 1) := by decide +kernel
theorem dX12_put_41 : decode cX12_put 41 = .ok (.getfield 44, 3) := by decide +kernel
theorem dX12_put_44 : decode cX12_put 44 = .ok (.iload_n 1, 1) := by decide +kernel
theorem dX12_put_45 : decode cX12_put 45 = .ok (.iaload, 1) := by decide +kernel
theorem dX12_put_46 : decode cX12_put 46 = .ok (.istore_n 3, 1) := by decide +kernel
theorem dX12_put_47 : decode cX12_put 47 = .ok (.aload_n 0, 1) := by decide +kernel
theorem dX12_put_48 : decode cX12_put 48 = .ok (.getfield 44, 3) := by decide +kernel
theorem dX12_put_51 : decode cX12_put 51 = .ok (.iload_n 1, 1) := by decide +kernel
theorem dX12_put_52 : decode cX12_put 52 = .ok (.iload_n 2, 1) := by decide +kernel
theorem dX12_put_53 : decode cX12_put 53 = .ok (.iastore, 1) := by decide +kernel
theorem dX12_put_54 : decode cX12_put 54 = .ok (.iload_n 3, 1) := by decide +kernel
theorem dX12_put_55 : decode cX12_put 55 = .ok (.ireturn, 1) := by decide +kernel
theorem dX12_divisors_0 : decode cX12_divisors 0 = .ok (.iconst 0, 1) := by decide +kernel
theorem dX12_divisors_1 : decode cX12_divisors 1 = .ok (.istore_n 1, 1) := by decide +kernel
theorem dX12_divisors_2 : decode cX12_divisors 2 = .ok (.iconst 1, 1) := by decide +kernel
theorem dX12_divisors_3 : decode cX12_divisors 3 = .ok (.istore_n 2, 1) := by decide +kernel
theorem dX12_divisors_4 : decode cX12_divisors 4 = .ok (.iload_n 2, 1) := by decide +kernel
theorem dX12_divisors_5 : decode cX12_divisors 5 = .ok (.aload_n 0, 1) := by decide +kernel
theorem dX12_divisors_6 : decode cX12_divisors 6 = .ok (.getfield 19, 3) := by decide +kernel
theorem dX12_divisors_9 : decode cX12_divisors 9 = .ok (.if_icmp .gt 26, 3) := by decide +kernel
theorem dX12_divisors_12 : decode cX12_divisors 12 = .ok (.iload_n 1, 1) := by decide +kernel
theorem dX12_divisors_13 : decode cX12_divisors 13 = .ok (.aload_n 0, 1) := by decide +kernel
theorem dX12_divisors_14 : decode cX12_divisors 14 = .ok (.getfield 19, 3) := by decide +kernel
theorem dX12_divisors_17 : decode cX12_divisors 17 = .ok (.iload_n 2, 1) := by decide +kernel
theorem dX12_divisors_18 : decode cX12_divisors 18 = .ok (.irem, 1) := by decide +kernel
theorem dX12_divisors_19 : decode cX12_divisors 19 = .ok (.ifCond .ne 7, 3) := by decide +kernel
theorem dX12_divisors_22 : decode cX12_divisors 22 = .ok (.iconst 1, 1) := by decide +kernel
theorem dX12_divisors_23 : decode cX12_divisors 23 = .ok (.goto 4, 3) := by decide +kernel
theorem dX12_divisors_26 : decode cX12_divisors 26 = .ok (.iconst 0, 1) := by decide +kernel
theorem dX12_divisors_27 : decode cX12_divisors 27 = .ok (.iadd, 1) := by decide +kernel
theorem dX12_divisors_28 : decode cX12_divisors 28 = .ok (.istore_n 1, 1) := by decide +kernel
theorem dX12_divisors_29 : decode cX12_divisors 29 = .ok (.iinc 2 1, 3) := by decide +kernel
theorem dX12_divisors_32 : decode cX12_divisors 32 = .ok (.goto (-28), 3) := by decide +kernel
theorem dX12_divisors_35 : decode cX12_divisors 35 = .ok (.iload_n 1, 1) := by decide +kernel
theorem dX12_divisors_36 : decode cX12_divisors 36 = .ok (.ireturn, 1) := by decide +kernel
theorem dX12_common_0 : decode cX12_common 0 = .ok (.iload_n 0, 1) := by decide +kernel
theorem dX12_common_1 : decode cX12_common 1 = .ok (.istore_n 2, 1) := by decide +kernel
theorem dX12_common_2 : decode cX12_common 2 = .ok (.iload_n 1, 1) := by decide +kernel
theorem dX12_common_3 : decode cX12_common 3 = .ok (.istore_n 3, 1) := by decide +kernel
theorem dX12_common_4 : decode cX12_common 4 = .ok (.iload_n 3, 1) := by decide +kernel
theorem dX12_common_5 : decode cX12_common 5 = .ok (.ifCond .eq 16, 3) := by decide +kernel
theorem dX12_common_8 : decode cX12_common 8 = .ok (.iload_n 2, 1) := by decide +kernel
theorem dX12_common_9 : decode cX12_common 9 = .ok (.iload_n 3, 1) := by decide +kernel
theorem dX12_common_10 : decode cX12_common 10 = .ok (.irem, 1) := by decide +kernel
theorem dX12_common_11 : decode cX12_common 11 = .ok (.istore 4, 2) := by decide +kernel
theorem dX12_common_13 : decode cX12_common 13 = .ok (.iload_n 3, 1) := by decide +kernel
theorem dX12_common_14 : decode cX12_common 14 = .ok (.istore_n 2, 1) := by decide +kernel
theorem dX12_common_15 : decode cX12_common 15 = .ok (.iload 4, 2) := by decide +kernel
theorem dX12_common_17 : decode cX12_common 17 = .ok (.istore_n 3, 1) := by decide +kernel
theorem dX12_common_18 : decode cX12_common 18 = .ok (.goto (-14), 3) := by decide +kernel
theorem dX12_common_21 : decode cX12_common 21 = .ok (.iload_n 2, 1) := by decide +kernel
theorem dX12_common_22 : decode cX12_common 22 = .ok (.ireturn, 1) := by decide +kernel
theorem dX12_exponent_0 : decode cX12_exponent 0 = .ok (.iconst 1, 1) := by decide +kernel
theorem dX12_exponent_1 : decode cX12_exponent 1 = .ok (.istore_n 1, 1) := by decide +kernel
theorem dX12_exponent_2 : decode cX12_exponent 2 = .ok (.iconst 1, 1) := by decide +kernel
theorem dX12_exponent_3 : decode cX12_exponent 3 = .ok (.istore_n 2, 1) := by decide +kernel
theorem dX12_exponent_4 : decode cX12_exponent 4 = .ok (.iload_n 2, 1) := by decide +kernel
theorem dX12_exponent_5 : decode cX12_exponent 5 = .ok (.aload_n 0, 1) := by decide +kernel
theorem dX12_exponent_6 : decode cX12_exponent 6 = .ok (.getfield 28, 3) := by decide +kernel
theorem dX12_exponent_9 : decode cX12_exponent 9 = .ok (.if_icmp .ge 44, 3) := by decide +kernel
theorem dX12_exponent_12 : decode cX12_exponent 12 = .ok (.aload_n 0, 1) := by decide +kernel
theorem dX12_exponent_13 : decode cX12_exponent 13 = .ok (.iload_n 2, 1) := by decide +kernel
theorem dX12_exponent_14 : decode cX12_exponent 14 = .ok (.invokevirtual 290, 3) := by decide +kernel
theorem dX12_exponent_17 : decode cX12_exponent 17 = .ok (.ifCond .eq 30, 3) := by decide +kernel
theorem dX12_exponent_20 : decode cX12_exponent 20 = .ok (.aload_n 0, 1) := by decide +kernel
theorem dX12_exponent_21 : decode cX12_exponent 21 = .ok (.iload_n 2, 1) := by decide +kernel
theorem dX12_exponent_22 : decode cX12_exponent 22 = .ok (.iload_n 1, 1) := by decide +kernel
theorem dX12_exponent_23 : decode cX12_exponent 23 = .ok (.i2l, 1) := by decide +kernel
theorem dX12_exponent_24 : decode cX12_exponent 24 = .ok (.invokevirtual 147, 3) := by decide +kernel
theorem dX12_exponent_27 : decode cX12_exponent 27 = .ok (.iconst 1, 1) := by decide +kernel
theorem dX12_exponent_28 : decode cX12_exponent 28 = .ok (.if_icmp .eq 19, 3) := by decide +kernel
theorem dX12_exponent_31 : decode cX12_exponent 31 = .ok (.aload_n 0, 1) := by decide +kernel
theorem dX12_exponent_32 : decode cX12_exponent 32 = .ok (.iload_n 2, 1) := by decide +kernel
theorem dX12_exponent_33 : decode cX12_exponent 33 = .ok (.invokevirtual 314, 3) := by decide +kernel
theorem dX12_exponent_36 : decode cX12_exponent 36 = .ok (.istore_n 3, 1) := by decide +kernel
theorem dX12_exponent_37 : decode cX12_exponent 37 = .ok (.iload_n 1, 1) := by decide +kernel
theorem dX12_exponent_38 : decode cX12_exponent 38 = .ok (.iload_n 1, 1) := by decide +kernel
theorem dX12_exponent_39 : decode cX12_exponent 39 = .ok (.iload_n 3, 1) := by decide +kernel
theorem dX12_exponent_40 : decode cX12_exponent 40 = .ok (.invokestatic 317, 3) := by decide +kernel
theorem dX12_exponent_43 : decode cX12_exponent 43 = .ok (.idiv, 1) := by decide +kernel
theorem dX12_exponent_44 : decode cX12_exponent 44 = .ok (.iload_n 3, 1) := by decide +kernel
theorem dX12_exponent_45 : decode cX12_exponent 45 = .ok (.imul, 1) := by decide +kernel
theorem dX12_exponent_46 : decode cX12_exponent 46 = .ok (.istore_n 1, 1) := by decide +kernel
theorem dX12_exponent_47 : decode cX12_exponent 47 = .ok (.iinc 2 1, 3) := by decide +kernel
theorem dX12_exponent_50 : decode cX12_exponent 50 = .ok (.goto (-46), 3) := by decide +kernel
theorem dX12_exponent_53 : decode cX12_exponent 53 = .ok (.iload_n 1, 1) := by decide +kernel
theorem dX12_exponent_54 : decode cX12_exponent 54 = .ok (.ireturn, 1) := by decide +kernel
theorem dX12_count_0 : decode cX12_count 0 = .ok (.aload_n 0, 1) := by decide +kernel
theorem dX12_count_1 : decode cX12_count 1 = .ok (.iconst 0, 1) := by decide +kernel
theorem dX12_count_2 : decode cX12_count 2 = .ok (.putfield 1, 3) := by decide +kernel
theorem dX12_count_5 : decode cX12_count 5 = .ok (.aload_n 0, 1) := by decide +kernel
theorem dX12_count_6 : decode cX12_count 6 = .ok (.iload_n 1, 1) := by decide +kernel
theorem dX12_count_7 : decode cX12_count 7 = .ok (.i2l, 1) := by decide +kernel
theorem dX12_count_8 : decode cX12_count 8 = .ok (.lconst 0, 1) := by decide +kernel
theorem dX12_count_9 : decode cX12_count 9 = .ok (.ldc2_w 320, 3) := by decide +kernel
theorem dX12_count_12 : decode cX12_count 12 = .ok (.invokestatic 206, 3) := by decide +kernel
theorem dX12_count_15 : decode cX12_count 15 = .ok (.iconst 1, 1) := by decide +kernel
theorem dX12_count_16 : decode cX12_count 16 = .ok (.invokevirtual 304, 3) := by decide +kernel
theorem dX12_count_19 : decode cX12_count 19 = .ok (.ifCond .ne 5, 3) := by decide +kernel
theorem dX12_count_22 : decode cX12_count 22 = .ok (.iconst 0, 1) := by decide +kernel
theorem dX12_count_23 : decode cX12_count 23 = .ok (.ireturn, 1) := by decide +kernel
theorem dX12_count_24 : decode cX12_count 24 = .ok (.iload_n 1, 1) := by decide +kernel
theorem dX12_count_25 : decode cX12_count 25 = .ok (.tableswitch 128 0 11 #[63, 68, 73, 78, 83, 88, 93, 98, 103, 108, 118, 123], 63) := by decide +kernel
theorem dX12_count_88 : decode cX12_count 88 = .ok (.aload_n 0, 1) := by decide +kernel
theorem dX12_count_89 : decode cX12_count 89 = .ok (.getfield 13, 3) := by decide +kernel
theorem dX12_count_92 : decode cX12_count 92 = .ok (.ireturn, 1) := by decide +kernel
theorem dX12_count_93 : decode cX12_count 93 = .ok (.aload_n 0, 1) := by decide +kernel
theorem dX12_count_94 : decode cX12_count 94 = .ok (.getfield 16, 3) := by decide +kernel
theorem dX12_count_97 : decode cX12_count 97 = .ok (.ireturn, 1) := by decide +kernel
theorem dX12_count_98 : decode cX12_count 98 = .ok (.aload_n 0, 1) := by decide +kernel
theorem dX12_count_99 : decode cX12_count 99 = .ok (.getfield 19, 3) := by decide +kernel
theorem dX12_count_102 : decode cX12_count 102 = .ok (.ireturn, 1) := by decide +kernel
theorem dX12_count_103 : decode cX12_count 103 = .ok (.aload_n 0, 1) := by decide +kernel
theorem dX12_count_104 : decode cX12_count 104 = .ok (.getfield 22, 3) := by decide +kernel
theorem dX12_count_107 : decode cX12_count 107 = .ok (.ireturn, 1) := by decide +kernel
theorem dX12_count_108 : decode cX12_count 108 = .ok (.aload_n 0, 1) := by decide +kernel
theorem dX12_count_109 : decode cX12_count 109 = .ok (.getfield 25, 3) := by decide +kernel
theorem dX12_count_112 : decode cX12_count 112 = .ok (.ireturn, 1) := by decide +kernel
theorem dX12_count_113 : decode cX12_count 113 = .ok (.aload_n 0, 1) := by decide +kernel
theorem dX12_count_114 : decode cX12_count 114 = .ok (.getfield 28, 3) := by decide +kernel
theorem dX12_count_117 : decode cX12_count 117 = .ok (.ireturn, 1) := by decide +kernel
theorem dX12_count_118 : decode cX12_count 118 = .ok (.aload_n 0, 1) := by decide +kernel
theorem dX12_count_119 : decode cX12_count 119 = .ok (.invokevirtual 143, 3) := by decide +kernel
theorem dX12_count_122 : decode cX12_count 122 = .ok (.ireturn, 1) := by decide +kernel
theorem dX12_count_123 : decode cX12_count 123 = .ok (.aload_n 0, 1) := by decide +kernel
theorem dX12_count_124 : decode cX12_count 124 = .ok (.getfield 179, 3) := by decide +kernel
theorem dX12_count_127 : decode cX12_count 127 = .ok (.ireturn, 1) := by decide +kernel
theorem dX12_count_128 : decode cX12_count 128 = .ok (.aload_n 0, 1) := by decide +kernel
theorem dX12_count_129 : decode cX12_count 129 = .ok (.getfield 69, 3) := by decide +kernel
theorem dX12_count_132 : decode cX12_count 132 = .ok (.ireturn, 1) := by decide +kernel
theorem dX12_count_133 : decode cX12_count 133 = .ok (.aload_n 0, 1) := by decide +kernel
theorem dX12_count_134 : decode cX12_count 134 = .ok (.getfield 69, 3) := by decide +kernel
theorem dX12_count_137 : decode cX12_count 137 = .ok (.aload_n 0, 1) := by decide +kernel
theorem dX12_count_138 : decode cX12_count 138 = .ok (.getfield 322, 3) := by decide +kernel
theorem dX12_count_141 : decode cX12_count 141 = .ok (.isub, 1) := by decide +kernel
theorem dX12_count_142 : decode cX12_count 142 = .ok (.ireturn, 1) := by decide +kernel
theorem dX12_count_143 : decode cX12_count 143 = .ok (.aload_n 0, 1) := by decide +kernel
theorem dX12_count_144 : decode cX12_count 144 = .ok (.getfield 214, 3) := by decide +kernel
theorem dX12_count_147 : decode cX12_count 147 = .ok (.ireturn, 1) := by decide +kernel
theorem dX12_count_148 : decode cX12_count 148 = .ok (.aload_n 0, 1) := by decide +kernel
theorem dX12_count_149 : decode cX12_count 149 = .ok (.invokevirtual 325, 3) := by decide +kernel
theorem dX12_count_152 : decode cX12_count 152 = .ok (.ireturn, 1) := by decide +kernel
theorem dX12_count_153 : decode cX12_count 153 = .ok (.aload_n 0, 1) := by decide +kernel
theorem dX12_count_154 : decode cX12_count 154 = .ok (.invokevirtual 328, 3) := by decide +kernel
theorem dX12_count_157 : decode cX12_count 157 = .ok (.ireturn, 1) := by decide +kernel
theorem dX12_modulus_0 : decode cX12_modulus 0 = .ok (.aload_n 0, 1) := by decide +kernel
theorem dX12_modulus_1 : decode cX12_modulus 1 = .ok (.iconst 0, 1) := by decide +kernel
theorem dX12_modulus_2 : decode cX12_modulus 2 = .ok (.putfield 1, 3) := by decide +kernel
theorem dX12_modulus_5 : decode cX12_modulus 5 = .ok (.aload_n 0, 1) := by decide +kernel
theorem dX12_modulus_6 : decode cX12_modulus 6 = .ok (.iload_n 1, 1) := by decide +kernel
theorem dX12_modulus_7 : decode cX12_modulus 7 = .ok (.i2l, 1) := by decide +kernel
theorem dX12_modulus_8 : decode cX12_modulus 8 = .ok (.lconst 0, 1) := by decide +kernel
theorem dX12_modulus_9 : decode cX12_modulus 9 = .ok (.aload_n 0, 1) := by decide +kernel
theorem dX12_modulus_10 : decode cX12_modulus 10 = .ok (.getfield 19, 3) := by decide +kernel
theorem dX12_modulus_13 : decode cX12_modulus 13 = .ok (.i2l, 1) := by decide +kernel
theorem dX12_modulus_14 : decode cX12_modulus 14 = .ok (.invokestatic 206, 3) := by decide +kernel
theorem dX12_modulus_17 : decode cX12_modulus 17 = .ok (.iconst 1, 1) := by decide +kernel
theorem dX12_modulus_18 : decode cX12_modulus 18 = .ok (.invokevirtual 304, 3) := by decide +kernel
theorem dX12_modulus_21 : decode cX12_modulus 21 = .ok (.ifCond .eq 12, 3) := by decide +kernel
theorem dX12_modulus_24 : decode cX12_modulus 24 = .ok (.aload_n 0, 1) := by decide +kernel
theorem dX12_modulus_25 : decode cX12_modulus 25 = .ok (.getfield 31, 3) := by decide +kernel
theorem dX12_modulus_28 : decode cX12_modulus 28 = .ok (.iload_n 1, 1) := by decide +kernel
theorem dX12_modulus_29 : decode cX12_modulus 29 = .ok (.iaload, 1) := by decide +kernel
theorem dX12_modulus_30 : decode cX12_modulus 30 = .ok (.goto 4, 3) := by decide +kernel
theorem dX12_modulus_33 : decode cX12_modulus 33 = .ok (.iconst 0, 1) := by decide +kernel
theorem dX12_modulus_34 : decode cX12_modulus 34 = .ok (.ireturn, 1) := by decide +kernel
theorem dX12_element_0 : decode cX12_element 0 = .ok (.aload_n 0, 1) := by decide +kernel
theorem dX12_element_1 : decode cX12_element 1 = .ok (.iconst 0, 1) := by decide +kernel
theorem dX12_element_2 : decode cX12_element 2 = .ok (.putfield 1, 3) := by decide +kernel
theorem dX12_element_5 : decode cX12_element 5 = .ok (.aload_n 0, 1) := by decide +kernel
theorem dX12_element_6 : decode cX12_element 6 = .ok (.iload_n 1, 1) := by decide +kernel
theorem dX12_element_7 : decode cX12_element 7 = .ok (.i2l, 1) := by decide +kernel
theorem dX12_element_8 : decode cX12_element 8 = .ok (.lconst 0, 1) := by decide +kernel
theorem dX12_element_9 : decode cX12_element 9 = .ok (.ldc2_w 331, 3) := by decide +kernel
theorem dX12_element_12 : decode cX12_element 12 = .ok (.invokestatic 206, 3) := by decide +kernel
theorem dX12_element_15 : decode cX12_element 15 = .ok (.ifCond .eq 36, 3) := by decide +kernel
theorem dX12_element_18 : decode cX12_element 18 = .ok (.aload_n 0, 1) := by decide +kernel
theorem dX12_element_19 : decode cX12_element 19 = .ok (.iload_n 2, 1) := by decide +kernel
theorem dX12_element_20 : decode cX12_element 20 = .ok (.invokevirtual 311, 3) := by decide +kernel
theorem dX12_element_23 : decode cX12_element 23 = .ok (.ifCond .eq 28, 3) := by decide +kernel
theorem dX12_element_26 : decode cX12_element 26 = .ok (.aload_n 0, 1) := by decide +kernel
theorem dX12_element_27 : decode cX12_element 27 = .ok (.iload_n 3, 1) := by decide +kernel
theorem dX12_element_28 : decode cX12_element 28 = .ok (.invokevirtual 311, 3) := by decide +kernel
theorem dX12_element_31 : decode cX12_element 31 = .ok (.ifCond .eq 20, 3) := by decide +kernel
theorem dX12_element_34 : decode cX12_element 34 = .ok (.iload_n 1, 1) := by decide +kernel
theorem dX12_element_35 : decode cX12_element 35 = .ok (.iconst 3, 1) := by decide +kernel
theorem dX12_element_36 : decode cX12_element 36 = .ok (.if_icmp .lt 11, 3) := by decide +kernel
theorem dX12_element_39 : decode cX12_element 39 = .ok (.aload_n 0, 1) := by decide +kernel
theorem dX12_element_40 : decode cX12_element 40 = .ok (.iload_n 3, 1) := by decide +kernel
theorem dX12_element_41 : decode cX12_element 41 = .ok (.invokevirtual 290, 3) := by decide +kernel
theorem dX12_element_44 : decode cX12_element 44 = .ok (.ifCond .eq 7, 3) := by decide +kernel
theorem dX12_element_47 : decode cX12_element 47 = .ok (.iconst 1, 1) := by decide +kernel
theorem dX12_element_48 : decode cX12_element 48 = .ok (.goto 4, 3) := by decide +kernel
theorem dX12_element_51 : decode cX12_element 51 = .ok (.iconst 0, 1) := by decide +kernel
theorem dX12_element_52 : decode cX12_element 52 = .ok (.iconst 1, 1) := by decide +kernel
theorem dX12_element_53 : decode cX12_element 53 = .ok (.invokevirtual 304, 3) := by decide +kernel
theorem dX12_element_56 : decode cX12_element 56 = .ok (.ifCond .ne 5, 3) := by decide +kernel
theorem dX12_element_59 : decode cX12_element 59 = .ok (.iconst 0, 1) := by decide +kernel
theorem dX12_element_60 : decode cX12_element 60 = .ok (.ireturn, 1) := by decide +kernel
theorem dX12_element_61 : decode cX12_element 61 = .ok (.iload_n 1, 1) := by decide +kernel
theorem dX12_element_62 : decode cX12_element 62 = .ok (.tableswitch 49 0 2 #[26, 34, 42], 26) := by decide +kernel
theorem dX12_element_88 : decode cX12_element 88 = .ok (.aload_n 0, 1) := by decide +kernel
theorem dX12_element_89 : decode cX12_element 89 = .ok (.iload_n 2, 1) := by decide +kernel
theorem dX12_element_90 : decode cX12_element 90 = .ok (.iload_n 3, 1) := by decide +kernel
theorem dX12_element_91 : decode cX12_element 91 = .ok (.iconst 1, 1) := by decide +kernel
theorem dX12_element_92 : decode cX12_element 92 = .ok (.invokevirtual 175, 3) := by decide +kernel
theorem dX12_element_95 : decode cX12_element 95 = .ok (.ireturn, 1) := by decide +kernel
theorem dX12_element_96 : decode cX12_element 96 = .ok (.aload_n 0, 1) := by decide +kernel
theorem dX12_element_97 : decode cX12_element 97 = .ok (.iload_n 2, 1) := by decide +kernel
theorem dX12_element_98 : decode cX12_element 98 = .ok (.iload_n 3, 1) := by decide +kernel
theorem dX12_element_99 : decode cX12_element 99 = .ok (.iconst (-1), 1) := by decide +kernel
theorem dX12_element_100 : decode cX12_element 100 = .ok (.invokevirtual 175, 3) := by decide +kernel
theorem dX12_element_103 : decode cX12_element 103 = .ok (.ireturn, 1) := by decide +kernel
theorem dX12_element_104 : decode cX12_element 104 = .ok (.aload_n 0, 1) := by decide +kernel
theorem dX12_element_105 : decode cX12_element 105 = .ok (.iload_n 2, 1) := by decide +kernel
theorem dX12_element_106 : decode cX12_element 106 = .ok (.iload_n 3, 1) := by decide +kernel
theorem dX12_element_107 : decode cX12_element 107 = .ok (.invokevirtual 132, 3) := by decide +kernel
theorem dX12_element_110 : decode cX12_element 110 = .ok (.ireturn, 1) := by decide +kernel
theorem dX12_element_111 : decode cX12_element 111 = .ok (.aload_n 0, 1) := by decide +kernel
theorem dX12_element_112 : decode cX12_element 112 = .ok (.iload_n 2, 1) := by decide +kernel
theorem dX12_element_113 : decode cX12_element 113 = .ok (.aload_n 0, 1) := by decide +kernel
theorem dX12_element_114 : decode cX12_element 114 = .ok (.iload_n 3, 1) := by decide +kernel
theorem dX12_element_115 : decode cX12_element 115 = .ok (.invokevirtual 293, 3) := by decide +kernel
theorem dX12_element_118 : decode cX12_element 118 = .ok (.invokevirtual 132, 3) := by decide +kernel
theorem dX12_element_121 : decode cX12_element 121 = .ok (.ireturn, 1) := by decide +kernel
theorem dX12_of_0 : decode cX12_of 0 = .ok (.aload_n 0, 1) := by decide +kernel
theorem dX12_of_1 : decode cX12_of 1 = .ok (.iconst 0, 1) := by decide +kernel
theorem dX12_of_2 : decode cX12_of 2 = .ok (.putfield 1, 3) := by decide +kernel
theorem dX12_of_5 : decode cX12_of 5 = .ok (.aload_n 0, 1) := by decide +kernel
theorem dX12_of_6 : decode cX12_of 6 = .ok (.aload_n 0, 1) := by decide +kernel
theorem dX12_of_7 : decode cX12_of 7 = .ok (.iload_n 1, 1) := by decide +kernel
theorem dX12_of_8 : decode cX12_of 8 = .ok (.invokevirtual 311, 3) := by decide +kernel
theorem dX12_of_11 : decode cX12_of 11 = .ok (.ifCond .eq 19, 3) := by decide +kernel
theorem dX12_of_14 : decode cX12_of 14 = .ok (.iload_n 2, 1) := by decide +kernel
theorem dX12_of_15 : decode cX12_of 15 = .ok (.i2l, 1) := by decide +kernel
theorem dX12_of_16 : decode cX12_of 16 = .ok (.lconst 0, 1) := by decide +kernel
theorem dX12_of_17 : decode cX12_of 17 = .ok (.ldc2_w 333, 3) := by decide +kernel
theorem dX12_of_20 : decode cX12_of 20 = .ok (.invokestatic 206, 3) := by decide +kernel
theorem dX12_of_23 : decode cX12_of 23 = .ok (.ifCond .eq 7, 3) := by decide +kernel
theorem dX12_of_26 : decode cX12_of 26 = .ok (.iconst 1, 1) := by decide +kernel
theorem dX12_of_27 : decode cX12_of 27 = .ok (.goto 4, 3) := by decide +kernel
theorem dX12_of_30 : decode cX12_of 30 = .ok (.iconst 0, 1) := by decide +kernel
theorem dX12_of_31 : decode cX12_of 31 = .ok (.iconst 1, 1) := by decide +kernel
theorem dX12_of_32 : decode cX12_of 32 = .ok (.invokevirtual 304, 3) := by decide +kernel
theorem dX12_of_35 : decode cX12_of 35 = .ok (.ifCond .ne 5, 3) := by decide +kernel
theorem dX12_of_38 : decode cX12_of 38 = .ok (.iconst 0, 1) := by decide +kernel
theorem dX12_of_39 : decode cX12_of 39 = .ok (.ireturn, 1) := by decide +kernel
theorem dX12_of_40 : decode cX12_of 40 = .ok (.iload_n 2, 1) := by decide +kernel
theorem dX12_of_41 : decode cX12_of 41 = .ok (.tableswitch 75 0 5 #[39, 45, 51, 57, 63, 69], 39) := by decide +kernel
theorem dX12_of_80 : decode cX12_of 80 = .ok (.aload_n 0, 1) := by decide +kernel
theorem dX12_of_81 : decode cX12_of 81 = .ok (.iload_n 1, 1) := by decide +kernel
theorem dX12_of_82 : decode cX12_of 82 = .ok (.invokevirtual 335, 3) := by decide +kernel
theorem dX12_of_85 : decode cX12_of 85 = .ok (.ireturn, 1) := by decide +kernel
theorem dX12_of_86 : decode cX12_of 86 = .ok (.aload_n 0, 1) := by decide +kernel
theorem dX12_of_87 : decode cX12_of 87 = .ok (.iload_n 1, 1) := by decide +kernel
theorem dX12_of_88 : decode cX12_of 88 = .ok (.invokevirtual 185, 3) := by decide +kernel
theorem dX12_of_91 : decode cX12_of 91 = .ok (.ireturn, 1) := by decide +kernel
theorem dX12_of_92 : decode cX12_of 92 = .ok (.aload_n 0, 1) := by decide +kernel
theorem dX12_of_93 : decode cX12_of 93 = .ok (.iload_n 1, 1) := by decide +kernel
theorem dX12_of_94 : decode cX12_of 94 = .ok (.invokevirtual 198, 3) := by decide +kernel
theorem dX12_of_97 : decode cX12_of 97 = .ok (.ireturn, 1) := by decide +kernel
theorem dX12_of_98 : decode cX12_of 98 = .ok (.aload_n 0, 1) := by decide +kernel
theorem dX12_of_99 : decode cX12_of 99 = .ok (.iload_n 1, 1) := by decide +kernel
theorem dX12_of_100 : decode cX12_of 100 = .ok (.invokevirtual 338, 3) := by decide +kernel
theorem dX12_of_103 : decode cX12_of 103 = .ok (.ireturn, 1) := by decide +kernel
theorem dX12_of_104 : decode cX12_of 104 = .ok (.aload_n 0, 1) := by decide +kernel
theorem dX12_of_105 : decode cX12_of 105 = .ok (.iload_n 1, 1) := by decide +kernel
theorem dX12_of_106 : decode cX12_of 106 = .ok (.invokevirtual 341, 3) := by decide +kernel
theorem dX12_of_109 : decode cX12_of 109 = .ok (.ireturn, 1) := by decide +kernel
theorem dX12_of_110 : decode cX12_of 110 = .ok (.aload_n 0, 1) := by decide +kernel
theorem dX12_of_111 : decode cX12_of 111 = .ok (.iload_n 1, 1) := by decide +kernel
theorem dX12_of_112 : decode cX12_of 112 = .ok (.invokevirtual 344, 3) := by decide +kernel
theorem dX12_of_115 : decode cX12_of 115 = .ok (.ireturn, 1) := by decide +kernel
theorem dX12_of_116 : decode cX12_of 116 = .ok (.aload_n 0, 1) := by decide +kernel
theorem dX12_of_117 : decode cX12_of 117 = .ok (.iload_n 1, 1) := by decide +kernel
theorem dX12_of_118 : decode cX12_of 118 = .ok (.invokevirtual 290, 3) := by decide +kernel
theorem dX12_of_121 : decode cX12_of 121 = .ok (.ifCond .eq 12, 3) := by decide +kernel
theorem dX12_of_124 : decode cX12_of 124 = .ok (.aload_n 0, 1) := by decide +kernel
theorem dX12_of_125 : decode cX12_of 125 = .ok (.iload_n 1, 1) := by decide +kernel
theorem dX12_of_126 : decode cX12_of 126 = .ok (.iload_n 2, 1) := by decide +kernel
theorem dX12_of_127 : decode cX12_of 127 = .ok (.invokevirtual 347, 3) := by decide +kernel
theorem dX12_of_130 : decode cX12_of 130 = .ok (.goto 4, 3) := by decide +kernel
theorem dX12_of_133 : decode cX12_of 133 = .ok (.iconst (-1), 1) := by decide +kernel
theorem dX12_of_134 : decode cX12_of 134 = .ok (.ireturn, 1) := by decide +kernel
theorem dX12_ofUnit_0 : decode cX12_ofUnit 0 = .ok (.iload_n 2, 1) := by decide +kernel
theorem dX12_ofUnit_1 : decode cX12_ofUnit 1 = .ok (.bipush 6, 2) := by decide +kernel
theorem dX12_ofUnit_3 : decode cX12_ofUnit 3 = .ok (.if_icmp .ne 18, 3) := by decide +kernel
theorem dX12_ofUnit_6 : decode cX12_ofUnit 6 = .ok (.aload_n 0, 1) := by decide +kernel
theorem dX12_ofUnit_7 : decode cX12_ofUnit 7 = .ok (.iload_n 1, 1) := by decide +kernel
theorem dX12_ofUnit_8 : decode cX12_ofUnit 8 = .ok (.aload_n 0, 1) := by decide +kernel
theorem dX12_ofUnit_9 : decode cX12_ofUnit 9 = .ok (.aload_n 0, 1) := by decide +kernel
theorem dX12_ofUnit_10 : decode cX12_ofUnit 10 = .ok (.iload_n 1, 1) := by decide +kernel
theorem dX12_ofUnit_11 : decode cX12_ofUnit 11 = .ok (.invokevirtual 185, 3) := by decide +kernel
theorem dX12_ofUnit_14 : decode cX12_ofUnit 14 = .ok (.invokevirtual 293, 3) := by decide +kernel
theorem dX12_ofUnit_17 : decode cX12_ofUnit 17 = .ok (.invokevirtual 132, 3) := by decide +kernel
theorem dX12_ofUnit_20 : decode cX12_ofUnit 20 = .ok (.ireturn, 1) := by decide +kernel
theorem dX12_ofUnit_21 : decode cX12_ofUnit 21 = .ok (.iload_n 2, 1) := by decide +kernel
theorem dX12_ofUnit_22 : decode cX12_ofUnit 22 = .ok (.bipush 7, 2) := by decide +kernel
theorem dX12_ofUnit_24 : decode cX12_ofUnit 24 = .ok (.if_icmp .ne 11, 3) := by decide +kernel
theorem dX12_ofUnit_27 : decode cX12_ofUnit 27 = .ok (.aload_n 0, 1) := by decide +kernel
theorem dX12_ofUnit_28 : decode cX12_ofUnit 28 = .ok (.iload_n 1, 1) := by decide +kernel
theorem dX12_ofUnit_29 : decode cX12_ofUnit 29 = .ok (.invokevirtual 314, 3) := by decide +kernel
theorem dX12_ofUnit_32 : decode cX12_ofUnit 32 = .ok (.goto 8, 3) := by decide +kernel
theorem dX12_ofUnit_35 : decode cX12_ofUnit 35 = .ok (.aload_n 0, 1) := by decide +kernel
theorem dX12_ofUnit_36 : decode cX12_ofUnit 36 = .ok (.iload_n 1, 1) := by decide +kernel
theorem dX12_ofUnit_37 : decode cX12_ofUnit 37 = .ok (.invokevirtual 293, 3) := by decide +kernel
theorem dX12_ofUnit_40 : decode cX12_ofUnit 40 = .ok (.ireturn, 1) := by decide +kernel
theorem dX12_digit_0 : decode cX12_digit 0 = .ok (.aload_n 0, 1) := by decide +kernel
theorem dX12_digit_1 : decode cX12_digit 1 = .ok (.iconst 0, 1) := by decide +kernel
theorem dX12_digit_2 : decode cX12_digit 2 = .ok (.putfield 1, 3) := by decide +kernel
theorem dX12_digit_5 : decode cX12_digit 5 = .ok (.aload_n 0, 1) := by decide +kernel
theorem dX12_digit_6 : decode cX12_digit 6 = .ok (.aload_n 0, 1) := by decide +kernel
theorem dX12_digit_7 : decode cX12_digit 7 = .ok (.iload_n 1, 1) := by decide +kernel
theorem dX12_digit_8 : decode cX12_digit 8 = .ok (.invokevirtual 311, 3) := by decide +kernel
theorem dX12_digit_11 : decode cX12_digit 11 = .ok (.ifCond .eq 23, 3) := by decide +kernel
theorem dX12_digit_14 : decode cX12_digit 14 = .ok (.iload_n 2, 1) := by decide +kernel
theorem dX12_digit_15 : decode cX12_digit 15 = .ok (.i2l, 1) := by decide +kernel
theorem dX12_digit_16 : decode cX12_digit 16 = .ok (.lconst 0, 1) := by decide +kernel
theorem dX12_digit_17 : decode cX12_digit 17 = .ok (.aload_n 0, 1) := by decide +kernel
theorem dX12_digit_18 : decode cX12_digit 18 = .ok (.getfield 16, 3) := by decide +kernel
theorem dX12_digit_21 : decode cX12_digit 21 = .ok (.iconst 1, 1) := by decide +kernel
theorem dX12_digit_22 : decode cX12_digit 22 = .ok (.isub, 1) := by decide +kernel
theorem dX12_digit_23 : decode cX12_digit 23 = .ok (.i2l, 1) := by decide +kernel
theorem dX12_digit_24 : decode cX12_digit 24 = .ok (.invokestatic 206, 3) := by decide +kernel
theorem dX12_digit_27 : decode cX12_digit 27 = .ok (.ifCond .eq 7, 3) := by decide +kernel
theorem dX12_digit_30 : decode cX12_digit 30 = .ok (.iconst 1, 1) := by decide +kernel
theorem dX12_digit_31 : decode cX12_digit 31 = .ok (.goto 4, 3) := by decide +kernel
theorem dX12_digit_34 : decode cX12_digit 34 = .ok (.iconst 0, 1) := by decide +kernel
theorem dX12_digit_35 : decode cX12_digit 35 = .ok (.iconst 1, 1) := by decide +kernel
theorem dX12_digit_36 : decode cX12_digit 36 = .ok (.invokevirtual 304, 3) := by decide +kernel
theorem dX12_digit_39 : decode cX12_digit 39 = .ok (.ifCond .ne 5, 3) := by decide +kernel
theorem dX12_digit_42 : decode cX12_digit 42 = .ok (.iconst 0, 1) := by decide +kernel
theorem dX12_digit_43 : decode cX12_digit 43 = .ok (.ireturn, 1) := by decide +kernel
theorem dX12_digit_44 : decode cX12_digit 44 = .ok (.aload_n 0, 1) := by decide +kernel
theorem dX12_digit_45 : decode cX12_digit 45 = .ok (.iload_n 1, 1) := by decide +kernel
theorem dX12_digit_46 : decode cX12_digit 46 = .ok (.invokevirtual 191, 3) := by decide +kernel
theorem dX12_digit_49 : decode cX12_digit 49 = .ok (.aload_n 0, 1) := by decide +kernel
theorem dX12_digit_50 : decode cX12_digit 50 = .ok (.getfield 59, 3) := by decide +kernel
theorem dX12_digit_53 : decode cX12_digit 53 = .ok (.iload_n 2, 1) := by decide +kernel
theorem dX12_digit_54 : decode cX12_digit 54 = .ok (.iaload, 1) := by decide +kernel
theorem dX12_digit_55 : decode cX12_digit 55 = .ok (.ireturn, 1) := by decide +kernel
theorem dX12_whole_0 : decode cX12_whole 0 = .ok (.aload_n 0, 1) := by decide +kernel
theorem dX12_whole_1 : decode cX12_whole 1 = .ok (.iconst 0, 1) := by decide +kernel
theorem dX12_whole_2 : decode cX12_whole 2 = .ok (.putfield 1, 3) := by decide +kernel
theorem dX12_whole_5 : decode cX12_whole 5 = .ok (.iconst 1, 1) := by decide +kernel
theorem dX12_whole_6 : decode cX12_whole 6 = .ok (.istore 5, 2) := by decide +kernel
theorem dX12_whole_8 : decode cX12_whole 8 = .ok (.iconst 0, 1) := by decide +kernel
theorem dX12_whole_9 : decode cX12_whole 9 = .ok (.istore 6, 2) := by decide +kernel
theorem dX12_whole_11 : decode cX12_whole 11 = .ok (.iload 6, 2) := by decide +kernel
theorem dX12_whole_13 : decode cX12_whole 13 = .ok (.iconst 4, 1) := by decide +kernel
theorem dX12_whole_14 : decode cX12_whole 14 = .ok (.if_icmp .ge 97, 3) := by decide +kernel
theorem dX12_whole_17 : decode cX12_whole 17 = .ok (.iload 6, 2) := by decide +kernel
theorem dX12_whole_19 : decode cX12_whole 19 = .ok (.ifCond .ne 7, 3) := by decide +kernel
theorem dX12_whole_22 : decode cX12_whole 22 = .ok (.iload_n 1, 1) := by decide +kernel
theorem dX12_whole_23 : decode cX12_whole 23 = .ok (.goto 25, 3) := by decide +kernel
theorem dX12_whole_26 : decode cX12_whole 26 = .ok (.iload 6, 2) := by decide +kernel
theorem dX12_whole_28 : decode cX12_whole 28 = .ok (.iconst 1, 1) := by decide +kernel
theorem dX12_whole_29 : decode cX12_whole 29 = .ok (.if_icmp .ne 7, 3) := by decide +kernel
theorem dX12_whole_32 : decode cX12_whole 32 = .ok (.iload_n 2, 1) := by decide +kernel
theorem dX12_whole_33 : decode cX12_whole 33 = .ok (.goto 15, 3) := by decide +kernel
theorem dX12_whole_36 : decode cX12_whole 36 = .ok (.iload 6, 2) := by decide +kernel
theorem dX12_whole_38 : decode cX12_whole 38 = .ok (.iconst 2, 1) := by decide +kernel
theorem dX12_whole_39 : decode cX12_whole 39 = .ok (.if_icmp .ne 7, 3) := by decide +kernel
theorem dX12_whole_42 : decode cX12_whole 42 = .ok (.iload_n 3, 1) := by decide +kernel
theorem dX12_whole_43 : decode cX12_whole 43 = .ok (.goto 5, 3) := by decide +kernel
theorem dX12_whole_46 : decode cX12_whole 46 = .ok (.iload 4, 2) := by decide +kernel
theorem dX12_whole_48 : decode cX12_whole 48 = .ok (.istore 7, 2) := by decide +kernel
theorem dX12_whole_50 : decode cX12_whole 50 = .ok (.iload 5, 2) := by decide +kernel
theorem dX12_whole_52 : decode cX12_whole 52 = .ok (.ifCond .eq 41, 3) := by decide +kernel
theorem dX12_whole_55 : decode cX12_whole 55 = .ok (.iload 7, 2) := by decide +kernel
theorem dX12_whole_57 : decode cX12_whole 57 = .ok (.i2l, 1) := by decide +kernel
theorem dX12_whole_58 : decode cX12_whole 58 = .ok (.ldc2_w 350, 3) := by decide +kernel
theorem dX12_whole_61 : decode cX12_whole 61 = .ok (.iload 6, 2) := by decide +kernel
theorem dX12_whole_63 : decode cX12_whole 63 = .ok (.aload_n 0, 1) := by decide +kernel
theorem dX12_whole_64 : decode cX12_whole 64 = .ok (.getfield 16, 3) := by decide +kernel
theorem dX12_whole_67 : decode cX12_whole 67 = .ok (.if_icmp .ge 13, 3) := by decide +kernel
theorem dX12_whole_70 : decode cX12_whole 70 = .ok (.aload_n 0, 1) := by decide +kernel
theorem dX12_whole_71 : decode cX12_whole 71 = .ok (.getfield 25, 3) := by decide +kernel
theorem dX12_whole_74 : decode cX12_whole 74 = .ok (.iconst 2, 1) := by decide +kernel
theorem dX12_whole_75 : decode cX12_whole 75 = .ok (.isub, 1) := by decide +kernel
theorem dX12_whole_76 : decode cX12_whole 76 = .ok (.i2l, 1) := by decide +kernel
theorem dX12_whole_77 : decode cX12_whole 77 = .ok (.goto 6, 3) := by decide +kernel
theorem dX12_whole_80 : decode cX12_whole 80 = .ok (.ldc2_w 350, 3) := by decide +kernel
theorem dX12_whole_83 : decode cX12_whole 83 = .ok (.invokestatic 206, 3) := by decide +kernel
theorem dX12_whole_86 : decode cX12_whole 86 = .ok (.ifCond .eq 7, 3) := by decide +kernel
theorem dX12_whole_89 : decode cX12_whole 89 = .ok (.iconst 1, 1) := by decide +kernel
theorem dX12_whole_90 : decode cX12_whole 90 = .ok (.goto 4, 3) := by decide +kernel
theorem dX12_whole_93 : decode cX12_whole 93 = .ok (.iconst 0, 1) := by decide +kernel
theorem dX12_whole_94 : decode cX12_whole 94 = .ok (.istore 5, 2) := by decide +kernel
theorem dX12_whole_96 : decode cX12_whole 96 = .ok (.aload_n 0, 1) := by decide +kernel
theorem dX12_whole_97 : decode cX12_whole 97 = .ok (.getfield 59, 3) := by decide +kernel
theorem dX12_whole_100 : decode cX12_whole 100 = .ok (.iload 6, 2) := by decide +kernel
theorem dX12_whole_102 : decode cX12_whole 102 = .ok (.iload 7, 2) := by decide +kernel
theorem dX12_whole_104 : decode cX12_whole 104 = .ok (.iastore, 1) := by decide +kernel
theorem dX12_whole_105 : decode cX12_whole 105 = .ok (.iinc 6 1, 3) := by decide +kernel
theorem dX12_whole_108 : decode cX12_whole 108 = .ok (.goto (-97), 3) := by decide +kernel
theorem dX12_whole_111 : decode cX12_whole 111 = .ok (.aload_n 0, 1) := by decide +kernel
theorem dX12_whole_112 : decode cX12_whole 112 = .ok (.iload 5, 2) := by decide +kernel
theorem dX12_whole_114 : decode cX12_whole 114 = .ok (.iconst 1, 1) := by decide +kernel
theorem dX12_whole_115 : decode cX12_whole 115 = .ok (.invokevirtual 304, 3) := by decide +kernel
theorem dX12_whole_118 : decode cX12_whole 118 = .ok (.ifCond .eq 11, 3) := by decide +kernel
theorem dX12_whole_121 : decode cX12_whole 121 = .ok (.aload_n 0, 1) := by decide +kernel
theorem dX12_whole_122 : decode cX12_whole 122 = .ok (.iconst 1, 1) := by decide +kernel
theorem dX12_whole_123 : decode cX12_whole 123 = .ok (.invokevirtual 195, 3) := by decide +kernel
theorem dX12_whole_126 : decode cX12_whole 126 = .ok (.goto 4, 3) := by decide +kernel
theorem dX12_whole_129 : decode cX12_whole 129 = .ok (.iconst 0, 1) := by decide +kernel
theorem dX12_whole_130 : decode cX12_whole 130 = .ok (.ireturn, 1) := by decide +kernel
theorem dX12_sum_0 : decode cX12_sum 0 = .ok (.aload_n 0, 1) := by decide +kernel
theorem dX12_sum_1 : decode cX12_sum 1 = .ok (.iconst 0, 1) := by decide +kernel
theorem dX12_sum_2 : decode cX12_sum 2 = .ok (.putfield 1, 3) := by decide +kernel
theorem dX12_sum_5 : decode cX12_sum 5 = .ok (.aload_n 0, 1) := by decide +kernel
theorem dX12_sum_6 : decode cX12_sum 6 = .ok (.iload_n 1, 1) := by decide +kernel
theorem dX12_sum_7 : decode cX12_sum 7 = .ok (.i2l, 1) := by decide +kernel
theorem dX12_sum_8 : decode cX12_sum 8 = .ok (.lconst 0, 1) := by decide +kernel
theorem dX12_sum_9 : decode cX12_sum 9 = .ok (.aload_n 0, 1) := by decide +kernel
theorem dX12_sum_10 : decode cX12_sum 10 = .ok (.getfield 25, 3) := by decide +kernel
theorem dX12_sum_13 : decode cX12_sum 13 = .ok (.iconst 2, 1) := by decide +kernel
