theorem dX8_nearestGrounding_37 : decode cX8_nearestGrounding 37 = .ok (.getfield 29, 3) := by decide +kernel
theorem dX8_nearestGrounding_40 : decode cX8_nearestGrounding 40 = .ok (.getfield 65, 3) := by decide +kernel
theorem dX8_nearestGrounding_43 : decode cX8_nearestGrounding 43 = .ok (.invokevirtual 164, 3) := by decide +kernel
theorem dX8_nearestGrounding_46 : decode cX8_nearestGrounding 46 = .ok (.isub, 1) := by decide +kernel
theorem dX8_nearestGrounding_47 : decode cX8_nearestGrounding 47 = .ok (.invokestatic 324, 3) := by decide +kernel
theorem dX8_nearestGrounding_50 : decode cX8_nearestGrounding 50 = .ok (.iload 4, 2) := by decide +kernel
theorem dX8_nearestGrounding_52 : decode cX8_nearestGrounding 52 = .ok (.aload_n 0, 1) := by decide +kernel
theorem dX8_nearestGrounding_53 : decode cX8_nearestGrounding 53 = .ok (.getfield 29, 3) := by decide +kernel
theorem dX8_nearestGrounding_56 : decode cX8_nearestGrounding 56 = .ok (.getfield 65, 3) := by decide +kernel
theorem dX8_nearestGrounding_59 : decode cX8_nearestGrounding 59 = .ok (.invokevirtual 174, 3) := by decide +kernel
theorem dX8_nearestGrounding_62 : decode cX8_nearestGrounding 62 = .ok (.isub, 1) := by decide +kernel
theorem dX8_nearestGrounding_63 : decode cX8_nearestGrounding 63 = .ok (.invokestatic 324, 3) := by decide +kernel
theorem dX8_nearestGrounding_66 : decode cX8_nearestGrounding 66 = .ok (.iadd, 1) := by decide +kernel
theorem dX8_nearestGrounding_67 : decode cX8_nearestGrounding 67 = .ok (.istore 5, 2) := by decide +kernel
theorem dX8_nearestGrounding_69 : decode cX8_nearestGrounding 69 = .ok (.iload 5, 2) := by decide +kernel
theorem dX8_nearestGrounding_71 : decode cX8_nearestGrounding 71 = .ok (.bipush 41, 2) := by decide +kernel
theorem dX8_nearestGrounding_73 : decode cX8_nearestGrounding 73 = .ok (.imul, 1) := by decide +kernel
theorem dX8_nearestGrounding_74 : decode cX8_nearestGrounding 74 = .ok (.iload_n 3, 1) := by decide +kernel
theorem dX8_nearestGrounding_75 : decode cX8_nearestGrounding 75 = .ok (.iadd, 1) := by decide +kernel
theorem dX8_nearestGrounding_76 : decode cX8_nearestGrounding 76 = .ok (.bipush 7, 2) := by decide +kernel
theorem dX8_nearestGrounding_78 : decode cX8_nearestGrounding 78 = .ok (.imul, 1) := by decide +kernel
theorem dX8_nearestGrounding_79 : decode cX8_nearestGrounding 79 = .ok (.iload 4, 2) := by decide +kernel
theorem dX8_nearestGrounding_81 : decode cX8_nearestGrounding 81 = .ok (.iadd, 1) := by decide +kernel
theorem dX8_nearestGrounding_82 : decode cX8_nearestGrounding 82 = .ok (.iconst 3, 1) := by decide +kernel
theorem dX8_nearestGrounding_83 : decode cX8_nearestGrounding 83 = .ok (.iadd, 1) := by decide +kernel
theorem dX8_nearestGrounding_84 : decode cX8_nearestGrounding 84 = .ok (.istore 6, 2) := by decide +kernel
theorem dX8_nearestGrounding_86 : decode cX8_nearestGrounding 86 = .ok (.iload_n 2, 1) := by decide +kernel
theorem dX8_nearestGrounding_87 : decode cX8_nearestGrounding 87 = .ok (.bipush (-9), 2) := by decide +kernel
theorem dX8_nearestGrounding_89 : decode cX8_nearestGrounding 89 = .ok (.if_icmp .eq 9, 3) := by decide +kernel
theorem dX8_nearestGrounding_92 : decode cX8_nearestGrounding 92 = .ok (.iload 6, 2) := by decide +kernel
theorem dX8_nearestGrounding_94 : decode cX8_nearestGrounding 94 = .ok (.iload_n 2, 1) := by decide +kernel
theorem dX8_nearestGrounding_95 : decode cX8_nearestGrounding 95 = .ok (.if_icmp .ge 42, 3) := by decide +kernel
theorem dX8_nearestGrounding_98 : decode cX8_nearestGrounding 98 = .ok (.aload_n 0, 1) := by decide +kernel
theorem dX8_nearestGrounding_99 : decode cX8_nearestGrounding 99 = .ok (.getfield 61, 3) := by decide +kernel
theorem dX8_nearestGrounding_102 : decode cX8_nearestGrounding 102 = .ok (.iload_n 3, 1) := by decide +kernel
theorem dX8_nearestGrounding_103 : decode cX8_nearestGrounding 103 = .ok (.invokevirtual 170, 3) := by decide +kernel
theorem dX8_nearestGrounding_106 : decode cX8_nearestGrounding 106 = .ok (.aload_n 0, 1) := by decide +kernel
theorem dX8_nearestGrounding_107 : decode cX8_nearestGrounding 107 = .ok (.getfield 61, 3) := by decide +kernel
theorem dX8_nearestGrounding_110 : decode cX8_nearestGrounding 110 = .ok (.iload 4, 2) := by decide +kernel
theorem dX8_nearestGrounding_112 : decode cX8_nearestGrounding 112 = .ok (.invokevirtual 177, 3) := by decide +kernel
theorem dX8_nearestGrounding_115 : decode cX8_nearestGrounding 115 = .ok (.aload_n 0, 1) := by decide +kernel
theorem dX8_nearestGrounding_116 : decode cX8_nearestGrounding 116 = .ok (.getfield 19, 3) := by decide +kernel
theorem dX8_nearestGrounding_119 : decode cX8_nearestGrounding 119 = .ok (.aload_n 0, 1) := by decide +kernel
theorem dX8_nearestGrounding_120 : decode cX8_nearestGrounding 120 = .ok (.getfield 61, 3) := by decide +kernel
theorem dX8_nearestGrounding_123 : decode cX8_nearestGrounding 123 = .ok (.iload_n 1, 1) := by decide +kernel
theorem dX8_nearestGrounding_124 : decode cX8_nearestGrounding 124 = .ok (.invokevirtual 329, 3) := by decide +kernel
theorem dX8_nearestGrounding_127 : decode cX8_nearestGrounding 127 = .ok (.ifCond .eq 8, 3) := by decide +kernel
theorem dX8_nearestGrounding_130 : decode cX8_nearestGrounding 130 = .ok (.iload 6, 2) := by decide +kernel
theorem dX8_nearestGrounding_132 : decode cX8_nearestGrounding 132 = .ok (.goto 4, 3) := by decide +kernel
theorem dX8_nearestGrounding_135 : decode cX8_nearestGrounding 135 = .ok (.iload_n 2, 1) := by decide +kernel
theorem dX8_nearestGrounding_136 : decode cX8_nearestGrounding 136 = .ok (.istore_n 2, 1) := by decide +kernel
theorem dX8_nearestGrounding_137 : decode cX8_nearestGrounding 137 = .ok (.iinc 4 1, 3) := by decide +kernel
theorem dX8_nearestGrounding_140 : decode cX8_nearestGrounding 140 = .ok (.goto (-111), 3) := by decide +kernel
theorem dX8_nearestGrounding_143 : decode cX8_nearestGrounding 143 = .ok (.iinc 3 1, 3) := by decide +kernel
theorem dX8_nearestGrounding_146 : decode cX8_nearestGrounding 146 = .ok (.goto (-127), 3) := by decide +kernel
theorem dX8_nearestGrounding_149 : decode cX8_nearestGrounding 149 = .ok (.iload_n 2, 1) := by decide +kernel
theorem dX8_nearestGrounding_150 : decode cX8_nearestGrounding 150 = .ok (.ireturn, 1) := by decide +kernel
theorem dX8_greatestSharedDivisor_0 : decode cX8_greatestSharedDivisor 0 = .ok (.bipush 10, 2) := by decide +kernel
theorem dX8_greatestSharedDivisor_2 : decode cX8_greatestSharedDivisor 2 = .ok (.istore_n 1, 1) := by decide +kernel
theorem dX8_greatestSharedDivisor_3 : decode cX8_greatestSharedDivisor 3 = .ok (.iload_n 1, 1) := by decide +kernel
theorem dX8_greatestSharedDivisor_4 : decode cX8_greatestSharedDivisor 4 = .ok (.iconst 1, 1) := by decide +kernel
theorem dX8_greatestSharedDivisor_5 : decode cX8_greatestSharedDivisor 5 = .ok (.if_icmp .le 24, 3) := by decide +kernel
theorem dX8_greatestSharedDivisor_8 : decode cX8_greatestSharedDivisor 8 = .ok (.iload_n 0, 1) := by decide +kernel
theorem dX8_greatestSharedDivisor_9 : decode cX8_greatestSharedDivisor 9 = .ok (.iload_n 1, 1) := by decide +kernel
theorem dX8_greatestSharedDivisor_10 : decode cX8_greatestSharedDivisor 10 = .ok (.irem, 1) := by decide +kernel
theorem dX8_greatestSharedDivisor_11 : decode cX8_greatestSharedDivisor 11 = .ok (.ifCond .ne 12, 3) := by decide +kernel
theorem dX8_greatestSharedDivisor_14 : decode cX8_greatestSharedDivisor 14 = .ok (.bipush 10, 2) := by decide +kernel
theorem dX8_greatestSharedDivisor_16 : decode cX8_greatestSharedDivisor 16 = .ok (.iload_n 1, 1) := by decide +kernel
theorem dX8_greatestSharedDivisor_17 : decode cX8_greatestSharedDivisor 17 = .ok (.irem, 1) := by decide +kernel
theorem dX8_greatestSharedDivisor_18 : decode cX8_greatestSharedDivisor 18 = .ok (.ifCond .ne 5, 3) := by decide +kernel
theorem dX8_greatestSharedDivisor_21 : decode cX8_greatestSharedDivisor 21 = .ok (.iload_n 1, 1) := by decide +kernel
theorem dX8_greatestSharedDivisor_22 : decode cX8_greatestSharedDivisor 22 = .ok (.ireturn, 1) := by decide +kernel
theorem dX8_greatestSharedDivisor_23 : decode cX8_greatestSharedDivisor 23 = .ok (.iinc 1 (-1), 3) := by decide +kernel
theorem dX8_greatestSharedDivisor_26 : decode cX8_greatestSharedDivisor 26 = .ok (.goto (-23), 3) := by decide +kernel
theorem dX8_greatestSharedDivisor_29 : decode cX8_greatestSharedDivisor 29 = .ok (.iconst 1, 1) := by decide +kernel
theorem dX8_greatestSharedDivisor_30 : decode cX8_greatestSharedDivisor 30 = .ok (.ireturn, 1) := by decide +kernel
theorem dX8_power_0 : decode cX8_power 0 = .ok (.iconst 1, 1) := by decide +kernel
theorem dX8_power_1 : decode cX8_power 1 = .ok (.istore_n 2, 1) := by decide +kernel
theorem dX8_power_2 : decode cX8_power 2 = .ok (.iconst 0, 1) := by decide +kernel
theorem dX8_power_3 : decode cX8_power 3 = .ok (.istore_n 3, 1) := by decide +kernel
theorem dX8_power_4 : decode cX8_power 4 = .ok (.iload_n 3, 1) := by decide +kernel
theorem dX8_power_5 : decode cX8_power 5 = .ok (.iload_n 1, 1) := by decide +kernel
theorem dX8_power_6 : decode cX8_power 6 = .ok (.if_icmp .ge 13, 3) := by decide +kernel
theorem dX8_power_9 : decode cX8_power 9 = .ok (.iload_n 2, 1) := by decide +kernel
theorem dX8_power_10 : decode cX8_power 10 = .ok (.iload_n 0, 1) := by decide +kernel
theorem dX8_power_11 : decode cX8_power 11 = .ok (.imul, 1) := by decide +kernel
theorem dX8_power_12 : decode cX8_power 12 = .ok (.istore_n 2, 1) := by decide +kernel
theorem dX8_power_13 : decode cX8_power 13 = .ok (.iinc 3 1, 3) := by decide +kernel
theorem dX8_power_16 : decode cX8_power 16 = .ok (.goto (-12), 3) := by decide +kernel
theorem dX8_power_19 : decode cX8_power 19 = .ok (.iload_n 2, 1) := by decide +kernel
theorem dX8_power_20 : decode cX8_power 20 = .ok (.ireturn, 1) := by decide +kernel
theorem dX9_init_0 : decode cX9_init 0 = .ok (.aload_n 0, 1) := by decide +kernel
theorem dX9_init_1 : decode cX9_init 1 = .ok (.invokespecial 1, 3) := by decide +kernel
theorem dX9_init_4 : decode cX9_init 4 = .ok (.aload_n 0, 1) := by decide +kernel
theorem dX9_init_5 : decode cX9_init 5 = .ok (.sipush 170, 3) := by decide +kernel
theorem dX9_init_8 : decode cX9_init 8 = .ok (.newarray .int, 2) := by decide +kernel
theorem dX9_init_10 : decode cX9_init 10 = .ok (.putfield 7, 3) := by decide +kernel
theorem dX9_init_13 : decode cX9_init 13 = .ok (.aload_n 0, 1) := by decide +kernel
theorem dX9_init_14 : decode cX9_init 14 = .ok (.bipush 24, 2) := by decide +kernel
theorem dX9_init_16 : decode cX9_init 16 = .ok (.newarray .int, 2) := by decide +kernel
theorem dX9_init_18 : decode cX9_init 18 = .ok (.putfield 13, 3) := by decide +kernel
theorem dX9_init_21 : decode cX9_init 21 = .ok (.aload_n 0, 1) := by decide +kernel
theorem dX9_init_22 : decode cX9_init 22 = .ok (.bipush 24, 2) := by decide +kernel
theorem dX9_init_24 : decode cX9_init 24 = .ok (.newarray .int, 2) := by decide +kernel
theorem dX9_init_26 : decode cX9_init 26 = .ok (.putfield 16, 3) := by decide +kernel
theorem dX9_init_29 : decode cX9_init 29 = .ok (.aload_n 0, 1) := by decide +kernel
theorem dX9_init_30 : decode cX9_init 30 = .ok (.bipush 14, 2) := by decide +kernel
theorem dX9_init_32 : decode cX9_init 32 = .ok (.newarray .int, 2) := by decide +kernel
theorem dX9_init_34 : decode cX9_init 34 = .ok (.putfield 19, 3) := by decide +kernel
theorem dX9_init_37 : decode cX9_init 37 = .ok (.aload_n 0, 1) := by decide +kernel
theorem dX9_init_38 : decode cX9_init 38 = .ok (.iconst 1, 1) := by decide +kernel
theorem dX9_init_39 : decode cX9_init 39 = .ok (.newarray .int, 2) := by decide +kernel
theorem dX9_init_41 : decode cX9_init 41 = .ok (.putfield 22, 3) := by decide +kernel
theorem dX9_init_44 : decode cX9_init 44 = .ok (.aload_n 0, 1) := by decide +kernel
theorem dX9_init_45 : decode cX9_init 45 = .ok (.bipush 8, 2) := by decide +kernel
theorem dX9_init_47 : decode cX9_init 47 = .ok (.newarray .int, 2) := by decide +kernel
theorem dX9_init_49 : decode cX9_init 49 = .ok (.putfield 25, 3) := by decide +kernel
theorem dX9_init_52 : decode cX9_init 52 = .ok (.aload_n 0, 1) := by decide +kernel
theorem dX9_init_53 : decode cX9_init 53 = .ok (.bipush 8, 2) := by decide +kernel
theorem dX9_init_55 : decode cX9_init 55 = .ok (.newarray .int, 2) := by decide +kernel
theorem dX9_init_57 : decode cX9_init 57 = .ok (.putfield 28, 3) := by decide +kernel
theorem dX9_init_60 : decode cX9_init 60 = .ok (.aload_n 0, 1) := by decide +kernel
theorem dX9_init_61 : decode cX9_init 61 = .ok (.bipush 8, 2) := by decide +kernel
theorem dX9_init_63 : decode cX9_init 63 = .ok (.newarray .int, 2) := by decide +kernel
theorem dX9_init_65 : decode cX9_init 65 = .ok (.putfield 31, 3) := by decide +kernel
theorem dX9_init_68 : decode cX9_init 68 = .ok (.aload_n 0, 1) := by decide +kernel
theorem dX9_init_69 : decode cX9_init 69 = .ok (.bipush 6, 2) := by decide +kernel
theorem dX9_init_71 : decode cX9_init 71 = .ok (.newarray .int, 2) := by decide +kernel
theorem dX9_init_73 : decode cX9_init 73 = .ok (.putfield 34, 3) := by decide +kernel
theorem dX9_init_76 : decode cX9_init 76 = .ok (.aload_n 0, 1) := by decide +kernel
theorem dX9_init_77 : decode cX9_init 77 = .ok (.bipush 7, 2) := by decide +kernel
theorem dX9_init_79 : decode cX9_init 79 = .ok (.newarray .int, 2) := by decide +kernel
theorem dX9_init_81 : decode cX9_init 81 = .ok (.putfield 37, 3) := by decide +kernel
theorem dX9_init_84 : decode cX9_init 84 = .ok (.aload_n 0, 1) := by decide +kernel
theorem dX9_init_85 : decode cX9_init 85 = .ok (.bipush 7, 2) := by decide +kernel
theorem dX9_init_87 : decode cX9_init 87 = .ok (.newarray .int, 2) := by decide +kernel
theorem dX9_init_89 : decode cX9_init 89 = .ok (.putfield 40, 3) := by decide +kernel
theorem dX9_init_92 : decode cX9_init 92 = .ok (.aload_n 0, 1) := by decide +kernel
theorem dX9_init_93 : decode cX9_init 93 = .ok (.bipush 64, 2) := by decide +kernel
theorem dX9_init_95 : decode cX9_init 95 = .ok (.newarray .int, 2) := by decide +kernel
theorem dX9_init_97 : decode cX9_init 97 = .ok (.putfield 43, 3) := by decide +kernel
theorem dX9_init_100 : decode cX9_init 100 = .ok (.aload_n 0, 1) := by decide +kernel
theorem dX9_init_101 : decode cX9_init 101 = .ok (.bipush 21, 2) := by decide +kernel
theorem dX9_init_103 : decode cX9_init 103 = .ok (.newarray .int, 2) := by decide +kernel
theorem dX9_init_105 : decode cX9_init 105 = .ok (.putfield 46, 3) := by decide +kernel
theorem dX9_init_108 : decode cX9_init 108 = .ok (.aload_n 0, 1) := by decide +kernel
theorem dX9_init_109 : decode cX9_init 109 = .ok (.bipush 21, 2) := by decide +kernel
theorem dX9_init_111 : decode cX9_init 111 = .ok (.newarray .int, 2) := by decide +kernel
theorem dX9_init_113 : decode cX9_init 113 = .ok (.putfield 49, 3) := by decide +kernel
theorem dX9_init_116 : decode cX9_init 116 = .ok (.aload_n 0, 1) := by decide +kernel
theorem dX9_init_117 : decode cX9_init 117 = .ok (.sipush 210, 3) := by decide +kernel
theorem dX9_init_120 : decode cX9_init 120 = .ok (.newarray .int, 2) := by decide +kernel
theorem dX9_init_122 : decode cX9_init 122 = .ok (.putfield 52, 3) := by decide +kernel
theorem dX9_init_125 : decode cX9_init 125 = .ok (.aload_n 0, 1) := by decide +kernel
theorem dX9_init_126 : decode cX9_init 126 = .ok (.sipush 1024, 3) := by decide +kernel
theorem dX9_init_129 : decode cX9_init 129 = .ok (.newarray .int, 2) := by decide +kernel
theorem dX9_init_131 : decode cX9_init 131 = .ok (.putfield 55, 3) := by decide +kernel
theorem dX9_init_134 : decode cX9_init 134 = .ok (.aload_n 0, 1) := by decide +kernel
theorem dX9_init_135 : decode cX9_init 135 = .ok (.bipush 6, 2) := by decide +kernel
theorem dX9_init_137 : decode cX9_init 137 = .ok (.newarray .int, 2) := by decide +kernel
theorem dX9_init_139 : decode cX9_init 139 = .ok (.putfield 58, 3) := by decide +kernel
theorem dX9_init_142 : decode cX9_init 142 = .ok (.aload_n 0, 1) := by decide +kernel
theorem dX9_init_143 : decode cX9_init 143 = .ok (.bipush 6, 2) := by decide +kernel
theorem dX9_init_145 : decode cX9_init 145 = .ok (.newarray .int, 2) := by decide +kernel
theorem dX9_init_147 : decode cX9_init 147 = .ok (.putfield 61, 3) := by decide +kernel
theorem dX9_init_150 : decode cX9_init 150 = .ok (.aload_n 0, 1) := by decide +kernel
theorem dX9_init_151 : decode cX9_init 151 = .ok (.iconst 2, 1) := by decide +kernel
theorem dX9_init_152 : decode cX9_init 152 = .ok (.newarray .boolean, 2) := by decide +kernel
theorem dX9_init_154 : decode cX9_init 154 = .ok (.putfield 64, 3) := by decide +kernel
theorem dX9_init_157 : decode cX9_init 157 = .ok (.aload_n 0, 1) := by decide +kernel
theorem dX9_init_158 : decode cX9_init 158 = .ok (.bipush 42, 2) := by decide +kernel
theorem dX9_init_160 : decode cX9_init 160 = .ok (.newarray .int, 2) := by decide +kernel
theorem dX9_init_162 : decode cX9_init 162 = .ok (.putfield 68, 3) := by decide +kernel
theorem dX9_init_165 : decode cX9_init 165 = .ok (.aload_n 0, 1) := by decide +kernel
theorem dX9_init_166 : decode cX9_init 166 = .ok (.sipush 420, 3) := by decide +kernel
theorem dX9_init_169 : decode cX9_init 169 = .ok (.newarray .int, 2) := by decide +kernel
theorem dX9_init_171 : decode cX9_init 171 = .ok (.putfield 71, 3) := by decide +kernel
theorem dX9_init_174 : decode cX9_init 174 = .ok (.aload_n 0, 1) := by decide +kernel
theorem dX9_init_175 : decode cX9_init 175 = .ok (.iconst 2, 1) := by decide +kernel
theorem dX9_init_176 : decode cX9_init 176 = .ok (.newarray .int, 2) := by decide +kernel
theorem dX9_init_178 : decode cX9_init 178 = .ok (.putfield 74, 3) := by decide +kernel
theorem dX9_init_181 : decode cX9_init 181 = .ok (.aload_n 0, 1) := by decide +kernel
theorem dX9_init_182 : decode cX9_init 182 = .ok (.iconst 2, 1) := by decide +kernel
theorem dX9_init_183 : decode cX9_init 183 = .ok (.newarray .int, 2) := by decide +kernel
theorem dX9_init_185 : decode cX9_init 185 = .ok (.putfield 77, 3) := by decide +kernel
theorem dX9_init_188 : decode cX9_init 188 = .ok (.aload_n 0, 1) := by decide +kernel
theorem dX9_init_189 : decode cX9_init 189 = .ok (.getfield 46, 3) := by decide +kernel
theorem dX9_init_192 : decode cX9_init 192 = .ok (.iconst 0, 1) := by decide +kernel
theorem dX9_init_193 : decode cX9_init 193 = .ok (.bipush 20, 2) := by decide +kernel
theorem dX9_init_195 : decode cX9_init 195 = .ok (.iastore, 1) := by decide +kernel
theorem dX9_init_196 : decode cX9_init 196 = .ok (.return_, 1) := by decide +kernel
theorem dX9_in_0 : decode cX9_in 0 = .ok (.iload_n 0, 1) := by decide +kernel
theorem dX9_in_1 : decode cX9_in 1 = .ok (.iload_n 1, 1) := by decide +kernel
theorem dX9_in_2 : decode cX9_in 2 = .ok (.if_icmp .lt 12, 3) := by decide +kernel
theorem dX9_in_5 : decode cX9_in 5 = .ok (.iload_n 0, 1) := by decide +kernel
theorem dX9_in_6 : decode cX9_in 6 = .ok (.iload_n 2, 1) := by decide +kernel
theorem dX9_in_7 : decode cX9_in 7 = .ok (.if_icmp .gt 7, 3) := by decide +kernel
theorem dX9_in_10 : decode cX9_in 10 = .ok (.iconst 1, 1) := by decide +kernel
theorem dX9_in_11 : decode cX9_in 11 = .ok (.goto 4, 3) := by decide +kernel
theorem dX9_in_14 : decode cX9_in 14 = .ok (.iconst 0, 1) := by decide +kernel
theorem dX9_in_15 : decode cX9_in 15 = .ok (.ireturn, 1) := by decide +kernel
theorem dX9_has_0 : decode cX9_has 0 = .ok (.iload_n 0, 1) := by decide +kernel
theorem dX9_has_1 : decode cX9_has 1 = .ok (.iload_n 1, 1) := by decide +kernel
theorem dX9_has_2 : decode cX9_has 2 = .ok (.ishr, 1) := by decide +kernel
theorem dX9_has_3 : decode cX9_has 3 = .ok (.iconst 1, 1) := by decide +kernel
theorem dX9_has_4 : decode cX9_has 4 = .ok (.iand, 1) := by decide +kernel
theorem dX9_has_5 : decode cX9_has 5 = .ok (.iconst 1, 1) := by decide +kernel
theorem dX9_has_6 : decode cX9_has 6 = .ok (.if_icmp .ne 7, 3) := by decide +kernel
theorem dX9_has_9 : decode cX9_has 9 = .ok (.iconst 1, 1) := by decide +kernel
theorem dX9_has_10 : decode cX9_has 10 = .ok (.goto 4, 3) := by decide +kernel
theorem dX9_has_13 : decode cX9_has 13 = .ok (.iconst 0, 1) := by decide +kernel
theorem dX9_has_14 : decode cX9_has 14 = .ok (.ireturn, 1) := by decide +kernel
theorem dX9_bits_0 : decode cX9_bits 0 = .ok (.iconst 0, 1) := by decide +kernel
theorem dX9_bits_1 : decode cX9_bits 1 = .ok (.istore_n 1, 1) := by decide +kernel
theorem dX9_bits_2 : decode cX9_bits 2 = .ok (.iload_n 0, 1) := by decide +kernel
theorem dX9_bits_3 : decode cX9_bits 3 = .ok (.istore_n 2, 1) := by decide +kernel
theorem dX9_bits_4 : decode cX9_bits 4 = .ok (.iload_n 2, 1) := by decide +kernel
theorem dX9_bits_5 : decode cX9_bits 5 = .ok (.ifCond .eq 15, 3) := by decide +kernel
theorem dX9_bits_8 : decode cX9_bits 8 = .ok (.iinc 1 1, 3) := by decide +kernel
theorem dX9_bits_11 : decode cX9_bits 11 = .ok (.iload_n 2, 1) := by decide +kernel
theorem dX9_bits_12 : decode cX9_bits 12 = .ok (.iload_n 2, 1) := by decide +kernel
theorem dX9_bits_13 : decode cX9_bits 13 = .ok (.iconst 1, 1) := by decide +kernel
theorem dX9_bits_14 : decode cX9_bits 14 = .ok (.isub, 1) := by decide +kernel
theorem dX9_bits_15 : decode cX9_bits 15 = .ok (.iand, 1) := by decide +kernel
theorem dX9_bits_16 : decode cX9_bits 16 = .ok (.istore_n 2, 1) := by decide +kernel
theorem dX9_bits_17 : decode cX9_bits 17 = .ok (.goto (-13), 3) := by decide +kernel
theorem dX9_bits_20 : decode cX9_bits 20 = .ok (.iload_n 1, 1) := by decide +kernel
theorem dX9_bits_21 : decode cX9_bits 21 = .ok (.ireturn, 1) := by decide +kernel
theorem dX9_apart_0 : decode cX9_apart 0 = .ok (.iload_n 0, 1) := by decide +kernel
theorem dX9_apart_1 : decode cX9_apart 1 = .ok (.iload_n 1, 1) := by decide +kernel
theorem dX9_apart_2 : decode cX9_apart 2 = .ok (.if_icmp .ge 9, 3) := by decide +kernel
theorem dX9_apart_5 : decode cX9_apart 5 = .ok (.iload_n 1, 1) := by decide +kernel
theorem dX9_apart_6 : decode cX9_apart 6 = .ok (.iload_n 0, 1) := by decide +kernel
theorem dX9_apart_7 : decode cX9_apart 7 = .ok (.isub, 1) := by decide +kernel
theorem dX9_apart_8 : decode cX9_apart 8 = .ok (.goto 6, 3) := by decide +kernel
theorem dX9_apart_11 : decode cX9_apart 11 = .ok (.iload_n 0, 1) := by decide +kernel
theorem dX9_apart_12 : decode cX9_apart 12 = .ok (.iload_n 1, 1) := by decide +kernel
theorem dX9_apart_13 : decode cX9_apart 13 = .ok (.isub, 1) := by decide +kernel
theorem dX9_apart_14 : decode cX9_apart 14 = .ok (.ireturn, 1) := by decide +kernel
set_option maxRecDepth 20000 in
theorem ggX9_type_X9_in : GoodIn wsX9_type wsX9_in := goodIn_r _ [6] (by decide +kernel) (by decide +kernel)
set_option maxRecDepth 20000 in
theorem gX9_type_X9_in : GoodIn wsX9_type (va_wsS RX9 80 yX9_in wsX9_in) := goodIn_app (goodIn_of _ (by decide +kernel)) ggX9_type_X9_in
theorem dX9_type_0 : decode cX9_type 0 = .ok (.iload_n 1, 1) := by decide +kernel
theorem dX9_type_1 : decode cX9_type 1 = .ok (.iconst 0, 1) := by decide +kernel
theorem dX9_type_2 : decode cX9_type 2 = .ok (.sipush 255, 3) := by decide +kernel
theorem dX9_type_5 : decode cX9_type 5 = .ok (.invokestatic 80, 3) := by decide +kernel
theorem dX9_type_8 : decode cX9_type 8 = .ok (.ifCond .ne 5, 3) := by decide +kernel
theorem dX9_type_11 : decode cX9_type 11 = .ok (.iconst (-1), 1) := by decide +kernel
theorem dX9_type_12 : decode cX9_type 12 = .ok (.ireturn, 1) := by decide +kernel
theorem dX9_type_13 : decode cX9_type 13 = .ok (.aload_n 0, 1) := by decide +kernel
theorem dX9_type_14 : decode cX9_type 14 = .ok (.getfield 84, 3) := by decide +kernel
theorem dX9_type_17 : decode cX9_type 17 = .ok (.sipush 170, 3) := by decide +kernel
theorem dX9_type_20 : decode cX9_type 20 = .ok (.if_icmp .ne 6, 3) := by decide +kernel
theorem dX9_type_23 : decode cX9_type 23 = .ok (.bipush (-3), 2) := by decide +kernel
theorem dX9_type_25 : decode cX9_type 25 = .ok (.ireturn, 1) := by decide +kernel
theorem dX9_type_26 : decode cX9_type 26 = .ok (.aload_n 0, 1) := by decide +kernel
theorem dX9_type_27 : decode cX9_type 27 = .ok (.getfield 7, 3) := by decide +kernel
theorem dX9_type_30 : decode cX9_type 30 = .ok (.aload_n 0, 1) := by decide +kernel
theorem dX9_type_31 : decode cX9_type 31 = .ok (.getfield 84, 3) := by decide +kernel
theorem dX9_type_34 : decode cX9_type 34 = .ok (.iload_n 1, 1) := by decide +kernel
theorem dX9_type_35 : decode cX9_type 35 = .ok (.iastore, 1) := by decide +kernel
theorem dX9_type_36 : decode cX9_type 36 = .ok (.aload_n 0, 1) := by decide +kernel
theorem dX9_type_37 : decode cX9_type 37 = .ok (.dup, 1) := by decide +kernel
theorem dX9_type_38 : decode cX9_type 38 = .ok (.getfield 84, 3) := by decide +kernel
theorem dX9_type_41 : decode cX9_type 41 = .ok (.iconst 1, 1) := by decide +kernel
theorem dX9_type_42 : decode cX9_type 42 = .ok (.iadd, 1) := by decide +kernel
theorem dX9_type_43 : decode cX9_type 43 = .ok (.putfield 84, 3) := by decide +kernel
theorem dX9_type_46 : decode cX9_type 46 = .ok (.aload_n 0, 1) := by decide +kernel
theorem dX9_type_47 : decode cX9_type 47 = .ok (.getfield 84, 3) := by decide +kernel
theorem dX9_type_50 : decode cX9_type 50 = .ok (.ireturn, 1) := by decide +kernel
theorem dX9_clear_0 : decode cX9_clear 0 = .ok (.aload_n 0, 1) := by decide +kernel
theorem dX9_clear_1 : decode cX9_clear 1 = .ok (.getfield 84, 3) := by decide +kernel
theorem dX9_clear_4 : decode cX9_clear 4 = .ok (.istore_n 1, 1) := by decide +kernel
theorem dX9_clear_5 : decode cX9_clear 5 = .ok (.aload_n 0, 1) := by decide +kernel
theorem dX9_clear_6 : decode cX9_clear 6 = .ok (.iconst 0, 1) := by decide +kernel
theorem dX9_clear_7 : decode cX9_clear 7 = .ok (.putfield 84, 3) := by decide +kernel
theorem dX9_clear_10 : decode cX9_clear 10 = .ok (.iload_n 1, 1) := by decide +kernel
theorem dX9_clear_11 : decode cX9_clear 11 = .ok (.ireturn, 1) := by decide +kernel
theorem dX9_byteAt_0 : decode cX9_byteAt 0 = .ok (.iload_n 1, 1) := by decide +kernel
theorem dX9_byteAt_1 : decode cX9_byteAt 1 = .ok (.aload_n 0, 1) := by decide +kernel
theorem dX9_byteAt_2 : decode cX9_byteAt 2 = .ok (.getfield 84, 3) := by decide +kernel
theorem dX9_byteAt_5 : decode cX9_byteAt 5 = .ok (.if_icmp .ge 12, 3) := by decide +kernel
theorem dX9_byteAt_8 : decode cX9_byteAt 8 = .ok (.aload_n 0, 1) := by decide +kernel
theorem dX9_byteAt_9 : decode cX9_byteAt 9 = .ok (.getfield 7, 3) := by decide +kernel
theorem dX9_byteAt_12 : decode cX9_byteAt 12 = .ok (.iload_n 1, 1) := by decide +kernel
theorem dX9_byteAt_13 : decode cX9_byteAt 13 = .ok (.iaload, 1) := by decide +kernel
theorem dX9_byteAt_14 : decode cX9_byteAt 14 = .ok (.goto 4, 3) := by decide +kernel
theorem dX9_byteAt_17 : decode cX9_byteAt 17 = .ok (.iconst 0, 1) := by decide +kernel
theorem dX9_byteAt_18 : decode cX9_byteAt 18 = .ok (.ireturn, 1) := by decide +kernel
set_option maxRecDepth 20000 in
theorem ggX9_isLetter_X9_in : GoodIn wsX9_isLetter wsX9_in := goodIn_r _ [4] (by decide +kernel) (by decide +kernel)
set_option maxRecDepth 20000 in
theorem gX9_isLetter_X9_in : GoodIn wsX9_isLetter (va_wsS RX9 80 yX9_in wsX9_in) := goodIn_app (goodIn_of _ (by decide +kernel)) ggX9_isLetter_X9_in
theorem dX9_isLetter_0 : decode cX9_isLetter 0 = .ok (.iload_n 0, 1) := by decide +kernel
theorem dX9_isLetter_1 : decode cX9_isLetter 1 = .ok (.bipush 97, 2) := by decide +kernel
theorem dX9_isLetter_3 : decode cX9_isLetter 3 = .ok (.bipush 122, 2) := by decide +kernel
theorem dX9_isLetter_5 : decode cX9_isLetter 5 = .ok (.invokestatic 80, 3) := by decide +kernel
theorem dX9_isLetter_8 : decode cX9_isLetter 8 = .ok (.ireturn, 1) := by decide +kernel
set_option maxRecDepth 20000 in
theorem ggX9_isFigure_X9_in : GoodIn wsX9_isFigure wsX9_in := goodIn_r _ [4] (by decide +kernel) (by decide +kernel)
set_option maxRecDepth 20000 in
theorem gX9_isFigure_X9_in : GoodIn wsX9_isFigure (va_wsS RX9 80 yX9_in wsX9_in) := goodIn_app (goodIn_of _ (by decide +kernel)) ggX9_isFigure_X9_in
theorem dX9_isFigure_0 : decode cX9_isFigure 0 = .ok (.iload_n 0, 1) := by decide +kernel
theorem dX9_isFigure_1 : decode cX9_isFigure 1 = .ok (.bipush 48, 2) := by decide +kernel
theorem dX9_isFigure_3 : decode cX9_isFigure 3 = .ok (.bipush 57, 2) := by decide +kernel
theorem dX9_isFigure_5 : decode cX9_isFigure 5 = .ok (.invokestatic 80, 3) := by decide +kernel
theorem dX9_isFigure_8 : decode cX9_isFigure 8 = .ok (.ireturn, 1) := by decide +kernel
set_option maxRecDepth 20000 in
theorem ggX9_reads_X9_byteAt : GoodIn wsX9_reads wsX9_byteAt := goodIn_r _ [10, 3, 11, 21, 22, 23, 24, 25, 26, 27, 28, 29, 30, 31, 32, 33, 34, 35, 36, 37, 38, 39, 40, 41, 42, 43, 44, 45, 46, 47, 48, 49, 50, 51, 52, 53, 54, 55, 56, 57, 58, 59, 60, 61, 62, 63] (by decide +kernel) (by decide +kernel)
set_option maxRecDepth 20000 in
theorem gX9_reads_X9_byteAt : GoodIn wsX9_reads (wsV RX9 91 RX9 yX9_byteAt wsX9_byteAt) := goodIn_app (goodIn_of _ (by decide +kernel)) ggX9_reads_X9_byteAt
set_option maxRecDepth 20000 in
theorem ggX9_reads_X9_isLetter : GoodIn wsX9_reads wsX9_isLetter := goodIn_r _ [14, 15, 16, 9, 17] (by decide +kernel) (by decide +kernel)
set_option maxRecDepth 20000 in
theorem gX9_reads_X9_isLetter : GoodIn wsX9_reads (va_wsS RX9 101 yX9_isLetter wsX9_isLetter) := goodIn_app (goodIn_of _ (by decide +kernel)) ggX9_reads_X9_isLetter
set_option maxRecDepth 20000 in
theorem ggX9_reads_X9_isFigure : GoodIn wsX9_reads wsX9_isFigure := goodIn_r _ [20, 15, 16, 9, 17] (by decide +kernel) (by decide +kernel)
set_option maxRecDepth 20000 in
theorem gX9_reads_X9_isFigure : GoodIn wsX9_reads (va_wsS RX9 105 yX9_isFigure wsX9_isFigure) := goodIn_app (goodIn_of _ (by decide +kernel)) ggX9_reads_X9_isFigure
theorem dX9_reads_0 : decode cX9_reads 0 = .ok (.aload_n 0, 1) := by decide +kernel
theorem dX9_reads_1 : decode cX9_reads 1 = .ok (.aload_n 0, 1) := by decide +kernel
theorem dX9_reads_2 : decode cX9_reads 2 = .ok (.getfield 88, 3) := by decide +kernel
theorem dX9_reads_5 : decode cX9_reads 5 = .ok (.invokevirtual 91, 3) := by decide +kernel
theorem dX9_reads_8 : decode cX9_reads 8 = .ok (.bipush 32, 2) := by decide +kernel
theorem dX9_reads_10 : decode cX9_reads 10 = .ok (.if_icmp .ne 16, 3) := by decide +kernel
theorem dX9_reads_13 : decode cX9_reads 13 = .ok (.aload_n 0, 1) := by decide +kernel
theorem dX9_reads_14 : decode cX9_reads 14 = .ok (.dup, 1) := by decide +kernel
theorem dX9_reads_15 : decode cX9_reads 15 = .ok (.getfield 88, 3) := by decide +kernel
theorem dX9_reads_18 : decode cX9_reads 18 = .ok (.iconst 1, 1) := by decide +kernel
theorem dX9_reads_19 : decode cX9_reads 19 = .ok (.iadd, 1) := by decide +kernel
theorem dX9_reads_20 : decode cX9_reads 20 = .ok (.putfield 88, 3) := by decide +kernel
theorem dX9_reads_23 : decode cX9_reads 23 = .ok (.goto (-23), 3) := by decide +kernel
theorem dX9_reads_26 : decode cX9_reads 26 = .ok (.aload_n 0, 1) := by decide +kernel
theorem dX9_reads_27 : decode cX9_reads 27 = .ok (.aload_n 0, 1) := by decide +kernel
theorem dX9_reads_28 : decode cX9_reads 28 = .ok (.getfield 88, 3) := by decide +kernel
theorem dX9_reads_31 : decode cX9_reads 31 = .ok (.putfield 95, 3) := by decide +kernel
theorem dX9_reads_34 : decode cX9_reads 34 = .ok (.aload_n 0, 1) := by decide +kernel
theorem dX9_reads_35 : decode cX9_reads 35 = .ok (.aload_n 0, 1) := by decide +kernel
theorem dX9_reads_36 : decode cX9_reads 36 = .ok (.getfield 88, 3) := by decide +kernel
theorem dX9_reads_39 : decode cX9_reads 39 = .ok (.invokevirtual 91, 3) := by decide +kernel
theorem dX9_reads_42 : decode cX9_reads 42 = .ok (.istore_n 1, 1) := by decide +kernel
theorem dX9_reads_43 : decode cX9_reads 43 = .ok (.aload_n 0, 1) := by decide +kernel
theorem dX9_reads_44 : decode cX9_reads 44 = .ok (.getfield 88, 3) := by decide +kernel
theorem dX9_reads_47 : decode cX9_reads 47 = .ok (.aload_n 0, 1) := by decide +kernel
theorem dX9_reads_48 : decode cX9_reads 48 = .ok (.getfield 84, 3) := by decide +kernel
theorem dX9_reads_51 : decode cX9_reads 51 = .ok (.if_icmp .ne 11, 3) := by decide +kernel
theorem dX9_reads_54 : decode cX9_reads 54 = .ok (.aload_n 0, 1) := by decide +kernel
theorem dX9_reads_55 : decode cX9_reads 55 = .ok (.iconst (-1), 1) := by decide +kernel
theorem dX9_reads_56 : decode cX9_reads 56 = .ok (.putfield 98, 3) := by decide +kernel
theorem dX9_reads_59 : decode cX9_reads 59 = .ok (.goto 206, 3) := by decide +kernel
theorem dX9_reads_62 : decode cX9_reads 62 = .ok (.iload_n 1, 1) := by decide +kernel
theorem dX9_reads_63 : decode cX9_reads 63 = .ok (.invokestatic 101, 3) := by decide +kernel
theorem dX9_reads_66 : decode cX9_reads 66 = .ok (.ifCond .eq 55, 3) := by decide +kernel
theorem dX9_reads_69 : decode cX9_reads 69 = .ok (.aload_n 0, 1) := by decide +kernel
theorem dX9_reads_70 : decode cX9_reads 70 = .ok (.aload_n 0, 1) := by decide +kernel
theorem dX9_reads_71 : decode cX9_reads 71 = .ok (.getfield 88, 3) := by decide +kernel
theorem dX9_reads_74 : decode cX9_reads 74 = .ok (.invokevirtual 91, 3) := by decide +kernel
theorem dX9_reads_77 : decode cX9_reads 77 = .ok (.invokestatic 101, 3) := by decide +kernel
theorem dX9_reads_80 : decode cX9_reads 80 = .ok (.ifCond .eq 16, 3) := by decide +kernel
theorem dX9_reads_83 : decode cX9_reads 83 = .ok (.aload_n 0, 1) := by decide +kernel
theorem dX9_reads_84 : decode cX9_reads 84 = .ok (.dup, 1) := by decide +kernel
theorem dX9_reads_85 : decode cX9_reads 85 = .ok (.getfield 88, 3) := by decide +kernel
theorem dX9_reads_88 : decode cX9_reads 88 = .ok (.iconst 1, 1) := by decide +kernel
theorem dX9_reads_89 : decode cX9_reads 89 = .ok (.iadd, 1) := by decide +kernel
theorem dX9_reads_90 : decode cX9_reads 90 = .ok (.putfield 88, 3) := by decide +kernel
theorem dX9_reads_93 : decode cX9_reads 93 = .ok (.goto (-24), 3) := by decide +kernel
theorem dX9_reads_96 : decode cX9_reads 96 = .ok (.aload_n 0, 1) := by decide +kernel
theorem dX9_reads_97 : decode cX9_reads 97 = .ok (.aload_n 0, 1) := by decide +kernel
theorem dX9_reads_98 : decode cX9_reads 98 = .ok (.getfield 88, 3) := by decide +kernel
theorem dX9_reads_101 : decode cX9_reads 101 = .ok (.aload_n 0, 1) := by decide +kernel
theorem dX9_reads_102 : decode cX9_reads 102 = .ok (.getfield 95, 3) := by decide +kernel
theorem dX9_reads_105 : decode cX9_reads 105 = .ok (.isub, 1) := by decide +kernel
theorem dX9_reads_106 : decode cX9_reads 106 = .ok (.iconst 1, 1) := by decide +kernel
theorem dX9_reads_107 : decode cX9_reads 107 = .ok (.if_icmp .ne 7, 3) := by decide +kernel
theorem dX9_reads_110 : decode cX9_reads 110 = .ok (.iload_n 1, 1) := by decide +kernel
theorem dX9_reads_111 : decode cX9_reads 111 = .ok (.goto 4, 3) := by decide +kernel
theorem dX9_reads_114 : decode cX9_reads 114 = .ok (.iconst 0, 1) := by decide +kernel
theorem dX9_reads_115 : decode cX9_reads 115 = .ok (.putfield 98, 3) := by decide +kernel
theorem dX9_reads_118 : decode cX9_reads 118 = .ok (.goto 147, 3) := by decide +kernel
theorem dX9_reads_121 : decode cX9_reads 121 = .ok (.iload_n 1, 1) := by decide +kernel
theorem dX9_reads_122 : decode cX9_reads 122 = .ok (.invokestatic 105, 3) := by decide +kernel
theorem dX9_reads_125 : decode cX9_reads 125 = .ok (.ifCond .eq 115, 3) := by decide +kernel
theorem dX9_reads_128 : decode cX9_reads 128 = .ok (.aload_n 0, 1) := by decide +kernel
theorem dX9_reads_129 : decode cX9_reads 129 = .ok (.iconst 0, 1) := by decide +kernel
theorem dX9_reads_130 : decode cX9_reads 130 = .ok (.putfield 108, 3) := by decide +kernel
theorem dX9_reads_133 : decode cX9_reads 133 = .ok (.aload_n 0, 1) := by decide +kernel
theorem dX9_reads_134 : decode cX9_reads 134 = .ok (.aload_n 0, 1) := by decide +kernel
theorem dX9_reads_135 : decode cX9_reads 135 = .ok (.getfield 88, 3) := by decide +kernel
theorem dX9_reads_138 : decode cX9_reads 138 = .ok (.invokevirtual 91, 3) := by decide +kernel
theorem dX9_reads_141 : decode cX9_reads 141 = .ok (.invokestatic 105, 3) := by decide +kernel
theorem dX9_reads_144 : decode cX9_reads 144 = .ok (.ifCond .eq 55, 3) := by decide +kernel
theorem dX9_reads_147 : decode cX9_reads 147 = .ok (.aload_n 0, 1) := by decide +kernel
theorem dX9_reads_148 : decode cX9_reads 148 = .ok (.aload_n 0, 1) := by decide +kernel
theorem dX9_reads_149 : decode cX9_reads 149 = .ok (.getfield 108, 3) := by decide +kernel
theorem dX9_reads_152 : decode cX9_reads 152 = .ok (.bipush 99, 2) := by decide +kernel
theorem dX9_reads_154 : decode cX9_reads 154 = .ok (.if_icmp .le 10, 3) := by decide +kernel
theorem dX9_reads_157 : decode cX9_reads 157 = .ok (.aload_n 0, 1) := by decide +kernel
theorem dX9_reads_158 : decode cX9_reads 158 = .ok (.getfield 108, 3) := by decide +kernel
theorem dX9_reads_161 : decode cX9_reads 161 = .ok (.goto 22, 3) := by decide +kernel
theorem dX9_reads_164 : decode cX9_reads 164 = .ok (.bipush 10, 2) := by decide +kernel
theorem dX9_reads_166 : decode cX9_reads 166 = .ok (.aload_n 0, 1) := by decide +kernel
theorem dX9_reads_167 : decode cX9_reads 167 = .ok (.getfield 108, 3) := by decide +kernel
theorem dX9_reads_170 : decode cX9_reads 170 = .ok (.imul, 1) := by decide +kernel
theorem dX9_reads_171 : decode cX9_reads 171 = .ok (.aload_n 0, 1) := by decide +kernel
theorem dX9_reads_172 : decode cX9_reads 172 = .ok (.aload_n 0, 1) := by decide +kernel
theorem dX9_reads_173 : decode cX9_reads 173 = .ok (.getfield 88, 3) := by decide +kernel
theorem dX9_reads_176 : decode cX9_reads 176 = .ok (.invokevirtual 91, 3) := by decide +kernel
theorem dX9_reads_179 : decode cX9_reads 179 = .ok (.iadd, 1) := by decide +kernel
theorem dX9_reads_180 : decode cX9_reads 180 = .ok (.bipush 48, 2) := by decide +kernel
theorem dX9_reads_182 : decode cX9_reads 182 = .ok (.isub, 1) := by decide +kernel
theorem dX9_reads_183 : decode cX9_reads 183 = .ok (.putfield 108, 3) := by decide +kernel
theorem dX9_reads_186 : decode cX9_reads 186 = .ok (.aload_n 0, 1) := by decide +kernel
theorem dX9_reads_187 : decode cX9_reads 187 = .ok (.dup, 1) := by decide +kernel
theorem dX9_reads_188 : decode cX9_reads 188 = .ok (.getfield 88, 3) := by decide +kernel
theorem dX9_reads_191 : decode cX9_reads 191 = .ok (.iconst 1, 1) := by decide +kernel
theorem dX9_reads_192 : decode cX9_reads 192 = .ok (.iadd, 1) := by decide +kernel
theorem dX9_reads_193 : decode cX9_reads 193 = .ok (.putfield 88, 3) := by decide +kernel
theorem dX9_reads_196 : decode cX9_reads 196 = .ok (.goto (-63), 3) := by decide +kernel
theorem dX9_reads_199 : decode cX9_reads 199 = .ok (.aload_n 0, 1) := by decide +kernel
theorem dX9_reads_200 : decode cX9_reads 200 = .ok (.aload_n 0, 1) := by decide +kernel
theorem dX9_reads_201 : decode cX9_reads 201 = .ok (.getfield 108, 3) := by decide +kernel
theorem dX9_reads_204 : decode cX9_reads 204 = .ok (.bipush 99, 2) := by decide +kernel
theorem dX9_reads_206 : decode cX9_reads 206 = .ok (.if_icmp .gt 22, 3) := by decide +kernel
theorem dX9_reads_209 : decode cX9_reads 209 = .ok (.iload_n 1, 1) := by decide +kernel
theorem dX9_reads_210 : decode cX9_reads 210 = .ok (.bipush 48, 2) := by decide +kernel
theorem dX9_reads_212 : decode cX9_reads 212 = .ok (.if_icmp .ne 20, 3) := by decide +kernel
theorem dX9_reads_215 : decode cX9_reads 215 = .ok (.aload_n 0, 1) := by decide +kernel
theorem dX9_reads_216 : decode cX9_reads 216 = .ok (.getfield 88, 3) := by decide +kernel
theorem dX9_reads_219 : decode cX9_reads 219 = .ok (.aload_n 0, 1) := by decide +kernel
theorem dX9_reads_220 : decode cX9_reads 220 = .ok (.getfield 95, 3) := by decide +kernel
theorem dX9_reads_223 : decode cX9_reads 223 = .ok (.isub, 1) := by decide +kernel
theorem dX9_reads_224 : decode cX9_reads 224 = .ok (.iconst 1, 1) := by decide +kernel
theorem dX9_reads_225 : decode cX9_reads 225 = .ok (.if_icmp .le 7, 3) := by decide +kernel
theorem dX9_reads_228 : decode cX9_reads 228 = .ok (.iconst 0, 1) := by decide +kernel
theorem dX9_reads_229 : decode cX9_reads 229 = .ok (.goto 5, 3) := by decide +kernel
theorem dX9_reads_232 : decode cX9_reads 232 = .ok (.bipush 48, 2) := by decide +kernel
theorem dX9_reads_234 : decode cX9_reads 234 = .ok (.putfield 98, 3) := by decide +kernel
theorem dX9_reads_237 : decode cX9_reads 237 = .ok (.goto 28, 3) := by decide +kernel
theorem dX9_reads_240 : decode cX9_reads 240 = .ok (.aload_n 0, 1) := by decide +kernel
theorem dX9_reads_241 : decode cX9_reads 241 = .ok (.dup, 1) := by decide +kernel
theorem dX9_reads_242 : decode cX9_reads 242 = .ok (.getfield 88, 3) := by decide +kernel
theorem dX9_reads_245 : decode cX9_reads 245 = .ok (.iconst 1, 1) := by decide +kernel
theorem dX9_reads_246 : decode cX9_reads 246 = .ok (.iadd, 1) := by decide +kernel
theorem dX9_reads_247 : decode cX9_reads 247 = .ok (.putfield 88, 3) := by decide +kernel
theorem dX9_reads_250 : decode cX9_reads 250 = .ok (.aload_n 0, 1) := by decide +kernel
theorem dX9_reads_251 : decode cX9_reads 251 = .ok (.iload_n 1, 1) := by decide +kernel
theorem dX9_reads_252 : decode cX9_reads 252 = .ok (.bipush 59, 2) := by decide +kernel
theorem dX9_reads_254 : decode cX9_reads 254 = .ok (.if_icmp .ne 7, 3) := by decide +kernel
theorem dX9_reads_257 : decode cX9_reads 257 = .ok (.iload_n 1, 1) := by decide +kernel
theorem dX9_reads_258 : decode cX9_reads 258 = .ok (.goto 4, 3) := by decide +kernel
theorem dX9_reads_261 : decode cX9_reads 261 = .ok (.iconst 0, 1) := by decide +kernel
theorem dX9_reads_262 : decode cX9_reads 262 = .ok (.putfield 98, 3) := by decide +kernel
theorem dX9_reads_265 : decode cX9_reads 265 = .ok (.return_, 1) := by decide +kernel
set_option maxRecDepth 20000 in
theorem ggX9_told_X9_reads : GoodIn wsX9_told wsX9_reads := goodIn_r _ [7, 8, 9, 10, 1, 2, 11, 12, 13, 6, 14, 15, 16, 17, 18, 19, 20, 21, 22, 23, 24, 25, 26, 27, 28, 29, 30, 31, 32, 33, 34, 35, 36, 37, 38, 39, 40, 41, 42, 43, 44, 45, 46, 47, 48, 49, 50, 51, 52, 53, 54, 55, 56, 57, 58, 59, 60, 61, 62, 63, 64, 65, 66, 67] (by decide +kernel) (by decide +kernel)
set_option maxRecDepth 20000 in
theorem gX9_told_X9_reads : GoodIn wsX9_told (wsV RX9 111 RX9 yX9_reads wsX9_reads) := goodIn_app (goodIn_of _ (by decide +kernel)) ggX9_told_X9_reads
set_option maxRecDepth 20000 in
theorem ggX9_told_X9_in : GoodIn wsX9_told wsX9_in := goodIn_r _ [21] (by decide +kernel) (by decide +kernel)
set_option maxRecDepth 20000 in
theorem gX9_told_X9_in : GoodIn wsX9_told (va_wsS RX9 80 yX9_in wsX9_in) := goodIn_app (goodIn_of _ (by decide +kernel)) ggX9_told_X9_in
theorem dX9_told_0 : decode cX9_told 0 = .ok (.aload_n 0, 1) := by decide +kernel
theorem dX9_told_1 : decode cX9_told 1 = .ok (.invokevirtual 111, 3) := by decide +kernel
theorem dX9_told_4 : decode cX9_told 4 = .ok (.aload_n 0, 1) := by decide +kernel
theorem dX9_told_5 : decode cX9_told 5 = .ok (.getfield 98, 3) := by decide +kernel
theorem dX9_told_8 : decode cX9_told 8 = .ok (.bipush 48, 2) := by decide +kernel
theorem dX9_told_10 : decode cX9_told 10 = .ok (.if_icmp .ne 16, 3) := by decide +kernel
theorem dX9_told_13 : decode cX9_told 13 = .ok (.aload_n 0, 1) := by decide +kernel
theorem dX9_told_14 : decode cX9_told 14 = .ok (.getfield 108, 3) := by decide +kernel
theorem dX9_told_17 : decode cX9_told 17 = .ok (.iload_n 3, 1) := by decide +kernel
theorem dX9_told_18 : decode cX9_told 18 = .ok (.iload 4, 2) := by decide +kernel
theorem dX9_told_20 : decode cX9_told 20 = .ok (.invokestatic 80, 3) := by decide +kernel
theorem dX9_told_23 : decode cX9_told 23 = .ok (.ifCond .ne 5, 3) := by decide +kernel
theorem dX9_told_26 : decode cX9_told 26 = .ok (.iconst 0, 1) := by decide +kernel
theorem dX9_told_27 : decode cX9_told 27 = .ok (.ireturn, 1) := by decide +kernel
theorem dX9_told_28 : decode cX9_told 28 = .ok (.aload_n 1, 1) := by decide +kernel
theorem dX9_told_29 : decode cX9_told 29 = .ok (.iload_n 2, 1) := by decide +kernel
theorem dX9_told_30 : decode cX9_told 30 = .ok (.aload_n 0, 1) := by decide +kernel
theorem dX9_told_31 : decode cX9_told 31 = .ok (.getfield 108, 3) := by decide +kernel
theorem dX9_told_34 : decode cX9_told 34 = .ok (.iastore, 1) := by decide +kernel
theorem dX9_told_35 : decode cX9_told 35 = .ok (.iconst 1, 1) := by decide +kernel
theorem dX9_told_36 : decode cX9_told 36 = .ok (.ireturn, 1) := by decide +kernel
set_option maxRecDepth 20000 in
theorem ggX9_ends_X9_reads : GoodIn wsX9_ends wsX9_reads := goodIn_r _ [6, 7, 8, 9, 1, 10, 11, 12, 13, 5, 14, 15, 16, 17, 18, 19, 20, 21, 22, 23, 24, 25, 26, 27, 28, 29, 30, 31, 32, 33, 34, 35, 36, 37, 38, 39, 40, 41, 42, 43, 44, 45, 46, 47, 48, 49, 50, 51, 52, 53, 54, 55, 56, 57, 58, 59, 60, 61, 62, 63, 64, 65, 66, 67] (by decide +kernel) (by decide +kernel)
set_option maxRecDepth 20000 in
theorem gX9_ends_X9_reads : GoodIn wsX9_ends (wsV RX9 111 RX9 yX9_reads wsX9_reads) := goodIn_app (goodIn_of _ (by decide +kernel)) ggX9_ends_X9_reads
theorem dX9_ends_0 : decode cX9_ends 0 = .ok (.aload_n 0, 1) := by decide +kernel
theorem dX9_ends_1 : decode cX9_ends 1 = .ok (.invokevirtual 111, 3) := by decide +kernel
theorem dX9_ends_4 : decode cX9_ends 4 = .ok (.aload_n 0, 1) := by decide +kernel
theorem dX9_ends_5 : decode cX9_ends 5 = .ok (.getfield 98, 3) := by decide +kernel
theorem dX9_ends_8 : decode cX9_ends 8 = .ok (.bipush 59, 2) := by decide +kernel
theorem dX9_ends_10 : decode cX9_ends 10 = .ok (.if_icmp .ne 7, 3) := by decide +kernel
theorem dX9_ends_13 : decode cX9_ends 13 = .ok (.iconst 1, 1) := by decide +kernel
theorem dX9_ends_14 : decode cX9_ends 14 = .ok (.goto 4, 3) := by decide +kernel
theorem dX9_ends_17 : decode cX9_ends 17 = .ok (.iconst 0, 1) := by decide +kernel
theorem dX9_ends_18 : decode cX9_ends 18 = .ok (.ireturn, 1) := by decide +kernel
set_option maxRecDepth 20000 in
theorem ggX9_readsLimb_X9_told : GoodIn wsX9_readsLimb wsX9_told := goodIn_r _ [7, 8, 9, 10, 11, 12, 6, 13, 14, 15, 16, 17, 18, 19, 20, 21, 22, 23, 24, 25, 26, 27, 28, 29, 30, 35, 36, 37, 38, 39, 40, 41, 42, 43, 44, 45, 46, 47, 48, 49, 50, 51, 52, 53, 54, 55, 56, 57, 58, 59, 60, 61, 62, 63, 64, 65, 66, 67, 68, 69, 70, 71, 72, 73, 74, 75, 76, 77] (by decide +kernel) (by decide +kernel)
set_option maxRecDepth 20000 in
theorem gX9_readsLimb_X9_told : GoodIn wsX9_readsLimb (wsV RX9 117 RX9 yX9_told wsX9_told) := goodIn_app (goodIn_of _ (by decide +kernel)) ggX9_readsLimb_X9_told
set_option maxRecDepth 20000 in
theorem ggX9_readsLimb_X9_ends : GoodIn wsX9_readsLimb wsX9_ends := goodIn_r _ [34, 8, 10, 11, 12, 6, 13, 14, 15, 16, 9, 17, 18, 19, 20, 21, 22, 23, 24, 25, 26, 27, 28, 29, 30, 35, 36, 37, 38, 39, 40, 41, 42, 43, 44, 45, 46, 47, 48, 49, 50, 51, 52, 53, 54, 55, 56, 57, 58, 59, 60, 61, 62, 63, 64, 65, 66, 67, 68, 69, 70, 71, 72, 73, 74, 75, 76, 77] (by decide +kernel) (by decide +kernel)
set_option maxRecDepth 20000 in
theorem gX9_readsLimb_X9_ends : GoodIn wsX9_readsLimb (wsV RX9 121 RX9 yX9_ends wsX9_ends) := goodIn_app (goodIn_of _ (by decide +kernel)) ggX9_readsLimb_X9_ends
theorem dX9_readsLimb_0 : decode cX9_readsLimb 0 = .ok (.aload_n 0, 1) := by decide +kernel
theorem dX9_readsLimb_1 : decode cX9_readsLimb 1 = .ok (.getfield 114, 3) := by decide +kernel
theorem dX9_readsLimb_4 : decode cX9_readsLimb 4 = .ok (.bipush 8, 2) := by decide +kernel
theorem dX9_readsLimb_6 : decode cX9_readsLimb 6 = .ok (.if_icmp .ne 5, 3) := by decide +kernel
theorem dX9_readsLimb_9 : decode cX9_readsLimb 9 = .ok (.iconst 0, 1) := by decide +kernel
theorem dX9_readsLimb_10 : decode cX9_readsLimb 10 = .ok (.ireturn, 1) := by decide +kernel
theorem dX9_readsLimb_11 : decode cX9_readsLimb 11 = .ok (.iconst 3, 1) := by decide +kernel
theorem dX9_readsLimb_12 : decode cX9_readsLimb 12 = .ok (.aload_n 0, 1) := by decide +kernel
theorem dX9_readsLimb_13 : decode cX9_readsLimb 13 = .ok (.getfield 114, 3) := by decide +kernel
theorem dX9_readsLimb_16 : decode cX9_readsLimb 16 = .ok (.imul, 1) := by decide +kernel
theorem dX9_readsLimb_17 : decode cX9_readsLimb 17 = .ok (.istore_n 1, 1) := by decide +kernel
theorem dX9_readsLimb_18 : decode cX9_readsLimb 18 = .ok (.aload_n 0, 1) := by decide +kernel
theorem dX9_readsLimb_19 : decode cX9_readsLimb 19 = .ok (.getfield 114, 3) := by decide +kernel
theorem dX9_readsLimb_22 : decode cX9_readsLimb 22 = .ok (.ifCond .ne 7, 3) := by decide +kernel
theorem dX9_readsLimb_25 : decode cX9_readsLimb 25 = .ok (.iconst 1, 1) := by decide +kernel
theorem dX9_readsLimb_26 : decode cX9_readsLimb 26 = .ok (.goto 4, 3) := by decide +kernel
theorem dX9_readsLimb_29 : decode cX9_readsLimb 29 = .ok (.iconst 0, 1) := by decide +kernel
theorem dX9_readsLimb_30 : decode cX9_readsLimb 30 = .ok (.istore_n 2, 1) := by decide +kernel
theorem dX9_readsLimb_31 : decode cX9_readsLimb 31 = .ok (.aload_n 0, 1) := by decide +kernel
theorem dX9_readsLimb_32 : decode cX9_readsLimb 32 = .ok (.aload_n 0, 1) := by decide +kernel
theorem dX9_readsLimb_33 : decode cX9_readsLimb 33 = .ok (.getfield 13, 3) := by decide +kernel
theorem dX9_readsLimb_36 : decode cX9_readsLimb 36 = .ok (.iload_n 1, 1) := by decide +kernel
theorem dX9_readsLimb_37 : decode cX9_readsLimb 37 = .ok (.iconst 0, 1) := by decide +kernel
theorem dX9_readsLimb_38 : decode cX9_readsLimb 38 = .ok (.iload_n 2, 1) := by decide +kernel
theorem dX9_readsLimb_39 : decode cX9_readsLimb 39 = .ok (.ifCond .eq 7, 3) := by decide +kernel
theorem dX9_readsLimb_42 : decode cX9_readsLimb 42 = .ok (.iconst 0, 1) := by decide +kernel
theorem dX9_readsLimb_43 : decode cX9_readsLimb 43 = .ok (.goto 9, 3) := by decide +kernel
theorem dX9_readsLimb_46 : decode cX9_readsLimb 46 = .ok (.aload_n 0, 1) := by decide +kernel
theorem dX9_readsLimb_47 : decode cX9_readsLimb 47 = .ok (.getfield 114, 3) := by decide +kernel
theorem dX9_readsLimb_50 : decode cX9_readsLimb 50 = .ok (.iconst 1, 1) := by decide +kernel
theorem dX9_readsLimb_51 : decode cX9_readsLimb 51 = .ok (.isub, 1) := by decide +kernel
theorem dX9_readsLimb_52 : decode cX9_readsLimb 52 = .ok (.invokevirtual 117, 3) := by decide +kernel
theorem dX9_readsLimb_55 : decode cX9_readsLimb 55 = .ok (.ifCond .eq 53, 3) := by decide +kernel
theorem dX9_readsLimb_58 : decode cX9_readsLimb 58 = .ok (.aload_n 0, 1) := by decide +kernel
theorem dX9_readsLimb_59 : decode cX9_readsLimb 59 = .ok (.aload_n 0, 1) := by decide +kernel
theorem dX9_readsLimb_60 : decode cX9_readsLimb 60 = .ok (.getfield 13, 3) := by decide +kernel
theorem dX9_readsLimb_63 : decode cX9_readsLimb 63 = .ok (.iload_n 1, 1) := by decide +kernel
theorem dX9_readsLimb_64 : decode cX9_readsLimb 64 = .ok (.iconst 1, 1) := by decide +kernel
theorem dX9_readsLimb_65 : decode cX9_readsLimb 65 = .ok (.iadd, 1) := by decide +kernel
theorem dX9_readsLimb_66 : decode cX9_readsLimb 66 = .ok (.iload_n 2, 1) := by decide +kernel
theorem dX9_readsLimb_67 : decode cX9_readsLimb 67 = .ok (.ifCond .eq 7, 3) := by decide +kernel
theorem dX9_readsLimb_70 : decode cX9_readsLimb 70 = .ok (.iconst 0, 1) := by decide +kernel
theorem dX9_readsLimb_71 : decode cX9_readsLimb 71 = .ok (.goto 4, 3) := by decide +kernel
theorem dX9_readsLimb_74 : decode cX9_readsLimb 74 = .ok (.iconst 1, 1) := by decide +kernel
theorem dX9_readsLimb_75 : decode cX9_readsLimb 75 = .ok (.iload_n 2, 1) := by decide +kernel
theorem dX9_readsLimb_76 : decode cX9_readsLimb 76 = .ok (.ifCond .eq 7, 3) := by decide +kernel
theorem dX9_readsLimb_79 : decode cX9_readsLimb 79 = .ok (.iconst 0, 1) := by decide +kernel
theorem dX9_readsLimb_80 : decode cX9_readsLimb 80 = .ok (.goto 5, 3) := by decide +kernel
theorem dX9_readsLimb_83 : decode cX9_readsLimb 83 = .ok (.bipush 9, 2) := by decide +kernel
theorem dX9_readsLimb_85 : decode cX9_readsLimb 85 = .ok (.invokevirtual 117, 3) := by decide +kernel
theorem dX9_readsLimb_88 : decode cX9_readsLimb 88 = .ok (.ifCond .eq 20, 3) := by decide +kernel
theorem dX9_readsLimb_91 : decode cX9_readsLimb 91 = .ok (.aload_n 0, 1) := by decide +kernel
theorem dX9_readsLimb_92 : decode cX9_readsLimb 92 = .ok (.aload_n 0, 1) := by decide +kernel
theorem dX9_readsLimb_93 : decode cX9_readsLimb 93 = .ok (.getfield 13, 3) := by decide +kernel
theorem dX9_readsLimb_96 : decode cX9_readsLimb 96 = .ok (.iload_n 1, 1) := by decide +kernel
theorem dX9_readsLimb_97 : decode cX9_readsLimb 97 = .ok (.iconst 2, 1) := by decide +kernel
theorem dX9_readsLimb_98 : decode cX9_readsLimb 98 = .ok (.iadd, 1) := by decide +kernel
theorem dX9_readsLimb_99 : decode cX9_readsLimb 99 = .ok (.iconst 1, 1) := by decide +kernel
theorem dX9_readsLimb_100 : decode cX9_readsLimb 100 = .ok (.bipush 9, 2) := by decide +kernel
theorem dX9_readsLimb_102 : decode cX9_readsLimb 102 = .ok (.invokevirtual 117, 3) := by decide +kernel
theorem dX9_readsLimb_105 : decode cX9_readsLimb 105 = .ok (.ifCond .ne 5, 3) := by decide +kernel
theorem dX9_readsLimb_108 : decode cX9_readsLimb 108 = .ok (.iconst 0, 1) := by decide +kernel
theorem dX9_readsLimb_109 : decode cX9_readsLimb 109 = .ok (.ireturn, 1) := by decide +kernel
theorem dX9_readsLimb_110 : decode cX9_readsLimb 110 = .ok (.aload_n 0, 1) := by decide +kernel
theorem dX9_readsLimb_111 : decode cX9_readsLimb 111 = .ok (.dup, 1) := by decide +kernel
theorem dX9_readsLimb_112 : decode cX9_readsLimb 112 = .ok (.getfield 114, 3) := by decide +kernel
theorem dX9_readsLimb_115 : decode cX9_readsLimb 115 = .ok (.iconst 1, 1) := by decide +kernel
theorem dX9_readsLimb_116 : decode cX9_readsLimb 116 = .ok (.iadd, 1) := by decide +kernel
theorem dX9_readsLimb_117 : decode cX9_readsLimb 117 = .ok (.putfield 114, 3) := by decide +kernel
theorem dX9_readsLimb_120 : decode cX9_readsLimb 120 = .ok (.aload_n 0, 1) := by decide +kernel
theorem dX9_readsLimb_121 : decode cX9_readsLimb 121 = .ok (.invokevirtual 121, 3) := by decide +kernel
theorem dX9_readsLimb_124 : decode cX9_readsLimb 124 = .ok (.ireturn, 1) := by decide +kernel
set_option maxRecDepth 20000 in
theorem ggX9_readsString_X9_told : GoodIn wsX9_readsString wsX9_told := goodIn_r _ [8, 9, 10, 11, 12, 13, 7, 14, 15, 16, 17, 18, 19, 20, 21, 22, 23, 24, 25, 26, 27, 28, 29, 30, 31, 36, 37, 38, 39, 40, 41, 42, 43, 44, 45, 46, 47, 48, 49, 50, 51, 52, 53, 54, 55, 56, 57, 58, 59, 60, 61, 62, 63, 64, 65, 66, 67, 68, 69, 70, 71, 72, 73, 74, 75, 76, 77, 78] (by decide +kernel) (by decide +kernel)
set_option maxRecDepth 20000 in
theorem gX9_readsString_X9_told : GoodIn wsX9_readsString (wsV RX9 117 RX9 yX9_told wsX9_told) := goodIn_app (goodIn_of _ (by decide +kernel)) ggX9_readsString_X9_told
set_option maxRecDepth 20000 in
theorem ggX9_readsString_X9_ends : GoodIn wsX9_readsString wsX9_ends := goodIn_r _ [35, 9, 11, 12, 13, 7, 14, 15, 16, 17, 10, 18, 19, 20, 21, 22, 23, 24, 25, 26, 27, 28, 29, 30, 31, 36, 37, 38, 39, 40, 41, 42, 43, 44, 45, 46, 47, 48, 49, 50, 51, 52, 53, 54, 55, 56, 57, 58, 59, 60, 61, 62, 63, 64, 65, 66, 67, 68, 69, 70, 71, 72, 73, 74, 75, 76, 77, 78] (by decide +kernel) (by decide +kernel)
set_option maxRecDepth 20000 in
theorem gX9_readsString_X9_ends : GoodIn wsX9_readsString (wsV RX9 121 RX9 yX9_ends wsX9_ends) := goodIn_app (goodIn_of _ (by decide +kernel)) ggX9_readsString_X9_ends
theorem dX9_readsString_0 : decode cX9_readsString 0 = .ok (.aload_n 0, 1) := by decide +kernel
theorem dX9_readsString_1 : decode cX9_readsString 1 = .ok (.getfield 125, 3) := by decide +kernel
theorem dX9_readsString_4 : decode cX9_readsString 4 = .ok (.bipush 6, 2) := by decide +kernel
theorem dX9_readsString_6 : decode cX9_readsString 6 = .ok (.if_icmp .ne 5, 3) := by decide +kernel
theorem dX9_readsString_9 : decode cX9_readsString 9 = .ok (.iconst 0, 1) := by decide +kernel
theorem dX9_readsString_10 : decode cX9_readsString 10 = .ok (.ireturn, 1) := by decide +kernel
theorem dX9_readsString_11 : decode cX9_readsString 11 = .ok (.iconst 4, 1) := by decide +kernel
theorem dX9_readsString_12 : decode cX9_readsString 12 = .ok (.aload_n 0, 1) := by decide +kernel
theorem dX9_readsString_13 : decode cX9_readsString 13 = .ok (.getfield 125, 3) := by decide +kernel
theorem dX9_readsString_16 : decode cX9_readsString 16 = .ok (.imul, 1) := by decide +kernel
theorem dX9_readsString_17 : decode cX9_readsString 17 = .ok (.istore_n 1, 1) := by decide +kernel
theorem dX9_readsString_18 : decode cX9_readsString 18 = .ok (.aload_n 0, 1) := by decide +kernel
theorem dX9_readsString_19 : decode cX9_readsString 19 = .ok (.aload_n 0, 1) := by decide +kernel
theorem dX9_readsString_20 : decode cX9_readsString 20 = .ok (.getfield 16, 3) := by decide +kernel
theorem dX9_readsString_23 : decode cX9_readsString 23 = .ok (.iload_n 1, 1) := by decide +kernel
theorem dX9_readsString_24 : decode cX9_readsString 24 = .ok (.iconst 0, 1) := by decide +kernel
theorem dX9_readsString_25 : decode cX9_readsString 25 = .ok (.aload_n 0, 1) := by decide +kernel
theorem dX9_readsString_26 : decode cX9_readsString 26 = .ok (.getfield 114, 3) := by decide +kernel
theorem dX9_readsString_29 : decode cX9_readsString 29 = .ok (.iconst 1, 1) := by decide +kernel
theorem dX9_readsString_30 : decode cX9_readsString 30 = .ok (.isub, 1) := by decide +kernel
theorem dX9_readsString_31 : decode cX9_readsString 31 = .ok (.invokevirtual 117, 3) := by decide +kernel
theorem dX9_readsString_34 : decode cX9_readsString 34 = .ok (.ifCond .eq 54, 3) := by decide +kernel
theorem dX9_readsString_37 : decode cX9_readsString 37 = .ok (.aload_n 0, 1) := by decide +kernel
theorem dX9_readsString_38 : decode cX9_readsString 38 = .ok (.aload_n 0, 1) := by decide +kernel
theorem dX9_readsString_39 : decode cX9_readsString 39 = .ok (.getfield 16, 3) := by decide +kernel
theorem dX9_readsString_42 : decode cX9_readsString 42 = .ok (.iload_n 1, 1) := by decide +kernel
theorem dX9_readsString_43 : decode cX9_readsString 43 = .ok (.iconst 1, 1) := by decide +kernel
theorem dX9_readsString_44 : decode cX9_readsString 44 = .ok (.iadd, 1) := by decide +kernel
theorem dX9_readsString_45 : decode cX9_readsString 45 = .ok (.iconst 0, 1) := by decide +kernel
theorem dX9_readsString_46 : decode cX9_readsString 46 = .ok (.bipush 6, 2) := by decide +kernel
theorem dX9_readsString_48 : decode cX9_readsString 48 = .ok (.invokevirtual 117, 3) := by decide +kernel
theorem dX9_readsString_51 : decode cX9_readsString 51 = .ok (.ifCond .eq 37, 3) := by decide +kernel
theorem dX9_readsString_54 : decode cX9_readsString 54 = .ok (.aload_n 0, 1) := by decide +kernel
theorem dX9_readsString_55 : decode cX9_readsString 55 = .ok (.aload_n 0, 1) := by decide +kernel
theorem dX9_readsString_56 : decode cX9_readsString 56 = .ok (.getfield 16, 3) := by decide +kernel
theorem dX9_readsString_59 : decode cX9_readsString 59 = .ok (.iload_n 1, 1) := by decide +kernel
theorem dX9_readsString_60 : decode cX9_readsString 60 = .ok (.iconst 2, 1) := by decide +kernel
theorem dX9_readsString_61 : decode cX9_readsString 61 = .ok (.iadd, 1) := by decide +kernel
theorem dX9_readsString_62 : decode cX9_readsString 62 = .ok (.iconst 0, 1) := by decide +kernel
theorem dX9_readsString_63 : decode cX9_readsString 63 = .ok (.bipush 40, 2) := by decide +kernel
theorem dX9_readsString_65 : decode cX9_readsString 65 = .ok (.invokevirtual 117, 3) := by decide +kernel
theorem dX9_readsString_68 : decode cX9_readsString 68 = .ok (.ifCond .eq 20, 3) := by decide +kernel
theorem dX9_readsString_71 : decode cX9_readsString 71 = .ok (.aload_n 0, 1) := by decide +kernel
theorem dX9_readsString_72 : decode cX9_readsString 72 = .ok (.aload_n 0, 1) := by decide +kernel
theorem dX9_readsString_73 : decode cX9_readsString 73 = .ok (.getfield 16, 3) := by decide +kernel
theorem dX9_readsString_76 : decode cX9_readsString 76 = .ok (.iload_n 1, 1) := by decide +kernel
theorem dX9_readsString_77 : decode cX9_readsString 77 = .ok (.iconst 3, 1) := by decide +kernel
theorem dX9_readsString_78 : decode cX9_readsString 78 = .ok (.iadd, 1) := by decide +kernel
theorem dX9_readsString_79 : decode cX9_readsString 79 = .ok (.iconst 1, 1) := by decide +kernel
theorem dX9_readsString_80 : decode cX9_readsString 80 = .ok (.bipush 40, 2) := by decide +kernel
theorem dX9_readsString_82 : decode cX9_readsString 82 = .ok (.invokevirtual 117, 3) := by decide +kernel
theorem dX9_readsString_85 : decode cX9_readsString 85 = .ok (.ifCond .ne 5, 3) := by decide +kernel
theorem dX9_readsString_88 : decode cX9_readsString 88 = .ok (.iconst 0, 1) := by decide +kernel
theorem dX9_readsString_89 : decode cX9_readsString 89 = .ok (.ireturn, 1) := by decide +kernel
theorem dX9_readsString_90 : decode cX9_readsString 90 = .ok (.aload_n 0, 1) := by decide +kernel
theorem dX9_readsString_91 : decode cX9_readsString 91 = .ok (.dup, 1) := by decide +kernel
theorem dX9_readsString_92 : decode cX9_readsString 92 = .ok (.getfield 125, 3) := by decide +kernel
theorem dX9_readsString_95 : decode cX9_readsString 95 = .ok (.iconst 1, 1) := by decide +kernel
theorem dX9_readsString_96 : decode cX9_readsString 96 = .ok (.iadd, 1) := by decide +kernel
theorem dX9_readsString_97 : decode cX9_readsString 97 = .ok (.putfield 125, 3) := by decide +kernel
theorem dX9_readsString_100 : decode cX9_readsString 100 = .ok (.aload_n 0, 1) := by decide +kernel
theorem dX9_readsString_101 : decode cX9_readsString 101 = .ok (.invokevirtual 121, 3) := by decide +kernel
theorem dX9_readsString_104 : decode cX9_readsString 104 = .ok (.ireturn, 1) := by decide +kernel
set_option maxRecDepth 20000 in
theorem ggX9_readsBeat_X9_told : GoodIn wsX9_readsBeat wsX9_told := goodIn_r _ [7, 8, 9, 10, 11, 12, 6, 13, 14, 15, 16, 17, 18, 19, 20, 21, 22, 23, 24, 25, 26, 27, 28, 29, 30, 35, 36, 37, 38, 39, 40, 41, 42, 43, 44, 45, 46, 47, 48, 49, 50, 51, 52, 53, 54, 55, 56, 57, 58, 59, 60, 61, 62, 63, 64, 65, 66, 67, 68, 69, 70, 71, 72, 73, 74, 75, 76, 77] (by decide +kernel) (by decide +kernel)
set_option maxRecDepth 20000 in
theorem gX9_readsBeat_X9_told : GoodIn wsX9_readsBeat (wsV RX9 117 RX9 yX9_told wsX9_told) := goodIn_app (goodIn_of _ (by decide +kernel)) ggX9_readsBeat_X9_told
set_option maxRecDepth 20000 in
theorem ggX9_readsBeat_X9_ends : GoodIn wsX9_readsBeat wsX9_ends := goodIn_r _ [34, 8, 10, 11, 12, 6, 13, 14, 15, 16, 9, 17, 18, 19, 20, 21, 22, 23, 24, 25, 26, 27, 28, 29, 30, 35, 36, 37, 38, 39, 40, 41, 42, 43, 44, 45, 46, 47, 48, 49, 50, 51, 52, 53, 54, 55, 56, 57, 58, 59, 60, 61, 62, 63, 64, 65, 66, 67, 68, 69, 70, 71, 72, 73, 74, 75, 76, 77] (by decide +kernel) (by decide +kernel)
set_option maxRecDepth 20000 in
theorem gX9_readsBeat_X9_ends : GoodIn wsX9_readsBeat (wsV RX9 121 RX9 yX9_ends wsX9_ends) := goodIn_app (goodIn_of _ (by decide +kernel)) ggX9_readsBeat_X9_ends
theorem dX9_readsBeat_0 : decode cX9_readsBeat 0 = .ok (.aload_n 0, 1) := by decide +kernel
theorem dX9_readsBeat_1 : decode cX9_readsBeat 1 = .ok (.getfield 128, 3) := by decide +kernel
theorem dX9_readsBeat_4 : decode cX9_readsBeat 4 = .ok (.bipush 7, 2) := by decide +kernel
theorem dX9_readsBeat_6 : decode cX9_readsBeat 6 = .ok (.if_icmp .eq 45, 3) := by decide +kernel
theorem dX9_readsBeat_9 : decode cX9_readsBeat 9 = .ok (.aload_n 0, 1) := by decide +kernel
theorem dX9_readsBeat_10 : decode cX9_readsBeat 10 = .ok (.aload_n 0, 1) := by decide +kernel
theorem dX9_readsBeat_11 : decode cX9_readsBeat 11 = .ok (.getfield 19, 3) := by decide +kernel
theorem dX9_readsBeat_14 : decode cX9_readsBeat 14 = .ok (.iconst 2, 1) := by decide +kernel
theorem dX9_readsBeat_15 : decode cX9_readsBeat 15 = .ok (.aload_n 0, 1) := by decide +kernel
theorem dX9_readsBeat_16 : decode cX9_readsBeat 16 = .ok (.getfield 128, 3) := by decide +kernel
theorem dX9_readsBeat_19 : decode cX9_readsBeat 19 = .ok (.imul, 1) := by decide +kernel
theorem dX9_readsBeat_20 : decode cX9_readsBeat 20 = .ok (.iconst 0, 1) := by decide +kernel
theorem dX9_readsBeat_21 : decode cX9_readsBeat 21 = .ok (.bipush 40, 2) := by decide +kernel
theorem dX9_readsBeat_23 : decode cX9_readsBeat 23 = .ok (.invokevirtual 117, 3) := by decide +kernel
theorem dX9_readsBeat_26 : decode cX9_readsBeat 26 = .ok (.ifCond .eq 25, 3) := by decide +kernel
theorem dX9_readsBeat_29 : decode cX9_readsBeat 29 = .ok (.aload_n 0, 1) := by decide +kernel
theorem dX9_readsBeat_30 : decode cX9_readsBeat 30 = .ok (.aload_n 0, 1) := by decide +kernel
theorem dX9_readsBeat_31 : decode cX9_readsBeat 31 = .ok (.getfield 19, 3) := by decide +kernel
theorem dX9_readsBeat_34 : decode cX9_readsBeat 34 = .ok (.iconst 2, 1) := by decide +kernel
theorem dX9_readsBeat_35 : decode cX9_readsBeat 35 = .ok (.aload_n 0, 1) := by decide +kernel
theorem dX9_readsBeat_36 : decode cX9_readsBeat 36 = .ok (.getfield 128, 3) := by decide +kernel
theorem dX9_readsBeat_39 : decode cX9_readsBeat 39 = .ok (.imul, 1) := by decide +kernel
theorem dX9_readsBeat_40 : decode cX9_readsBeat 40 = .ok (.iconst 1, 1) := by decide +kernel
theorem dX9_readsBeat_41 : decode cX9_readsBeat 41 = .ok (.iadd, 1) := by decide +kernel
theorem dX9_readsBeat_42 : decode cX9_readsBeat 42 = .ok (.iconst 0, 1) := by decide +kernel
theorem dX9_readsBeat_43 : decode cX9_readsBeat 43 = .ok (.bipush 6, 2) := by decide +kernel
theorem dX9_readsBeat_45 : decode cX9_readsBeat 45 = .ok (.invokevirtual 117, 3) := by decide +kernel
theorem dX9_readsBeat_48 : decode cX9_readsBeat 48 = .ok (.ifCond .ne 5, 3) := by decide +kernel
theorem dX9_readsBeat_51 : decode cX9_readsBeat 51 = .ok (.iconst 0, 1) := by decide +kernel
theorem dX9_readsBeat_52 : decode cX9_readsBeat 52 = .ok (.ireturn, 1) := by decide +kernel
theorem dX9_readsBeat_53 : decode cX9_readsBeat 53 = .ok (.aload_n 0, 1) := by decide +kernel
theorem dX9_readsBeat_54 : decode cX9_readsBeat 54 = .ok (.dup, 1) := by decide +kernel
theorem dX9_readsBeat_55 : decode cX9_readsBeat 55 = .ok (.getfield 128, 3) := by decide +kernel
theorem dX9_readsBeat_58 : decode cX9_readsBeat 58 = .ok (.iconst 1, 1) := by decide +kernel
theorem dX9_readsBeat_59 : decode cX9_readsBeat 59 = .ok (.iadd, 1) := by decide +kernel
theorem dX9_readsBeat_60 : decode cX9_readsBeat 60 = .ok (.putfield 128, 3) := by decide +kernel
theorem dX9_readsBeat_63 : decode cX9_readsBeat 63 = .ok (.aload_n 0, 1) := by decide +kernel
theorem dX9_readsBeat_64 : decode cX9_readsBeat 64 = .ok (.invokevirtual 121, 3) := by decide +kernel
theorem dX9_readsBeat_67 : decode cX9_readsBeat 67 = .ok (.ireturn, 1) := by decide +kernel
set_option maxRecDepth 20000 in
theorem ggX9_readsLift_X9_told : GoodIn wsX9_readsLift wsX9_told := goodIn_r _ [8, 9, 10, 11, 12, 13, 7, 14, 15, 16, 17, 18, 19, 20, 21, 22, 23, 24, 25, 26, 27, 28, 29, 30, 31, 36, 37, 38, 39, 40, 41, 42, 43, 44, 45, 46, 47, 48, 49, 50, 51, 52, 53, 54, 55, 56, 57, 58, 59, 60, 61, 62, 63, 64, 65, 66, 67, 68, 69, 70, 71, 72, 73, 74, 75, 76, 77, 78] (by decide +kernel) (by decide +kernel)
set_option maxRecDepth 20000 in
theorem gX9_readsLift_X9_told : GoodIn wsX9_readsLift (wsV RX9 117 RX9 yX9_told wsX9_told) := goodIn_app (goodIn_of _ (by decide +kernel)) ggX9_readsLift_X9_told
set_option maxRecDepth 20000 in
theorem ggX9_readsLift_X9_ends : GoodIn wsX9_readsLift wsX9_ends := goodIn_r _ [35, 9, 11, 12, 13, 7, 14, 15, 16, 17, 10, 18, 19, 20, 21, 22, 23, 24, 25, 26, 27, 28, 29, 30, 31, 36, 37, 38, 39, 40, 41, 42, 43, 44, 45, 46, 47, 48, 49, 50, 51, 52, 53, 54, 55, 56, 57, 58, 59, 60, 61, 62, 63, 64, 65, 66, 67, 68, 69, 70, 71, 72, 73, 74, 75, 76, 77, 78] (by decide +kernel) (by decide +kernel)
set_option maxRecDepth 20000 in
theorem gX9_readsLift_X9_ends : GoodIn wsX9_readsLift (wsV RX9 121 RX9 yX9_ends wsX9_ends) := goodIn_app (goodIn_of _ (by decide +kernel)) ggX9_readsLift_X9_ends
theorem dX9_readsLift_0 : decode cX9_readsLift 0 = .ok (.aload_n 0, 1) := by decide +kernel
theorem dX9_readsLift_1 : decode cX9_readsLift 1 = .ok (.getfield 131, 3) := by decide +kernel
theorem dX9_readsLift_4 : decode cX9_readsLift 4 = .ok (.ifCond .ne 18, 3) := by decide +kernel
theorem dX9_readsLift_7 : decode cX9_readsLift 7 = .ok (.aload_n 0, 1) := by decide +kernel
theorem dX9_readsLift_8 : decode cX9_readsLift 8 = .ok (.aload_n 0, 1) := by decide +kernel
theorem dX9_readsLift_9 : decode cX9_readsLift 9 = .ok (.getfield 22, 3) := by decide +kernel
theorem dX9_readsLift_12 : decode cX9_readsLift 12 = .ok (.iconst 0, 1) := by decide +kernel
theorem dX9_readsLift_13 : decode cX9_readsLift 13 = .ok (.iconst 0, 1) := by decide +kernel
theorem dX9_readsLift_14 : decode cX9_readsLift 14 = .ok (.bipush 40, 2) := by decide +kernel
theorem dX9_readsLift_16 : decode cX9_readsLift 16 = .ok (.invokevirtual 117, 3) := by decide +kernel
theorem dX9_readsLift_19 : decode cX9_readsLift 19 = .ok (.ifCond .ne 5, 3) := by decide +kernel
theorem dX9_readsLift_22 : decode cX9_readsLift 22 = .ok (.iconst 0, 1) := by decide +kernel
theorem dX9_readsLift_23 : decode cX9_readsLift 23 = .ok (.ireturn, 1) := by decide +kernel
theorem dX9_readsLift_24 : decode cX9_readsLift 24 = .ok (.aload_n 0, 1) := by decide +kernel
theorem dX9_readsLift_25 : decode cX9_readsLift 25 = .ok (.iconst 1, 1) := by decide +kernel
theorem dX9_readsLift_26 : decode cX9_readsLift 26 = .ok (.putfield 131, 3) := by decide +kernel
theorem dX9_readsLift_29 : decode cX9_readsLift 29 = .ok (.aload_n 0, 1) := by decide +kernel
theorem dX9_readsLift_30 : decode cX9_readsLift 30 = .ok (.aload_n 0, 1) := by decide +kernel
theorem dX9_readsLift_31 : decode cX9_readsLift 31 = .ok (.getfield 22, 3) := by decide +kernel
theorem dX9_readsLift_34 : decode cX9_readsLift 34 = .ok (.iconst 0, 1) := by decide +kernel
theorem dX9_readsLift_35 : decode cX9_readsLift 35 = .ok (.iaload, 1) := by decide +kernel
theorem dX9_readsLift_36 : decode cX9_readsLift 36 = .ok (.putfield 135, 3) := by decide +kernel
theorem dX9_readsLift_39 : decode cX9_readsLift 39 = .ok (.aload_n 0, 1) := by decide +kernel
theorem dX9_readsLift_40 : decode cX9_readsLift 40 = .ok (.invokevirtual 121, 3) := by decide +kernel
theorem dX9_readsLift_43 : decode cX9_readsLift 43 = .ok (.ireturn, 1) := by decide +kernel
set_option maxRecDepth 20000 in
theorem ggX9_readsTilt_X9_told : GoodIn wsX9_readsTilt wsX9_told := goodIn_r _ [8, 9, 10, 11, 12, 13, 7, 14, 15, 16, 17, 18, 19, 20, 21, 22, 23, 24, 25, 26, 27, 28, 29, 30, 31, 36, 37, 38, 39, 40, 41, 42, 43, 44, 45, 46, 47, 48, 49, 50, 51, 52, 53, 54, 55, 56, 57, 58, 59, 60, 61, 62, 63, 64, 65, 66, 67, 68, 69, 70, 71, 72, 73, 74, 75, 76, 77, 78] (by decide +kernel) (by decide +kernel)
set_option maxRecDepth 20000 in
theorem gX9_readsTilt_X9_told : GoodIn wsX9_readsTilt (wsV RX9 117 RX9 yX9_told wsX9_told) := goodIn_app (goodIn_of _ (by decide +kernel)) ggX9_readsTilt_X9_told
set_option maxRecDepth 20000 in
theorem ggX9_readsTilt_X9_ends : GoodIn wsX9_readsTilt wsX9_ends := goodIn_r _ [35, 9, 11, 12, 13, 7, 14, 15, 16, 17, 10, 18, 19, 20, 21, 22, 23, 24, 25, 26, 27, 28, 29, 30, 31, 36, 37, 38, 39, 40, 41, 42, 43, 44, 45, 46, 47, 48, 49, 50, 51, 52, 53, 54, 55, 56, 57, 58, 59, 60, 61, 62, 63, 64, 65, 66, 67, 68, 69, 70, 71, 72, 73, 74, 75, 76, 77, 78] (by decide +kernel) (by decide +kernel)
set_option maxRecDepth 20000 in
theorem gX9_readsTilt_X9_ends : GoodIn wsX9_readsTilt (wsV RX9 121 RX9 yX9_ends wsX9_ends) := goodIn_app (goodIn_of _ (by decide +kernel)) ggX9_readsTilt_X9_ends
theorem dX9_readsTilt_0 : decode cX9_readsTilt 0 = .ok (.aload_n 0, 1) := by decide +kernel
theorem dX9_readsTilt_1 : decode cX9_readsTilt 1 = .ok (.getfield 138, 3) := by decide +kernel
theorem dX9_readsTilt_4 : decode cX9_readsTilt 4 = .ok (.ifCond .ne 18, 3) := by decide +kernel
theorem dX9_readsTilt_7 : decode cX9_readsTilt 7 = .ok (.aload_n 0, 1) := by decide +kernel
theorem dX9_readsTilt_8 : decode cX9_readsTilt 8 = .ok (.aload_n 0, 1) := by decide +kernel
theorem dX9_readsTilt_9 : decode cX9_readsTilt 9 = .ok (.getfield 22, 3) := by decide +kernel
theorem dX9_readsTilt_12 : decode cX9_readsTilt 12 = .ok (.iconst 0, 1) := by decide +kernel
theorem dX9_readsTilt_13 : decode cX9_readsTilt 13 = .ok (.iconst 0, 1) := by decide +kernel
theorem dX9_readsTilt_14 : decode cX9_readsTilt 14 = .ok (.bipush 6, 2) := by decide +kernel
theorem dX9_readsTilt_16 : decode cX9_readsTilt 16 = .ok (.invokevirtual 117, 3) := by decide +kernel
theorem dX9_readsTilt_19 : decode cX9_readsTilt 19 = .ok (.ifCond .ne 5, 3) := by decide +kernel
theorem dX9_readsTilt_22 : decode cX9_readsTilt 22 = .ok (.iconst 0, 1) := by decide +kernel
theorem dX9_readsTilt_23 : decode cX9_readsTilt 23 = .ok (.ireturn, 1) := by decide +kernel
theorem dX9_readsTilt_24 : decode cX9_readsTilt 24 = .ok (.aload_n 0, 1) := by decide +kernel
theorem dX9_readsTilt_25 : decode cX9_readsTilt 25 = .ok (.iconst 1, 1) := by decide +kernel
theorem dX9_readsTilt_26 : decode cX9_readsTilt 26 = .ok (.putfield 138, 3) := by decide +kernel
theorem dX9_readsTilt_29 : decode cX9_readsTilt 29 = .ok (.aload_n 0, 1) := by decide +kernel
theorem dX9_readsTilt_30 : decode cX9_readsTilt 30 = .ok (.aload_n 0, 1) := by decide +kernel
theorem dX9_readsTilt_31 : decode cX9_readsTilt 31 = .ok (.getfield 22, 3) := by decide +kernel
theorem dX9_readsTilt_34 : decode cX9_readsTilt 34 = .ok (.iconst 0, 1) := by decide +kernel
theorem dX9_readsTilt_35 : decode cX9_readsTilt 35 = .ok (.iaload, 1) := by decide +kernel
theorem dX9_readsTilt_36 : decode cX9_readsTilt 36 = .ok (.iconst 3, 1) := by decide +kernel
theorem dX9_readsTilt_37 : decode cX9_readsTilt 37 = .ok (.isub, 1) := by decide +kernel
theorem dX9_readsTilt_38 : decode cX9_readsTilt 38 = .ok (.putfield 141, 3) := by decide +kernel
theorem dX9_readsTilt_41 : decode cX9_readsTilt 41 = .ok (.aload_n 0, 1) := by decide +kernel
theorem dX9_readsTilt_42 : decode cX9_readsTilt 42 = .ok (.invokevirtual 121, 3) := by decide +kernel
theorem dX9_readsTilt_45 : decode cX9_readsTilt 45 = .ok (.ireturn, 1) := by decide +kernel
set_option maxRecDepth 20000 in
theorem ggX9_readsItem_X9_readsLimb : GoodIn wsX9_readsItem wsX9_readsLimb := goodIn_r _ [6, 7, 8, 9, 10, 11, 5, 12, 1, 13, 14, 15, 16, 17, 18, 19, 20, 21, 22, 23, 24, 25, 26, 27, 28, 29, 30, 31, 32, 33, 34, 35, 36, 37, 38, 64, 65, 66, 67, 68, 69, 70, 71, 72, 73, 74, 75, 76, 77, 78, 79, 80, 81, 82, 83, 84, 85, 86, 87, 88, 89, 90, 91, 92, 93, 94, 95, 96, 97, 98, 99, 100, 101, 102, 103, 104, 105, 106] (by decide +kernel) (by decide +kernel)
set_option maxRecDepth 20000 in
theorem gX9_readsItem_X9_readsLimb : GoodIn wsX9_readsItem (wsV RX9 144 RX9 yX9_readsLimb wsX9_readsLimb) := goodIn_app (goodIn_of _ (by decide +kernel)) ggX9_readsItem_X9_readsLimb
set_option maxRecDepth 20000 in
theorem ggX9_readsItem_X9_readsString : GoodIn wsX9_readsItem wsX9_readsString := goodIn_r _ [42, 43, 44, 7, 9, 10, 11, 5, 12, 1, 13, 14, 15, 16, 17, 18, 19, 20, 21, 22, 23, 24, 25, 26, 27, 28, 29, 30, 31, 32, 33, 34, 35, 36, 37, 38, 64, 65, 66, 67, 68, 69, 70, 71, 72, 73, 74, 75, 76, 77, 78, 79, 80, 81, 82, 83, 84, 85, 86, 87, 88, 89, 90, 91, 92, 93, 94, 95, 96, 97, 98, 99, 100, 101, 102, 103, 104, 105, 106] (by decide +kernel) (by decide +kernel)
set_option maxRecDepth 20000 in
theorem gX9_readsItem_X9_readsString : GoodIn wsX9_readsItem (wsV RX9 147 RX9 yX9_readsString wsX9_readsString) := goodIn_app (goodIn_of _ (by decide +kernel)) ggX9_readsItem_X9_readsString
set_option maxRecDepth 20000 in
theorem ggX9_readsItem_X9_readsBeat : GoodIn wsX9_readsItem wsX9_readsBeat := goodIn_r _ [48, 49, 50, 9, 10, 11, 5, 12, 1, 13, 14, 15, 16, 17, 18, 19, 20, 21, 22, 23, 24, 25, 26, 27, 28, 29, 30, 31, 32, 33, 34, 35, 36, 37, 38, 64, 65, 66, 67, 68, 69, 70, 71, 72, 73, 74, 75, 76, 77, 78, 79, 80, 81, 82, 83, 84, 85, 86, 87, 88, 89, 90, 91, 92, 93, 94, 95, 96, 97, 98, 99, 100, 101, 102, 103, 104, 105, 106] (by decide +kernel) (by decide +kernel)
set_option maxRecDepth 20000 in
theorem gX9_readsItem_X9_readsBeat : GoodIn wsX9_readsItem (wsV RX9 150 RX9 yX9_readsBeat wsX9_readsBeat) := goodIn_app (goodIn_of _ (by decide +kernel)) ggX9_readsItem_X9_readsBeat
set_option maxRecDepth 20000 in
theorem ggX9_readsItem_X9_readsLift : GoodIn wsX9_readsItem wsX9_readsLift := goodIn_r _ [54, 55, 56, 57, 9, 10, 11, 5, 12, 1, 13, 14, 15, 16, 17, 18, 19, 20, 21, 22, 23, 24, 25, 26, 27, 28, 29, 30, 31, 32, 33, 34, 35, 36, 37, 38, 64, 65, 66, 67, 68, 69, 70, 71, 72, 73, 74, 75, 76, 77, 78, 79, 80, 81, 82, 83, 84, 85, 86, 87, 88, 89, 90, 91, 92, 93, 94, 95, 96, 97, 98, 99, 100, 101, 102, 103, 104, 105, 106] (by decide +kernel) (by decide +kernel)
set_option maxRecDepth 20000 in
theorem gX9_readsItem_X9_readsLift : GoodIn wsX9_readsItem (wsV RX9 153 RX9 yX9_readsLift wsX9_readsLift) := goodIn_app (goodIn_of _ (by decide +kernel)) ggX9_readsItem_X9_readsLift
set_option maxRecDepth 20000 in
theorem ggX9_readsItem_X9_readsTilt : GoodIn wsX9_readsItem wsX9_readsTilt := goodIn_r _ [61, 62, 56, 63, 9, 10, 11, 5, 12, 1, 13, 14, 15, 16, 17, 18, 19, 20, 21, 22, 23, 24, 25, 26, 27, 28, 29, 30, 31, 32, 33, 34, 35, 36, 37, 38, 64, 65, 66, 67, 68, 69, 70, 71, 72, 73, 74, 75, 76, 77, 78, 79, 80, 81, 82, 83, 84, 85, 86, 87, 88, 89, 90, 91, 92, 93, 94, 95, 96, 97, 98, 99, 100, 101, 102, 103, 104, 105, 106] (by decide +kernel) (by decide +kernel)
set_option maxRecDepth 20000 in
theorem gX9_readsItem_X9_readsTilt : GoodIn wsX9_readsItem (wsV RX9 156 RX9 yX9_readsTilt wsX9_readsTilt) := goodIn_app (goodIn_of _ (by decide +kernel)) ggX9_readsItem_X9_readsTilt
theorem dX9_readsItem_0 : decode cX9_readsItem 0 = .ok (.aload_n 0, 1) := by decide +kernel
theorem dX9_readsItem_1 : decode cX9_readsItem 1 = .ok (.getfield 98, 3) := by decide +kernel
theorem dX9_readsItem_4 : decode cX9_readsItem 4 = .ok (.lookupswitch 77 #[(98, 62), (108, 52), (115, 57), (116, 72), (117, 67)], 52) := by decide +kernel
theorem dX9_readsItem_56 : decode cX9_readsItem 56 = .ok (.aload_n 0, 1) := by decide +kernel
theorem dX9_readsItem_57 : decode cX9_readsItem 57 = .ok (.invokevirtual 144, 3) := by decide +kernel
theorem dX9_readsItem_60 : decode cX9_readsItem 60 = .ok (.ireturn, 1) := by decide +kernel
theorem dX9_readsItem_61 : decode cX9_readsItem 61 = .ok (.aload_n 0, 1) := by decide +kernel
theorem dX9_readsItem_62 : decode cX9_readsItem 62 = .ok (.invokevirtual 147, 3) := by decide +kernel
theorem dX9_readsItem_65 : decode cX9_readsItem 65 = .ok (.ireturn, 1) := by decide +kernel
theorem dX9_readsItem_66 : decode cX9_readsItem 66 = .ok (.aload_n 0, 1) := by decide +kernel
theorem dX9_readsItem_67 : decode cX9_readsItem 67 = .ok (.invokevirtual 150, 3) := by decide +kernel
theorem dX9_readsItem_70 : decode cX9_readsItem 70 = .ok (.ireturn, 1) := by decide +kernel
theorem dX9_readsItem_71 : decode cX9_readsItem 71 = .ok (.aload_n 0, 1) := by decide +kernel
theorem dX9_readsItem_72 : decode cX9_readsItem 72 = .ok (.invokevirtual 153, 3) := by decide +kernel
theorem dX9_readsItem_75 : decode cX9_readsItem 75 = .ok (.ireturn, 1) := by decide +kernel
theorem dX9_readsItem_76 : decode cX9_readsItem 76 = .ok (.aload_n 0, 1) := by decide +kernel
theorem dX9_readsItem_77 : decode cX9_readsItem 77 = .ok (.invokevirtual 156, 3) := by decide +kernel
theorem dX9_readsItem_80 : decode cX9_readsItem 80 = .ok (.ireturn, 1) := by decide +kernel
theorem dX9_readsItem_81 : decode cX9_readsItem 81 = .ok (.iconst 0, 1) := by decide +kernel
theorem dX9_readsItem_82 : decode cX9_readsItem 82 = .ok (.ireturn, 1) := by decide +kernel
set_option maxRecDepth 20000 in
theorem ggX9_faultOf_X9_reads : GoodIn wsX9_faultOf wsX9_reads := goodIn_r _ [17, 1, 12, 11, 10, 18, 19, 20, 21, 16, 22, 23, 24, 25, 26, 27, 28, 29, 30, 31, 32, 69, 70, 71, 72, 73, 74, 75, 76, 77, 78, 79, 80, 81, 82, 83, 84, 85, 86, 87, 88, 89, 90, 91, 92, 93, 94, 95, 96, 97, 98, 99, 100, 101, 102, 103, 104, 105, 106, 107, 108, 109, 110, 111] (by decide +kernel) (by decide +kernel)
set_option maxRecDepth 20000 in
theorem gX9_faultOf_X9_reads : GoodIn wsX9_faultOf (wsV RX9 111 RX9 yX9_reads wsX9_reads) := goodIn_app (goodIn_of _ (by decide +kernel)) ggX9_faultOf_X9_reads
set_option maxRecDepth 20000 in
theorem ggX9_faultOf_X9_readsItem : GoodIn wsX9_faultOf wsX9_readsItem := goodIn_r _ [36, 10, 37, 38, 39, 16, 40, 2, 41, 42, 43, 44, 45, 18, 13, 14, 15, 17, 1, 12, 11, 19, 20, 21, 22, 23, 24, 25, 26, 27, 28, 29, 30, 31, 32, 46, 47, 48, 49, 50, 51, 52, 53, 3, 54, 55, 56, 57, 58, 4, 59, 60, 61, 62, 63, 6, 64, 8, 65, 66, 67, 68, 7, 9, 69, 70, 71, 72, 73, 74, 75, 76, 77, 78, 79, 80, 81, 82, 83, 84, 85, 86, 87, 88, 89, 90, 91, 92, 93, 94, 95, 96, 97, 98, 99, 100, 101, 102, 103, 104, 105, 106, 107, 108, 109, 110, 111] (by decide +kernel) (by decide +kernel)
set_option maxRecDepth 20000 in
theorem gX9_faultOf_X9_readsItem : GoodIn wsX9_faultOf (wsV RX9 162 RX9 yX9_readsItem wsX9_readsItem) := goodIn_app (goodIn_of _ (by decide +kernel)) ggX9_faultOf_X9_readsItem
theorem dX9_faultOf_0 : decode cX9_faultOf 0 = .ok (.aload_n 0, 1) := by decide +kernel
theorem dX9_faultOf_1 : decode cX9_faultOf 1 = .ok (.iconst 0, 1) := by decide +kernel
theorem dX9_faultOf_2 : decode cX9_faultOf 2 = .ok (.putfield 88, 3) := by decide +kernel
theorem dX9_faultOf_5 : decode cX9_faultOf 5 = .ok (.aload_n 0, 1) := by decide +kernel
theorem dX9_faultOf_6 : decode cX9_faultOf 6 = .ok (.iconst 0, 1) := by decide +kernel
theorem dX9_faultOf_7 : decode cX9_faultOf 7 = .ok (.putfield 114, 3) := by decide +kernel
theorem dX9_faultOf_10 : decode cX9_faultOf 10 = .ok (.aload_n 0, 1) := by decide +kernel
theorem dX9_faultOf_11 : decode cX9_faultOf 11 = .ok (.iconst 0, 1) := by decide +kernel
theorem dX9_faultOf_12 : decode cX9_faultOf 12 = .ok (.putfield 125, 3) := by decide +kernel
theorem dX9_faultOf_15 : decode cX9_faultOf 15 = .ok (.aload_n 0, 1) := by decide +kernel
theorem dX9_faultOf_16 : decode cX9_faultOf 16 = .ok (.iconst 0, 1) := by decide +kernel
theorem dX9_faultOf_17 : decode cX9_faultOf 17 = .ok (.putfield 128, 3) := by decide +kernel
theorem dX9_faultOf_20 : decode cX9_faultOf 20 = .ok (.aload_n 0, 1) := by decide +kernel
theorem dX9_faultOf_21 : decode cX9_faultOf 21 = .ok (.iconst 0, 1) := by decide +kernel
theorem dX9_faultOf_22 : decode cX9_faultOf 22 = .ok (.putfield 159, 3) := by decide +kernel
theorem dX9_faultOf_25 : decode cX9_faultOf 25 = .ok (.aload_n 0, 1) := by decide +kernel
theorem dX9_faultOf_26 : decode cX9_faultOf 26 = .ok (.iconst 0, 1) := by decide +kernel
theorem dX9_faultOf_27 : decode cX9_faultOf 27 = .ok (.putfield 131, 3) := by decide +kernel
theorem dX9_faultOf_30 : decode cX9_faultOf 30 = .ok (.aload_n 0, 1) := by decide +kernel
theorem dX9_faultOf_31 : decode cX9_faultOf 31 = .ok (.iconst 0, 1) := by decide +kernel
theorem dX9_faultOf_32 : decode cX9_faultOf 32 = .ok (.putfield 138, 3) := by decide +kernel
theorem dX9_faultOf_35 : decode cX9_faultOf 35 = .ok (.aload_n 0, 1) := by decide +kernel
theorem dX9_faultOf_36 : decode cX9_faultOf 36 = .ok (.bipush 20, 2) := by decide +kernel
theorem dX9_faultOf_38 : decode cX9_faultOf 38 = .ok (.putfield 135, 3) := by decide +kernel
theorem dX9_faultOf_41 : decode cX9_faultOf 41 = .ok (.aload_n 0, 1) := by decide +kernel
theorem dX9_faultOf_42 : decode cX9_faultOf 42 = .ok (.iconst 0, 1) := by decide +kernel
theorem dX9_faultOf_43 : decode cX9_faultOf 43 = .ok (.putfield 141, 3) := by decide +kernel
theorem dX9_faultOf_46 : decode cX9_faultOf 46 = .ok (.aload_n 0, 1) := by decide +kernel
theorem dX9_faultOf_47 : decode cX9_faultOf 47 = .ok (.invokevirtual 111, 3) := by decide +kernel
theorem dX9_faultOf_50 : decode cX9_faultOf 50 = .ok (.aload_n 0, 1) := by decide +kernel
theorem dX9_faultOf_51 : decode cX9_faultOf 51 = .ok (.getfield 98, 3) := by decide +kernel
theorem dX9_faultOf_54 : decode cX9_faultOf 54 = .ok (.iconst (-1), 1) := by decide +kernel
theorem dX9_faultOf_55 : decode cX9_faultOf 55 = .ok (.if_icmp .eq 47, 3) := by decide +kernel
theorem dX9_faultOf_58 : decode cX9_faultOf 58 = .ok (.aload_n 0, 1) := by decide +kernel
theorem dX9_faultOf_59 : decode cX9_faultOf 59 = .ok (.invokevirtual 162, 3) := by decide +kernel
theorem dX9_faultOf_62 : decode cX9_faultOf 62 = .ok (.ifCond .ne 23, 3) := by decide +kernel
theorem dX9_faultOf_65 : decode cX9_faultOf 65 = .ok (.aload_n 0, 1) := by decide +kernel
theorem dX9_faultOf_66 : decode cX9_faultOf 66 = .ok (.getfield 98, 3) := by decide +kernel
theorem dX9_faultOf_69 : decode cX9_faultOf 69 = .ok (.iconst (-1), 1) := by decide +kernel
theorem dX9_faultOf_70 : decode cX9_faultOf 70 = .ok (.if_icmp .ne 10, 3) := by decide +kernel
theorem dX9_faultOf_73 : decode cX9_faultOf 73 = .ok (.aload_n 0, 1) := by decide +kernel
theorem dX9_faultOf_74 : decode cX9_faultOf 74 = .ok (.getfield 84, 3) := by decide +kernel
theorem dX9_faultOf_77 : decode cX9_faultOf 77 = .ok (.goto 7, 3) := by decide +kernel
theorem dX9_faultOf_80 : decode cX9_faultOf 80 = .ok (.aload_n 0, 1) := by decide +kernel
theorem dX9_faultOf_81 : decode cX9_faultOf 81 = .ok (.getfield 95, 3) := by decide +kernel
theorem dX9_faultOf_84 : decode cX9_faultOf 84 = .ok (.ireturn, 1) := by decide +kernel
theorem dX9_faultOf_85 : decode cX9_faultOf 85 = .ok (.aload_n 0, 1) := by decide +kernel
theorem dX9_faultOf_86 : decode cX9_faultOf 86 = .ok (.dup, 1) := by decide +kernel
theorem dX9_faultOf_87 : decode cX9_faultOf 87 = .ok (.getfield 159, 3) := by decide +kernel
theorem dX9_faultOf_90 : decode cX9_faultOf 90 = .ok (.iconst 1, 1) := by decide +kernel
theorem dX9_faultOf_91 : decode cX9_faultOf 91 = .ok (.iadd, 1) := by decide +kernel
theorem dX9_faultOf_92 : decode cX9_faultOf 92 = .ok (.putfield 159, 3) := by decide +kernel
theorem dX9_faultOf_95 : decode cX9_faultOf 95 = .ok (.aload_n 0, 1) := by decide +kernel
theorem dX9_faultOf_96 : decode cX9_faultOf 96 = .ok (.invokevirtual 111, 3) := by decide +kernel
theorem dX9_faultOf_99 : decode cX9_faultOf 99 = .ok (.goto (-49), 3) := by decide +kernel
theorem dX9_faultOf_102 : decode cX9_faultOf 102 = .ok (.bipush (-9), 2) := by decide +kernel
theorem dX9_faultOf_104 : decode cX9_faultOf 104 = .ok (.ireturn, 1) := by decide +kernel
set_option maxRecDepth 20000 in
theorem ggX9_puppet_X9_faultOf : GoodIn wsX9_puppet wsX9_faultOf := goodIn_r _ [28, 29, 2, 4, 6, 23, 30, 31, 13, 14, 32, 1, 33, 34, 35, 36, 27, 37, 38, 39, 40, 41, 42, 43, 44, 45, 46, 47, 48, 49, 50, 51, 52, 53, 54, 55, 56, 57, 58, 59, 60, 9, 61, 62, 63, 64, 65, 66, 67, 68, 69, 70, 71, 72, 15, 73, 74, 75, 76, 18, 77, 78, 79, 80, 81, 82, 83, 84, 85, 91, 92, 93, 94, 95, 96, 97, 98, 99, 100, 101, 102, 103, 104, 105, 106, 107, 108, 109, 110, 111, 112, 113, 114, 115, 116, 117, 118, 119, 120, 121, 122, 123, 124, 125, 126, 127, 128, 129, 130, 131, 132, 133] (by decide +kernel) (by decide +kernel)
set_option maxRecDepth 20000 in
theorem gX9_puppet_X9_faultOf : GoodIn wsX9_puppet (wsV RX9 165 RX9 yX9_faultOf wsX9_faultOf) := goodIn_app (goodIn_of _ (by decide +kernel)) ggX9_puppet_X9_faultOf
set_option maxRecDepth 20000 in
theorem ggX9_puppet_X9_layFars : GoodIn wsX9_puppet wsX9_layFars := goodIn_r _ [89, 3, 90, 10, 8, 91, 92, 93, 94, 95, 96, 97, 98, 99, 100, 101, 102, 103, 104, 105, 106, 107, 108, 109, 110, 111, 112, 113, 114, 115, 116, 117, 118, 119, 120, 121, 122, 123, 124, 125, 126, 127, 128, 129, 130, 131, 132, 133] (by decide +kernel) (by decide +kernel)
set_option maxRecDepth 20000 in
theorem gX9_puppet_X9_layFars : GoodIn wsX9_puppet (wsV RX9 178 RX9 yX9_layFars wsX9_layFars) := goodIn_app (goodIn_of _ (by decide +kernel)) ggX9_puppet_X9_layFars
theorem dX9_puppet_0 : decode cX9_puppet 0 = .ok (.aload_n 0, 1) := by decide +kernel
theorem dX9_puppet_1 : decode cX9_puppet 1 = .ok (.invokevirtual 165, 3) := by decide +kernel
theorem dX9_puppet_4 : decode cX9_puppet 4 = .ok (.istore_n 1, 1) := by decide +kernel
theorem dX9_puppet_5 : decode cX9_puppet 5 = .ok (.iload_n 1, 1) := by decide +kernel
theorem dX9_puppet_6 : decode cX9_puppet 6 = .ok (.bipush (-9), 2) := by decide +kernel
theorem dX9_puppet_8 : decode cX9_puppet 8 = .ok (.if_icmp .eq 8, 3) := by decide +kernel
theorem dX9_puppet_11 : decode cX9_puppet 11 = .ok (.bipush (-10), 2) := by decide +kernel
theorem dX9_puppet_13 : decode cX9_puppet 13 = .ok (.iload_n 1, 1) := by decide +kernel
theorem dX9_puppet_14 : decode cX9_puppet 14 = .ok (.isub, 1) := by decide +kernel
theorem dX9_puppet_15 : decode cX9_puppet 15 = .ok (.ireturn, 1) := by decide +kernel
theorem dX9_puppet_16 : decode cX9_puppet 16 = .ok (.aload_n 0, 1) := by decide +kernel
theorem dX9_puppet_17 : decode cX9_puppet 17 = .ok (.iconst 0, 1) := by decide +kernel
theorem dX9_puppet_18 : decode cX9_puppet 18 = .ok (.putfield 84, 3) := by decide +kernel
theorem dX9_puppet_21 : decode cX9_puppet 21 = .ok (.aload_n 0, 1) := by decide +kernel
theorem dX9_puppet_22 : decode cX9_puppet 22 = .ok (.aload_n 0, 1) := by decide +kernel
theorem dX9_puppet_23 : decode cX9_puppet 23 = .ok (.getfield 114, 3) := by decide +kernel
theorem dX9_puppet_26 : decode cX9_puppet 26 = .ok (.putfield 169, 3) := by decide +kernel
theorem dX9_puppet_29 : decode cX9_puppet 29 = .ok (.aload_n 0, 1) := by decide +kernel
theorem dX9_puppet_30 : decode cX9_puppet 30 = .ok (.aload_n 0, 1) := by decide +kernel
theorem dX9_puppet_31 : decode cX9_puppet 31 = .ok (.getfield 125, 3) := by decide +kernel
theorem dX9_puppet_34 : decode cX9_puppet 34 = .ok (.putfield 172, 3) := by decide +kernel
theorem dX9_puppet_37 : decode cX9_puppet 37 = .ok (.aload_n 0, 1) := by decide +kernel
theorem dX9_puppet_38 : decode cX9_puppet 38 = .ok (.aload_n 0, 1) := by decide +kernel
theorem dX9_puppet_39 : decode cX9_puppet 39 = .ok (.getfield 128, 3) := by decide +kernel
theorem dX9_puppet_42 : decode cX9_puppet 42 = .ok (.putfield 175, 3) := by decide +kernel
theorem dX9_puppet_45 : decode cX9_puppet 45 = .ok (.iconst 0, 1) := by decide +kernel
theorem dX9_puppet_46 : decode cX9_puppet 46 = .ok (.istore_n 2, 1) := by decide +kernel
theorem dX9_puppet_47 : decode cX9_puppet 47 = .ok (.iload_n 2, 1) := by decide +kernel
theorem dX9_puppet_48 : decode cX9_puppet 48 = .ok (.aload_n 0, 1) := by decide +kernel
theorem dX9_puppet_49 : decode cX9_puppet 49 = .ok (.getfield 169, 3) := by decide +kernel
theorem dX9_puppet_52 : decode cX9_puppet 52 = .ok (.if_icmp .ge 64, 3) := by decide +kernel
theorem dX9_puppet_55 : decode cX9_puppet 55 = .ok (.aload_n 0, 1) := by decide +kernel
theorem dX9_puppet_56 : decode cX9_puppet 56 = .ok (.getfield 25, 3) := by decide +kernel
theorem dX9_puppet_59 : decode cX9_puppet 59 = .ok (.iload_n 2, 1) := by decide +kernel
theorem dX9_puppet_60 : decode cX9_puppet 60 = .ok (.iload_n 2, 1) := by decide +kernel
theorem dX9_puppet_61 : decode cX9_puppet 61 = .ok (.ifCond .ne 8, 3) := by decide +kernel
theorem dX9_puppet_64 : decode cX9_puppet 64 = .ok (.bipush (-9), 2) := by decide +kernel
theorem dX9_puppet_66 : decode cX9_puppet 66 = .ok (.goto 11, 3) := by decide +kernel
theorem dX9_puppet_69 : decode cX9_puppet 69 = .ok (.aload_n 0, 1) := by decide +kernel
theorem dX9_puppet_70 : decode cX9_puppet 70 = .ok (.getfield 13, 3) := by decide +kernel
theorem dX9_puppet_73 : decode cX9_puppet 73 = .ok (.iconst 3, 1) := by decide +kernel
theorem dX9_puppet_74 : decode cX9_puppet 74 = .ok (.iload_n 2, 1) := by decide +kernel
theorem dX9_puppet_75 : decode cX9_puppet 75 = .ok (.imul, 1) := by decide +kernel
theorem dX9_puppet_76 : decode cX9_puppet 76 = .ok (.iaload, 1) := by decide +kernel
theorem dX9_puppet_77 : decode cX9_puppet 77 = .ok (.iastore, 1) := by decide +kernel
theorem dX9_puppet_78 : decode cX9_puppet 78 = .ok (.aload_n 0, 1) := by decide +kernel
theorem dX9_puppet_79 : decode cX9_puppet 79 = .ok (.getfield 28, 3) := by decide +kernel
theorem dX9_puppet_82 : decode cX9_puppet 82 = .ok (.iload_n 2, 1) := by decide +kernel
theorem dX9_puppet_83 : decode cX9_puppet 83 = .ok (.aload_n 0, 1) := by decide +kernel
theorem dX9_puppet_84 : decode cX9_puppet 84 = .ok (.getfield 13, 3) := by decide +kernel
theorem dX9_puppet_87 : decode cX9_puppet 87 = .ok (.iconst 3, 1) := by decide +kernel
theorem dX9_puppet_88 : decode cX9_puppet 88 = .ok (.iload_n 2, 1) := by decide +kernel
theorem dX9_puppet_89 : decode cX9_puppet 89 = .ok (.imul, 1) := by decide +kernel
theorem dX9_puppet_90 : decode cX9_puppet 90 = .ok (.iconst 1, 1) := by decide +kernel
theorem dX9_puppet_91 : decode cX9_puppet 91 = .ok (.iadd, 1) := by decide +kernel
theorem dX9_puppet_92 : decode cX9_puppet 92 = .ok (.iaload, 1) := by decide +kernel
theorem dX9_puppet_93 : decode cX9_puppet 93 = .ok (.iastore, 1) := by decide +kernel
theorem dX9_puppet_94 : decode cX9_puppet 94 = .ok (.aload_n 0, 1) := by decide +kernel
theorem dX9_puppet_95 : decode cX9_puppet 95 = .ok (.getfield 31, 3) := by decide +kernel
theorem dX9_puppet_98 : decode cX9_puppet 98 = .ok (.iload_n 2, 1) := by decide +kernel
theorem dX9_puppet_99 : decode cX9_puppet 99 = .ok (.aload_n 0, 1) := by decide +kernel
theorem dX9_puppet_100 : decode cX9_puppet 100 = .ok (.getfield 13, 3) := by decide +kernel
theorem dX9_puppet_103 : decode cX9_puppet 103 = .ok (.iconst 3, 1) := by decide +kernel
theorem dX9_puppet_104 : decode cX9_puppet 104 = .ok (.iload_n 2, 1) := by decide +kernel
theorem dX9_puppet_105 : decode cX9_puppet 105 = .ok (.imul, 1) := by decide +kernel
theorem dX9_puppet_106 : decode cX9_puppet 106 = .ok (.iconst 2, 1) := by decide +kernel
theorem dX9_puppet_107 : decode cX9_puppet 107 = .ok (.iadd, 1) := by decide +kernel
theorem dX9_puppet_108 : decode cX9_puppet 108 = .ok (.iaload, 1) := by decide +kernel
theorem dX9_puppet_109 : decode cX9_puppet 109 = .ok (.iastore, 1) := by decide +kernel
theorem dX9_puppet_110 : decode cX9_puppet 110 = .ok (.iinc 2 1, 3) := by decide +kernel
theorem dX9_puppet_113 : decode cX9_puppet 113 = .ok (.goto (-66), 3) := by decide +kernel
theorem dX9_puppet_116 : decode cX9_puppet 116 = .ok (.iconst 0, 1) := by decide +kernel
theorem dX9_puppet_117 : decode cX9_puppet 117 = .ok (.istore_n 2, 1) := by decide +kernel
theorem dX9_puppet_118 : decode cX9_puppet 118 = .ok (.iload_n 2, 1) := by decide +kernel
theorem dX9_puppet_119 : decode cX9_puppet 119 = .ok (.bipush 21, 2) := by decide +kernel
theorem dX9_puppet_121 : decode cX9_puppet 121 = .ok (.if_icmp .ge 16, 3) := by decide +kernel
theorem dX9_puppet_124 : decode cX9_puppet 124 = .ok (.aload_n 0, 1) := by decide +kernel
theorem dX9_puppet_125 : decode cX9_puppet 125 = .ok (.getfield 46, 3) := by decide +kernel
theorem dX9_puppet_128 : decode cX9_puppet 128 = .ok (.iload_n 2, 1) := by decide +kernel
theorem dX9_puppet_129 : decode cX9_puppet 129 = .ok (.iconst 0, 1) := by decide +kernel
theorem dX9_puppet_130 : decode cX9_puppet 130 = .ok (.iastore, 1) := by decide +kernel
theorem dX9_puppet_131 : decode cX9_puppet 131 = .ok (.iinc 2 1, 3) := by decide +kernel
theorem dX9_puppet_134 : decode cX9_puppet 134 = .ok (.goto (-16), 3) := by decide +kernel
theorem dX9_puppet_137 : decode cX9_puppet 137 = .ok (.aload_n 0, 1) := by decide +kernel
theorem dX9_puppet_138 : decode cX9_puppet 138 = .ok (.getfield 46, 3) := by decide +kernel
theorem dX9_puppet_141 : decode cX9_puppet 141 = .ok (.iconst 0, 1) := by decide +kernel
theorem dX9_puppet_142 : decode cX9_puppet 142 = .ok (.aload_n 0, 1) := by decide +kernel
theorem dX9_puppet_143 : decode cX9_puppet 143 = .ok (.getfield 135, 3) := by decide +kernel
theorem dX9_puppet_146 : decode cX9_puppet 146 = .ok (.iastore, 1) := by decide +kernel
theorem dX9_puppet_147 : decode cX9_puppet 147 = .ok (.aload_n 0, 1) := by decide +kernel
theorem dX9_puppet_148 : decode cX9_puppet 148 = .ok (.getfield 46, 3) := by decide +kernel
theorem dX9_puppet_151 : decode cX9_puppet 151 = .ok (.iconst 1, 1) := by decide +kernel
theorem dX9_puppet_152 : decode cX9_puppet 152 = .ok (.aload_n 0, 1) := by decide +kernel
theorem dX9_puppet_153 : decode cX9_puppet 153 = .ok (.getfield 141, 3) := by decide +kernel
theorem dX9_puppet_156 : decode cX9_puppet 156 = .ok (.iastore, 1) := by decide +kernel
theorem dX9_puppet_157 : decode cX9_puppet 157 = .ok (.iconst 0, 1) := by decide +kernel
theorem dX9_puppet_158 : decode cX9_puppet 158 = .ok (.istore_n 2, 1) := by decide +kernel
theorem dX9_puppet_159 : decode cX9_puppet 159 = .ok (.iload_n 2, 1) := by decide +kernel
theorem dX9_puppet_160 : decode cX9_puppet 160 = .ok (.aload_n 0, 1) := by decide +kernel
theorem dX9_puppet_161 : decode cX9_puppet 161 = .ok (.getfield 172, 3) := by decide +kernel
theorem dX9_puppet_164 : decode cX9_puppet 164 = .ok (.if_icmp .ge 79, 3) := by decide +kernel
theorem dX9_puppet_167 : decode cX9_puppet 167 = .ok (.aload_n 0, 1) := by decide +kernel
theorem dX9_puppet_168 : decode cX9_puppet 168 = .ok (.getfield 46, 3) := by decide +kernel
theorem dX9_puppet_171 : decode cX9_puppet 171 = .ok (.iconst 3, 1) := by decide +kernel
theorem dX9_puppet_172 : decode cX9_puppet 172 = .ok (.iload_n 2, 1) := by decide +kernel
theorem dX9_puppet_173 : decode cX9_puppet 173 = .ok (.iadd, 1) := by decide +kernel
theorem dX9_puppet_174 : decode cX9_puppet 174 = .ok (.aload_n 0, 1) := by decide +kernel
theorem dX9_puppet_175 : decode cX9_puppet 175 = .ok (.getfield 16, 3) := by decide +kernel
theorem dX9_puppet_178 : decode cX9_puppet 178 = .ok (.iconst 4, 1) := by decide +kernel
theorem dX9_puppet_179 : decode cX9_puppet 179 = .ok (.iload_n 2, 1) := by decide +kernel
theorem dX9_puppet_180 : decode cX9_puppet 180 = .ok (.imul, 1) := by decide +kernel
theorem dX9_puppet_181 : decode cX9_puppet 181 = .ok (.iaload, 1) := by decide +kernel
theorem dX9_puppet_182 : decode cX9_puppet 182 = .ok (.iastore, 1) := by decide +kernel
theorem dX9_puppet_183 : decode cX9_puppet 183 = .ok (.aload_n 0, 1) := by decide +kernel
theorem dX9_puppet_184 : decode cX9_puppet 184 = .ok (.getfield 46, 3) := by decide +kernel
theorem dX9_puppet_187 : decode cX9_puppet 187 = .ok (.bipush 9, 2) := by decide +kernel
theorem dX9_puppet_189 : decode cX9_puppet 189 = .ok (.iload_n 2, 1) := by decide +kernel
theorem dX9_puppet_190 : decode cX9_puppet 190 = .ok (.iadd, 1) := by decide +kernel
theorem dX9_puppet_191 : decode cX9_puppet 191 = .ok (.aload_n 0, 1) := by decide +kernel
theorem dX9_puppet_192 : decode cX9_puppet 192 = .ok (.getfield 16, 3) := by decide +kernel
theorem dX9_puppet_195 : decode cX9_puppet 195 = .ok (.iconst 4, 1) := by decide +kernel
theorem dX9_puppet_196 : decode cX9_puppet 196 = .ok (.iload_n 2, 1) := by decide +kernel
theorem dX9_puppet_197 : decode cX9_puppet 197 = .ok (.imul, 1) := by decide +kernel
theorem dX9_puppet_198 : decode cX9_puppet 198 = .ok (.iconst 1, 1) := by decide +kernel
theorem dX9_puppet_199 : decode cX9_puppet 199 = .ok (.iadd, 1) := by decide +kernel
theorem dX9_puppet_200 : decode cX9_puppet 200 = .ok (.iaload, 1) := by decide +kernel
theorem dX9_puppet_201 : decode cX9_puppet 201 = .ok (.iastore, 1) := by decide +kernel
theorem dX9_puppet_202 : decode cX9_puppet 202 = .ok (.aload_n 0, 1) := by decide +kernel
theorem dX9_puppet_203 : decode cX9_puppet 203 = .ok (.getfield 46, 3) := by decide +kernel
theorem dX9_puppet_206 : decode cX9_puppet 206 = .ok (.bipush 15, 2) := by decide +kernel
theorem dX9_puppet_208 : decode cX9_puppet 208 = .ok (.iload_n 2, 1) := by decide +kernel
theorem dX9_puppet_209 : decode cX9_puppet 209 = .ok (.iadd, 1) := by decide +kernel
theorem dX9_puppet_210 : decode cX9_puppet 210 = .ok (.aload_n 0, 1) := by decide +kernel
theorem dX9_puppet_211 : decode cX9_puppet 211 = .ok (.getfield 16, 3) := by decide +kernel
theorem dX9_puppet_214 : decode cX9_puppet 214 = .ok (.iconst 4, 1) := by decide +kernel
theorem dX9_puppet_215 : decode cX9_puppet 215 = .ok (.iload_n 2, 1) := by decide +kernel
theorem dX9_puppet_216 : decode cX9_puppet 216 = .ok (.imul, 1) := by decide +kernel
theorem dX9_puppet_217 : decode cX9_puppet 217 = .ok (.iconst 2, 1) := by decide +kernel
theorem dX9_puppet_218 : decode cX9_puppet 218 = .ok (.iadd, 1) := by decide +kernel
theorem dX9_puppet_219 : decode cX9_puppet 219 = .ok (.iaload, 1) := by decide +kernel
theorem dX9_puppet_220 : decode cX9_puppet 220 = .ok (.iastore, 1) := by decide +kernel
theorem dX9_puppet_221 : decode cX9_puppet 221 = .ok (.aload_n 0, 1) := by decide +kernel
theorem dX9_puppet_222 : decode cX9_puppet 222 = .ok (.getfield 34, 3) := by decide +kernel
theorem dX9_puppet_225 : decode cX9_puppet 225 = .ok (.iload_n 2, 1) := by decide +kernel
theorem dX9_puppet_226 : decode cX9_puppet 226 = .ok (.aload_n 0, 1) := by decide +kernel
theorem dX9_puppet_227 : decode cX9_puppet 227 = .ok (.getfield 16, 3) := by decide +kernel
theorem dX9_puppet_230 : decode cX9_puppet 230 = .ok (.iconst 4, 1) := by decide +kernel
theorem dX9_puppet_231 : decode cX9_puppet 231 = .ok (.iload_n 2, 1) := by decide +kernel
theorem dX9_puppet_232 : decode cX9_puppet 232 = .ok (.imul, 1) := by decide +kernel
theorem dX9_puppet_233 : decode cX9_puppet 233 = .ok (.iconst 3, 1) := by decide +kernel
theorem dX9_puppet_234 : decode cX9_puppet 234 = .ok (.iadd, 1) := by decide +kernel
theorem dX9_puppet_235 : decode cX9_puppet 235 = .ok (.iaload, 1) := by decide +kernel
theorem dX9_puppet_236 : decode cX9_puppet 236 = .ok (.iastore, 1) := by decide +kernel
theorem dX9_puppet_237 : decode cX9_puppet 237 = .ok (.iinc 2 1, 3) := by decide +kernel
theorem dX9_puppet_240 : decode cX9_puppet 240 = .ok (.goto (-81), 3) := by decide +kernel
theorem dX9_puppet_243 : decode cX9_puppet 243 = .ok (.iconst 0, 1) := by decide +kernel
theorem dX9_puppet_244 : decode cX9_puppet 244 = .ok (.istore_n 2, 1) := by decide +kernel
theorem dX9_puppet_245 : decode cX9_puppet 245 = .ok (.iload_n 2, 1) := by decide +kernel
theorem dX9_puppet_246 : decode cX9_puppet 246 = .ok (.aload_n 0, 1) := by decide +kernel
theorem dX9_puppet_247 : decode cX9_puppet 247 = .ok (.getfield 175, 3) := by decide +kernel
theorem dX9_puppet_250 : decode cX9_puppet 250 = .ok (.if_icmp .ge 41, 3) := by decide +kernel
theorem dX9_puppet_253 : decode cX9_puppet 253 = .ok (.aload_n 0, 1) := by decide +kernel
theorem dX9_puppet_254 : decode cX9_puppet 254 = .ok (.getfield 37, 3) := by decide +kernel
theorem dX9_puppet_257 : decode cX9_puppet 257 = .ok (.iload_n 2, 1) := by decide +kernel
theorem dX9_puppet_258 : decode cX9_puppet 258 = .ok (.aload_n 0, 1) := by decide +kernel
theorem dX9_puppet_259 : decode cX9_puppet 259 = .ok (.getfield 19, 3) := by decide +kernel
theorem dX9_puppet_262 : decode cX9_puppet 262 = .ok (.iconst 2, 1) := by decide +kernel
theorem dX9_puppet_263 : decode cX9_puppet 263 = .ok (.iload_n 2, 1) := by decide +kernel
theorem dX9_puppet_264 : decode cX9_puppet 264 = .ok (.imul, 1) := by decide +kernel
theorem dX9_puppet_265 : decode cX9_puppet 265 = .ok (.iaload, 1) := by decide +kernel
theorem dX9_puppet_266 : decode cX9_puppet 266 = .ok (.iastore, 1) := by decide +kernel
theorem dX9_puppet_267 : decode cX9_puppet 267 = .ok (.aload_n 0, 1) := by decide +kernel
theorem dX9_puppet_268 : decode cX9_puppet 268 = .ok (.getfield 40, 3) := by decide +kernel
theorem dX9_puppet_271 : decode cX9_puppet 271 = .ok (.iload_n 2, 1) := by decide +kernel
theorem dX9_puppet_272 : decode cX9_puppet 272 = .ok (.aload_n 0, 1) := by decide +kernel
theorem dX9_puppet_273 : decode cX9_puppet 273 = .ok (.getfield 19, 3) := by decide +kernel
theorem dX9_puppet_276 : decode cX9_puppet 276 = .ok (.iconst 2, 1) := by decide +kernel
theorem dX9_puppet_277 : decode cX9_puppet 277 = .ok (.iload_n 2, 1) := by decide +kernel
theorem dX9_puppet_278 : decode cX9_puppet 278 = .ok (.imul, 1) := by decide +kernel
theorem dX9_puppet_279 : decode cX9_puppet 279 = .ok (.iconst 1, 1) := by decide +kernel
theorem dX9_puppet_280 : decode cX9_puppet 280 = .ok (.iadd, 1) := by decide +kernel
theorem dX9_puppet_281 : decode cX9_puppet 281 = .ok (.iaload, 1) := by decide +kernel
theorem dX9_puppet_282 : decode cX9_puppet 282 = .ok (.iconst 3, 1) := by decide +kernel
theorem dX9_puppet_283 : decode cX9_puppet 283 = .ok (.isub, 1) := by decide +kernel
theorem dX9_puppet_284 : decode cX9_puppet 284 = .ok (.iastore, 1) := by decide +kernel
theorem dX9_puppet_285 : decode cX9_puppet 285 = .ok (.iinc 2 1, 3) := by decide +kernel
theorem dX9_puppet_288 : decode cX9_puppet 288 = .ok (.goto (-43), 3) := by decide +kernel
theorem dX9_puppet_291 : decode cX9_puppet 291 = .ok (.aload_n 0, 1) := by decide +kernel
theorem dX9_puppet_292 : decode cX9_puppet 292 = .ok (.invokevirtual 178, 3) := by decide +kernel
theorem dX9_puppet_295 : decode cX9_puppet 295 = .ok (.aload_n 0, 1) := by decide +kernel
theorem dX9_puppet_296 : decode cX9_puppet 296 = .ok (.iconst 0, 1) := by decide +kernel
theorem dX9_puppet_297 : decode cX9_puppet 297 = .ok (.putfield 181, 3) := by decide +kernel
theorem dX9_puppet_300 : decode cX9_puppet 300 = .ok (.aload_n 0, 1) := by decide +kernel
theorem dX9_puppet_301 : decode cX9_puppet 301 = .ok (.iconst 0, 1) := by decide +kernel
theorem dX9_puppet_302 : decode cX9_puppet 302 = .ok (.putfield 184, 3) := by decide +kernel
theorem dX9_puppet_305 : decode cX9_puppet 305 = .ok (.aload_n 0, 1) := by decide +kernel
theorem dX9_puppet_306 : decode cX9_puppet 306 = .ok (.getfield 64, 3) := by decide +kernel
theorem dX9_puppet_309 : decode cX9_puppet 309 = .ok (.iconst 0, 1) := by decide +kernel
theorem dX9_puppet_310 : decode cX9_puppet 310 = .ok (.iconst 0, 1) := by decide +kernel
theorem dX9_puppet_311 : decode cX9_puppet 311 = .ok (.bastore, 1) := by decide +kernel
theorem dX9_puppet_312 : decode cX9_puppet 312 = .ok (.aload_n 0, 1) := by decide +kernel
theorem dX9_puppet_313 : decode cX9_puppet 313 = .ok (.getfield 64, 3) := by decide +kernel
theorem dX9_puppet_316 : decode cX9_puppet 316 = .ok (.iconst 1, 1) := by decide +kernel
theorem dX9_puppet_317 : decode cX9_puppet 317 = .ok (.iconst 0, 1) := by decide +kernel
theorem dX9_puppet_318 : decode cX9_puppet 318 = .ok (.bastore, 1) := by decide +kernel
theorem dX9_puppet_319 : decode cX9_puppet 319 = .ok (.aload_n 0, 1) := by decide +kernel
theorem dX9_puppet_320 : decode cX9_puppet 320 = .ok (.getfield 159, 3) := by decide +kernel
theorem dX9_puppet_323 : decode cX9_puppet 323 = .ok (.ireturn, 1) := by decide +kernel
theorem dX9_layFars_0 : decode cX9_layFars 0 = .ok (.iconst 0, 1) := by decide +kernel
theorem dX9_layFars_1 : decode cX9_layFars 1 = .ok (.istore_n 1, 1) := by decide +kernel
theorem dX9_layFars_2 : decode cX9_layFars 2 = .ok (.iload_n 1, 1) := by decide +kernel
theorem dX9_layFars_3 : decode cX9_layFars 3 = .ok (.aload_n 0, 1) := by decide +kernel
theorem dX9_layFars_4 : decode cX9_layFars 4 = .ok (.getfield 169, 3) := by decide +kernel
theorem dX9_layFars_7 : decode cX9_layFars 7 = .ok (.if_icmp .ge 82, 3) := by decide +kernel
theorem dX9_layFars_10 : decode cX9_layFars 10 = .ok (.aload_n 0, 1) := by decide +kernel
theorem dX9_layFars_11 : decode cX9_layFars 11 = .ok (.getfield 43, 3) := by decide +kernel
theorem dX9_layFars_14 : decode cX9_layFars 14 = .ok (.bipush 8, 2) := by decide +kernel
theorem dX9_layFars_16 : decode cX9_layFars 16 = .ok (.iload_n 1, 1) := by decide +kernel
theorem dX9_layFars_17 : decode cX9_layFars 17 = .ok (.imul, 1) := by decide +kernel
theorem dX9_layFars_18 : decode cX9_layFars 18 = .ok (.iload_n 1, 1) := by decide +kernel
theorem dX9_layFars_19 : decode cX9_layFars 19 = .ok (.iadd, 1) := by decide +kernel
theorem dX9_layFars_20 : decode cX9_layFars 20 = .ok (.iconst 0, 1) := by decide +kernel
theorem dX9_layFars_21 : decode cX9_layFars 21 = .ok (.iastore, 1) := by decide +kernel
theorem dX9_layFars_22 : decode cX9_layFars 22 = .ok (.iconst 0, 1) := by decide +kernel
theorem dX9_layFars_23 : decode cX9_layFars 23 = .ok (.istore_n 2, 1) := by decide +kernel
theorem dX9_layFars_24 : decode cX9_layFars 24 = .ok (.iload_n 2, 1) := by decide +kernel
theorem dX9_layFars_25 : decode cX9_layFars 25 = .ok (.iload_n 1, 1) := by decide +kernel
theorem dX9_layFars_26 : decode cX9_layFars 26 = .ok (.if_icmp .ge 57, 3) := by decide +kernel
theorem dX9_layFars_29 : decode cX9_layFars 29 = .ok (.aload_n 0, 1) := by decide +kernel
theorem dX9_layFars_30 : decode cX9_layFars 30 = .ok (.getfield 28, 3) := by decide +kernel
theorem dX9_layFars_33 : decode cX9_layFars 33 = .ok (.iload_n 1, 1) := by decide +kernel
theorem dX9_layFars_34 : decode cX9_layFars 34 = .ok (.iaload, 1) := by decide +kernel
theorem dX9_layFars_35 : decode cX9_layFars 35 = .ok (.aload_n 0, 1) := by decide +kernel
theorem dX9_layFars_36 : decode cX9_layFars 36 = .ok (.getfield 43, 3) := by decide +kernel
theorem dX9_layFars_39 : decode cX9_layFars 39 = .ok (.bipush 8, 2) := by decide +kernel
theorem dX9_layFars_41 : decode cX9_layFars 41 = .ok (.aload_n 0, 1) := by decide +kernel
theorem dX9_layFars_42 : decode cX9_layFars 42 = .ok (.getfield 25, 3) := by decide +kernel
theorem dX9_layFars_45 : decode cX9_layFars 45 = .ok (.iload_n 1, 1) := by decide +kernel
theorem dX9_layFars_46 : decode cX9_layFars 46 = .ok (.iaload, 1) := by decide +kernel
theorem dX9_layFars_47 : decode cX9_layFars 47 = .ok (.imul, 1) := by decide +kernel
theorem dX9_layFars_48 : decode cX9_layFars 48 = .ok (.iload_n 2, 1) := by decide +kernel
theorem dX9_layFars_49 : decode cX9_layFars 49 = .ok (.iadd, 1) := by decide +kernel
theorem dX9_layFars_50 : decode cX9_layFars 50 = .ok (.iaload, 1) := by decide +kernel
theorem dX9_layFars_51 : decode cX9_layFars 51 = .ok (.iadd, 1) := by decide +kernel
theorem dX9_layFars_52 : decode cX9_layFars 52 = .ok (.istore_n 3, 1) := by decide +kernel
theorem dX9_layFars_53 : decode cX9_layFars 53 = .ok (.aload_n 0, 1) := by decide +kernel
theorem dX9_layFars_54 : decode cX9_layFars 54 = .ok (.getfield 43, 3) := by decide +kernel
theorem dX9_layFars_57 : decode cX9_layFars 57 = .ok (.bipush 8, 2) := by decide +kernel
theorem dX9_layFars_59 : decode cX9_layFars 59 = .ok (.iload_n 1, 1) := by decide +kernel
theorem dX9_layFars_60 : decode cX9_layFars 60 = .ok (.imul, 1) := by decide +kernel
theorem dX9_layFars_61 : decode cX9_layFars 61 = .ok (.iload_n 2, 1) := by decide +kernel
theorem dX9_layFars_62 : decode cX9_layFars 62 = .ok (.iadd, 1) := by decide +kernel
theorem dX9_layFars_63 : decode cX9_layFars 63 = .ok (.iload_n 3, 1) := by decide +kernel
theorem dX9_layFars_64 : decode cX9_layFars 64 = .ok (.iastore, 1) := by decide +kernel
theorem dX9_layFars_65 : decode cX9_layFars 65 = .ok (.aload_n 0, 1) := by decide +kernel
theorem dX9_layFars_66 : decode cX9_layFars 66 = .ok (.getfield 43, 3) := by decide +kernel
theorem dX9_layFars_69 : decode cX9_layFars 69 = .ok (.bipush 8, 2) := by decide +kernel
theorem dX9_layFars_71 : decode cX9_layFars 71 = .ok (.iload_n 2, 1) := by decide +kernel
theorem dX9_layFars_72 : decode cX9_layFars 72 = .ok (.imul, 1) := by decide +kernel
theorem dX9_layFars_73 : decode cX9_layFars 73 = .ok (.iload_n 1, 1) := by decide +kernel
theorem dX9_layFars_74 : decode cX9_layFars 74 = .ok (.iadd, 1) := by decide +kernel
theorem dX9_layFars_75 : decode cX9_layFars 75 = .ok (.iload_n 3, 1) := by decide +kernel
theorem dX9_layFars_76 : decode cX9_layFars 76 = .ok (.iastore, 1) := by decide +kernel
theorem dX9_layFars_77 : decode cX9_layFars 77 = .ok (.iinc 2 1, 3) := by decide +kernel
theorem dX9_layFars_80 : decode cX9_layFars 80 = .ok (.goto (-56), 3) := by decide +kernel
theorem dX9_layFars_83 : decode cX9_layFars 83 = .ok (.iinc 1 1, 3) := by decide +kernel
theorem dX9_layFars_86 : decode cX9_layFars 86 = .ok (.goto (-84), 3) := by decide +kernel
theorem dX9_layFars_89 : decode cX9_layFars 89 = .ok (.return_, 1) := by decide +kernel
set_option maxRecDepth 20000 in
theorem ggX9_isLimb_X9_in : GoodIn wsX9_isLimb wsX9_in := goodIn_r _ [5] (by decide +kernel) (by decide +kernel)
set_option maxRecDepth 20000 in
theorem gX9_isLimb_X9_in : GoodIn wsX9_isLimb (va_wsS RX9 80 yX9_in wsX9_in) := goodIn_app (goodIn_of _ (by decide +kernel)) ggX9_isLimb_X9_in
theorem dX9_isLimb_0 : decode cX9_isLimb 0 = .ok (.iload_n 1, 1) := by decide +kernel
theorem dX9_isLimb_1 : decode cX9_isLimb 1 = .ok (.iconst 0, 1) := by decide +kernel
theorem dX9_isLimb_2 : decode cX9_isLimb 2 = .ok (.aload_n 0, 1) := by decide +kernel
theorem dX9_isLimb_3 : decode cX9_isLimb 3 = .ok (.getfield 169, 3) := by decide +kernel
theorem dX9_isLimb_6 : decode cX9_isLimb 6 = .ok (.iconst 1, 1) := by decide +kernel
theorem dX9_isLimb_7 : decode cX9_isLimb 7 = .ok (.isub, 1) := by decide +kernel
theorem dX9_isLimb_8 : decode cX9_isLimb 8 = .ok (.invokestatic 80, 3) := by decide +kernel
theorem dX9_isLimb_11 : decode cX9_isLimb 11 = .ok (.ireturn, 1) := by decide +kernel
set_option maxRecDepth 20000 in
theorem ggX9_isString_X9_in : GoodIn wsX9_isString wsX9_in := goodIn_r _ [5] (by decide +kernel) (by decide +kernel)
set_option maxRecDepth 20000 in
theorem gX9_isString_X9_in : GoodIn wsX9_isString (va_wsS RX9 80 yX9_in wsX9_in) := goodIn_app (goodIn_of _ (by decide +kernel)) ggX9_isString_X9_in
theorem dX9_isString_0 : decode cX9_isString 0 = .ok (.iload_n 1, 1) := by decide +kernel
theorem dX9_isString_1 : decode cX9_isString 1 = .ok (.iconst 0, 1) := by decide +kernel
theorem dX9_isString_2 : decode cX9_isString 2 = .ok (.aload_n 0, 1) := by decide +kernel
theorem dX9_isString_3 : decode cX9_isString 3 = .ok (.getfield 172, 3) := by decide +kernel
theorem dX9_isString_6 : decode cX9_isString 6 = .ok (.iconst 1, 1) := by decide +kernel
theorem dX9_isString_7 : decode cX9_isString 7 = .ok (.isub, 1) := by decide +kernel
theorem dX9_isString_8 : decode cX9_isString 8 = .ok (.invokestatic 80, 3) := by decide +kernel
theorem dX9_isString_11 : decode cX9_isString 11 = .ok (.ireturn, 1) := by decide +kernel
set_option maxRecDepth 20000 in
theorem ggX9_isBeat_X9_in : GoodIn wsX9_isBeat wsX9_in := goodIn_r _ [5] (by decide +kernel) (by decide +kernel)
set_option maxRecDepth 20000 in
theorem gX9_isBeat_X9_in : GoodIn wsX9_isBeat (va_wsS RX9 80 yX9_in wsX9_in) := goodIn_app (goodIn_of _ (by decide +kernel)) ggX9_isBeat_X9_in
theorem dX9_isBeat_0 : decode cX9_isBeat 0 = .ok (.iload_n 1, 1) := by decide +kernel
theorem dX9_isBeat_1 : decode cX9_isBeat 1 = .ok (.iconst 0, 1) := by decide +kernel
theorem dX9_isBeat_2 : decode cX9_isBeat 2 = .ok (.aload_n 0, 1) := by decide +kernel
theorem dX9_isBeat_3 : decode cX9_isBeat 3 = .ok (.getfield 175, 3) := by decide +kernel
theorem dX9_isBeat_6 : decode cX9_isBeat 6 = .ok (.iconst 1, 1) := by decide +kernel
theorem dX9_isBeat_7 : decode cX9_isBeat 7 = .ok (.isub, 1) := by decide +kernel
theorem dX9_isBeat_8 : decode cX9_isBeat 8 = .ok (.invokestatic 80, 3) := by decide +kernel
theorem dX9_isBeat_11 : decode cX9_isBeat 11 = .ok (.ireturn, 1) := by decide +kernel
theorem dX9_end_0 : decode cX9_end 0 = .ok (.aload_n 0, 1) := by decide +kernel
theorem dX9_end_1 : decode cX9_end 1 = .ok (.iconst 0, 1) := by decide +kernel
theorem dX9_end_2 : decode cX9_end 2 = .ok (.iaload, 1) := by decide +kernel
theorem dX9_end_3 : decode cX9_end 3 = .ok (.aload_n 0, 1) := by decide +kernel
theorem dX9_end_4 : decode cX9_end 4 = .ok (.iconst 1, 1) := by decide +kernel
theorem dX9_end_5 : decode cX9_end 5 = .ok (.iaload, 1) := by decide +kernel
theorem dX9_end_6 : decode cX9_end 6 = .ok (.aload_n 0, 1) := by decide +kernel
theorem dX9_end_7 : decode cX9_end 7 = .ok (.bipush 9, 2) := by decide +kernel
theorem dX9_end_9 : decode cX9_end 9 = .ok (.iload_n 1, 1) := by decide +kernel
theorem dX9_end_10 : decode cX9_end 10 = .ok (.iadd, 1) := by decide +kernel
theorem dX9_end_11 : decode cX9_end 11 = .ok (.iaload, 1) := by decide +kernel
theorem dX9_end_12 : decode cX9_end 12 = .ok (.iconst 3, 1) := by decide +kernel
theorem dX9_end_13 : decode cX9_end 13 = .ok (.isub, 1) := by decide +kernel
theorem dX9_end_14 : decode cX9_end 14 = .ok (.imul, 1) := by decide +kernel
theorem dX9_end_15 : decode cX9_end 15 = .ok (.iadd, 1) := by decide +kernel
theorem dX9_end_16 : decode cX9_end 16 = .ok (.aload_n 0, 1) := by decide +kernel
theorem dX9_end_17 : decode cX9_end 17 = .ok (.bipush 15, 2) := by decide +kernel
theorem dX9_end_19 : decode cX9_end 19 = .ok (.iload_n 1, 1) := by decide +kernel
theorem dX9_end_20 : decode cX9_end 20 = .ok (.iadd, 1) := by decide +kernel
theorem dX9_end_21 : decode cX9_end 21 = .ok (.iaload, 1) := by decide +kernel
theorem dX9_end_22 : decode cX9_end 22 = .ok (.isub, 1) := by decide +kernel
theorem dX9_end_23 : decode cX9_end 23 = .ok (.ireturn, 1) := by decide +kernel
set_option maxRecDepth 20000 in
theorem ggX9_reaches_X9_end : GoodIn wsX9_reaches wsX9_end := goodIn_r _ [5] (by decide +kernel) (by decide +kernel)
set_option maxRecDepth 20000 in
theorem gX9_reaches_X9_end : GoodIn wsX9_reaches (va_wsS RX9 187 yX9_end wsX9_end) := goodIn_app (goodIn_of _ (by decide +kernel)) ggX9_reaches_X9_end
theorem dX9_reaches_0 : decode cX9_reaches 0 = .ok (.aload_n 1, 1) := by decide +kernel
theorem dX9_reaches_1 : decode cX9_reaches 1 = .ok (.iload_n 2, 1) := by decide +kernel
theorem dX9_reaches_2 : decode cX9_reaches 2 = .ok (.invokestatic 187, 3) := by decide +kernel
theorem dX9_reaches_5 : decode cX9_reaches 5 = .ok (.aload_n 0, 1) := by decide +kernel
theorem dX9_reaches_6 : decode cX9_reaches 6 = .ok (.getfield 43, 3) := by decide +kernel
theorem dX9_reaches_9 : decode cX9_reaches 9 = .ok (.bipush 8, 2) := by decide +kernel
theorem dX9_reaches_11 : decode cX9_reaches 11 = .ok (.iload_n 3, 1) := by decide +kernel
theorem dX9_reaches_12 : decode cX9_reaches 12 = .ok (.imul, 1) := by decide +kernel
theorem dX9_reaches_13 : decode cX9_reaches 13 = .ok (.aload_n 1, 1) := by decide +kernel
theorem dX9_reaches_14 : decode cX9_reaches 14 = .ok (.iconst 3, 1) := by decide +kernel
theorem dX9_reaches_15 : decode cX9_reaches 15 = .ok (.iload_n 2, 1) := by decide +kernel
theorem dX9_reaches_16 : decode cX9_reaches 16 = .ok (.iadd, 1) := by decide +kernel
theorem dX9_reaches_17 : decode cX9_reaches 17 = .ok (.iaload, 1) := by decide +kernel
theorem dX9_reaches_18 : decode cX9_reaches 18 = .ok (.iadd, 1) := by decide +kernel
theorem dX9_reaches_19 : decode cX9_reaches 19 = .ok (.iaload, 1) := by decide +kernel
theorem dX9_reaches_20 : decode cX9_reaches 20 = .ok (.isub, 1) := by decide +kernel
theorem dX9_reaches_21 : decode cX9_reaches 21 = .ok (.ireturn, 1) := by decide +kernel
set_option maxRecDepth 20000 in
theorem ggX9_height_X9_has : GoodIn wsX9_height wsX9_has := goodIn_r _ [5] (by decide +kernel) (by decide +kernel)
set_option maxRecDepth 20000 in
theorem gX9_height_X9_has : GoodIn wsX9_height (va_wsS RX9 191 yX9_has wsX9_has) := goodIn_app (goodIn_of _ (by decide +kernel)) ggX9_height_X9_has
set_option maxRecDepth 20000 in
theorem ggX9_height_X9_reaches : GoodIn wsX9_height wsX9_reaches := goodIn_r _ [9, 10, 11, 12, 4, 13, 14, 15, 16, 17, 18, 19, 20, 21, 22, 23, 24, 25, 26, 27, 28, 29, 30, 31, 32, 33, 34, 35, 36, 37, 38, 39, 40, 41, 42, 43, 44, 45, 46, 47, 48, 49, 50, 51, 52, 53, 54, 55, 56] (by decide +kernel) (by decide +kernel)
set_option maxRecDepth 20000 in
theorem gX9_height_X9_reaches : GoodIn wsX9_height (wsV RX9 195 RX9 yX9_reaches wsX9_reaches) := goodIn_app (goodIn_of _ (by decide +kernel)) ggX9_height_X9_reaches
theorem dX9_height_0 : decode cX9_height 0 = .ok (.iconst 0, 1) := by decide +kernel
theorem dX9_height_1 : decode cX9_height 1 = .ok (.istore_n 3, 1) := by decide +kernel
theorem dX9_height_2 : decode cX9_height 2 = .ok (.iconst 0, 1) := by decide +kernel
theorem dX9_height_3 : decode cX9_height 3 = .ok (.istore 4, 2) := by decide +kernel
theorem dX9_height_5 : decode cX9_height 5 = .ok (.iload 4, 2) := by decide +kernel
theorem dX9_height_7 : decode cX9_height 7 = .ok (.aload_n 0, 1) := by decide +kernel
theorem dX9_height_8 : decode cX9_height 8 = .ok (.getfield 172, 3) := by decide +kernel
theorem dX9_height_11 : decode cX9_height 11 = .ok (.if_icmp .ge 45, 3) := by decide +kernel
theorem dX9_height_14 : decode cX9_height 14 = .ok (.aload_n 1, 1) := by decide +kernel
theorem dX9_height_15 : decode cX9_height 15 = .ok (.iconst 2, 1) := by decide +kernel
theorem dX9_height_16 : decode cX9_height 16 = .ok (.iaload, 1) := by decide +kernel
theorem dX9_height_17 : decode cX9_height 17 = .ok (.iload 4, 2) := by decide +kernel
theorem dX9_height_19 : decode cX9_height 19 = .ok (.invokestatic 191, 3) := by decide +kernel
theorem dX9_height_22 : decode cX9_height 22 = .ok (.ifCond .ne 26, 3) := by decide +kernel
theorem dX9_height_25 : decode cX9_height 25 = .ok (.aload_n 0, 1) := by decide +kernel
theorem dX9_height_26 : decode cX9_height 26 = .ok (.aload_n 1, 1) := by decide +kernel
theorem dX9_height_27 : decode cX9_height 27 = .ok (.iload 4, 2) := by decide +kernel
theorem dX9_height_29 : decode cX9_height 29 = .ok (.iload_n 2, 1) := by decide +kernel
theorem dX9_height_30 : decode cX9_height 30 = .ok (.invokevirtual 195, 3) := by decide +kernel
theorem dX9_height_33 : decode cX9_height 33 = .ok (.iload_n 3, 1) := by decide +kernel
theorem dX9_height_34 : decode cX9_height 34 = .ok (.if_icmp .le 14, 3) := by decide +kernel
theorem dX9_height_37 : decode cX9_height 37 = .ok (.aload_n 0, 1) := by decide +kernel
theorem dX9_height_38 : decode cX9_height 38 = .ok (.aload_n 1, 1) := by decide +kernel
theorem dX9_height_39 : decode cX9_height 39 = .ok (.iload 4, 2) := by decide +kernel
theorem dX9_height_41 : decode cX9_height 41 = .ok (.iload_n 2, 1) := by decide +kernel
theorem dX9_height_42 : decode cX9_height 42 = .ok (.invokevirtual 195, 3) := by decide +kernel
theorem dX9_height_45 : decode cX9_height 45 = .ok (.goto 4, 3) := by decide +kernel
theorem dX9_height_48 : decode cX9_height 48 = .ok (.iload_n 3, 1) := by decide +kernel
theorem dX9_height_49 : decode cX9_height 49 = .ok (.istore_n 3, 1) := by decide +kernel
theorem dX9_height_50 : decode cX9_height 50 = .ok (.iinc 4 1, 3) := by decide +kernel
theorem dX9_height_53 : decode cX9_height 53 = .ok (.goto (-48), 3) := by decide +kernel
theorem dX9_height_56 : decode cX9_height 56 = .ok (.iload_n 3, 1) := by decide +kernel
theorem dX9_height_57 : decode cX9_height 57 = .ok (.ireturn, 1) := by decide +kernel
set_option maxRecDepth 20000 in
theorem ggX9_borne_X9_height : GoodIn wsX9_borne wsX9_height := goodIn_r _ [6, 1, 7, 8, 5, 9, 10, 11, 12, 13, 14, 15, 16, 17, 18, 19, 20, 21, 22, 23, 24, 25, 26, 27, 28, 29, 30, 31, 32, 33, 34, 35, 36, 37, 38, 39, 40, 41, 42, 43, 44, 45, 46, 47, 48, 49, 50, 51, 52, 53, 54, 55, 56, 57, 58, 59, 60] (by decide +kernel) (by decide +kernel)
set_option maxRecDepth 20000 in
theorem gX9_borne_X9_height : GoodIn wsX9_borne (wsV RX9 199 RX9 yX9_height wsX9_height) := goodIn_app (goodIn_of _ (by decide +kernel)) ggX9_borne_X9_height
set_option maxRecDepth 20000 in
theorem ggX9_borne_X9_has : GoodIn wsX9_borne wsX9_has := goodIn_r _ [9] (by decide +kernel) (by decide +kernel)
set_option maxRecDepth 20000 in
theorem gX9_borne_X9_has : GoodIn wsX9_borne (va_wsS RX9 191 yX9_has wsX9_has) := goodIn_app (goodIn_of _ (by decide +kernel)) ggX9_borne_X9_has
set_option maxRecDepth 20000 in
theorem ggX9_borne_X9_reaches : GoodIn wsX9_borne wsX9_reaches := goodIn_r _ [13, 14, 15, 16, 5, 17, 18, 19, 20, 21, 22, 23, 24, 25, 26, 27, 28, 29, 30, 31, 32, 33, 34, 35, 36, 37, 38, 39, 40, 41, 42, 43, 44, 45, 46, 47, 48, 49, 50, 51, 52, 53, 54, 55, 56, 57, 58, 59, 60] (by decide +kernel) (by decide +kernel)
set_option maxRecDepth 20000 in
theorem gX9_borne_X9_reaches : GoodIn wsX9_borne (wsV RX9 195 RX9 yX9_reaches wsX9_reaches) := goodIn_app (goodIn_of _ (by decide +kernel)) ggX9_borne_X9_reaches
theorem dX9_borne_0 : decode cX9_borne 0 = .ok (.aload_n 0, 1) := by decide +kernel
theorem dX9_borne_1 : decode cX9_borne 1 = .ok (.aload_n 1, 1) := by decide +kernel
theorem dX9_borne_2 : decode cX9_borne 2 = .ok (.iload_n 2, 1) := by decide +kernel
theorem dX9_borne_3 : decode cX9_borne 3 = .ok (.invokevirtual 199, 3) := by decide +kernel
theorem dX9_borne_6 : decode cX9_borne 6 = .ok (.istore_n 3, 1) := by decide +kernel
theorem dX9_borne_7 : decode cX9_borne 7 = .ok (.bipush (-9), 2) := by decide +kernel
theorem dX9_borne_9 : decode cX9_borne 9 = .ok (.istore 4, 2) := by decide +kernel
theorem dX9_borne_11 : decode cX9_borne 11 = .ok (.aload_n 0, 1) := by decide +kernel
theorem dX9_borne_12 : decode cX9_borne 12 = .ok (.getfield 172, 3) := by decide +kernel
theorem dX9_borne_15 : decode cX9_borne 15 = .ok (.iconst 1, 1) := by decide +kernel
theorem dX9_borne_16 : decode cX9_borne 16 = .ok (.isub, 1) := by decide +kernel
theorem dX9_borne_17 : decode cX9_borne 17 = .ok (.istore 5, 2) := by decide +kernel
theorem dX9_borne_19 : decode cX9_borne 19 = .ok (.iload 5, 2) := by decide +kernel
theorem dX9_borne_21 : decode cX9_borne 21 = .ok (.ifCond .lt 45, 3) := by decide +kernel
theorem dX9_borne_24 : decode cX9_borne 24 = .ok (.iload_n 3, 1) := by decide +kernel
theorem dX9_borne_25 : decode cX9_borne 25 = .ok (.ifCond .le 31, 3) := by decide +kernel
theorem dX9_borne_28 : decode cX9_borne 28 = .ok (.aload_n 1, 1) := by decide +kernel
theorem dX9_borne_29 : decode cX9_borne 29 = .ok (.iconst 2, 1) := by decide +kernel
theorem dX9_borne_30 : decode cX9_borne 30 = .ok (.iaload, 1) := by decide +kernel
theorem dX9_borne_31 : decode cX9_borne 31 = .ok (.iload 5, 2) := by decide +kernel
theorem dX9_borne_33 : decode cX9_borne 33 = .ok (.invokestatic 191, 3) := by decide +kernel
theorem dX9_borne_36 : decode cX9_borne 36 = .ok (.ifCond .ne 20, 3) := by decide +kernel
theorem dX9_borne_39 : decode cX9_borne 39 = .ok (.aload_n 0, 1) := by decide +kernel
theorem dX9_borne_40 : decode cX9_borne 40 = .ok (.aload_n 1, 1) := by decide +kernel
theorem dX9_borne_41 : decode cX9_borne 41 = .ok (.iload 5, 2) := by decide +kernel
theorem dX9_borne_43 : decode cX9_borne 43 = .ok (.iload_n 2, 1) := by decide +kernel
theorem dX9_borne_44 : decode cX9_borne 44 = .ok (.invokevirtual 195, 3) := by decide +kernel
theorem dX9_borne_47 : decode cX9_borne 47 = .ok (.iload_n 3, 1) := by decide +kernel
theorem dX9_borne_48 : decode cX9_borne 48 = .ok (.if_icmp .ne 8, 3) := by decide +kernel
theorem dX9_borne_51 : decode cX9_borne 51 = .ok (.iload 5, 2) := by decide +kernel
theorem dX9_borne_53 : decode cX9_borne 53 = .ok (.goto 5, 3) := by decide +kernel
theorem dX9_borne_56 : decode cX9_borne 56 = .ok (.iload 4, 2) := by decide +kernel
theorem dX9_borne_58 : decode cX9_borne 58 = .ok (.istore 4, 2) := by decide +kernel
theorem dX9_borne_60 : decode cX9_borne 60 = .ok (.iinc 5 (-1), 3) := by decide +kernel
theorem dX9_borne_63 : decode cX9_borne 63 = .ok (.goto (-44), 3) := by decide +kernel
theorem dX9_borne_66 : decode cX9_borne 66 = .ok (.iload 4, 2) := by decide +kernel
theorem dX9_borne_68 : decode cX9_borne 68 = .ok (.ireturn, 1) := by decide +kernel
set_option maxRecDepth 20000 in
theorem ggX9_load_X9_borne : GoodIn wsX9_load wsX9_borne := goodIn_r _ [7, 8, 9, 10, 11, 6, 12, 13, 14, 15, 16, 17, 18, 19, 20, 21, 22, 23, 24, 25, 26, 27, 28, 29, 30, 31, 32, 33, 34, 35, 36, 37, 38, 39, 40, 41, 42, 43, 44, 45, 46, 47, 48, 49, 50, 51, 52, 53, 54, 55, 56, 57, 58, 59, 60, 61, 62, 63, 64, 65, 66] (by decide +kernel) (by decide +kernel)
set_option maxRecDepth 20000 in
theorem gX9_load_X9_borne : GoodIn wsX9_load (wsV RX9 202 RX9 yX9_borne wsX9_borne) := goodIn_app (goodIn_of _ (by decide +kernel)) ggX9_load_X9_borne
theorem dX9_load_0 : decode cX9_load 0 = .ok (.iconst 0, 1) := by decide +kernel
theorem dX9_load_1 : decode cX9_load 1 = .ok (.istore_n 3, 1) := by decide +kernel
theorem dX9_load_2 : decode cX9_load 2 = .ok (.iconst 0, 1) := by decide +kernel
theorem dX9_load_3 : decode cX9_load 3 = .ok (.istore 4, 2) := by decide +kernel
theorem dX9_load_5 : decode cX9_load 5 = .ok (.iload 4, 2) := by decide +kernel
theorem dX9_load_7 : decode cX9_load 7 = .ok (.aload_n 0, 1) := by decide +kernel
theorem dX9_load_8 : decode cX9_load 8 = .ok (.getfield 169, 3) := by decide +kernel
theorem dX9_load_11 : decode cX9_load 11 = .ok (.if_icmp .ge 34, 3) := by decide +kernel
theorem dX9_load_14 : decode cX9_load 14 = .ok (.iload_n 3, 1) := by decide +kernel
theorem dX9_load_15 : decode cX9_load 15 = .ok (.aload_n 0, 1) := by decide +kernel
theorem dX9_load_16 : decode cX9_load 16 = .ok (.aload_n 1, 1) := by decide +kernel
theorem dX9_load_17 : decode cX9_load 17 = .ok (.iload 4, 2) := by decide +kernel
theorem dX9_load_19 : decode cX9_load 19 = .ok (.invokevirtual 202, 3) := by decide +kernel
theorem dX9_load_22 : decode cX9_load 22 = .ok (.iload_n 2, 1) := by decide +kernel
theorem dX9_load_23 : decode cX9_load 23 = .ok (.if_icmp .ne 13, 3) := by decide +kernel
theorem dX9_load_26 : decode cX9_load 26 = .ok (.aload_n 0, 1) := by decide +kernel
theorem dX9_load_27 : decode cX9_load 27 = .ok (.getfield 31, 3) := by decide +kernel
theorem dX9_load_30 : decode cX9_load 30 = .ok (.iload 4, 2) := by decide +kernel
theorem dX9_load_32 : decode cX9_load 32 = .ok (.iaload, 1) := by decide +kernel
theorem dX9_load_33 : decode cX9_load 33 = .ok (.goto 4, 3) := by decide +kernel
theorem dX9_load_36 : decode cX9_load 36 = .ok (.iconst 0, 1) := by decide +kernel
theorem dX9_load_37 : decode cX9_load 37 = .ok (.iadd, 1) := by decide +kernel
theorem dX9_load_38 : decode cX9_load 38 = .ok (.istore_n 3, 1) := by decide +kernel
theorem dX9_load_39 : decode cX9_load 39 = .ok (.iinc 4 1, 3) := by decide +kernel
theorem dX9_load_42 : decode cX9_load 42 = .ok (.goto (-37), 3) := by decide +kernel
theorem dX9_load_45 : decode cX9_load 45 = .ok (.iload_n 3, 1) := by decide +kernel
theorem dX9_load_46 : decode cX9_load 46 = .ok (.ireturn, 1) := by decide +kernel
theorem dX9_up_0 : decode cX9_up 0 = .ok (.iload_n 0, 1) := by decide +kernel
theorem dX9_up_1 : decode cX9_up 1 = .ok (.ifCond .le 7, 3) := by decide +kernel
theorem dX9_up_4 : decode cX9_up 4 = .ok (.iconst 1, 1) := by decide +kernel
theorem dX9_up_5 : decode cX9_up 5 = .ok (.goto 4, 3) := by decide +kernel
theorem dX9_up_8 : decode cX9_up 8 = .ok (.iconst 0, 1) := by decide +kernel
theorem dX9_up_9 : decode cX9_up 9 = .ok (.ireturn, 1) := by decide +kernel
set_option maxRecDepth 20000 in
theorem ggX9_ground_X9_height : GoodIn wsX9_ground wsX9_height := goodIn_r _ [6, 7, 8, 9, 5, 10, 11, 12, 13, 14, 15, 16, 17, 18, 22, 23, 24, 25, 26, 27, 28, 29, 30, 31, 32, 33, 34, 35, 36, 37, 38, 39, 40, 41, 42, 43, 44, 45, 46, 47, 48, 49, 50, 51, 52, 53, 54, 55, 56, 57, 58, 59, 60, 61, 62, 63, 64] (by decide +kernel) (by decide +kernel)
set_option maxRecDepth 20000 in
theorem gX9_ground_X9_height : GoodIn wsX9_ground (wsV RX9 199 RX9 yX9_height wsX9_height) := goodIn_app (goodIn_of _ (by decide +kernel)) ggX9_ground_X9_height
set_option maxRecDepth 20000 in
theorem ggX9_ground_X9_up : GoodIn wsX9_ground wsX9_up := goodIn_r _ [21] (by decide +kernel) (by decide +kernel)
set_option maxRecDepth 20000 in
theorem gX9_ground_X9_up : GoodIn wsX9_ground (va_wsS RX9 205 yX9_up wsX9_up) := goodIn_app (goodIn_of _ (by decide +kernel)) ggX9_ground_X9_up
theorem dX9_ground_0 : decode cX9_ground 0 = .ok (.iconst 0, 1) := by decide +kernel
theorem dX9_ground_1 : decode cX9_ground 1 = .ok (.istore_n 2, 1) := by decide +kernel
theorem dX9_ground_2 : decode cX9_ground 2 = .ok (.iconst 0, 1) := by decide +kernel
theorem dX9_ground_3 : decode cX9_ground 3 = .ok (.istore_n 3, 1) := by decide +kernel
theorem dX9_ground_4 : decode cX9_ground 4 = .ok (.iload_n 3, 1) := by decide +kernel
theorem dX9_ground_5 : decode cX9_ground 5 = .ok (.aload_n 0, 1) := by decide +kernel
theorem dX9_ground_6 : decode cX9_ground 6 = .ok (.getfield 169, 3) := by decide +kernel
theorem dX9_ground_9 : decode cX9_ground 9 = .ok (.if_icmp .ge 25, 3) := by decide +kernel
theorem dX9_ground_12 : decode cX9_ground 12 = .ok (.iload_n 2, 1) := by decide +kernel
theorem dX9_ground_13 : decode cX9_ground 13 = .ok (.iconst 1, 1) := by decide +kernel
theorem dX9_ground_14 : decode cX9_ground 14 = .ok (.aload_n 0, 1) := by decide +kernel
theorem dX9_ground_15 : decode cX9_ground 15 = .ok (.aload_n 1, 1) := by decide +kernel
theorem dX9_ground_16 : decode cX9_ground 16 = .ok (.iload_n 3, 1) := by decide +kernel
theorem dX9_ground_17 : decode cX9_ground 17 = .ok (.invokevirtual 199, 3) := by decide +kernel
theorem dX9_ground_20 : decode cX9_ground 20 = .ok (.invokestatic 205, 3) := by decide +kernel
theorem dX9_ground_23 : decode cX9_ground 23 = .ok (.isub, 1) := by decide +kernel
theorem dX9_ground_24 : decode cX9_ground 24 = .ok (.iload_n 3, 1) := by decide +kernel
theorem dX9_ground_25 : decode cX9_ground 25 = .ok (.ishl, 1) := by decide +kernel
theorem dX9_ground_26 : decode cX9_ground 26 = .ok (.ior, 1) := by decide +kernel
theorem dX9_ground_27 : decode cX9_ground 27 = .ok (.istore_n 2, 1) := by decide +kernel
theorem dX9_ground_28 : decode cX9_ground 28 = .ok (.iinc 3 1, 3) := by decide +kernel
theorem dX9_ground_31 : decode cX9_ground 31 = .ok (.goto (-27), 3) := by decide +kernel
theorem dX9_ground_34 : decode cX9_ground 34 = .ok (.iload_n 2, 1) := by decide +kernel
theorem dX9_ground_35 : decode cX9_ground 35 = .ok (.ireturn, 1) := by decide +kernel
set_option maxRecDepth 20000 in
theorem ggX9_isTaut_X9_has : GoodIn wsX9_isTaut wsX9_has := goodIn_r _ [4] (by decide +kernel) (by decide +kernel)
set_option maxRecDepth 20000 in
theorem gX9_isTaut_X9_has : GoodIn wsX9_isTaut (va_wsS RX9 191 yX9_has wsX9_has) := goodIn_app (goodIn_of _ (by decide +kernel)) ggX9_isTaut_X9_has
set_option maxRecDepth 20000 in
theorem ggX9_isTaut_X9_end : GoodIn wsX9_isTaut wsX9_end := goodIn_r _ [7] (by decide +kernel) (by decide +kernel)
set_option maxRecDepth 20000 in
theorem gX9_isTaut_X9_end : GoodIn wsX9_isTaut (va_wsS RX9 187 yX9_end wsX9_end) := goodIn_app (goodIn_of _ (by decide +kernel)) ggX9_isTaut_X9_end
set_option maxRecDepth 20000 in
theorem ggX9_isTaut_X9_height : GoodIn wsX9_isTaut wsX9_height := goodIn_r _ [11, 12, 1, 2, 3, 4, 13, 14, 15, 16, 17, 5, 6, 7, 18, 19, 20, 21, 22, 23, 24, 25, 26, 27, 28, 29, 30, 31, 32, 33, 34, 35, 36, 37, 38, 39, 40, 41, 42, 43, 44, 45, 46, 47, 48, 49, 50, 51, 52, 53, 54, 55, 56, 57, 58, 59, 60] (by decide +kernel) (by decide +kernel)
set_option maxRecDepth 20000 in
theorem gX9_isTaut_X9_height : GoodIn wsX9_isTaut (wsV RX9 199 RX9 yX9_height wsX9_height) := goodIn_app (goodIn_of _ (by decide +kernel)) ggX9_isTaut_X9_height
theorem dX9_isTaut_0 : decode cX9_isTaut 0 = .ok (.aload_n 1, 1) := by decide +kernel
theorem dX9_isTaut_1 : decode cX9_isTaut 1 = .ok (.iconst 2, 1) := by decide +kernel
theorem dX9_isTaut_2 : decode cX9_isTaut 2 = .ok (.iaload, 1) := by decide +kernel
theorem dX9_isTaut_3 : decode cX9_isTaut 3 = .ok (.iload_n 2, 1) := by decide +kernel
theorem dX9_isTaut_4 : decode cX9_isTaut 4 = .ok (.invokestatic 191, 3) := by decide +kernel
theorem dX9_isTaut_7 : decode cX9_isTaut 7 = .ok (.ifCond .ne 33, 3) := by decide +kernel
theorem dX9_isTaut_10 : decode cX9_isTaut 10 = .ok (.aload_n 1, 1) := by decide +kernel
theorem dX9_isTaut_11 : decode cX9_isTaut 11 = .ok (.iload_n 2, 1) := by decide +kernel
theorem dX9_isTaut_12 : decode cX9_isTaut 12 = .ok (.invokestatic 187, 3) := by decide +kernel
theorem dX9_isTaut_15 : decode cX9_isTaut 15 = .ok (.ifCond .le 25, 3) := by decide +kernel
theorem dX9_isTaut_18 : decode cX9_isTaut 18 = .ok (.aload_n 0, 1) := by decide +kernel
theorem dX9_isTaut_19 : decode cX9_isTaut 19 = .ok (.aload_n 1, 1) := by decide +kernel
theorem dX9_isTaut_20 : decode cX9_isTaut 20 = .ok (.aload_n 1, 1) := by decide +kernel
theorem dX9_isTaut_21 : decode cX9_isTaut 21 = .ok (.iconst 3, 1) := by decide +kernel
theorem dX9_isTaut_22 : decode cX9_isTaut 22 = .ok (.iload_n 2, 1) := by decide +kernel
theorem dX9_isTaut_23 : decode cX9_isTaut 23 = .ok (.iadd, 1) := by decide +kernel
theorem dX9_isTaut_24 : decode cX9_isTaut 24 = .ok (.iaload, 1) := by decide +kernel
theorem dX9_isTaut_25 : decode cX9_isTaut 25 = .ok (.invokevirtual 199, 3) := by decide +kernel
theorem dX9_isTaut_28 : decode cX9_isTaut 28 = .ok (.aload_n 1, 1) := by decide +kernel
theorem dX9_isTaut_29 : decode cX9_isTaut 29 = .ok (.iload_n 2, 1) := by decide +kernel
theorem dX9_isTaut_30 : decode cX9_isTaut 30 = .ok (.invokestatic 187, 3) := by decide +kernel
theorem dX9_isTaut_33 : decode cX9_isTaut 33 = .ok (.if_icmp .ne 7, 3) := by decide +kernel
theorem dX9_isTaut_36 : decode cX9_isTaut 36 = .ok (.iconst 1, 1) := by decide +kernel
theorem dX9_isTaut_37 : decode cX9_isTaut 37 = .ok (.goto 4, 3) := by decide +kernel
theorem dX9_isTaut_40 : decode cX9_isTaut 40 = .ok (.iconst 0, 1) := by decide +kernel
theorem dX9_isTaut_41 : decode cX9_isTaut 41 = .ok (.ireturn, 1) := by decide +kernel
set_option maxRecDepth 20000 in
theorem ggX9_limb_X9_isLimb : GoodIn wsX9_limb wsX9_isLimb := goodIn_r _ [9, 10, 11, 12, 8, 13, 34, 35, 36, 37, 38, 39, 40, 41, 42, 43, 44, 45, 46, 47, 48, 49, 50, 51, 52, 53, 54, 55, 56, 57, 58, 59, 60, 61, 62, 63, 64, 65, 66, 67, 68, 69, 70, 71, 72, 73, 74, 75, 76] (by decide +kernel) (by decide +kernel)
set_option maxRecDepth 20000 in
theorem gX9_limb_X9_isLimb : GoodIn wsX9_limb (wsV RX9 208 RX9 yX9_isLimb wsX9_isLimb) := goodIn_app (goodIn_of _ (by decide +kernel)) ggX9_limb_X9_isLimb
set_option maxRecDepth 20000 in
theorem ggX9_limb_X9_height : GoodIn wsX9_limb wsX9_height := goodIn_r _ [17, 18, 19, 20, 8, 21, 22, 23, 24, 25, 26, 27, 28, 29, 34, 35, 36, 37, 38, 39, 40, 41, 42, 43, 44, 45, 46, 47, 48, 49, 50, 51, 52, 53, 54, 55, 56, 57, 58, 59, 60, 61, 62, 63, 64, 65, 66, 67, 68, 69, 70, 71, 72, 73, 74, 75, 76] (by decide +kernel) (by decide +kernel)
set_option maxRecDepth 20000 in
theorem gX9_limb_X9_height : GoodIn wsX9_limb (wsV RX9 199 RX9 yX9_height wsX9_height) := goodIn_app (goodIn_of _ (by decide +kernel)) ggX9_limb_X9_height
set_option maxRecDepth 20000 in
theorem ggX9_limb_X9_borne : GoodIn wsX9_limb wsX9_borne := goodIn_r _ [33, 18, 14, 15, 16, 8, 17, 19, 20, 21, 22, 23, 24, 25, 26, 27, 28, 29, 34, 35, 36, 37, 38, 39, 40, 41, 42, 43, 44, 45, 46, 47, 48, 49, 50, 51, 52, 53, 54, 55, 56, 57, 58, 59, 60, 61, 62, 63, 64, 65, 66, 67, 68, 69, 70, 71, 72, 73, 74, 75, 76] (by decide +kernel) (by decide +kernel)
set_option maxRecDepth 20000 in
theorem gX9_limb_X9_borne : GoodIn wsX9_limb (wsV RX9 202 RX9 yX9_borne wsX9_borne) := goodIn_app (goodIn_of _ (by decide +kernel)) ggX9_limb_X9_borne
theorem dX9_limb_0 : decode cX9_limb 0 = .ok (.aload_n 0, 1) := by decide +kernel
theorem dX9_limb_1 : decode cX9_limb 1 = .ok (.iload_n 1, 1) := by decide +kernel
theorem dX9_limb_2 : decode cX9_limb 2 = .ok (.invokevirtual 208, 3) := by decide +kernel
theorem dX9_limb_5 : decode cX9_limb 5 = .ok (.ifCond .ne 5, 3) := by decide +kernel
theorem dX9_limb_8 : decode cX9_limb 8 = .ok (.iconst (-1), 1) := by decide +kernel
theorem dX9_limb_9 : decode cX9_limb 9 = .ok (.ireturn, 1) := by decide +kernel
theorem dX9_limb_10 : decode cX9_limb 10 = .ok (.iload_n 2, 1) := by decide +kernel
theorem dX9_limb_11 : decode cX9_limb 11 = .ok (.tableswitch 74 0 4 #[33, 40, 47, 54, 64], 33) := by decide +kernel
theorem dX9_limb_44 : decode cX9_limb 44 = .ok (.aload_n 0, 1) := by decide +kernel
theorem dX9_limb_45 : decode cX9_limb 45 = .ok (.getfield 25, 3) := by decide +kernel
theorem dX9_limb_48 : decode cX9_limb 48 = .ok (.iload_n 1, 1) := by decide +kernel
theorem dX9_limb_49 : decode cX9_limb 49 = .ok (.iaload, 1) := by decide +kernel
theorem dX9_limb_50 : decode cX9_limb 50 = .ok (.ireturn, 1) := by decide +kernel
theorem dX9_limb_51 : decode cX9_limb 51 = .ok (.aload_n 0, 1) := by decide +kernel
theorem dX9_limb_52 : decode cX9_limb 52 = .ok (.getfield 28, 3) := by decide +kernel
theorem dX9_limb_55 : decode cX9_limb 55 = .ok (.iload_n 1, 1) := by decide +kernel
theorem dX9_limb_56 : decode cX9_limb 56 = .ok (.iaload, 1) := by decide +kernel
theorem dX9_limb_57 : decode cX9_limb 57 = .ok (.ireturn, 1) := by decide +kernel
theorem dX9_limb_58 : decode cX9_limb 58 = .ok (.aload_n 0, 1) := by decide +kernel
theorem dX9_limb_59 : decode cX9_limb 59 = .ok (.getfield 31, 3) := by decide +kernel
theorem dX9_limb_62 : decode cX9_limb 62 = .ok (.iload_n 1, 1) := by decide +kernel
theorem dX9_limb_63 : decode cX9_limb 63 = .ok (.iaload, 1) := by decide +kernel
theorem dX9_limb_64 : decode cX9_limb 64 = .ok (.ireturn, 1) := by decide +kernel
theorem dX9_limb_65 : decode cX9_limb 65 = .ok (.aload_n 0, 1) := by decide +kernel
theorem dX9_limb_66 : decode cX9_limb 66 = .ok (.aload_n 0, 1) := by decide +kernel
theorem dX9_limb_67 : decode cX9_limb 67 = .ok (.getfield 46, 3) := by decide +kernel
theorem dX9_limb_70 : decode cX9_limb 70 = .ok (.iload_n 1, 1) := by decide +kernel
theorem dX9_limb_71 : decode cX9_limb 71 = .ok (.invokevirtual 199, 3) := by decide +kernel
theorem dX9_limb_74 : decode cX9_limb 74 = .ok (.ireturn, 1) := by decide +kernel
theorem dX9_limb_75 : decode cX9_limb 75 = .ok (.aload_n 0, 1) := by decide +kernel
theorem dX9_limb_76 : decode cX9_limb 76 = .ok (.aload_n 0, 1) := by decide +kernel
theorem dX9_limb_77 : decode cX9_limb 77 = .ok (.getfield 46, 3) := by decide +kernel
theorem dX9_limb_80 : decode cX9_limb 80 = .ok (.iload_n 1, 1) := by decide +kernel
theorem dX9_limb_81 : decode cX9_limb 81 = .ok (.invokevirtual 202, 3) := by decide +kernel
theorem dX9_limb_84 : decode cX9_limb 84 = .ok (.ireturn, 1) := by decide +kernel
theorem dX9_limb_85 : decode cX9_limb 85 = .ok (.iconst (-1), 1) := by decide +kernel
theorem dX9_limb_86 : decode cX9_limb 86 = .ok (.ireturn, 1) := by decide +kernel
set_option maxRecDepth 20000 in
theorem ggX9_string_X9_isString : GoodIn wsX9_string wsX9_isString := goodIn_r _ [8, 9, 10, 11, 7, 12, 42, 43, 44, 45, 46, 47, 48, 49, 50, 51, 52, 53, 54, 55, 56, 57, 58, 59, 60, 61, 62, 63, 64, 65, 66, 67, 68, 69, 70, 71, 72, 73, 74, 75, 76, 77, 78, 79, 80, 81, 82, 83, 84] (by decide +kernel) (by decide +kernel)
set_option maxRecDepth 20000 in
theorem gX9_string_X9_isString : GoodIn wsX9_string (wsV RX9 211 RX9 yX9_isString wsX9_isString) := goodIn_app (goodIn_of _ (by decide +kernel)) ggX9_string_X9_isString
set_option maxRecDepth 20000 in
theorem ggX9_string_X9_end : GoodIn wsX9_string wsX9_end := goodIn_r _ [15] (by decide +kernel) (by decide +kernel)
set_option maxRecDepth 20000 in
theorem gX9_string_X9_end : GoodIn wsX9_string (va_wsS RX9 187 yX9_end wsX9_end) := goodIn_app (goodIn_of _ (by decide +kernel)) ggX9_string_X9_end
set_option maxRecDepth 20000 in
theorem ggX9_string_X9_isTaut : GoodIn wsX9_string wsX9_isTaut := goodIn_r _ [19, 20, 21, 7, 22, 13, 14, 15, 23, 24, 25, 26, 9, 27, 28, 29, 30, 31, 42, 43, 44, 45, 46, 47, 48, 49, 50, 51, 52, 53, 54, 55, 56, 57, 58, 59, 60, 61, 62, 63, 64, 65, 66, 67, 68, 69, 70, 71, 72, 73, 74, 75, 76, 77, 78, 79, 80, 81, 82, 83, 84] (by decide +kernel) (by decide +kernel)
set_option maxRecDepth 20000 in
theorem gX9_string_X9_isTaut : GoodIn wsX9_string (wsV RX9 215 RX9 yX9_isTaut wsX9_isTaut) := goodIn_app (goodIn_of _ (by decide +kernel)) ggX9_string_X9_isTaut
set_option maxRecDepth 20000 in
theorem ggX9_string_X9_load : GoodIn wsX9_string wsX9_load := goodIn_r _ [35, 36, 37, 38, 39, 40, 7, 41, 9, 23, 24, 25, 26, 20, 21, 22, 27, 28, 29, 30, 31, 13, 14, 15, 42, 43, 44, 45, 46, 47, 48, 49, 50, 51, 52, 53, 54, 55, 56, 57, 58, 59, 60, 61, 62, 63, 64, 65, 66, 67, 68, 69, 70, 71, 72, 73, 74, 75, 76, 77, 78, 79, 80, 81, 82, 83, 84] (by decide +kernel) (by decide +kernel)
set_option maxRecDepth 20000 in
theorem gX9_string_X9_load : GoodIn wsX9_string (wsV RX9 219 RX9 yX9_load wsX9_load) := goodIn_app (goodIn_of _ (by decide +kernel)) ggX9_string_X9_load
theorem dX9_string_0 : decode cX9_string 0 = .ok (.aload_n 0, 1) := by decide +kernel
theorem dX9_string_1 : decode cX9_string 1 = .ok (.iload_n 1, 1) := by decide +kernel
theorem dX9_string_2 : decode cX9_string 2 = .ok (.invokevirtual 211, 3) := by decide +kernel
theorem dX9_string_5 : decode cX9_string 5 = .ok (.ifCond .ne 6, 3) := by decide +kernel
theorem dX9_string_8 : decode cX9_string 8 = .ok (.ldc 214, 2) := by decide +kernel
theorem dX9_string_10 : decode cX9_string 10 = .ok (.ireturn, 1) := by decide +kernel
theorem dX9_string_11 : decode cX9_string 11 = .ok (.iload_n 2, 1) := by decide +kernel
theorem dX9_string_12 : decode cX9_string 12 = .ok (.tableswitch 132 0 7 #[48, 57, 67, 77, 84, 93, 111, 121], 48) := by decide +kernel
theorem dX9_string_60 : decode cX9_string 60 = .ok (.aload_n 0, 1) := by decide +kernel
theorem dX9_string_61 : decode cX9_string 61 = .ok (.getfield 46, 3) := by decide +kernel
theorem dX9_string_64 : decode cX9_string 64 = .ok (.iconst 3, 1) := by decide +kernel
theorem dX9_string_65 : decode cX9_string 65 = .ok (.iload_n 1, 1) := by decide +kernel
theorem dX9_string_66 : decode cX9_string 66 = .ok (.iadd, 1) := by decide +kernel
theorem dX9_string_67 : decode cX9_string 67 = .ok (.iaload, 1) := by decide +kernel
theorem dX9_string_68 : decode cX9_string 68 = .ok (.ireturn, 1) := by decide +kernel
theorem dX9_string_69 : decode cX9_string 69 = .ok (.aload_n 0, 1) := by decide +kernel
theorem dX9_string_70 : decode cX9_string 70 = .ok (.getfield 46, 3) := by decide +kernel
theorem dX9_string_73 : decode cX9_string 73 = .ok (.bipush 9, 2) := by decide +kernel
theorem dX9_string_75 : decode cX9_string 75 = .ok (.iload_n 1, 1) := by decide +kernel
theorem dX9_string_76 : decode cX9_string 76 = .ok (.iadd, 1) := by decide +kernel
theorem dX9_string_77 : decode cX9_string 77 = .ok (.iaload, 1) := by decide +kernel
theorem dX9_string_78 : decode cX9_string 78 = .ok (.ireturn, 1) := by decide +kernel
theorem dX9_string_79 : decode cX9_string 79 = .ok (.aload_n 0, 1) := by decide +kernel
theorem dX9_string_80 : decode cX9_string 80 = .ok (.getfield 46, 3) := by decide +kernel
theorem dX9_string_83 : decode cX9_string 83 = .ok (.bipush 15, 2) := by decide +kernel
theorem dX9_string_85 : decode cX9_string 85 = .ok (.iload_n 1, 1) := by decide +kernel
theorem dX9_string_86 : decode cX9_string 86 = .ok (.iadd, 1) := by decide +kernel
theorem dX9_string_87 : decode cX9_string 87 = .ok (.iaload, 1) := by decide +kernel
theorem dX9_string_88 : decode cX9_string 88 = .ok (.ireturn, 1) := by decide +kernel
theorem dX9_string_89 : decode cX9_string 89 = .ok (.aload_n 0, 1) := by decide +kernel
theorem dX9_string_90 : decode cX9_string 90 = .ok (.getfield 34, 3) := by decide +kernel
theorem dX9_string_93 : decode cX9_string 93 = .ok (.iload_n 1, 1) := by decide +kernel
theorem dX9_string_94 : decode cX9_string 94 = .ok (.iaload, 1) := by decide +kernel
theorem dX9_string_95 : decode cX9_string 95 = .ok (.ireturn, 1) := by decide +kernel
theorem dX9_string_96 : decode cX9_string 96 = .ok (.aload_n 0, 1) := by decide +kernel
theorem dX9_string_97 : decode cX9_string 97 = .ok (.getfield 46, 3) := by decide +kernel
theorem dX9_string_100 : decode cX9_string 100 = .ok (.iload_n 1, 1) := by decide +kernel
theorem dX9_string_101 : decode cX9_string 101 = .ok (.invokestatic 187, 3) := by decide +kernel
theorem dX9_string_104 : decode cX9_string 104 = .ok (.ireturn, 1) := by decide +kernel
theorem dX9_string_105 : decode cX9_string 105 = .ok (.aload_n 0, 1) := by decide +kernel
theorem dX9_string_106 : decode cX9_string 106 = .ok (.aload_n 0, 1) := by decide +kernel
theorem dX9_string_107 : decode cX9_string 107 = .ok (.getfield 46, 3) := by decide +kernel
theorem dX9_string_110 : decode cX9_string 110 = .ok (.iload_n 1, 1) := by decide +kernel
theorem dX9_string_111 : decode cX9_string 111 = .ok (.invokevirtual 215, 3) := by decide +kernel
theorem dX9_string_114 : decode cX9_string 114 = .ok (.ifCond .eq 7, 3) := by decide +kernel
theorem dX9_string_117 : decode cX9_string 117 = .ok (.iconst 1, 1) := by decide +kernel
theorem dX9_string_118 : decode cX9_string 118 = .ok (.goto 4, 3) := by decide +kernel
theorem dX9_string_121 : decode cX9_string 121 = .ok (.iconst 0, 1) := by decide +kernel
theorem dX9_string_122 : decode cX9_string 122 = .ok (.ireturn, 1) := by decide +kernel
theorem dX9_string_123 : decode cX9_string 123 = .ok (.aload_n 0, 1) := by decide +kernel
theorem dX9_string_124 : decode cX9_string 124 = .ok (.aload_n 0, 1) := by decide +kernel
theorem dX9_string_125 : decode cX9_string 125 = .ok (.getfield 46, 3) := by decide +kernel
theorem dX9_string_128 : decode cX9_string 128 = .ok (.iload_n 1, 1) := by decide +kernel
theorem dX9_string_129 : decode cX9_string 129 = .ok (.invokevirtual 219, 3) := by decide +kernel
theorem dX9_string_132 : decode cX9_string 132 = .ok (.ireturn, 1) := by decide +kernel
theorem dX9_string_133 : decode cX9_string 133 = .ok (.aload_n 0, 1) := by decide +kernel
theorem dX9_string_134 : decode cX9_string 134 = .ok (.getfield 46, 3) := by decide +kernel
theorem dX9_string_137 : decode cX9_string 137 = .ok (.iconst 2, 1) := by decide +kernel
theorem dX9_string_138 : decode cX9_string 138 = .ok (.iaload, 1) := by decide +kernel
theorem dX9_string_139 : decode cX9_string 139 = .ok (.iload_n 1, 1) := by decide +kernel
theorem dX9_string_140 : decode cX9_string 140 = .ok (.ishr, 1) := by decide +kernel
theorem dX9_string_141 : decode cX9_string 141 = .ok (.iconst 1, 1) := by decide +kernel
theorem dX9_string_142 : decode cX9_string 142 = .ok (.iand, 1) := by decide +kernel
theorem dX9_string_143 : decode cX9_string 143 = .ok (.ireturn, 1) := by decide +kernel
theorem dX9_string_144 : decode cX9_string 144 = .ok (.ldc 214, 2) := by decide +kernel
theorem dX9_string_146 : decode cX9_string 146 = .ok (.ireturn, 1) := by decide +kernel
set_option maxRecDepth 20000 in
theorem ggX9_beat_X9_isBeat : GoodIn wsX9_beat wsX9_isBeat := goodIn_r _ [8, 9, 10, 11, 7, 12, 13, 14, 15, 16, 17, 18, 19, 20, 21, 22, 23, 24, 25, 26, 27, 28, 29, 30, 31, 32, 33, 34, 35, 36, 37, 38, 39, 40, 41, 42, 43, 44, 45, 46, 47, 48, 49, 50, 51, 52, 53, 54, 55] (by decide +kernel) (by decide +kernel)
set_option maxRecDepth 20000 in
theorem gX9_beat_X9_isBeat : GoodIn wsX9_beat (wsV RX9 222 RX9 yX9_isBeat wsX9_isBeat) := goodIn_app (goodIn_of _ (by decide +kernel)) ggX9_beat_X9_isBeat
set_option maxRecDepth 20000 in
theorem ggX9_beat_X9_in : GoodIn wsX9_beat wsX9_in := goodIn_r _ [12] (by decide +kernel) (by decide +kernel)
set_option maxRecDepth 20000 in
theorem gX9_beat_X9_in : GoodIn wsX9_beat (va_wsS RX9 80 yX9_in wsX9_in) := goodIn_app (goodIn_of _ (by decide +kernel)) ggX9_beat_X9_in
theorem dX9_beat_0 : decode cX9_beat 0 = .ok (.aload_n 0, 1) := by decide +kernel
theorem dX9_beat_1 : decode cX9_beat 1 = .ok (.iload_n 1, 1) := by decide +kernel
theorem dX9_beat_2 : decode cX9_beat 2 = .ok (.invokevirtual 222, 3) := by decide +kernel
theorem dX9_beat_5 : decode cX9_beat 5 = .ok (.ifCond .eq 12, 3) := by decide +kernel
theorem dX9_beat_8 : decode cX9_beat 8 = .ok (.iload_n 2, 1) := by decide +kernel
theorem dX9_beat_9 : decode cX9_beat 9 = .ok (.iconst 0, 1) := by decide +kernel
theorem dX9_beat_10 : decode cX9_beat 10 = .ok (.iconst 1, 1) := by decide +kernel
theorem dX9_beat_11 : decode cX9_beat 11 = .ok (.invokestatic 80, 3) := by decide +kernel
theorem dX9_beat_14 : decode cX9_beat 14 = .ok (.ifCond .ne 8, 3) := by decide +kernel
theorem dX9_beat_17 : decode cX9_beat 17 = .ok (.ldc 214, 2) := by decide +kernel
theorem dX9_beat_19 : decode cX9_beat 19 = .ok (.goto 22, 3) := by decide +kernel
theorem dX9_beat_22 : decode cX9_beat 22 = .ok (.iload_n 2, 1) := by decide +kernel
theorem dX9_beat_23 : decode cX9_beat 23 = .ok (.ifCond .ne 12, 3) := by decide +kernel
theorem dX9_beat_26 : decode cX9_beat 26 = .ok (.aload_n 0, 1) := by decide +kernel
theorem dX9_beat_27 : decode cX9_beat 27 = .ok (.getfield 37, 3) := by decide +kernel
theorem dX9_beat_30 : decode cX9_beat 30 = .ok (.iload_n 1, 1) := by decide +kernel
theorem dX9_beat_31 : decode cX9_beat 31 = .ok (.iaload, 1) := by decide +kernel
theorem dX9_beat_32 : decode cX9_beat 32 = .ok (.goto 9, 3) := by decide +kernel
theorem dX9_beat_35 : decode cX9_beat 35 = .ok (.aload_n 0, 1) := by decide +kernel
theorem dX9_beat_36 : decode cX9_beat 36 = .ok (.getfield 40, 3) := by decide +kernel
theorem dX9_beat_39 : decode cX9_beat 39 = .ok (.iload_n 1, 1) := by decide +kernel
theorem dX9_beat_40 : decode cX9_beat 40 = .ok (.iaload, 1) := by decide +kernel
theorem dX9_beat_41 : decode cX9_beat 41 = .ok (.ireturn, 1) := by decide +kernel
set_option maxRecDepth 20000 in
theorem ggX9_far_X9_isLimb : GoodIn wsX9_far wsX9_isLimb := goodIn_r _ [6, 7, 8, 9, 5, 10, 11, 12, 13, 14, 15, 16, 17, 18, 19, 20, 21, 22, 23, 24, 25, 26, 27, 28, 29, 30, 31, 32, 33, 34, 35, 36, 37, 38, 39, 40, 41, 42, 43, 44, 45, 46, 47, 48, 49, 50, 51, 52, 53] (by decide +kernel) (by decide +kernel)
set_option maxRecDepth 20000 in
theorem gX9_far_X9_isLimb : GoodIn wsX9_far (wsV RX9 208 RX9 yX9_isLimb wsX9_isLimb) := goodIn_app (goodIn_of _ (by decide +kernel)) ggX9_far_X9_isLimb
theorem dX9_far_0 : decode cX9_far 0 = .ok (.aload_n 0, 1) := by decide +kernel
theorem dX9_far_1 : decode cX9_far 1 = .ok (.iload_n 1, 1) := by decide +kernel
theorem dX9_far_2 : decode cX9_far 2 = .ok (.invokevirtual 208, 3) := by decide +kernel
theorem dX9_far_5 : decode cX9_far 5 = .ok (.ifCond .eq 25, 3) := by decide +kernel
theorem dX9_far_8 : decode cX9_far 8 = .ok (.aload_n 0, 1) := by decide +kernel
theorem dX9_far_9 : decode cX9_far 9 = .ok (.iload_n 2, 1) := by decide +kernel
theorem dX9_far_10 : decode cX9_far 10 = .ok (.invokevirtual 208, 3) := by decide +kernel
theorem dX9_far_13 : decode cX9_far 13 = .ok (.ifCond .eq 17, 3) := by decide +kernel
theorem dX9_far_16 : decode cX9_far 16 = .ok (.aload_n 0, 1) := by decide +kernel
theorem dX9_far_17 : decode cX9_far 17 = .ok (.getfield 43, 3) := by decide +kernel
theorem dX9_far_20 : decode cX9_far 20 = .ok (.bipush 8, 2) := by decide +kernel
theorem dX9_far_22 : decode cX9_far 22 = .ok (.iload_n 1, 1) := by decide +kernel
theorem dX9_far_23 : decode cX9_far 23 = .ok (.imul, 1) := by decide +kernel
theorem dX9_far_24 : decode cX9_far 24 = .ok (.iload_n 2, 1) := by decide +kernel
theorem dX9_far_25 : decode cX9_far 25 = .ok (.iadd, 1) := by decide +kernel
theorem dX9_far_26 : decode cX9_far 26 = .ok (.iaload, 1) := by decide +kernel
theorem dX9_far_27 : decode cX9_far 27 = .ok (.goto 4, 3) := by decide +kernel
theorem dX9_far_30 : decode cX9_far 30 = .ok (.iconst (-1), 1) := by decide +kernel
theorem dX9_far_31 : decode cX9_far 31 = .ok (.ireturn, 1) := by decide +kernel
theorem dX9_remember_0 : decode cX9_remember 0 = .ok (.iconst 0, 1) := by decide +kernel
theorem dX9_remember_1 : decode cX9_remember 1 = .ok (.istore_n 1, 1) := by decide +kernel
theorem dX9_remember_2 : decode cX9_remember 2 = .ok (.iload_n 1, 1) := by decide +kernel
theorem dX9_remember_3 : decode cX9_remember 3 = .ok (.bipush 21, 2) := by decide +kernel
theorem dX9_remember_5 : decode cX9_remember 5 = .ok (.if_icmp .ge 29, 3) := by decide +kernel
theorem dX9_remember_8 : decode cX9_remember 8 = .ok (.aload_n 0, 1) := by decide +kernel
theorem dX9_remember_9 : decode cX9_remember 9 = .ok (.getfield 52, 3) := by decide +kernel
theorem dX9_remember_12 : decode cX9_remember 12 = .ok (.bipush 21, 2) := by decide +kernel
theorem dX9_remember_14 : decode cX9_remember 14 = .ok (.aload_n 0, 1) := by decide +kernel
theorem dX9_remember_15 : decode cX9_remember 15 = .ok (.getfield 225, 3) := by decide +kernel
theorem dX9_remember_18 : decode cX9_remember 18 = .ok (.imul, 1) := by decide +kernel
theorem dX9_remember_19 : decode cX9_remember 19 = .ok (.iload_n 1, 1) := by decide +kernel
theorem dX9_remember_20 : decode cX9_remember 20 = .ok (.iadd, 1) := by decide +kernel
theorem dX9_remember_21 : decode cX9_remember 21 = .ok (.aload_n 0, 1) := by decide +kernel
theorem dX9_remember_22 : decode cX9_remember 22 = .ok (.getfield 46, 3) := by decide +kernel
theorem dX9_remember_25 : decode cX9_remember 25 = .ok (.iload_n 1, 1) := by decide +kernel
theorem dX9_remember_26 : decode cX9_remember 26 = .ok (.iaload, 1) := by decide +kernel
theorem dX9_remember_27 : decode cX9_remember 27 = .ok (.iastore, 1) := by decide +kernel
theorem dX9_remember_28 : decode cX9_remember 28 = .ok (.iinc 1 1, 3) := by decide +kernel
theorem dX9_remember_31 : decode cX9_remember 31 = .ok (.goto (-29), 3) := by decide +kernel
theorem dX9_remember_34 : decode cX9_remember 34 = .ok (.aload_n 0, 1) := by decide +kernel
theorem dX9_remember_35 : decode cX9_remember 35 = .ok (.aload_n 0, 1) := by decide +kernel
theorem dX9_remember_36 : decode cX9_remember 36 = .ok (.getfield 225, 3) := by decide +kernel
theorem dX9_remember_39 : decode cX9_remember 39 = .ok (.iconst 1, 1) := by decide +kernel
theorem dX9_remember_40 : decode cX9_remember 40 = .ok (.iadd, 1) := by decide +kernel
theorem dX9_remember_41 : decode cX9_remember 41 = .ok (.bipush 10, 2) := by decide +kernel
theorem dX9_remember_43 : decode cX9_remember 43 = .ok (.irem, 1) := by decide +kernel
theorem dX9_remember_44 : decode cX9_remember 44 = .ok (.putfield 225, 3) := by decide +kernel
theorem dX9_remember_47 : decode cX9_remember 47 = .ok (.aload_n 0, 1) := by decide +kernel
theorem dX9_remember_48 : decode cX9_remember 48 = .ok (.dup, 1) := by decide +kernel
theorem dX9_remember_49 : decode cX9_remember 49 = .ok (.getfield 181, 3) := by decide +kernel
theorem dX9_remember_52 : decode cX9_remember 52 = .ok (.aload_n 0, 1) := by decide +kernel
theorem dX9_remember_53 : decode cX9_remember 53 = .ok (.getfield 181, 3) := by decide +kernel
theorem dX9_remember_56 : decode cX9_remember 56 = .ok (.bipush 10, 2) := by decide +kernel
theorem dX9_remember_58 : decode cX9_remember 58 = .ok (.if_icmp .ge 7, 3) := by decide +kernel
theorem dX9_remember_61 : decode cX9_remember 61 = .ok (.iconst 1, 1) := by decide +kernel
theorem dX9_remember_62 : decode cX9_remember 62 = .ok (.goto 4, 3) := by decide +kernel
theorem dX9_remember_65 : decode cX9_remember 65 = .ok (.iconst 0, 1) := by decide +kernel
theorem dX9_remember_66 : decode cX9_remember 66 = .ok (.iadd, 1) := by decide +kernel
theorem dX9_remember_67 : decode cX9_remember 67 = .ok (.putfield 181, 3) := by decide +kernel
theorem dX9_remember_70 : decode cX9_remember 70 = .ok (.return_, 1) := by decide +kernel
set_option maxRecDepth 20000 in
theorem ggX9_lifts_X9_in : GoodIn wsX9_lifts wsX9_in := goodIn_r _ [5] (by decide +kernel) (by decide +kernel)
set_option maxRecDepth 20000 in
theorem gX9_lifts_X9_in : GoodIn wsX9_lifts (va_wsS RX9 80 yX9_in wsX9_in) := goodIn_app (goodIn_of _ (by decide +kernel)) ggX9_lifts_X9_in
set_option maxRecDepth 20000 in
theorem ggX9_lifts_X9_remember : GoodIn wsX9_lifts wsX9_remember := goodIn_r _ [9, 10, 11, 1, 12, 13, 14, 15, 16, 17, 18, 19, 20, 21, 22, 23, 24, 25, 26, 27, 28, 29, 30, 31, 32, 33, 34, 35, 36, 37, 38, 39, 40, 41, 42, 43, 44, 45, 46, 47, 48, 49, 50, 51, 52, 53, 54, 55] (by decide +kernel) (by decide +kernel)
set_option maxRecDepth 20000 in
theorem gX9_lifts_X9_remember : GoodIn wsX9_lifts (wsV RX9 228 RX9 yX9_remember wsX9_remember) := goodIn_app (goodIn_of _ (by decide +kernel)) ggX9_lifts_X9_remember
theorem dX9_lifts_0 : decode cX9_lifts 0 = .ok (.iload_n 1, 1) := by decide +kernel
theorem dX9_lifts_1 : decode cX9_lifts 1 = .ok (.bipush (-5), 2) := by decide +kernel
theorem dX9_lifts_3 : decode cX9_lifts 3 = .ok (.iconst 5, 1) := by decide +kernel
theorem dX9_lifts_4 : decode cX9_lifts 4 = .ok (.invokestatic 80, 3) := by decide +kernel
theorem dX9_lifts_7 : decode cX9_lifts 7 = .ok (.ifCond .eq 7, 3) := by decide +kernel
theorem dX9_lifts_10 : decode cX9_lifts 10 = .ok (.iload_n 1, 1) := by decide +kernel
theorem dX9_lifts_11 : decode cX9_lifts 11 = .ok (.ifCond .ne 5, 3) := by decide +kernel
theorem dX9_lifts_14 : decode cX9_lifts 14 = .ok (.iconst (-1), 1) := by decide +kernel
theorem dX9_lifts_15 : decode cX9_lifts 15 = .ok (.ireturn, 1) := by decide +kernel
theorem dX9_lifts_16 : decode cX9_lifts 16 = .ok (.aload_n 0, 1) := by decide +kernel
theorem dX9_lifts_17 : decode cX9_lifts 17 = .ok (.getfield 46, 3) := by decide +kernel
theorem dX9_lifts_20 : decode cX9_lifts 20 = .ok (.iconst 0, 1) := by decide +kernel
theorem dX9_lifts_21 : decode cX9_lifts 21 = .ok (.iaload, 1) := by decide +kernel
theorem dX9_lifts_22 : decode cX9_lifts 22 = .ok (.iload_n 1, 1) := by decide +kernel
theorem dX9_lifts_23 : decode cX9_lifts 23 = .ok (.iadd, 1) := by decide +kernel
theorem dX9_lifts_24 : decode cX9_lifts 24 = .ok (.iconst 0, 1) := by decide +kernel
theorem dX9_lifts_25 : decode cX9_lifts 25 = .ok (.bipush 40, 2) := by decide +kernel
theorem dX9_lifts_27 : decode cX9_lifts 27 = .ok (.invokestatic 80, 3) := by decide +kernel
theorem dX9_lifts_30 : decode cX9_lifts 30 = .ok (.ifCond .ne 6, 3) := by decide +kernel
theorem dX9_lifts_33 : decode cX9_lifts 33 = .ok (.bipush (-2), 2) := by decide +kernel
theorem dX9_lifts_35 : decode cX9_lifts 35 = .ok (.ireturn, 1) := by decide +kernel
theorem dX9_lifts_36 : decode cX9_lifts 36 = .ok (.aload_n 0, 1) := by decide +kernel
theorem dX9_lifts_37 : decode cX9_lifts 37 = .ok (.invokevirtual 228, 3) := by decide +kernel
theorem dX9_lifts_40 : decode cX9_lifts 40 = .ok (.aload_n 0, 1) := by decide +kernel
theorem dX9_lifts_41 : decode cX9_lifts 41 = .ok (.getfield 46, 3) := by decide +kernel
theorem dX9_lifts_44 : decode cX9_lifts 44 = .ok (.iconst 0, 1) := by decide +kernel
theorem dX9_lifts_45 : decode cX9_lifts 45 = .ok (.dup2, 1) := by decide +kernel
theorem dX9_lifts_46 : decode cX9_lifts 46 = .ok (.iaload, 1) := by decide +kernel
theorem dX9_lifts_47 : decode cX9_lifts 47 = .ok (.iload_n 1, 1) := by decide +kernel
theorem dX9_lifts_48 : decode cX9_lifts 48 = .ok (.iadd, 1) := by decide +kernel
theorem dX9_lifts_49 : decode cX9_lifts 49 = .ok (.iastore, 1) := by decide +kernel
theorem dX9_lifts_50 : decode cX9_lifts 50 = .ok (.aload_n 0, 1) := by decide +kernel
theorem dX9_lifts_51 : decode cX9_lifts 51 = .ok (.getfield 46, 3) := by decide +kernel
theorem dX9_lifts_54 : decode cX9_lifts 54 = .ok (.iconst 0, 1) := by decide +kernel
theorem dX9_lifts_55 : decode cX9_lifts 55 = .ok (.iaload, 1) := by decide +kernel
theorem dX9_lifts_56 : decode cX9_lifts 56 = .ok (.ireturn, 1) := by decide +kernel
set_option maxRecDepth 20000 in
theorem ggX9_tilts_X9_in : GoodIn wsX9_tilts wsX9_in := goodIn_r _ [6] (by decide +kernel) (by decide +kernel)
set_option maxRecDepth 20000 in
theorem gX9_tilts_X9_in : GoodIn wsX9_tilts (va_wsS RX9 80 yX9_in wsX9_in) := goodIn_app (goodIn_of _ (by decide +kernel)) ggX9_tilts_X9_in
set_option maxRecDepth 20000 in
theorem ggX9_tilts_X9_remember : GoodIn wsX9_tilts wsX9_remember := goodIn_r _ [10, 11, 12, 1, 13, 14, 15, 16, 17, 18, 19, 20, 21, 22, 23, 24, 25, 26, 27, 28, 29, 30, 31, 32, 33, 34, 35, 36, 37, 38, 39, 40, 41, 42, 43, 44, 45, 46, 47, 48, 49, 50, 51, 52, 53, 54, 55, 56] (by decide +kernel) (by decide +kernel)
set_option maxRecDepth 20000 in
theorem gX9_tilts_X9_remember : GoodIn wsX9_tilts (wsV RX9 228 RX9 yX9_remember wsX9_remember) := goodIn_app (goodIn_of _ (by decide +kernel)) ggX9_tilts_X9_remember
theorem dX9_tilts_0 : decode cX9_tilts 0 = .ok (.iload_n 1, 1) := by decide +kernel
theorem dX9_tilts_1 : decode cX9_tilts 1 = .ok (.bipush (-3), 2) := by decide +kernel
theorem dX9_tilts_3 : decode cX9_tilts 3 = .ok (.iconst 3, 1) := by decide +kernel
theorem dX9_tilts_4 : decode cX9_tilts 4 = .ok (.invokestatic 80, 3) := by decide +kernel
theorem dX9_tilts_7 : decode cX9_tilts 7 = .ok (.ifCond .eq 13, 3) := by decide +kernel
theorem dX9_tilts_10 : decode cX9_tilts 10 = .ok (.iload_n 1, 1) := by decide +kernel
theorem dX9_tilts_11 : decode cX9_tilts 11 = .ok (.aload_n 0, 1) := by decide +kernel
theorem dX9_tilts_12 : decode cX9_tilts 12 = .ok (.getfield 46, 3) := by decide +kernel
theorem dX9_tilts_15 : decode cX9_tilts 15 = .ok (.iconst 1, 1) := by decide +kernel
theorem dX9_tilts_16 : decode cX9_tilts 16 = .ok (.iaload, 1) := by decide +kernel
theorem dX9_tilts_17 : decode cX9_tilts 17 = .ok (.if_icmp .ne 6, 3) := by decide +kernel
theorem dX9_tilts_20 : decode cX9_tilts 20 = .ok (.ldc 214, 2) := by decide +kernel
theorem dX9_tilts_22 : decode cX9_tilts 22 = .ok (.ireturn, 1) := by decide +kernel
theorem dX9_tilts_23 : decode cX9_tilts 23 = .ok (.aload_n 0, 1) := by decide +kernel
theorem dX9_tilts_24 : decode cX9_tilts 24 = .ok (.invokevirtual 228, 3) := by decide +kernel
theorem dX9_tilts_27 : decode cX9_tilts 27 = .ok (.aload_n 0, 1) := by decide +kernel
theorem dX9_tilts_28 : decode cX9_tilts 28 = .ok (.getfield 46, 3) := by decide +kernel
theorem dX9_tilts_31 : decode cX9_tilts 31 = .ok (.iconst 1, 1) := by decide +kernel
theorem dX9_tilts_32 : decode cX9_tilts 32 = .ok (.iaload, 1) := by decide +kernel
theorem dX9_tilts_33 : decode cX9_tilts 33 = .ok (.istore_n 2, 1) := by decide +kernel
theorem dX9_tilts_34 : decode cX9_tilts 34 = .ok (.aload_n 0, 1) := by decide +kernel
theorem dX9_tilts_35 : decode cX9_tilts 35 = .ok (.getfield 46, 3) := by decide +kernel
theorem dX9_tilts_38 : decode cX9_tilts 38 = .ok (.iconst 1, 1) := by decide +kernel
theorem dX9_tilts_39 : decode cX9_tilts 39 = .ok (.iload_n 1, 1) := by decide +kernel
theorem dX9_tilts_40 : decode cX9_tilts 40 = .ok (.iastore, 1) := by decide +kernel
theorem dX9_tilts_41 : decode cX9_tilts 41 = .ok (.iload_n 2, 1) := by decide +kernel
theorem dX9_tilts_42 : decode cX9_tilts 42 = .ok (.ireturn, 1) := by decide +kernel
set_option maxRecDepth 20000 in
theorem ggX9_cuts_X9_isString : GoodIn wsX9_cuts wsX9_isString := goodIn_r _ [6, 7, 8, 9, 5, 10, 44, 45, 46, 47, 48, 49, 50, 51, 52, 53, 54, 55, 56, 57, 58, 59, 60, 61, 62, 63, 64, 65, 66, 67, 68, 69, 70, 71, 72, 73, 74, 75, 76, 77, 78, 79, 80, 81, 82, 83, 84, 85, 86] (by decide +kernel) (by decide +kernel)
set_option maxRecDepth 20000 in
theorem gX9_cuts_X9_isString : GoodIn wsX9_cuts (wsV RX9 211 RX9 yX9_isString wsX9_isString) := goodIn_app (goodIn_of _ (by decide +kernel)) ggX9_cuts_X9_isString
set_option maxRecDepth 20000 in
theorem ggX9_cuts_X9_has : GoodIn wsX9_cuts wsX9_has := goodIn_r _ [13] (by decide +kernel) (by decide +kernel)
set_option maxRecDepth 20000 in
theorem gX9_cuts_X9_has : GoodIn wsX9_cuts (va_wsS RX9 191 yX9_has wsX9_has) := goodIn_app (goodIn_of _ (by decide +kernel)) ggX9_cuts_X9_has
set_option maxRecDepth 20000 in
theorem ggX9_cuts_X9_remember : GoodIn wsX9_cuts wsX9_remember := goodIn_r _ [17, 18, 19, 1, 20, 44, 45, 46, 47, 48, 49, 50, 51, 52, 53, 54, 55, 56, 57, 58, 59, 60, 61, 62, 63, 64, 65, 66, 67, 68, 69, 70, 71, 72, 73, 74, 75, 76, 77, 78, 79, 80, 81, 82, 83, 84, 85, 86] (by decide +kernel) (by decide +kernel)
set_option maxRecDepth 20000 in
theorem gX9_cuts_X9_remember : GoodIn wsX9_cuts (wsV RX9 228 RX9 yX9_remember wsX9_remember) := goodIn_app (goodIn_of _ (by decide +kernel)) ggX9_cuts_X9_remember
set_option maxRecDepth 20000 in
theorem ggX9_cuts_X9_ground : GoodIn wsX9_cuts wsX9_ground := goodIn_r _ [24, 25, 26, 27, 28, 5, 29, 7, 11, 12, 13, 30, 31, 32, 33, 34, 35, 36, 37, 38, 39, 40, 44, 45, 46, 47, 48, 49, 50, 51, 52, 53, 54, 55, 56, 57, 58, 59, 60, 61, 62, 63, 64, 65, 66, 67, 68, 69, 70, 71, 72, 73, 74, 75, 76, 77, 78, 79, 80, 81, 82, 83, 84, 85, 86] (by decide +kernel) (by decide +kernel)
set_option maxRecDepth 20000 in
theorem gX9_cuts_X9_ground : GoodIn wsX9_cuts (wsV RX9 231 RX9 yX9_ground wsX9_ground) := goodIn_app (goodIn_of _ (by decide +kernel)) ggX9_cuts_X9_ground
set_option maxRecDepth 20000 in
theorem ggX9_cuts_X9_bits : GoodIn wsX9_cuts wsX9_bits := goodIn_r _ [43] (by decide +kernel) (by decide +kernel)
set_option maxRecDepth 20000 in
theorem gX9_cuts_X9_bits : GoodIn wsX9_cuts (va_wsS RX9 235 yX9_bits wsX9_bits) := goodIn_app (goodIn_of _ (by decide +kernel)) ggX9_cuts_X9_bits
theorem dX9_cuts_0 : decode cX9_cuts 0 = .ok (.aload_n 0, 1) := by decide +kernel
theorem dX9_cuts_1 : decode cX9_cuts 1 = .ok (.iload_n 1, 1) := by decide +kernel
theorem dX9_cuts_2 : decode cX9_cuts 2 = .ok (.invokevirtual 211, 3) := by decide +kernel
theorem dX9_cuts_5 : decode cX9_cuts 5 = .ok (.ifCond .ne 5, 3) := by decide +kernel
theorem dX9_cuts_8 : decode cX9_cuts 8 = .ok (.iconst (-1), 1) := by decide +kernel
theorem dX9_cuts_9 : decode cX9_cuts 9 = .ok (.ireturn, 1) := by decide +kernel
theorem dX9_cuts_10 : decode cX9_cuts 10 = .ok (.aload_n 0, 1) := by decide +kernel
theorem dX9_cuts_11 : decode cX9_cuts 11 = .ok (.getfield 46, 3) := by decide +kernel
theorem dX9_cuts_14 : decode cX9_cuts 14 = .ok (.iconst 2, 1) := by decide +kernel
theorem dX9_cuts_15 : decode cX9_cuts 15 = .ok (.iaload, 1) := by decide +kernel
theorem dX9_cuts_16 : decode cX9_cuts 16 = .ok (.iload_n 1, 1) := by decide +kernel
theorem dX9_cuts_17 : decode cX9_cuts 17 = .ok (.invokestatic 191, 3) := by decide +kernel
theorem dX9_cuts_20 : decode cX9_cuts 20 = .ok (.ifCond .eq 6, 3) := by decide +kernel
theorem dX9_cuts_23 : decode cX9_cuts 23 = .ok (.bipush (-2), 2) := by decide +kernel
theorem dX9_cuts_25 : decode cX9_cuts 25 = .ok (.ireturn, 1) := by decide +kernel
theorem dX9_cuts_26 : decode cX9_cuts 26 = .ok (.aload_n 0, 1) := by decide +kernel
theorem dX9_cuts_27 : decode cX9_cuts 27 = .ok (.invokevirtual 228, 3) := by decide +kernel
theorem dX9_cuts_30 : decode cX9_cuts 30 = .ok (.aload_n 0, 1) := by decide +kernel
theorem dX9_cuts_31 : decode cX9_cuts 31 = .ok (.getfield 46, 3) := by decide +kernel
theorem dX9_cuts_34 : decode cX9_cuts 34 = .ok (.iconst 2, 1) := by decide +kernel
theorem dX9_cuts_35 : decode cX9_cuts 35 = .ok (.dup2, 1) := by decide +kernel
theorem dX9_cuts_36 : decode cX9_cuts 36 = .ok (.iaload, 1) := by decide +kernel
theorem dX9_cuts_37 : decode cX9_cuts 37 = .ok (.iconst 1, 1) := by decide +kernel
theorem dX9_cuts_38 : decode cX9_cuts 38 = .ok (.iload_n 1, 1) := by decide +kernel
theorem dX9_cuts_39 : decode cX9_cuts 39 = .ok (.ishl, 1) := by decide +kernel
theorem dX9_cuts_40 : decode cX9_cuts 40 = .ok (.ior, 1) := by decide +kernel
theorem dX9_cuts_41 : decode cX9_cuts 41 = .ok (.iastore, 1) := by decide +kernel
theorem dX9_cuts_42 : decode cX9_cuts 42 = .ok (.aload_n 0, 1) := by decide +kernel
theorem dX9_cuts_43 : decode cX9_cuts 43 = .ok (.aload_n 0, 1) := by decide +kernel
theorem dX9_cuts_44 : decode cX9_cuts 44 = .ok (.getfield 46, 3) := by decide +kernel
theorem dX9_cuts_47 : decode cX9_cuts 47 = .ok (.invokevirtual 231, 3) := by decide +kernel
theorem dX9_cuts_50 : decode cX9_cuts 50 = .ok (.invokestatic 235, 3) := by decide +kernel
theorem dX9_cuts_53 : decode cX9_cuts 53 = .ok (.ireturn, 1) := by decide +kernel
set_option maxRecDepth 20000 in
theorem ggX9_ties_X9_isString : GoodIn wsX9_ties wsX9_isString := goodIn_r _ [6, 7, 8, 9, 5, 10, 48, 49, 50, 51, 52, 53, 54, 55, 56, 57, 58, 59, 60, 61, 62, 63, 64, 65, 66, 67, 68, 69, 70, 71, 72, 73, 74, 75, 76, 77, 78, 79, 80, 81, 82, 83, 84, 85, 86, 87, 88, 89, 90] (by decide +kernel) (by decide +kernel)
set_option maxRecDepth 20000 in
theorem gX9_ties_X9_isString : GoodIn wsX9_ties (wsV RX9 211 RX9 yX9_isString wsX9_isString) := goodIn_app (goodIn_of _ (by decide +kernel)) ggX9_ties_X9_isString
set_option maxRecDepth 20000 in
theorem ggX9_ties_X9_isLimb : GoodIn wsX9_ties wsX9_isLimb := goodIn_r _ [14, 15, 8, 9, 5, 10, 48, 49, 50, 51, 52, 53, 54, 55, 56, 57, 58, 59, 60, 61, 62, 63, 64, 65, 66, 67, 68, 69, 70, 71, 72, 73, 74, 75, 76, 77, 78, 79, 80, 81, 82, 83, 84, 85, 86, 87, 88, 89, 90] (by decide +kernel) (by decide +kernel)
set_option maxRecDepth 20000 in
theorem gX9_ties_X9_isLimb : GoodIn wsX9_ties (wsV RX9 208 RX9 yX9_isLimb wsX9_isLimb) := goodIn_app (goodIn_of _ (by decide +kernel)) ggX9_ties_X9_isLimb
set_option maxRecDepth 20000 in
theorem ggX9_ties_X9_in : GoodIn wsX9_ties wsX9_in := goodIn_r _ [10] (by decide +kernel) (by decide +kernel)
set_option maxRecDepth 20000 in
theorem gX9_ties_X9_in : GoodIn wsX9_ties (va_wsS RX9 80 yX9_in wsX9_in) := goodIn_app (goodIn_of _ (by decide +kernel)) ggX9_ties_X9_in
