theorem dL_cell_0 : decode cL_cell 0 = .ok (.iload_n 1, 1) := by decide +kernel
theorem dL_cell_1 : decode cL_cell 1 = .ok (.aload_n 0, 1) := by decide +kernel
theorem dL_cell_2 : decode cL_cell 2 = .ok (.arraylength, 1) := by decide +kernel
theorem dL_cell_3 : decode cL_cell 3 = .ok (.if_icmp .ge 9, 3) := by decide +kernel
theorem dL_cell_6 : decode cL_cell 6 = .ok (.aload_n 0, 1) := by decide +kernel
theorem dL_cell_7 : decode cL_cell 7 = .ok (.iload_n 1, 1) := by decide +kernel
theorem dL_cell_8 : decode cL_cell 8 = .ok (.iaload, 1) := by decide +kernel
theorem dL_cell_9 : decode cL_cell 9 = .ok (.goto 11, 3) := by decide +kernel
theorem dL_cell_12 : decode cL_cell 12 = .ok (.ldc 7, 2) := by decide +kernel
theorem dL_cell_14 : decode cL_cell 14 = .ok (.iload_n 1, 1) := by decide +kernel
theorem dL_cell_15 : decode cL_cell 15 = .ok (.imul, 1) := by decide +kernel
theorem dL_cell_16 : decode cL_cell 16 = .ok (.sipush 443, 3) := by decide +kernel
theorem dL_cell_19 : decode cL_cell 19 = .ok (.iadd, 1) := by decide +kernel
theorem dL_cell_20 : decode cL_cell 20 = .ok (.ldc 8, 2) := by decide +kernel
theorem dL_cell_22 : decode cL_cell 22 = .ok (.iand, 1) := by decide +kernel
theorem dL_cell_23 : decode cL_cell 23 = .ok (.ireturn, 1) := by decide +kernel
theorem dL_low_0 : decode cL_low 0 = .ok (.iload_n 0, 1) := by decide +kernel
theorem dL_low_1 : decode cL_low 1 = .ok (.iconst 2, 1) := by decide +kernel
theorem dL_low_2 : decode cL_low 2 = .ok (.if_icmp .eq 9, 3) := by decide +kernel
theorem dL_low_5 : decode cL_low 5 = .ok (.iload_n 0, 1) := by decide +kernel
theorem dL_low_6 : decode cL_low 6 = .ok (.bipush 7, 2) := by decide +kernel
theorem dL_low_8 : decode cL_low 8 = .ok (.if_icmp .ne 7, 3) := by decide +kernel
theorem dL_low_11 : decode cL_low 11 = .ok (.iconst 0, 1) := by decide +kernel
theorem dL_low_12 : decode cL_low 12 = .ok (.goto 4, 3) := by decide +kernel
theorem dL_low_15 : decode cL_low 15 = .ok (.iconst 1, 1) := by decide +kernel
theorem dL_low_16 : decode cL_low 16 = .ok (.ireturn, 1) := by decide +kernel
theorem dL_high_0 : decode cL_high 0 = .ok (.iload_n 0, 1) := by decide +kernel
theorem dL_high_1 : decode cL_high 1 = .ok (.ifCond .ne 8, 3) := by decide +kernel
theorem dL_high_4 : decode cL_high 4 = .ok (.bipush 90, 2) := by decide +kernel
theorem dL_high_6 : decode cL_high 6 = .ok (.goto 58, 3) := by decide +kernel
theorem dL_high_9 : decode cL_high 9 = .ok (.iload_n 0, 1) := by decide +kernel
theorem dL_high_10 : decode cL_high 10 = .ok (.iconst 1, 1) := by decide +kernel
theorem dL_high_11 : decode cL_high 11 = .ok (.if_icmp .ne 8, 3) := by decide +kernel
theorem dL_high_14 : decode cL_high 14 = .ok (.bipush 99, 2) := by decide +kernel
theorem dL_high_16 : decode cL_high 16 = .ok (.goto 48, 3) := by decide +kernel
theorem dL_high_19 : decode cL_high 19 = .ok (.iload_n 0, 1) := by decide +kernel
theorem dL_high_20 : decode cL_high 20 = .ok (.iconst 2, 1) := by decide +kernel
theorem dL_high_21 : decode cL_high 21 = .ok (.if_icmp .eq 8, 3) := by decide +kernel
theorem dL_high_24 : decode cL_high 24 = .ok (.iload_n 0, 1) := by decide +kernel
theorem dL_high_25 : decode cL_high 25 = .ok (.iconst 4, 1) := by decide +kernel
theorem dL_high_26 : decode cL_high 26 = .ok (.if_icmp .ne 8, 3) := by decide +kernel
theorem dL_high_29 : decode cL_high 29 = .ok (.bipush 50, 2) := by decide +kernel
theorem dL_high_31 : decode cL_high 31 = .ok (.goto 33, 3) := by decide +kernel
theorem dL_high_34 : decode cL_high 34 = .ok (.iload_n 0, 1) := by decide +kernel
theorem dL_high_35 : decode cL_high 35 = .ok (.iconst 3, 1) := by decide +kernel
theorem dL_high_36 : decode cL_high 36 = .ok (.if_icmp .eq 8, 3) := by decide +kernel
theorem dL_high_39 : decode cL_high 39 = .ok (.iload_n 0, 1) := by decide +kernel
theorem dL_high_40 : decode cL_high 40 = .ok (.iconst 5, 1) := by decide +kernel
theorem dL_high_41 : decode cL_high 41 = .ok (.if_icmp .ne 9, 3) := by decide +kernel
theorem dL_high_44 : decode cL_high 44 = .ok (.sipush 200, 3) := by decide +kernel
theorem dL_high_47 : decode cL_high 47 = .ok (.goto 17, 3) := by decide +kernel
theorem dL_high_50 : decode cL_high 50 = .ok (.iload_n 0, 1) := by decide +kernel
theorem dL_high_51 : decode cL_high 51 = .ok (.bipush 6, 2) := by decide +kernel
theorem dL_high_53 : decode cL_high 53 = .ok (.if_icmp .ne 9, 3) := by decide +kernel
theorem dL_high_56 : decode cL_high 56 = .ok (.sipush 500, 3) := by decide +kernel
theorem dL_high_59 : decode cL_high 59 = .ok (.goto 5, 3) := by decide +kernel
theorem dL_high_62 : decode cL_high 62 = .ok (.bipush 20, 2) := by decide +kernel
theorem dL_high_64 : decode cL_high 64 = .ok (.ireturn, 1) := by decide +kernel
theorem dL_makes_0 : decode cL_makes 0 = .ok (.aload_n 1, 1) := by decide +kernel
theorem dL_makes_1 : decode cL_makes 1 = .ok (.bipush 14, 2) := by decide +kernel
theorem dL_makes_3 : decode cL_makes 3 = .ok (.iload_n 2, 1) := by decide +kernel
theorem dL_makes_4 : decode cL_makes 4 = .ok (.imul, 1) := by decide +kernel
theorem dL_makes_5 : decode cL_makes 5 = .ok (.iload_n 3, 1) := by decide +kernel
theorem dL_makes_6 : decode cL_makes 6 = .ok (.iastore, 1) := by decide +kernel
theorem dL_makes_7 : decode cL_makes 7 = .ok (.aload_n 1, 1) := by decide +kernel
theorem dL_makes_8 : decode cL_makes 8 = .ok (.bipush 14, 2) := by decide +kernel
theorem dL_makes_10 : decode cL_makes 10 = .ok (.iload_n 2, 1) := by decide +kernel
theorem dL_makes_11 : decode cL_makes 11 = .ok (.imul, 1) := by decide +kernel
theorem dL_makes_12 : decode cL_makes 12 = .ok (.iconst 1, 1) := by decide +kernel
theorem dL_makes_13 : decode cL_makes 13 = .ok (.iadd, 1) := by decide +kernel
theorem dL_makes_14 : decode cL_makes 14 = .ok (.iconst 0, 1) := by decide +kernel
theorem dL_makes_15 : decode cL_makes 15 = .ok (.iastore, 1) := by decide +kernel
theorem dL_makes_16 : decode cL_makes 16 = .ok (.aload_n 0, 1) := by decide +kernel
theorem dL_makes_17 : decode cL_makes 17 = .ok (.iload_n 3, 1) := by decide +kernel
theorem dL_makes_18 : decode cL_makes 18 = .ok (.invokevirtual 9, 3) := by decide +kernel
theorem dL_makes_21 : decode cL_makes 21 = .ok (.iload_n 2, 1) := by decide +kernel
theorem dL_makes_22 : decode cL_makes 22 = .ok (.if_icmp .ne 28, 3) := by decide +kernel
theorem dL_makes_25 : decode cL_makes 25 = .ok (.aload_n 0, 1) := by decide +kernel
theorem dL_makes_26 : decode cL_makes 26 = .ok (.iload_n 2, 1) := by decide +kernel
theorem dL_makes_27 : decode cL_makes 27 = .ok (.iconst 0, 1) := by decide +kernel
theorem dL_makes_28 : decode cL_makes 28 = .ok (.invokevirtual 15, 3) := by decide +kernel
theorem dL_makes_31 : decode cL_makes 31 = .ok (.iload_n 3, 1) := by decide +kernel
theorem dL_makes_32 : decode cL_makes 32 = .ok (.if_icmp .ne 18, 3) := by decide +kernel
theorem dL_makes_35 : decode cL_makes 35 = .ok (.aload_n 0, 1) := by decide +kernel
theorem dL_makes_36 : decode cL_makes 36 = .ok (.iload_n 2, 1) := by decide +kernel
theorem dL_makes_37 : decode cL_makes 37 = .ok (.iconst 2, 1) := by decide +kernel
theorem dL_makes_38 : decode cL_makes 38 = .ok (.invokevirtual 15, 3) := by decide +kernel
theorem dL_makes_41 : decode cL_makes 41 = .ok (.ldc 19, 2) := by decide +kernel
theorem dL_makes_43 : decode cL_makes 43 = .ok (.if_icmp .ne 7, 3) := by decide +kernel
theorem dL_makes_46 : decode cL_makes 46 = .ok (.iconst 1, 1) := by decide +kernel
theorem dL_makes_47 : decode cL_makes 47 = .ok (.goto 4, 3) := by decide +kernel
theorem dL_makes_50 : decode cL_makes 50 = .ok (.iconst 0, 1) := by decide +kernel
theorem dL_makes_51 : decode cL_makes 51 = .ok (.ireturn, 1) := by decide +kernel
theorem dL_splices_0 : decode cL_splices 0 = .ok (.aload_n 1, 1) := by decide +kernel
theorem dL_splices_1 : decode cL_splices 1 = .ok (.bipush 14, 2) := by decide +kernel
theorem dL_splices_3 : decode cL_splices 3 = .ok (.iload_n 2, 1) := by decide +kernel
theorem dL_splices_4 : decode cL_splices 4 = .ok (.imul, 1) := by decide +kernel
theorem dL_splices_5 : decode cL_splices 5 = .ok (.iconst 1, 1) := by decide +kernel
theorem dL_splices_6 : decode cL_splices 6 = .ok (.iadd, 1) := by decide +kernel
theorem dL_splices_7 : decode cL_splices 7 = .ok (.iaload, 1) := by decide +kernel
theorem dL_splices_8 : decode cL_splices 8 = .ok (.istore 5, 2) := by decide +kernel
theorem dL_splices_10 : decode cL_splices 10 = .ok (.iconst 0, 1) := by decide +kernel
theorem dL_splices_11 : decode cL_splices 11 = .ok (.istore 6, 2) := by decide +kernel
theorem dL_splices_13 : decode cL_splices 13 = .ok (.iload 6, 2) := by decide +kernel
theorem dL_splices_15 : decode cL_splices 15 = .ok (.iload 5, 2) := by decide +kernel
theorem dL_splices_17 : decode cL_splices 17 = .ok (.if_icmp .ge 26, 3) := by decide +kernel
theorem dL_splices_20 : decode cL_splices 20 = .ok (.aload_n 1, 1) := by decide +kernel
theorem dL_splices_21 : decode cL_splices 21 = .ok (.bipush 14, 2) := by decide +kernel
theorem dL_splices_23 : decode cL_splices 23 = .ok (.iload_n 2, 1) := by decide +kernel
theorem dL_splices_24 : decode cL_splices 24 = .ok (.imul, 1) := by decide +kernel
theorem dL_splices_25 : decode cL_splices 25 = .ok (.iconst 2, 1) := by decide +kernel
theorem dL_splices_26 : decode cL_splices 26 = .ok (.iadd, 1) := by decide +kernel
theorem dL_splices_27 : decode cL_splices 27 = .ok (.iconst 2, 1) := by decide +kernel
theorem dL_splices_28 : decode cL_splices 28 = .ok (.iload 6, 2) := by decide +kernel
theorem dL_splices_30 : decode cL_splices 30 = .ok (.imul, 1) := by decide +kernel
theorem dL_splices_31 : decode cL_splices 31 = .ok (.iadd, 1) := by decide +kernel
theorem dL_splices_32 : decode cL_splices 32 = .ok (.iaload, 1) := by decide +kernel
theorem dL_splices_33 : decode cL_splices 33 = .ok (.iload_n 3, 1) := by decide +kernel
theorem dL_splices_34 : decode cL_splices 34 = .ok (.if_icmp .ge 9, 3) := by decide +kernel
theorem dL_splices_37 : decode cL_splices 37 = .ok (.iinc 6 1, 3) := by decide +kernel
theorem dL_splices_40 : decode cL_splices 40 = .ok (.goto (-27), 3) := by decide +kernel
theorem dL_splices_43 : decode cL_splices 43 = .ok (.iload 6, 2) := by decide +kernel
theorem dL_splices_45 : decode cL_splices 45 = .ok (.iload 5, 2) := by decide +kernel
theorem dL_splices_47 : decode cL_splices 47 = .ok (.if_icmp .ge 24, 3) := by decide +kernel
theorem dL_splices_50 : decode cL_splices 50 = .ok (.aload_n 1, 1) := by decide +kernel
theorem dL_splices_51 : decode cL_splices 51 = .ok (.bipush 14, 2) := by decide +kernel
theorem dL_splices_53 : decode cL_splices 53 = .ok (.iload_n 2, 1) := by decide +kernel
theorem dL_splices_54 : decode cL_splices 54 = .ok (.imul, 1) := by decide +kernel
theorem dL_splices_55 : decode cL_splices 55 = .ok (.iconst 2, 1) := by decide +kernel
theorem dL_splices_56 : decode cL_splices 56 = .ok (.iadd, 1) := by decide +kernel
theorem dL_splices_57 : decode cL_splices 57 = .ok (.iconst 2, 1) := by decide +kernel
theorem dL_splices_58 : decode cL_splices 58 = .ok (.iload 6, 2) := by decide +kernel
theorem dL_splices_60 : decode cL_splices 60 = .ok (.imul, 1) := by decide +kernel
theorem dL_splices_61 : decode cL_splices 61 = .ok (.iadd, 1) := by decide +kernel
theorem dL_splices_62 : decode cL_splices 62 = .ok (.iaload, 1) := by decide +kernel
theorem dL_splices_63 : decode cL_splices 63 = .ok (.iload_n 3, 1) := by decide +kernel
theorem dL_splices_64 : decode cL_splices 64 = .ok (.if_icmp .ne 7, 3) := by decide +kernel
theorem dL_splices_67 : decode cL_splices 67 = .ok (.iconst 1, 1) := by decide +kernel
theorem dL_splices_68 : decode cL_splices 68 = .ok (.goto 4, 3) := by decide +kernel
theorem dL_splices_71 : decode cL_splices 71 = .ok (.iconst 0, 1) := by decide +kernel
theorem dL_splices_72 : decode cL_splices 72 = .ok (.istore 7, 2) := by decide +kernel
theorem dL_splices_74 : decode cL_splices 74 = .ok (.iload 7, 2) := by decide +kernel
theorem dL_splices_76 : decode cL_splices 76 = .ok (.ifCond .ne 29, 3) := by decide +kernel
theorem dL_splices_79 : decode cL_splices 79 = .ok (.iload 5, 2) := by decide +kernel
theorem dL_splices_81 : decode cL_splices 81 = .ok (.bipush 6, 2) := by decide +kernel
theorem dL_splices_83 : decode cL_splices 83 = .ok (.if_icmp .ne 22, 3) := by decide +kernel
theorem dL_splices_86 : decode cL_splices 86 = .ok (.aload_n 0, 1) := by decide +kernel
theorem dL_splices_87 : decode cL_splices 87 = .ok (.iload_n 2, 1) := by decide +kernel
theorem dL_splices_88 : decode cL_splices 88 = .ok (.iload_n 3, 1) := by decide +kernel
theorem dL_splices_89 : decode cL_splices 89 = .ok (.iload 4, 2) := by decide +kernel
theorem dL_splices_91 : decode cL_splices 91 = .ok (.invokevirtual 20, 3) := by decide +kernel
theorem dL_splices_94 : decode cL_splices 94 = .ok (.ldc 24, 2) := by decide +kernel
theorem dL_splices_96 : decode cL_splices 96 = .ok (.if_icmp .ne 7, 3) := by decide +kernel
theorem dL_splices_99 : decode cL_splices 99 = .ok (.iconst 1, 1) := by decide +kernel
theorem dL_splices_100 : decode cL_splices 100 = .ok (.goto 4, 3) := by decide +kernel
theorem dL_splices_103 : decode cL_splices 103 = .ok (.iconst 0, 1) := by decide +kernel
theorem dL_splices_104 : decode cL_splices 104 = .ok (.ireturn, 1) := by decide +kernel
theorem dL_splices_105 : decode cL_splices 105 = .ok (.bipush 14, 2) := by decide +kernel
theorem dL_splices_107 : decode cL_splices 107 = .ok (.iload_n 2, 1) := by decide +kernel
theorem dL_splices_108 : decode cL_splices 108 = .ok (.imul, 1) := by decide +kernel
theorem dL_splices_109 : decode cL_splices 109 = .ok (.iconst 1, 1) := by decide +kernel
theorem dL_splices_110 : decode cL_splices 110 = .ok (.iadd, 1) := by decide +kernel
theorem dL_splices_111 : decode cL_splices 111 = .ok (.iconst 2, 1) := by decide +kernel
theorem dL_splices_112 : decode cL_splices 112 = .ok (.iload 5, 2) := by decide +kernel
theorem dL_splices_114 : decode cL_splices 114 = .ok (.imul, 1) := by decide +kernel
theorem dL_splices_115 : decode cL_splices 115 = .ok (.iadd, 1) := by decide +kernel
theorem dL_splices_116 : decode cL_splices 116 = .ok (.istore 8, 2) := by decide +kernel
theorem dL_splices_118 : decode cL_splices 118 = .ok (.iload 8, 2) := by decide +kernel
theorem dL_splices_120 : decode cL_splices 120 = .ok (.bipush 14, 2) := by decide +kernel
theorem dL_splices_122 : decode cL_splices 122 = .ok (.iload_n 2, 1) := by decide +kernel
theorem dL_splices_123 : decode cL_splices 123 = .ok (.imul, 1) := by decide +kernel
theorem dL_splices_124 : decode cL_splices 124 = .ok (.iconst 2, 1) := by decide +kernel
theorem dL_splices_125 : decode cL_splices 125 = .ok (.iadd, 1) := by decide +kernel
theorem dL_splices_126 : decode cL_splices 126 = .ok (.iconst 2, 1) := by decide +kernel
theorem dL_splices_127 : decode cL_splices 127 = .ok (.iload 6, 2) := by decide +kernel
theorem dL_splices_129 : decode cL_splices 129 = .ok (.imul, 1) := by decide +kernel
theorem dL_splices_130 : decode cL_splices 130 = .ok (.iadd, 1) := by decide +kernel
theorem dL_splices_131 : decode cL_splices 131 = .ok (.if_icmp .lt 24, 3) := by decide +kernel
theorem dL_splices_134 : decode cL_splices 134 = .ok (.iload 7, 2) := by decide +kernel
theorem dL_splices_136 : decode cL_splices 136 = .ok (.ifCond .ne 19, 3) := by decide +kernel
theorem dL_splices_139 : decode cL_splices 139 = .ok (.aload_n 1, 1) := by decide +kernel
theorem dL_splices_140 : decode cL_splices 140 = .ok (.iload 8, 2) := by decide +kernel
theorem dL_splices_142 : decode cL_splices 142 = .ok (.iconst 2, 1) := by decide +kernel
theorem dL_splices_143 : decode cL_splices 143 = .ok (.iadd, 1) := by decide +kernel
theorem dL_splices_144 : decode cL_splices 144 = .ok (.aload_n 1, 1) := by decide +kernel
theorem dL_splices_145 : decode cL_splices 145 = .ok (.iload 8, 2) := by decide +kernel
theorem dL_splices_147 : decode cL_splices 147 = .ok (.iaload, 1) := by decide +kernel
theorem dL_splices_148 : decode cL_splices 148 = .ok (.iastore, 1) := by decide +kernel
theorem dL_splices_149 : decode cL_splices 149 = .ok (.iinc 8 (-1), 3) := by decide +kernel
theorem dL_splices_152 : decode cL_splices 152 = .ok (.goto (-34), 3) := by decide +kernel
theorem dL_splices_155 : decode cL_splices 155 = .ok (.aload_n 1, 1) := by decide +kernel
theorem dL_splices_156 : decode cL_splices 156 = .ok (.bipush 14, 2) := by decide +kernel
theorem dL_splices_158 : decode cL_splices 158 = .ok (.iload_n 2, 1) := by decide +kernel
theorem dL_splices_159 : decode cL_splices 159 = .ok (.imul, 1) := by decide +kernel
theorem dL_splices_160 : decode cL_splices 160 = .ok (.iconst 1, 1) := by decide +kernel
theorem dL_splices_161 : decode cL_splices 161 = .ok (.iadd, 1) := by decide +kernel
theorem dL_splices_162 : decode cL_splices 162 = .ok (.dup2, 1) := by decide +kernel
theorem dL_splices_163 : decode cL_splices 163 = .ok (.iaload, 1) := by decide +kernel
theorem dL_splices_164 : decode cL_splices 164 = .ok (.iload 7, 2) := by decide +kernel
theorem dL_splices_166 : decode cL_splices 166 = .ok (.ifCond .eq 7, 3) := by decide +kernel
theorem dL_splices_169 : decode cL_splices 169 = .ok (.iconst 0, 1) := by decide +kernel
theorem dL_splices_170 : decode cL_splices 170 = .ok (.goto 4, 3) := by decide +kernel
theorem dL_splices_173 : decode cL_splices 173 = .ok (.iconst 1, 1) := by decide +kernel
theorem dL_splices_174 : decode cL_splices 174 = .ok (.iadd, 1) := by decide +kernel
theorem dL_splices_175 : decode cL_splices 175 = .ok (.iastore, 1) := by decide +kernel
theorem dL_splices_176 : decode cL_splices 176 = .ok (.aload_n 1, 1) := by decide +kernel
theorem dL_splices_177 : decode cL_splices 177 = .ok (.bipush 14, 2) := by decide +kernel
theorem dL_splices_179 : decode cL_splices 179 = .ok (.iload_n 2, 1) := by decide +kernel
theorem dL_splices_180 : decode cL_splices 180 = .ok (.imul, 1) := by decide +kernel
theorem dL_splices_181 : decode cL_splices 181 = .ok (.iconst 2, 1) := by decide +kernel
theorem dL_splices_182 : decode cL_splices 182 = .ok (.iadd, 1) := by decide +kernel
theorem dL_splices_183 : decode cL_splices 183 = .ok (.iconst 2, 1) := by decide +kernel
theorem dL_splices_184 : decode cL_splices 184 = .ok (.iload 6, 2) := by decide +kernel
theorem dL_splices_186 : decode cL_splices 186 = .ok (.imul, 1) := by decide +kernel
theorem dL_splices_187 : decode cL_splices 187 = .ok (.iadd, 1) := by decide +kernel
theorem dL_splices_188 : decode cL_splices 188 = .ok (.iload_n 3, 1) := by decide +kernel
theorem dL_splices_189 : decode cL_splices 189 = .ok (.iastore, 1) := by decide +kernel
theorem dL_splices_190 : decode cL_splices 190 = .ok (.aload_n 1, 1) := by decide +kernel
theorem dL_splices_191 : decode cL_splices 191 = .ok (.bipush 14, 2) := by decide +kernel
theorem dL_splices_193 : decode cL_splices 193 = .ok (.iload_n 2, 1) := by decide +kernel
theorem dL_splices_194 : decode cL_splices 194 = .ok (.imul, 1) := by decide +kernel
theorem dL_splices_195 : decode cL_splices 195 = .ok (.iconst 3, 1) := by decide +kernel
theorem dL_splices_196 : decode cL_splices 196 = .ok (.iadd, 1) := by decide +kernel
theorem dL_splices_197 : decode cL_splices 197 = .ok (.iconst 2, 1) := by decide +kernel
theorem dL_splices_198 : decode cL_splices 198 = .ok (.iload 6, 2) := by decide +kernel
theorem dL_splices_200 : decode cL_splices 200 = .ok (.imul, 1) := by decide +kernel
theorem dL_splices_201 : decode cL_splices 201 = .ok (.iadd, 1) := by decide +kernel
theorem dL_splices_202 : decode cL_splices 202 = .ok (.iload 4, 2) := by decide +kernel
theorem dL_splices_204 : decode cL_splices 204 = .ok (.iastore, 1) := by decide +kernel
theorem dL_splices_205 : decode cL_splices 205 = .ok (.aload_n 0, 1) := by decide +kernel
theorem dL_splices_206 : decode cL_splices 206 = .ok (.iload_n 2, 1) := by decide +kernel
theorem dL_splices_207 : decode cL_splices 207 = .ok (.iload_n 3, 1) := by decide +kernel
theorem dL_splices_208 : decode cL_splices 208 = .ok (.iload 4, 2) := by decide +kernel
theorem dL_splices_210 : decode cL_splices 210 = .ok (.invokevirtual 20, 3) := by decide +kernel
theorem dL_splices_213 : decode cL_splices 213 = .ok (.aload_n 1, 1) := by decide +kernel
theorem dL_splices_214 : decode cL_splices 214 = .ok (.bipush 14, 2) := by decide +kernel
theorem dL_splices_216 : decode cL_splices 216 = .ok (.iload_n 2, 1) := by decide +kernel
theorem dL_splices_217 : decode cL_splices 217 = .ok (.imul, 1) := by decide +kernel
theorem dL_splices_218 : decode cL_splices 218 = .ok (.iconst 1, 1) := by decide +kernel
theorem dL_splices_219 : decode cL_splices 219 = .ok (.iadd, 1) := by decide +kernel
theorem dL_splices_220 : decode cL_splices 220 = .ok (.iaload, 1) := by decide +kernel
theorem dL_splices_221 : decode cL_splices 221 = .ok (.if_icmp .ne 7, 3) := by decide +kernel
theorem dL_splices_224 : decode cL_splices 224 = .ok (.iconst 1, 1) := by decide +kernel
theorem dL_splices_225 : decode cL_splices 225 = .ok (.goto 4, 3) := by decide +kernel
theorem dL_splices_228 : decode cL_splices 228 = .ok (.iconst 0, 1) := by decide +kernel
theorem dL_splices_229 : decode cL_splices 229 = .ok (.ireturn, 1) := by decide +kernel
theorem dL_sets_0 : decode cL_sets 0 = .ok (.iload_n 2, 1) := by decide +kernel
theorem dL_sets_1 : decode cL_sets 1 = .ok (.invokestatic 25, 3) := by decide +kernel
theorem dL_sets_4 : decode cL_sets 4 = .ok (.iload_n 3, 1) := by decide +kernel
theorem dL_sets_5 : decode cL_sets 5 = .ok (.iload_n 2, 1) := by decide +kernel
theorem dL_sets_6 : decode cL_sets 6 = .ok (.invokestatic 30, 3) := by decide +kernel
theorem dL_sets_9 : decode cL_sets 9 = .ok (.iload_n 2, 1) := by decide +kernel
theorem dL_sets_10 : decode cL_sets 10 = .ok (.invokestatic 25, 3) := by decide +kernel
theorem dL_sets_13 : decode cL_sets 13 = .ok (.isub, 1) := by decide +kernel
theorem dL_sets_14 : decode cL_sets 14 = .ok (.iconst 1, 1) := by decide +kernel
theorem dL_sets_15 : decode cL_sets 15 = .ok (.iadd, 1) := by decide +kernel
theorem dL_sets_16 : decode cL_sets 16 = .ok (.irem, 1) := by decide +kernel
theorem dL_sets_17 : decode cL_sets 17 = .ok (.iadd, 1) := by decide +kernel
theorem dL_sets_18 : decode cL_sets 18 = .ok (.istore 4, 2) := by decide +kernel
theorem dL_sets_20 : decode cL_sets 20 = .ok (.aload_n 1, 1) := by decide +kernel
theorem dL_sets_21 : decode cL_sets 21 = .ok (.iload_n 2, 1) := by decide +kernel
theorem dL_sets_22 : decode cL_sets 22 = .ok (.iaload, 1) := by decide +kernel
theorem dL_sets_23 : decode cL_sets 23 = .ok (.istore 5, 2) := by decide +kernel
theorem dL_sets_25 : decode cL_sets 25 = .ok (.aload_n 1, 1) := by decide +kernel
theorem dL_sets_26 : decode cL_sets 26 = .ok (.iload_n 2, 1) := by decide +kernel
theorem dL_sets_27 : decode cL_sets 27 = .ok (.iload 4, 2) := by decide +kernel
theorem dL_sets_29 : decode cL_sets 29 = .ok (.iastore, 1) := by decide +kernel
theorem dL_sets_30 : decode cL_sets 30 = .ok (.aload_n 0, 1) := by decide +kernel
theorem dL_sets_31 : decode cL_sets 31 = .ok (.iload_n 2, 1) := by decide +kernel
theorem dL_sets_32 : decode cL_sets 32 = .ok (.iload 4, 2) := by decide +kernel
theorem dL_sets_34 : decode cL_sets 34 = .ok (.invokevirtual 33, 3) := by decide +kernel
theorem dL_sets_37 : decode cL_sets 37 = .ok (.iload 5, 2) := by decide +kernel
theorem dL_sets_39 : decode cL_sets 39 = .ok (.if_icmp .ne 51, 3) := by decide +kernel
theorem dL_sets_42 : decode cL_sets 42 = .ok (.aload_n 0, 1) := by decide +kernel
theorem dL_sets_43 : decode cL_sets 43 = .ok (.iload_n 2, 1) := by decide +kernel
theorem dL_sets_44 : decode cL_sets 44 = .ok (.iload_n 2, 1) := by decide +kernel
theorem dL_sets_45 : decode cL_sets 45 = .ok (.invokestatic 30, 3) := by decide +kernel
theorem dL_sets_48 : decode cL_sets 48 = .ok (.iconst 1, 1) := by decide +kernel
theorem dL_sets_49 : decode cL_sets 49 = .ok (.iadd, 1) := by decide +kernel
theorem dL_sets_50 : decode cL_sets 50 = .ok (.invokevirtual 33, 3) := by decide +kernel
theorem dL_sets_53 : decode cL_sets 53 = .ok (.ldc 36, 2) := by decide +kernel
theorem dL_sets_55 : decode cL_sets 55 = .ok (.if_icmp .ne 35, 3) := by decide +kernel
theorem dL_sets_58 : decode cL_sets 58 = .ok (.aload_n 0, 1) := by decide +kernel
theorem dL_sets_59 : decode cL_sets 59 = .ok (.iload_n 2, 1) := by decide +kernel
theorem dL_sets_60 : decode cL_sets 60 = .ok (.iload_n 2, 1) := by decide +kernel
theorem dL_sets_61 : decode cL_sets 61 = .ok (.invokestatic 25, 3) := by decide +kernel
theorem dL_sets_64 : decode cL_sets 64 = .ok (.iconst 1, 1) := by decide +kernel
theorem dL_sets_65 : decode cL_sets 65 = .ok (.isub, 1) := by decide +kernel
theorem dL_sets_66 : decode cL_sets 66 = .ok (.invokevirtual 33, 3) := by decide +kernel
theorem dL_sets_69 : decode cL_sets 69 = .ok (.ldc 36, 2) := by decide +kernel
theorem dL_sets_71 : decode cL_sets 71 = .ok (.if_icmp .ne 19, 3) := by decide +kernel
theorem dL_sets_74 : decode cL_sets 74 = .ok (.aload_n 0, 1) := by decide +kernel
theorem dL_sets_75 : decode cL_sets 75 = .ok (.bipush 8, 2) := by decide +kernel
theorem dL_sets_77 : decode cL_sets 77 = .ok (.iconst 1, 1) := by decide +kernel
theorem dL_sets_78 : decode cL_sets 78 = .ok (.invokevirtual 33, 3) := by decide +kernel
theorem dL_sets_81 : decode cL_sets 81 = .ok (.ldc 37, 2) := by decide +kernel
theorem dL_sets_83 : decode cL_sets 83 = .ok (.if_icmp .ne 7, 3) := by decide +kernel
theorem dL_sets_86 : decode cL_sets 86 = .ok (.iconst 1, 1) := by decide +kernel
theorem dL_sets_87 : decode cL_sets 87 = .ok (.goto 4, 3) := by decide +kernel
theorem dL_sets_90 : decode cL_sets 90 = .ok (.iconst 0, 1) := by decide +kernel
theorem dL_sets_91 : decode cL_sets 91 = .ok (.ireturn, 1) := by decide +kernel
theorem dL_first_0 : decode cL_first 0 = .ok (.aload_n 0, 1) := by decide +kernel
theorem dL_first_1 : decode cL_first 1 = .ok (.iconst 0, 1) := by decide +kernel
theorem dL_first_2 : decode cL_first 2 = .ok (.bipush 40, 2) := by decide +kernel
theorem dL_first_4 : decode cL_first 4 = .ok (.iastore, 1) := by decide +kernel
theorem dL_first_5 : decode cL_first 5 = .ok (.aload_n 0, 1) := by decide +kernel
theorem dL_first_6 : decode cL_first 6 = .ok (.iconst 1, 1) := by decide +kernel
theorem dL_first_7 : decode cL_first 7 = .ok (.bipush 60, 2) := by decide +kernel
theorem dL_first_9 : decode cL_first 9 = .ok (.iastore, 1) := by decide +kernel
theorem dL_first_10 : decode cL_first 10 = .ok (.aload_n 0, 1) := by decide +kernel
theorem dL_first_11 : decode cL_first 11 = .ok (.iconst 2, 1) := by decide +kernel
theorem dL_first_12 : decode cL_first 12 = .ok (.bipush 20, 2) := by decide +kernel
theorem dL_first_14 : decode cL_first 14 = .ok (.iastore, 1) := by decide +kernel
theorem dL_first_15 : decode cL_first 15 = .ok (.aload_n 0, 1) := by decide +kernel
theorem dL_first_16 : decode cL_first 16 = .ok (.iconst 3, 1) := by decide +kernel
theorem dL_first_17 : decode cL_first 17 = .ok (.bipush 20, 2) := by decide +kernel
theorem dL_first_19 : decode cL_first 19 = .ok (.iastore, 1) := by decide +kernel
theorem dL_first_20 : decode cL_first 20 = .ok (.aload_n 0, 1) := by decide +kernel
theorem dL_first_21 : decode cL_first 21 = .ok (.iconst 4, 1) := by decide +kernel
theorem dL_first_22 : decode cL_first 22 = .ok (.bipush 10, 2) := by decide +kernel
theorem dL_first_24 : decode cL_first 24 = .ok (.iastore, 1) := by decide +kernel
theorem dL_first_25 : decode cL_first 25 = .ok (.aload_n 0, 1) := by decide +kernel
theorem dL_first_26 : decode cL_first 26 = .ok (.iconst 5, 1) := by decide +kernel
theorem dL_first_27 : decode cL_first 27 = .ok (.bipush 30, 2) := by decide +kernel
theorem dL_first_29 : decode cL_first 29 = .ok (.iastore, 1) := by decide +kernel
theorem dL_first_30 : decode cL_first 30 = .ok (.aload_n 0, 1) := by decide +kernel
theorem dL_first_31 : decode cL_first 31 = .ok (.bipush 6, 2) := by decide +kernel
theorem dL_first_33 : decode cL_first 33 = .ok (.bipush 100, 2) := by decide +kernel
theorem dL_first_35 : decode cL_first 35 = .ok (.iastore, 1) := by decide +kernel
theorem dL_first_36 : decode cL_first 36 = .ok (.aload_n 0, 1) := by decide +kernel
theorem dL_first_37 : decode cL_first 37 = .ok (.bipush 7, 2) := by decide +kernel
theorem dL_first_39 : decode cL_first 39 = .ok (.iconst 4, 1) := by decide +kernel
theorem dL_first_40 : decode cL_first 40 = .ok (.iastore, 1) := by decide +kernel
theorem dL_first_41 : decode cL_first 41 = .ok (.return_, 1) := by decide +kernel
theorem dL_sound_0 : decode cL_sound 0 = .ok (.aload_n 0, 1) := by decide +kernel
theorem dL_sound_1 : decode cL_sound 1 = .ok (.iconst 2, 1) := by decide +kernel
theorem dL_sound_2 : decode cL_sound 2 = .ok (.invokevirtual 38, 3) := by decide +kernel
theorem dL_sound_5 : decode cL_sound 5 = .ok (.istore_n 2, 1) := by decide +kernel
theorem dL_sound_6 : decode cL_sound 6 = .ok (.aload_n 0, 1) := by decide +kernel
theorem dL_sound_7 : decode cL_sound 7 = .ok (.bipush 7, 2) := by decide +kernel
theorem dL_sound_9 : decode cL_sound 9 = .ok (.invokevirtual 38, 3) := by decide +kernel
theorem dL_sound_12 : decode cL_sound 12 = .ok (.istore_n 3, 1) := by decide +kernel
theorem dL_sound_13 : decode cL_sound 13 = .ok (.aload_n 0, 1) := by decide +kernel
theorem dL_sound_14 : decode cL_sound 14 = .ok (.iconst 0, 1) := by decide +kernel
theorem dL_sound_15 : decode cL_sound 15 = .ok (.invokevirtual 38, 3) := by decide +kernel
theorem dL_sound_18 : decode cL_sound 18 = .ok (.iconst 1, 1) := by decide +kernel
theorem dL_sound_19 : decode cL_sound 19 = .ok (.if_icmp .ne 7, 3) := by decide +kernel
theorem dL_sound_22 : decode cL_sound 22 = .ok (.iconst 1, 1) := by decide +kernel
theorem dL_sound_23 : decode cL_sound 23 = .ok (.goto 4, 3) := by decide +kernel
theorem dL_sound_26 : decode cL_sound 26 = .ok (.iconst 0, 1) := by decide +kernel
theorem dL_sound_27 : decode cL_sound 27 = .ok (.istore 4, 2) := by decide +kernel
theorem dL_sound_29 : decode cL_sound 29 = .ok (.aload_n 0, 1) := by decide +kernel
theorem dL_sound_30 : decode cL_sound 30 = .ok (.iconst 3, 1) := by decide +kernel
theorem dL_sound_31 : decode cL_sound 31 = .ok (.invokevirtual 38, 3) := by decide +kernel
theorem dL_sound_34 : decode cL_sound 34 = .ok (.aload_n 0, 1) := by decide +kernel
theorem dL_sound_35 : decode cL_sound 35 = .ok (.iconst 1, 1) := by decide +kernel
theorem dL_sound_36 : decode cL_sound 36 = .ok (.invokevirtual 38, 3) := by decide +kernel
theorem dL_sound_39 : decode cL_sound 39 = .ok (.if_icmp .gt 95, 3) := by decide +kernel
theorem dL_sound_42 : decode cL_sound 42 = .ok (.aload_n 0, 1) := by decide +kernel
theorem dL_sound_43 : decode cL_sound 43 = .ok (.iconst 4, 1) := by decide +kernel
theorem dL_sound_44 : decode cL_sound 44 = .ok (.invokevirtual 38, 3) := by decide +kernel
theorem dL_sound_47 : decode cL_sound 47 = .ok (.ifCond .lt 87, 3) := by decide +kernel
theorem dL_sound_50 : decode cL_sound 50 = .ok (.aload_n 0, 1) := by decide +kernel
theorem dL_sound_51 : decode cL_sound 51 = .ok (.iconst 5, 1) := by decide +kernel
theorem dL_sound_52 : decode cL_sound 52 = .ok (.invokevirtual 38, 3) := by decide +kernel
theorem dL_sound_55 : decode cL_sound 55 = .ok (.ifCond .lt 79, 3) := by decide +kernel
theorem dL_sound_58 : decode cL_sound 58 = .ok (.aload_n 0, 1) := by decide +kernel
theorem dL_sound_59 : decode cL_sound 59 = .ok (.iconst 5, 1) := by decide +kernel
theorem dL_sound_60 : decode cL_sound 60 = .ok (.invokevirtual 38, 3) := by decide +kernel
theorem dL_sound_63 : decode cL_sound 63 = .ok (.iload_n 3, 1) := by decide +kernel
theorem dL_sound_64 : decode cL_sound 64 = .ok (.aload_n 0, 1) := by decide +kernel
theorem dL_sound_65 : decode cL_sound 65 = .ok (.bipush 6, 2) := by decide +kernel
theorem dL_sound_67 : decode cL_sound 67 = .ok (.invokevirtual 38, 3) := by decide +kernel
theorem dL_sound_70 : decode cL_sound 70 = .ok (.iadd, 1) := by decide +kernel
theorem dL_sound_71 : decode cL_sound 71 = .ok (.if_icmp .gt 63, 3) := by decide +kernel
theorem dL_sound_74 : decode cL_sound 74 = .ok (.iload_n 3, 1) := by decide +kernel
theorem dL_sound_75 : decode cL_sound 75 = .ok (.iload_n 1, 1) := by decide +kernel
theorem dL_sound_76 : decode cL_sound 76 = .ok (.if_icmp .gt 58, 3) := by decide +kernel
theorem dL_sound_79 : decode cL_sound 79 = .ok (.aload_n 0, 1) := by decide +kernel
theorem dL_sound_80 : decode cL_sound 80 = .ok (.bipush 8, 2) := by decide +kernel
theorem dL_sound_82 : decode cL_sound 82 = .ok (.invokevirtual 38, 3) := by decide +kernel
theorem dL_sound_85 : decode cL_sound 85 = .ok (.ifCond .lt 49, 3) := by decide +kernel
theorem dL_sound_88 : decode cL_sound 88 = .ok (.aload_n 0, 1) := by decide +kernel
theorem dL_sound_89 : decode cL_sound 89 = .ok (.bipush 8, 2) := by decide +kernel
theorem dL_sound_91 : decode cL_sound 91 = .ok (.invokevirtual 38, 3) := by decide +kernel
theorem dL_sound_94 : decode cL_sound 94 = .ok (.bipush 8, 2) := by decide +kernel
theorem dL_sound_96 : decode cL_sound 96 = .ok (.if_icmp .ge 38, 3) := by decide +kernel
theorem dL_sound_99 : decode cL_sound 99 = .ok (.aload_n 0, 1) := by decide +kernel
theorem dL_sound_100 : decode cL_sound 100 = .ok (.bipush 9, 2) := by decide +kernel
theorem dL_sound_102 : decode cL_sound 102 = .ok (.invokevirtual 38, 3) := by decide +kernel
theorem dL_sound_105 : decode cL_sound 105 = .ok (.ifCond .le 7, 3) := by decide +kernel
theorem dL_sound_108 : decode cL_sound 108 = .ok (.iconst 1, 1) := by decide +kernel
theorem dL_sound_109 : decode cL_sound 109 = .ok (.goto 4, 3) := by decide +kernel
theorem dL_sound_112 : decode cL_sound 112 = .ok (.iconst 0, 1) := by decide +kernel
theorem dL_sound_113 : decode cL_sound 113 = .ok (.aload_n 0, 1) := by decide +kernel
theorem dL_sound_114 : decode cL_sound 114 = .ok (.iconst 0, 1) := by decide +kernel
theorem dL_sound_115 : decode cL_sound 115 = .ok (.iconst 0, 1) := by decide +kernel
theorem dL_sound_116 : decode cL_sound 116 = .ok (.invokevirtual 41, 3) := by decide +kernel
theorem dL_sound_119 : decode cL_sound 119 = .ok (.ifCond .lt 7, 3) := by decide +kernel
theorem dL_sound_122 : decode cL_sound 122 = .ok (.iconst 1, 1) := by decide +kernel
theorem dL_sound_123 : decode cL_sound 123 = .ok (.goto 4, 3) := by decide +kernel
theorem dL_sound_126 : decode cL_sound 126 = .ok (.iconst 0, 1) := by decide +kernel
theorem dL_sound_127 : decode cL_sound 127 = .ok (.if_icmp .ne 7, 3) := by decide +kernel
theorem dL_sound_130 : decode cL_sound 130 = .ok (.iconst 1, 1) := by decide +kernel
theorem dL_sound_131 : decode cL_sound 131 = .ok (.goto 4, 3) := by decide +kernel
theorem dL_sound_134 : decode cL_sound 134 = .ok (.iconst 0, 1) := by decide +kernel
theorem dL_sound_135 : decode cL_sound 135 = .ok (.istore 5, 2) := by decide +kernel
theorem dL_sound_137 : decode cL_sound 137 = .ok (.iconst 0, 1) := by decide +kernel
theorem dL_sound_138 : decode cL_sound 138 = .ok (.istore 6, 2) := by decide +kernel
theorem dL_sound_140 : decode cL_sound 140 = .ok (.iconst 0, 1) := by decide +kernel
theorem dL_sound_141 : decode cL_sound 141 = .ok (.istore 7, 2) := by decide +kernel
theorem dL_sound_143 : decode cL_sound 143 = .ok (.iload 7, 2) := by decide +kernel
theorem dL_sound_145 : decode cL_sound 145 = .ok (.iconst 2, 1) := by decide +kernel
theorem dL_sound_146 : decode cL_sound 146 = .ok (.if_icmp .ge 169, 3) := by decide +kernel
theorem dL_sound_149 : decode cL_sound 149 = .ok (.iload 5, 2) := by decide +kernel
theorem dL_sound_151 : decode cL_sound 151 = .ok (.ifCond .eq 164, 3) := by decide +kernel
theorem dL_sound_154 : decode cL_sound 154 = .ok (.aload_n 0, 1) := by decide +kernel
theorem dL_sound_155 : decode cL_sound 155 = .ok (.iload 7, 2) := by decide +kernel
theorem dL_sound_157 : decode cL_sound 157 = .ok (.iconst 0, 1) := by decide +kernel
theorem dL_sound_158 : decode cL_sound 158 = .ok (.invokevirtual 44, 3) := by decide +kernel
theorem dL_sound_161 : decode cL_sound 161 = .ok (.istore 8, 2) := by decide +kernel
theorem dL_sound_163 : decode cL_sound 163 = .ok (.aload_n 0, 1) := by decide +kernel
theorem dL_sound_164 : decode cL_sound 164 = .ok (.iload 7, 2) := by decide +kernel
theorem dL_sound_166 : decode cL_sound 166 = .ok (.iconst 1, 1) := by decide +kernel
theorem dL_sound_167 : decode cL_sound 167 = .ok (.invokevirtual 44, 3) := by decide +kernel
theorem dL_sound_170 : decode cL_sound 170 = .ok (.istore 9, 2) := by decide +kernel
theorem dL_sound_172 : decode cL_sound 172 = .ok (.iload 6, 2) := by decide +kernel
theorem dL_sound_174 : decode cL_sound 174 = .ok (.iload 8, 2) := by decide +kernel
theorem dL_sound_176 : decode cL_sound 176 = .ok (.iconst 3, 1) := by decide +kernel
theorem dL_sound_177 : decode cL_sound 177 = .ok (.if_icmp .ne 7, 3) := by decide +kernel
theorem dL_sound_180 : decode cL_sound 180 = .ok (.iconst 1, 1) := by decide +kernel
theorem dL_sound_181 : decode cL_sound 181 = .ok (.goto 4, 3) := by decide +kernel
theorem dL_sound_184 : decode cL_sound 184 = .ok (.iconst 0, 1) := by decide +kernel
theorem dL_sound_185 : decode cL_sound 185 = .ok (.iadd, 1) := by decide +kernel
theorem dL_sound_186 : decode cL_sound 186 = .ok (.istore 6, 2) := by decide +kernel
theorem dL_sound_188 : decode cL_sound 188 = .ok (.iload 8, 2) := by decide +kernel
theorem dL_sound_190 : decode cL_sound 190 = .ok (.ifCond .lt 116, 3) := by decide +kernel
theorem dL_sound_193 : decode cL_sound 193 = .ok (.iload 8, 2) := by decide +kernel
theorem dL_sound_195 : decode cL_sound 195 = .ok (.iconst 5, 1) := by decide +kernel
theorem dL_sound_196 : decode cL_sound 196 = .ok (.if_icmp .gt 110, 3) := by decide +kernel
theorem dL_sound_199 : decode cL_sound 199 = .ok (.iload 8, 2) := by decide +kernel
theorem dL_sound_201 : decode cL_sound 201 = .ok (.ifCond .ne 7, 3) := by decide +kernel
theorem dL_sound_204 : decode cL_sound 204 = .ok (.iconst 1, 1) := by decide +kernel
theorem dL_sound_205 : decode cL_sound 205 = .ok (.goto 4, 3) := by decide +kernel
theorem dL_sound_208 : decode cL_sound 208 = .ok (.iconst 0, 1) := by decide +kernel
theorem dL_sound_209 : decode cL_sound 209 = .ok (.iload 9, 2) := by decide +kernel
theorem dL_sound_211 : decode cL_sound 211 = .ok (.ldc 19, 2) := by decide +kernel
theorem dL_sound_213 : decode cL_sound 213 = .ok (.if_icmp .ne 7, 3) := by decide +kernel
theorem dL_sound_216 : decode cL_sound 216 = .ok (.iconst 1, 1) := by decide +kernel
theorem dL_sound_217 : decode cL_sound 217 = .ok (.goto 4, 3) := by decide +kernel
theorem dL_sound_220 : decode cL_sound 220 = .ok (.iconst 0, 1) := by decide +kernel
theorem dL_sound_221 : decode cL_sound 221 = .ok (.if_icmp .ne 85, 3) := by decide +kernel
theorem dL_sound_224 : decode cL_sound 224 = .ok (.iload 9, 2) := by decide +kernel
theorem dL_sound_226 : decode cL_sound 226 = .ok (.iload_n 3, 1) := by decide +kernel
theorem dL_sound_227 : decode cL_sound 227 = .ok (.if_icmp .ge 79, 3) := by decide +kernel
theorem dL_sound_230 : decode cL_sound 230 = .ok (.iload 8, 2) := by decide +kernel
theorem dL_sound_232 : decode cL_sound 232 = .ok (.iconst 3, 1) := by decide +kernel
theorem dL_sound_233 : decode cL_sound 233 = .ok (.if_icmp .eq 9, 3) := by decide +kernel
theorem dL_sound_236 : decode cL_sound 236 = .ok (.iload 8, 2) := by decide +kernel
theorem dL_sound_238 : decode cL_sound 238 = .ok (.iconst 5, 1) := by decide +kernel
theorem dL_sound_239 : decode cL_sound 239 = .ok (.if_icmp .ne 9, 3) := by decide +kernel
theorem dL_sound_242 : decode cL_sound 242 = .ok (.iload 7, 2) := by decide +kernel
theorem dL_sound_244 : decode cL_sound 244 = .ok (.iload_n 2, 1) := by decide +kernel
theorem dL_sound_245 : decode cL_sound 245 = .ok (.if_icmp .ne 61, 3) := by decide +kernel
theorem dL_sound_248 : decode cL_sound 248 = .ok (.iload 8, 2) := by decide +kernel
theorem dL_sound_250 : decode cL_sound 250 = .ok (.iconst 2, 1) := by decide +kernel
theorem dL_sound_251 : decode cL_sound 251 = .ok (.if_icmp .ne 9, 3) := by decide +kernel
theorem dL_sound_254 : decode cL_sound 254 = .ok (.iload 7, 2) := by decide +kernel
theorem dL_sound_256 : decode cL_sound 256 = .ok (.iload_n 2, 1) := by decide +kernel
theorem dL_sound_257 : decode cL_sound 257 = .ok (.if_icmp .eq 49, 3) := by decide +kernel
theorem dL_sound_260 : decode cL_sound 260 = .ok (.aload_n 0, 1) := by decide +kernel
theorem dL_sound_261 : decode cL_sound 261 = .ok (.iload 7, 2) := by decide +kernel
theorem dL_sound_263 : decode cL_sound 263 = .ok (.iconst 2, 1) := by decide +kernel
theorem dL_sound_264 : decode cL_sound 264 = .ok (.invokevirtual 44, 3) := by decide +kernel
theorem dL_sound_267 : decode cL_sound 267 = .ok (.ldc 19, 2) := by decide +kernel
theorem dL_sound_269 : decode cL_sound 269 = .ok (.if_icmp .ne 7, 3) := by decide +kernel
theorem dL_sound_272 : decode cL_sound 272 = .ok (.iconst 1, 1) := by decide +kernel
theorem dL_sound_273 : decode cL_sound 273 = .ok (.goto 4, 3) := by decide +kernel
theorem dL_sound_276 : decode cL_sound 276 = .ok (.iconst 0, 1) := by decide +kernel
theorem dL_sound_277 : decode cL_sound 277 = .ok (.iload 8, 2) := by decide +kernel
theorem dL_sound_279 : decode cL_sound 279 = .ok (.ifCond .eq 15, 3) := by decide +kernel
theorem dL_sound_282 : decode cL_sound 282 = .ok (.iload 8, 2) := by decide +kernel
theorem dL_sound_284 : decode cL_sound 284 = .ok (.iconst 1, 1) := by decide +kernel
theorem dL_sound_285 : decode cL_sound 285 = .ok (.if_icmp .eq 9, 3) := by decide +kernel
theorem dL_sound_288 : decode cL_sound 288 = .ok (.iload 8, 2) := by decide +kernel
theorem dL_sound_290 : decode cL_sound 290 = .ok (.iconst 4, 1) := by decide +kernel
theorem dL_sound_291 : decode cL_sound 291 = .ok (.if_icmp .ne 7, 3) := by decide +kernel
theorem dL_sound_294 : decode cL_sound 294 = .ok (.iconst 1, 1) := by decide +kernel
theorem dL_sound_295 : decode cL_sound 295 = .ok (.goto 4, 3) := by decide +kernel
theorem dL_sound_298 : decode cL_sound 298 = .ok (.iconst 0, 1) := by decide +kernel
theorem dL_sound_299 : decode cL_sound 299 = .ok (.if_icmp .ne 7, 3) := by decide +kernel
theorem dL_sound_302 : decode cL_sound 302 = .ok (.iconst 1, 1) := by decide +kernel
theorem dL_sound_303 : decode cL_sound 303 = .ok (.goto 4, 3) := by decide +kernel
theorem dL_sound_306 : decode cL_sound 306 = .ok (.iconst 0, 1) := by decide +kernel
theorem dL_sound_307 : decode cL_sound 307 = .ok (.istore 5, 2) := by decide +kernel
theorem dL_sound_309 : decode cL_sound 309 = .ok (.iinc 7 1, 3) := by decide +kernel
theorem dL_sound_312 : decode cL_sound 312 = .ok (.goto (-169), 3) := by decide +kernel
theorem dL_sound_315 : decode cL_sound 315 = .ok (.iconst 1, 1) := by decide +kernel
theorem dL_sound_316 : decode cL_sound 316 = .ok (.istore 7, 2) := by decide +kernel
theorem dL_sound_318 : decode cL_sound 318 = .ok (.iload 7, 2) := by decide +kernel
theorem dL_sound_320 : decode cL_sound 320 = .ok (.aload_n 0, 1) := by decide +kernel
theorem dL_sound_321 : decode cL_sound 321 = .ok (.bipush 8, 2) := by decide +kernel
theorem dL_sound_323 : decode cL_sound 323 = .ok (.invokevirtual 38, 3) := by decide +kernel
theorem dL_sound_326 : decode cL_sound 326 = .ok (.if_icmp .gt 63, 3) := by decide +kernel
theorem dL_sound_329 : decode cL_sound 329 = .ok (.iload 5, 2) := by decide +kernel
theorem dL_sound_331 : decode cL_sound 331 = .ok (.ifCond .eq 58, 3) := by decide +kernel
theorem dL_sound_334 : decode cL_sound 334 = .ok (.aload_n 0, 1) := by decide +kernel
theorem dL_sound_335 : decode cL_sound 335 = .ok (.iload 7, 2) := by decide +kernel
theorem dL_sound_337 : decode cL_sound 337 = .ok (.iconst 0, 1) := by decide +kernel
theorem dL_sound_338 : decode cL_sound 338 = .ok (.invokevirtual 41, 3) := by decide +kernel
theorem dL_sound_341 : decode cL_sound 341 = .ok (.ifCond .lt 39, 3) := by decide +kernel
theorem dL_sound_344 : decode cL_sound 344 = .ok (.aload_n 0, 1) := by decide +kernel
theorem dL_sound_345 : decode cL_sound 345 = .ok (.iload 7, 2) := by decide +kernel
theorem dL_sound_347 : decode cL_sound 347 = .ok (.iconst 0, 1) := by decide +kernel
theorem dL_sound_348 : decode cL_sound 348 = .ok (.invokevirtual 41, 3) := by decide +kernel
theorem dL_sound_351 : decode cL_sound 351 = .ok (.iconst 3, 1) := by decide +kernel
theorem dL_sound_352 : decode cL_sound 352 = .ok (.if_icmp .ge 28, 3) := by decide +kernel
theorem dL_sound_355 : decode cL_sound 355 = .ok (.aload_n 0, 1) := by decide +kernel
theorem dL_sound_356 : decode cL_sound 356 = .ok (.iload 7, 2) := by decide +kernel
theorem dL_sound_358 : decode cL_sound 358 = .ok (.iconst 1, 1) := by decide +kernel
theorem dL_sound_359 : decode cL_sound 359 = .ok (.invokevirtual 41, 3) := by decide +kernel
theorem dL_sound_362 : decode cL_sound 362 = .ok (.ifCond .lt 18, 3) := by decide +kernel
theorem dL_sound_365 : decode cL_sound 365 = .ok (.aload_n 0, 1) := by decide +kernel
theorem dL_sound_366 : decode cL_sound 366 = .ok (.iload 7, 2) := by decide +kernel
theorem dL_sound_368 : decode cL_sound 368 = .ok (.iconst 1, 1) := by decide +kernel
theorem dL_sound_369 : decode cL_sound 369 = .ok (.invokevirtual 41, 3) := by decide +kernel
theorem dL_sound_372 : decode cL_sound 372 = .ok (.iconst 2, 1) := by decide +kernel
theorem dL_sound_373 : decode cL_sound 373 = .ok (.if_icmp .ge 7, 3) := by decide +kernel
theorem dL_sound_376 : decode cL_sound 376 = .ok (.iconst 1, 1) := by decide +kernel
theorem dL_sound_377 : decode cL_sound 377 = .ok (.goto 4, 3) := by decide +kernel
theorem dL_sound_380 : decode cL_sound 380 = .ok (.iconst 0, 1) := by decide +kernel
theorem dL_sound_381 : decode cL_sound 381 = .ok (.istore 5, 2) := by decide +kernel
theorem dL_sound_383 : decode cL_sound 383 = .ok (.iinc 7 1, 3) := by decide +kernel
theorem dL_sound_386 : decode cL_sound 386 = .ok (.goto (-68), 3) := by decide +kernel
theorem dL_sound_389 : decode cL_sound 389 = .ok (.iload 5, 2) := by decide +kernel
theorem dL_sound_391 : decode cL_sound 391 = .ok (.ifCond .eq 48, 3) := by decide +kernel
theorem dL_sound_394 : decode cL_sound 394 = .ok (.iload 6, 2) := by decide +kernel
theorem dL_sound_396 : decode cL_sound 396 = .ok (.iconst 1, 1) := by decide +kernel
theorem dL_sound_397 : decode cL_sound 397 = .ok (.if_icmp .gt 42, 3) := by decide +kernel
theorem dL_sound_400 : decode cL_sound 400 = .ok (.iload 4, 2) := by decide +kernel
theorem dL_sound_402 : decode cL_sound 402 = .ok (.ifCond .ne 33, 3) := by decide +kernel
theorem dL_sound_405 : decode cL_sound 405 = .ok (.aload_n 0, 1) := by decide +kernel
theorem dL_sound_406 : decode cL_sound 406 = .ok (.iconst 1, 1) := by decide +kernel
theorem dL_sound_407 : decode cL_sound 407 = .ok (.invokevirtual 38, 3) := by decide +kernel
theorem dL_sound_410 : decode cL_sound 410 = .ok (.ifCond .eq 25, 3) := by decide +kernel
theorem dL_sound_413 : decode cL_sound 413 = .ok (.aload_n 0, 1) := by decide +kernel
theorem dL_sound_414 : decode cL_sound 414 = .ok (.iload_n 2, 1) := by decide +kernel
theorem dL_sound_415 : decode cL_sound 415 = .ok (.iconst 0, 1) := by decide +kernel
theorem dL_sound_416 : decode cL_sound 416 = .ok (.invokevirtual 44, 3) := by decide +kernel
theorem dL_sound_419 : decode cL_sound 419 = .ok (.iconst 4, 1) := by decide +kernel
theorem dL_sound_420 : decode cL_sound 420 = .ok (.if_icmp .ne 19, 3) := by decide +kernel
theorem dL_sound_423 : decode cL_sound 423 = .ok (.aload_n 0, 1) := by decide +kernel
theorem dL_sound_424 : decode cL_sound 424 = .ok (.iload_n 2, 1) := by decide +kernel
theorem dL_sound_425 : decode cL_sound 425 = .ok (.iconst 1, 1) := by decide +kernel
theorem dL_sound_426 : decode cL_sound 426 = .ok (.invokevirtual 44, 3) := by decide +kernel
theorem dL_sound_429 : decode cL_sound 429 = .ok (.iload_n 1, 1) := by decide +kernel
theorem dL_sound_430 : decode cL_sound 430 = .ok (.iconst 1, 1) := by decide +kernel
theorem dL_sound_431 : decode cL_sound 431 = .ok (.isub, 1) := by decide +kernel
theorem dL_sound_432 : decode cL_sound 432 = .ok (.if_icmp .ne 7, 3) := by decide +kernel
theorem dL_sound_435 : decode cL_sound 435 = .ok (.iconst 1, 1) := by decide +kernel
theorem dL_sound_436 : decode cL_sound 436 = .ok (.goto 4, 3) := by decide +kernel
theorem dL_sound_439 : decode cL_sound 439 = .ok (.iconst 0, 1) := by decide +kernel
theorem dL_sound_440 : decode cL_sound 440 = .ok (.ireturn, 1) := by decide +kernel
theorem dL_goes_0 : decode cL_goes 0 = .ok (.aload_n 0, 1) := by decide +kernel
theorem dL_goes_1 : decode cL_goes 1 = .ok (.iconst 0, 1) := by decide +kernel
theorem dL_goes_2 : decode cL_goes 2 = .ok (.invokevirtual 38, 3) := by decide +kernel
theorem dL_goes_5 : decode cL_goes 5 = .ok (.ifCond .ne 29, 3) := by decide +kernel
theorem dL_goes_8 : decode cL_goes 8 = .ok (.aload_n 0, 1) := by decide +kernel
theorem dL_goes_9 : decode cL_goes 9 = .ok (.iload_n 1, 1) := by decide +kernel
theorem dL_goes_10 : decode cL_goes 10 = .ok (.invokevirtual 47, 3) := by decide +kernel
theorem dL_goes_13 : decode cL_goes 13 = .ok (.ldc 50, 2) := by decide +kernel
theorem dL_goes_15 : decode cL_goes 15 = .ok (.if_icmp .ne 17, 3) := by decide +kernel
theorem dL_goes_18 : decode cL_goes 18 = .ok (.aload_n 0, 1) := by decide +kernel
theorem dL_goes_19 : decode cL_goes 19 = .ok (.iconst 0, 1) := by decide +kernel
theorem dL_goes_20 : decode cL_goes 20 = .ok (.invokevirtual 51, 3) := by decide +kernel
theorem dL_goes_23 : decode cL_goes 23 = .ok (.ldc 50, 2) := by decide +kernel
theorem dL_goes_25 : decode cL_goes 25 = .ok (.if_icmp .ne 7, 3) := by decide +kernel
theorem dL_goes_28 : decode cL_goes 28 = .ok (.iconst 1, 1) := by decide +kernel
theorem dL_goes_29 : decode cL_goes 29 = .ok (.goto 4, 3) := by decide +kernel
theorem dL_goes_32 : decode cL_goes 32 = .ok (.iconst 0, 1) := by decide +kernel
theorem dL_goes_33 : decode cL_goes 33 = .ok (.ireturn, 1) := by decide +kernel
theorem dL_goes_34 : decode cL_goes 34 = .ok (.aload_n 0, 1) := by decide +kernel
theorem dL_goes_35 : decode cL_goes 35 = .ok (.invokevirtual 54, 3) := by decide +kernel
theorem dL_goes_38 : decode cL_goes 38 = .ok (.lstore_n 2, 1) := by decide +kernel
theorem dL_goes_39 : decode cL_goes 39 = .ok (.aload_n 0, 1) := by decide +kernel
theorem dL_goes_40 : decode cL_goes 40 = .ok (.iconst 0, 1) := by decide +kernel
theorem dL_goes_41 : decode cL_goes 41 = .ok (.invokevirtual 58, 3) := by decide +kernel
theorem dL_goes_44 : decode cL_goes 44 = .ok (.istore 4, 2) := by decide +kernel
theorem dL_goes_46 : decode cL_goes 46 = .ok (.aload_n 0, 1) := by decide +kernel
theorem dL_goes_47 : decode cL_goes 47 = .ok (.iconst 0, 1) := by decide +kernel
theorem dL_goes_48 : decode cL_goes 48 = .ok (.invokevirtual 51, 3) := by decide +kernel
theorem dL_goes_51 : decode cL_goes 51 = .ok (.istore 5, 2) := by decide +kernel
theorem dL_goes_53 : decode cL_goes 53 = .ok (.aload_n 0, 1) := by decide +kernel
theorem dL_goes_54 : decode cL_goes 54 = .ok (.iconst 1, 1) := by decide +kernel
theorem dL_goes_55 : decode cL_goes 55 = .ok (.invokevirtual 38, 3) := by decide +kernel
theorem dL_goes_58 : decode cL_goes 58 = .ok (.istore 6, 2) := by decide +kernel
theorem dL_goes_60 : decode cL_goes 60 = .ok (.aload_n 0, 1) := by decide +kernel
theorem dL_goes_61 : decode cL_goes 61 = .ok (.iload_n 1, 1) := by decide +kernel
theorem dL_goes_62 : decode cL_goes 62 = .ok (.invokevirtual 47, 3) := by decide +kernel
theorem dL_goes_65 : decode cL_goes 65 = .ok (.istore 7, 2) := by decide +kernel
theorem dL_goes_67 : decode cL_goes 67 = .ok (.aload_n 0, 1) := by decide +kernel
theorem dL_goes_68 : decode cL_goes 68 = .ok (.invokevirtual 54, 3) := by decide +kernel
theorem dL_goes_71 : decode cL_goes 71 = .ok (.lstore 8, 2) := by decide +kernel
theorem dL_goes_73 : decode cL_goes 73 = .ok (.iload 4, 2) := by decide +kernel
theorem dL_goes_75 : decode cL_goes 75 = .ok (.ifCond .le 87, 3) := by decide +kernel
theorem dL_goes_78 : decode cL_goes 78 = .ok (.iload 7, 2) := by decide +kernel
theorem dL_goes_80 : decode cL_goes 80 = .ok (.ifCond .le 82, 3) := by decide +kernel
theorem dL_goes_83 : decode cL_goes 83 = .ok (.iload 7, 2) := by decide +kernel
theorem dL_goes_85 : decode cL_goes 85 = .ok (.iload_n 1, 1) := by decide +kernel
theorem dL_goes_86 : decode cL_goes 86 = .ok (.if_icmp .gt 76, 3) := by decide +kernel
theorem dL_goes_89 : decode cL_goes 89 = .ok (.aload_n 0, 1) := by decide +kernel
theorem dL_goes_90 : decode cL_goes 90 = .ok (.iconst 1, 1) := by decide +kernel
theorem dL_goes_91 : decode cL_goes 91 = .ok (.invokevirtual 38, 3) := by decide +kernel
theorem dL_goes_94 : decode cL_goes 94 = .ok (.iload 6, 2) := by decide +kernel
theorem dL_goes_96 : decode cL_goes 96 = .ok (.iload 7, 2) := by decide +kernel
theorem dL_goes_98 : decode cL_goes 98 = .ok (.iadd, 1) := by decide +kernel
theorem dL_goes_99 : decode cL_goes 99 = .ok (.if_icmp .ne 63, 3) := by decide +kernel
theorem dL_goes_102 : decode cL_goes 102 = .ok (.aload_n 0, 1) := by decide +kernel
theorem dL_goes_103 : decode cL_goes 103 = .ok (.iconst 0, 1) := by decide +kernel
theorem dL_goes_104 : decode cL_goes 104 = .ok (.invokevirtual 38, 3) := by decide +kernel
theorem dL_goes_107 : decode cL_goes 107 = .ok (.ifCond .ne 7, 3) := by decide +kernel
theorem dL_goes_110 : decode cL_goes 110 = .ok (.iconst 1, 1) := by decide +kernel
theorem dL_goes_111 : decode cL_goes 111 = .ok (.goto 4, 3) := by decide +kernel
theorem dL_goes_114 : decode cL_goes 114 = .ok (.iconst 0, 1) := by decide +kernel
theorem dL_goes_115 : decode cL_goes 115 = .ok (.iload 5, 2) := by decide +kernel
theorem dL_goes_117 : decode cL_goes 117 = .ok (.ldc 19, 2) := by decide +kernel
theorem dL_goes_119 : decode cL_goes 119 = .ok (.if_icmp .eq 16, 3) := by decide +kernel
theorem dL_goes_122 : decode cL_goes 122 = .ok (.iload 5, 2) := by decide +kernel
theorem dL_goes_124 : decode cL_goes 124 = .ok (.iload 6, 2) := by decide +kernel
theorem dL_goes_126 : decode cL_goes 126 = .ok (.isub, 1) := by decide +kernel
theorem dL_goes_127 : decode cL_goes 127 = .ok (.iload_n 1, 1) := by decide +kernel
theorem dL_goes_128 : decode cL_goes 128 = .ok (.if_icmp .gt 7, 3) := by decide +kernel
theorem dL_goes_131 : decode cL_goes 131 = .ok (.iconst 1, 1) := by decide +kernel
theorem dL_goes_132 : decode cL_goes 132 = .ok (.goto 4, 3) := by decide +kernel
theorem dL_goes_135 : decode cL_goes 135 = .ok (.iconst 0, 1) := by decide +kernel
theorem dL_goes_136 : decode cL_goes 136 = .ok (.if_icmp .ne 26, 3) := by decide +kernel
theorem dL_goes_139 : decode cL_goes 139 = .ok (.aload_n 0, 1) := by decide +kernel
theorem dL_goes_140 : decode cL_goes 140 = .ok (.iconst 0, 1) := by decide +kernel
theorem dL_goes_141 : decode cL_goes 141 = .ok (.invokevirtual 38, 3) := by decide +kernel
theorem dL_goes_144 : decode cL_goes 144 = .ok (.iconst 1, 1) := by decide +kernel
theorem dL_goes_145 : decode cL_goes 145 = .ok (.if_icmp .eq 13, 3) := by decide +kernel
theorem dL_goes_148 : decode cL_goes 148 = .ok (.aload_n 0, 1) := by decide +kernel
theorem dL_goes_149 : decode cL_goes 149 = .ok (.iconst 1, 1) := by decide +kernel
theorem dL_goes_150 : decode cL_goes 150 = .ok (.invokevirtual 38, 3) := by decide +kernel
theorem dL_goes_153 : decode cL_goes 153 = .ok (.iload 5, 2) := by decide +kernel
theorem dL_goes_155 : decode cL_goes 155 = .ok (.if_icmp .ne 7, 3) := by decide +kernel
theorem dL_goes_158 : decode cL_goes 158 = .ok (.iconst 1, 1) := by decide +kernel
theorem dL_goes_159 : decode cL_goes 159 = .ok (.goto 4, 3) := by decide +kernel
theorem dL_goes_162 : decode cL_goes 162 = .ok (.iconst 0, 1) := by decide +kernel
theorem dL_goes_163 : decode cL_goes 163 = .ok (.istore 10, 2) := by decide +kernel
theorem dL_goes_165 : decode cL_goes 165 = .ok (.iload 10, 2) := by decide +kernel
theorem dL_goes_167 : decode cL_goes 167 = .ok (.ifCond .eq 26, 3) := by decide +kernel
theorem dL_goes_170 : decode cL_goes 170 = .ok (.aload_n 0, 1) := by decide +kernel
theorem dL_goes_171 : decode cL_goes 171 = .ok (.iconst 0, 1) := by decide +kernel
theorem dL_goes_172 : decode cL_goes 172 = .ok (.invokevirtual 61, 3) := by decide +kernel
theorem dL_goes_175 : decode cL_goes 175 = .ok (.iload 4, 2) := by decide +kernel
theorem dL_goes_177 : decode cL_goes 177 = .ok (.if_icmp .ne 16, 3) := by decide +kernel
theorem dL_goes_180 : decode cL_goes 180 = .ok (.aload_n 0, 1) := by decide +kernel
theorem dL_goes_181 : decode cL_goes 181 = .ok (.invokevirtual 54, 3) := by decide +kernel
theorem dL_goes_184 : decode cL_goes 184 = .ok (.lload_n 2, 1) := by decide +kernel
theorem dL_goes_185 : decode cL_goes 185 = .ok (.lcmp, 1) := by decide +kernel
theorem dL_goes_186 : decode cL_goes 186 = .ok (.ifCond .ne 7, 3) := by decide +kernel
theorem dL_goes_189 : decode cL_goes 189 = .ok (.iconst 1, 1) := by decide +kernel
theorem dL_goes_190 : decode cL_goes 190 = .ok (.goto 4, 3) := by decide +kernel
theorem dL_goes_193 : decode cL_goes 193 = .ok (.iconst 0, 1) := by decide +kernel
theorem dL_goes_194 : decode cL_goes 194 = .ok (.istore 10, 2) := by decide +kernel
theorem dL_goes_196 : decode cL_goes 196 = .ok (.iconst 0, 1) := by decide +kernel
theorem dL_goes_197 : decode cL_goes 197 = .ok (.istore 11, 2) := by decide +kernel
theorem dL_goes_199 : decode cL_goes 199 = .ok (.iload 11, 2) := by decide +kernel
theorem dL_goes_201 : decode cL_goes 201 = .ok (.iload 7, 2) := by decide +kernel
theorem dL_goes_203 : decode cL_goes 203 = .ok (.if_icmp .ge 76, 3) := by decide +kernel
theorem dL_goes_206 : decode cL_goes 206 = .ok (.iload 10, 2) := by decide +kernel
theorem dL_goes_208 : decode cL_goes 208 = .ok (.ifCond .eq 71, 3) := by decide +kernel
theorem dL_goes_211 : decode cL_goes 211 = .ok (.aload_n 0, 1) := by decide +kernel
theorem dL_goes_212 : decode cL_goes 212 = .ok (.iconst 3, 1) := by decide +kernel
theorem dL_goes_213 : decode cL_goes 213 = .ok (.invokevirtual 38, 3) := by decide +kernel
theorem dL_goes_216 : decode cL_goes 216 = .ok (.istore 12, 2) := by decide +kernel
theorem dL_goes_218 : decode cL_goes 218 = .ok (.aload_n 0, 1) := by decide +kernel
theorem dL_goes_219 : decode cL_goes 219 = .ok (.iconst 1, 1) := by decide +kernel
theorem dL_goes_220 : decode cL_goes 220 = .ok (.invokevirtual 47, 3) := by decide +kernel
theorem dL_goes_223 : decode cL_goes 223 = .ok (.iconst 1, 1) := by decide +kernel
theorem dL_goes_224 : decode cL_goes 224 = .ok (.if_icmp .ne 46, 3) := by decide +kernel
theorem dL_goes_227 : decode cL_goes 227 = .ok (.aload_n 0, 1) := by decide +kernel
theorem dL_goes_228 : decode cL_goes 228 = .ok (.iconst 3, 1) := by decide +kernel
theorem dL_goes_229 : decode cL_goes 229 = .ok (.invokevirtual 38, 3) := by decide +kernel
theorem dL_goes_232 : decode cL_goes 232 = .ok (.iload 12, 2) := by decide +kernel
theorem dL_goes_234 : decode cL_goes 234 = .ok (.isub, 1) := by decide +kernel
theorem dL_goes_235 : decode cL_goes 235 = .ok (.aload_n 0, 1) := by decide +kernel
theorem dL_goes_236 : decode cL_goes 236 = .ok (.iconst 0, 1) := by decide +kernel
theorem dL_goes_237 : decode cL_goes 237 = .ok (.invokevirtual 38, 3) := by decide +kernel
theorem dL_goes_240 : decode cL_goes 240 = .ok (.iconst 1, 1) := by decide +kernel
theorem dL_goes_241 : decode cL_goes 241 = .ok (.if_icmp .ne 21, 3) := by decide +kernel
theorem dL_goes_244 : decode cL_goes 244 = .ok (.aload_n 0, 1) := by decide +kernel
theorem dL_goes_245 : decode cL_goes 245 = .ok (.aload_n 0, 1) := by decide +kernel
theorem dL_goes_246 : decode cL_goes 246 = .ok (.iconst 2, 1) := by decide +kernel
theorem dL_goes_247 : decode cL_goes 247 = .ok (.invokevirtual 38, 3) := by decide +kernel
theorem dL_goes_250 : decode cL_goes 250 = .ok (.iconst 0, 1) := by decide +kernel
theorem dL_goes_251 : decode cL_goes 251 = .ok (.invokevirtual 44, 3) := by decide +kernel
theorem dL_goes_254 : decode cL_goes 254 = .ok (.iconst 3, 1) := by decide +kernel
theorem dL_goes_255 : decode cL_goes 255 = .ok (.if_icmp .eq 7, 3) := by decide +kernel
theorem dL_goes_258 : decode cL_goes 258 = .ok (.iconst 1, 1) := by decide +kernel
theorem dL_goes_259 : decode cL_goes 259 = .ok (.goto 4, 3) := by decide +kernel
theorem dL_goes_262 : decode cL_goes 262 = .ok (.iconst 0, 1) := by decide +kernel
theorem dL_goes_263 : decode cL_goes 263 = .ok (.if_icmp .ne 7, 3) := by decide +kernel
theorem dL_goes_266 : decode cL_goes 266 = .ok (.iconst 1, 1) := by decide +kernel
theorem dL_goes_267 : decode cL_goes 267 = .ok (.goto 4, 3) := by decide +kernel
theorem dL_goes_270 : decode cL_goes 270 = .ok (.iconst 0, 1) := by decide +kernel
theorem dL_goes_271 : decode cL_goes 271 = .ok (.istore 10, 2) := by decide +kernel
theorem dL_goes_273 : decode cL_goes 273 = .ok (.iinc 11 1, 3) := by decide +kernel
theorem dL_goes_276 : decode cL_goes 276 = .ok (.goto (-77), 3) := by decide +kernel
theorem dL_goes_279 : decode cL_goes 279 = .ok (.iload 10, 2) := by decide +kernel
theorem dL_goes_281 : decode cL_goes 281 = .ok (.ifCond .eq 17, 3) := by decide +kernel
theorem dL_goes_284 : decode cL_goes 284 = .ok (.aload_n 0, 1) := by decide +kernel
theorem dL_goes_285 : decode cL_goes 285 = .ok (.invokevirtual 54, 3) := by decide +kernel
theorem dL_goes_288 : decode cL_goes 288 = .ok (.lload 8, 2) := by decide +kernel
theorem dL_goes_290 : decode cL_goes 290 = .ok (.lcmp, 1) := by decide +kernel
theorem dL_goes_291 : decode cL_goes 291 = .ok (.ifCond .ne 7, 3) := by decide +kernel
theorem dL_goes_294 : decode cL_goes 294 = .ok (.iconst 1, 1) := by decide +kernel
theorem dL_goes_295 : decode cL_goes 295 = .ok (.goto 4, 3) := by decide +kernel
theorem dL_goes_298 : decode cL_goes 298 = .ok (.iconst 0, 1) := by decide +kernel
theorem dL_goes_299 : decode cL_goes 299 = .ok (.ireturn, 1) := by decide +kernel
theorem dL_refuses_0 : decode cL_refuses 0 = .ok (.aload_n 0, 1) := by decide +kernel
theorem dL_refuses_1 : decode cL_refuses 1 = .ok (.invokevirtual 54, 3) := by decide +kernel
theorem dL_refuses_4 : decode cL_refuses 4 = .ok (.lstore_n 2, 1) := by decide +kernel
theorem dL_refuses_5 : decode cL_refuses 5 = .ok (.aload_n 0, 1) := by decide +kernel
theorem dL_refuses_6 : decode cL_refuses 6 = .ok (.iconst 0, 1) := by decide +kernel
theorem dL_refuses_7 : decode cL_refuses 7 = .ok (.invokevirtual 9, 3) := by decide +kernel
theorem dL_refuses_10 : decode cL_refuses 10 = .ok (.ldc 36, 2) := by decide +kernel
theorem dL_refuses_12 : decode cL_refuses 12 = .ok (.if_icmp .ne 120, 3) := by decide +kernel
theorem dL_refuses_15 : decode cL_refuses 15 = .ok (.aload_n 0, 1) := by decide +kernel
theorem dL_refuses_16 : decode cL_refuses 16 = .ok (.iload_n 1, 1) := by decide +kernel
theorem dL_refuses_17 : decode cL_refuses 17 = .ok (.iconst 1, 1) := by decide +kernel
theorem dL_refuses_18 : decode cL_refuses 18 = .ok (.iconst 1, 1) := by decide +kernel
theorem dL_refuses_19 : decode cL_refuses 19 = .ok (.invokevirtual 20, 3) := by decide +kernel
theorem dL_refuses_22 : decode cL_refuses 22 = .ok (.ldc 37, 2) := by decide +kernel
theorem dL_refuses_24 : decode cL_refuses 24 = .ok (.if_icmp .ne 108, 3) := by decide +kernel
theorem dL_refuses_27 : decode cL_refuses 27 = .ok (.aload_n 0, 1) := by decide +kernel
theorem dL_refuses_28 : decode cL_refuses 28 = .ok (.iconst 0, 1) := by decide +kernel
theorem dL_refuses_29 : decode cL_refuses 29 = .ok (.iconst 0, 1) := by decide +kernel
theorem dL_refuses_30 : decode cL_refuses 30 = .ok (.iconst 1, 1) := by decide +kernel
theorem dL_refuses_31 : decode cL_refuses 31 = .ok (.invokevirtual 20, 3) := by decide +kernel
theorem dL_refuses_34 : decode cL_refuses 34 = .ok (.ldc 36, 2) := by decide +kernel
theorem dL_refuses_36 : decode cL_refuses 36 = .ok (.if_icmp .ne 96, 3) := by decide +kernel
theorem dL_refuses_39 : decode cL_refuses 39 = .ok (.aload_n 0, 1) := by decide +kernel
theorem dL_refuses_40 : decode cL_refuses 40 = .ok (.iconst 0, 1) := by decide +kernel
theorem dL_refuses_41 : decode cL_refuses 41 = .ok (.iconst 1, 1) := by decide +kernel
theorem dL_refuses_42 : decode cL_refuses 42 = .ok (.iconst 0, 1) := by decide +kernel
theorem dL_refuses_43 : decode cL_refuses 43 = .ok (.invokevirtual 20, 3) := by decide +kernel
theorem dL_refuses_46 : decode cL_refuses 46 = .ok (.ldc 36, 2) := by decide +kernel
theorem dL_refuses_48 : decode cL_refuses 48 = .ok (.if_icmp .ne 84, 3) := by decide +kernel
theorem dL_refuses_51 : decode cL_refuses 51 = .ok (.aload_n 0, 1) := by decide +kernel
theorem dL_refuses_52 : decode cL_refuses 52 = .ok (.iconst 0, 1) := by decide +kernel
theorem dL_refuses_53 : decode cL_refuses 53 = .ok (.iconst 0, 1) := by decide +kernel
theorem dL_refuses_54 : decode cL_refuses 54 = .ok (.invokevirtual 64, 3) := by decide +kernel
theorem dL_refuses_57 : decode cL_refuses 57 = .ok (.ldc 36, 2) := by decide +kernel
theorem dL_refuses_59 : decode cL_refuses 59 = .ok (.if_icmp .ne 73, 3) := by decide +kernel
theorem dL_refuses_62 : decode cL_refuses 62 = .ok (.aload_n 0, 1) := by decide +kernel
theorem dL_refuses_63 : decode cL_refuses 63 = .ok (.iconst (-1), 1) := by decide +kernel
theorem dL_refuses_64 : decode cL_refuses 64 = .ok (.iconst 0, 1) := by decide +kernel
theorem dL_refuses_65 : decode cL_refuses 65 = .ok (.invokevirtual 15, 3) := by decide +kernel
theorem dL_refuses_68 : decode cL_refuses 68 = .ok (.ldc 37, 2) := by decide +kernel
theorem dL_refuses_70 : decode cL_refuses 70 = .ok (.if_icmp .ne 62, 3) := by decide +kernel
theorem dL_refuses_73 : decode cL_refuses 73 = .ok (.aload_n 0, 1) := by decide +kernel
theorem dL_refuses_74 : decode cL_refuses 74 = .ok (.iconst 0, 1) := by decide +kernel
theorem dL_refuses_75 : decode cL_refuses 75 = .ok (.iconst (-1), 1) := by decide +kernel
theorem dL_refuses_76 : decode cL_refuses 76 = .ok (.invokevirtual 15, 3) := by decide +kernel
theorem dL_refuses_79 : decode cL_refuses 79 = .ok (.ldc 36, 2) := by decide +kernel
theorem dL_refuses_81 : decode cL_refuses 81 = .ok (.if_icmp .ne 51, 3) := by decide +kernel
theorem dL_refuses_84 : decode cL_refuses 84 = .ok (.aload_n 0, 1) := by decide +kernel
theorem dL_refuses_85 : decode cL_refuses 85 = .ok (.iconst 0, 1) := by decide +kernel
theorem dL_refuses_86 : decode cL_refuses 86 = .ok (.iconst (-1), 1) := by decide +kernel
theorem dL_refuses_87 : decode cL_refuses 87 = .ok (.iconst 1, 1) := by decide +kernel
theorem dL_refuses_88 : decode cL_refuses 88 = .ok (.invokevirtual 67, 3) := by decide +kernel
theorem dL_refuses_91 : decode cL_refuses 91 = .ok (.ldc 37, 2) := by decide +kernel
theorem dL_refuses_93 : decode cL_refuses 93 = .ok (.if_icmp .ne 39, 3) := by decide +kernel
theorem dL_refuses_96 : decode cL_refuses 96 = .ok (.aload_n 0, 1) := by decide +kernel
theorem dL_refuses_97 : decode cL_refuses 97 = .ok (.iconst (-1), 1) := by decide +kernel
theorem dL_refuses_98 : decode cL_refuses 98 = .ok (.iconst 0, 1) := by decide +kernel
theorem dL_refuses_99 : decode cL_refuses 99 = .ok (.invokevirtual 33, 3) := by decide +kernel
theorem dL_refuses_102 : decode cL_refuses 102 = .ok (.ldc 37, 2) := by decide +kernel
theorem dL_refuses_104 : decode cL_refuses 104 = .ok (.if_icmp .ne 28, 3) := by decide +kernel
theorem dL_refuses_107 : decode cL_refuses 107 = .ok (.aload_n 0, 1) := by decide +kernel
theorem dL_refuses_108 : decode cL_refuses 108 = .ok (.iconst (-1), 1) := by decide +kernel
theorem dL_refuses_109 : decode cL_refuses 109 = .ok (.invokevirtual 71, 3) := by decide +kernel
theorem dL_refuses_112 : decode cL_refuses 112 = .ok (.ldc 36, 2) := by decide +kernel
theorem dL_refuses_114 : decode cL_refuses 114 = .ok (.if_icmp .ne 18, 3) := by decide +kernel
theorem dL_refuses_117 : decode cL_refuses 117 = .ok (.aload_n 0, 1) := by decide +kernel
theorem dL_refuses_118 : decode cL_refuses 118 = .ok (.bipush 12, 2) := by decide +kernel
theorem dL_refuses_120 : decode cL_refuses 120 = .ok (.invokevirtual 74, 3) := by decide +kernel
theorem dL_refuses_123 : decode cL_refuses 123 = .ok (.ldc 37, 2) := by decide +kernel
theorem dL_refuses_125 : decode cL_refuses 125 = .ok (.if_icmp .ne 7, 3) := by decide +kernel
theorem dL_refuses_128 : decode cL_refuses 128 = .ok (.iconst 1, 1) := by decide +kernel
theorem dL_refuses_129 : decode cL_refuses 129 = .ok (.goto 4, 3) := by decide +kernel
theorem dL_refuses_132 : decode cL_refuses 132 = .ok (.iconst 0, 1) := by decide +kernel
theorem dL_refuses_133 : decode cL_refuses 133 = .ok (.istore 4, 2) := by decide +kernel
theorem dL_refuses_135 : decode cL_refuses 135 = .ok (.iload 4, 2) := by decide +kernel
theorem dL_refuses_137 : decode cL_refuses 137 = .ok (.ifCond .eq 112, 3) := by decide +kernel
theorem dL_refuses_140 : decode cL_refuses 140 = .ok (.aload_n 0, 1) := by decide +kernel
theorem dL_refuses_141 : decode cL_refuses 141 = .ok (.iconst (-1), 1) := by decide +kernel
theorem dL_refuses_142 : decode cL_refuses 142 = .ok (.invokevirtual 47, 3) := by decide +kernel
theorem dL_refuses_145 : decode cL_refuses 145 = .ok (.ldc 36, 2) := by decide +kernel
theorem dL_refuses_147 : decode cL_refuses 147 = .ok (.if_icmp .ne 102, 3) := by decide +kernel
theorem dL_refuses_150 : decode cL_refuses 150 = .ok (.aload_n 0, 1) := by decide +kernel
theorem dL_refuses_151 : decode cL_refuses 151 = .ok (.iconst (-1), 1) := by decide +kernel
theorem dL_refuses_152 : decode cL_refuses 152 = .ok (.invokevirtual 38, 3) := by decide +kernel
theorem dL_refuses_155 : decode cL_refuses 155 = .ok (.ldc 37, 2) := by decide +kernel
theorem dL_refuses_157 : decode cL_refuses 157 = .ok (.if_icmp .ne 92, 3) := by decide +kernel
theorem dL_refuses_160 : decode cL_refuses 160 = .ok (.aload_n 0, 1) := by decide +kernel
theorem dL_refuses_161 : decode cL_refuses 161 = .ok (.iconst (-1), 1) := by decide +kernel
theorem dL_refuses_162 : decode cL_refuses 162 = .ok (.iconst 0, 1) := by decide +kernel
theorem dL_refuses_163 : decode cL_refuses 163 = .ok (.invokevirtual 44, 3) := by decide +kernel
theorem dL_refuses_166 : decode cL_refuses 166 = .ok (.ldc 37, 2) := by decide +kernel
theorem dL_refuses_168 : decode cL_refuses 168 = .ok (.if_icmp .ne 81, 3) := by decide +kernel
theorem dL_refuses_171 : decode cL_refuses 171 = .ok (.aload_n 0, 1) := by decide +kernel
theorem dL_refuses_172 : decode cL_refuses 172 = .ok (.iconst 0, 1) := by decide +kernel
theorem dL_refuses_173 : decode cL_refuses 173 = .ok (.iconst (-1), 1) := by decide +kernel
theorem dL_refuses_174 : decode cL_refuses 174 = .ok (.invokevirtual 44, 3) := by decide +kernel
theorem dL_refuses_177 : decode cL_refuses 177 = .ok (.ldc 36, 2) := by decide +kernel
theorem dL_refuses_179 : decode cL_refuses 179 = .ok (.if_icmp .ne 70, 3) := by decide +kernel
theorem dL_refuses_182 : decode cL_refuses 182 = .ok (.aload_n 0, 1) := by decide +kernel
theorem dL_refuses_183 : decode cL_refuses 183 = .ok (.iconst (-1), 1) := by decide +kernel
theorem dL_refuses_184 : decode cL_refuses 184 = .ok (.iconst 0, 1) := by decide +kernel
theorem dL_refuses_185 : decode cL_refuses 185 = .ok (.invokevirtual 41, 3) := by decide +kernel
theorem dL_refuses_188 : decode cL_refuses 188 = .ok (.ldc 37, 2) := by decide +kernel
theorem dL_refuses_190 : decode cL_refuses 190 = .ok (.if_icmp .ne 59, 3) := by decide +kernel
theorem dL_refuses_193 : decode cL_refuses 193 = .ok (.aload_n 0, 1) := by decide +kernel
theorem dL_refuses_194 : decode cL_refuses 194 = .ok (.iconst (-1), 1) := by decide +kernel
theorem dL_refuses_195 : decode cL_refuses 195 = .ok (.invokevirtual 51, 3) := by decide +kernel
theorem dL_refuses_198 : decode cL_refuses 198 = .ok (.ldc 37, 2) := by decide +kernel
theorem dL_refuses_200 : decode cL_refuses 200 = .ok (.if_icmp .ne 49, 3) := by decide +kernel
theorem dL_refuses_203 : decode cL_refuses 203 = .ok (.aload_n 0, 1) := by decide +kernel
theorem dL_refuses_204 : decode cL_refuses 204 = .ok (.iconst (-1), 1) := by decide +kernel
theorem dL_refuses_205 : decode cL_refuses 205 = .ok (.iconst 0, 1) := by decide +kernel
theorem dL_refuses_206 : decode cL_refuses 206 = .ok (.invokevirtual 77, 3) := by decide +kernel
theorem dL_refuses_209 : decode cL_refuses 209 = .ok (.ldc 37, 2) := by decide +kernel
theorem dL_refuses_211 : decode cL_refuses 211 = .ok (.if_icmp .ne 38, 3) := by decide +kernel
theorem dL_refuses_214 : decode cL_refuses 214 = .ok (.aload_n 0, 1) := by decide +kernel
theorem dL_refuses_215 : decode cL_refuses 215 = .ok (.iconst 0, 1) := by decide +kernel
theorem dL_refuses_216 : decode cL_refuses 216 = .ok (.iconst 0, 1) := by decide +kernel
theorem dL_refuses_217 : decode cL_refuses 217 = .ok (.invokevirtual 77, 3) := by decide +kernel
theorem dL_refuses_220 : decode cL_refuses 220 = .ok (.ldc 36, 2) := by decide +kernel
theorem dL_refuses_222 : decode cL_refuses 222 = .ok (.if_icmp .ne 27, 3) := by decide +kernel
theorem dL_refuses_225 : decode cL_refuses 225 = .ok (.aload_n 0, 1) := by decide +kernel
theorem dL_refuses_226 : decode cL_refuses 226 = .ok (.iconst 2, 1) := by decide +kernel
theorem dL_refuses_227 : decode cL_refuses 227 = .ok (.invokevirtual 58, 3) := by decide +kernel
theorem dL_refuses_230 : decode cL_refuses 230 = .ok (.ldc 37, 2) := by decide +kernel
theorem dL_refuses_232 : decode cL_refuses 232 = .ok (.if_icmp .ne 17, 3) := by decide +kernel
theorem dL_refuses_235 : decode cL_refuses 235 = .ok (.aload_n 0, 1) := by decide +kernel
theorem dL_refuses_236 : decode cL_refuses 236 = .ok (.iconst (-1), 1) := by decide +kernel
theorem dL_refuses_237 : decode cL_refuses 237 = .ok (.invokevirtual 61, 3) := by decide +kernel
theorem dL_refuses_240 : decode cL_refuses 240 = .ok (.ldc 37, 2) := by decide +kernel
theorem dL_refuses_242 : decode cL_refuses 242 = .ok (.if_icmp .ne 7, 3) := by decide +kernel
theorem dL_refuses_245 : decode cL_refuses 245 = .ok (.iconst 1, 1) := by decide +kernel
theorem dL_refuses_246 : decode cL_refuses 246 = .ok (.goto 4, 3) := by decide +kernel
theorem dL_refuses_249 : decode cL_refuses 249 = .ok (.iconst 0, 1) := by decide +kernel
theorem dL_refuses_250 : decode cL_refuses 250 = .ok (.istore 4, 2) := by decide +kernel
theorem dL_refuses_252 : decode cL_refuses 252 = .ok (.iload 4, 2) := by decide +kernel
theorem dL_refuses_254 : decode cL_refuses 254 = .ok (.ifCond .eq 16, 3) := by decide +kernel
theorem dL_refuses_257 : decode cL_refuses 257 = .ok (.aload_n 0, 1) := by decide +kernel
theorem dL_refuses_258 : decode cL_refuses 258 = .ok (.invokevirtual 54, 3) := by decide +kernel
theorem dL_refuses_261 : decode cL_refuses 261 = .ok (.lload_n 2, 1) := by decide +kernel
theorem dL_refuses_262 : decode cL_refuses 262 = .ok (.lcmp, 1) := by decide +kernel
theorem dL_refuses_263 : decode cL_refuses 263 = .ok (.ifCond .ne 7, 3) := by decide +kernel
theorem dL_refuses_266 : decode cL_refuses 266 = .ok (.iconst 1, 1) := by decide +kernel
theorem dL_refuses_267 : decode cL_refuses 267 = .ok (.goto 4, 3) := by decide +kernel
theorem dL_refuses_270 : decode cL_refuses 270 = .ok (.iconst 0, 1) := by decide +kernel
theorem dL_refuses_271 : decode cL_refuses 271 = .ok (.ireturn, 1) := by decide +kernel
theorem dL_law_0 : decode cL_law 0 = .ok (.new 10, 3) := by decide +kernel
theorem dL_law_3 : decode cL_law 3 = .ok (.dup, 1) := by decide +kernel
theorem dL_law_4 : decode cL_law 4 = .ok (.invokespecial 80, 3) := by decide +kernel
theorem dL_law_7 : decode cL_law 7 = .ok (.astore_n 1, 1) := by decide +kernel
theorem dL_law_8 : decode cL_law 8 = .ok (.bipush 56, 2) := by decide +kernel
theorem dL_law_10 : decode cL_law 10 = .ok (.newarray .int, 2) := by decide +kernel
theorem dL_law_12 : decode cL_law 12 = .ok (.astore_n 2, 1) := by decide +kernel
theorem dL_law_13 : decode cL_law 13 = .ok (.bipush 8, 2) := by decide +kernel
theorem dL_law_15 : decode cL_law 15 = .ok (.newarray .int, 2) := by decide +kernel
theorem dL_law_17 : decode cL_law 17 = .ok (.astore_n 3, 1) := by decide +kernel
theorem dL_law_18 : decode cL_law 18 = .ok (.aload_n 3, 1) := by decide +kernel
theorem dL_law_19 : decode cL_law 19 = .ok (.invokestatic 81, 3) := by decide +kernel
theorem dL_law_22 : decode cL_law 22 = .ok (.aload_n 0, 1) := by decide +kernel
theorem dL_law_23 : decode cL_law 23 = .ok (.iconst 0, 1) := by decide +kernel
theorem dL_law_24 : decode cL_law 24 = .ok (.invokestatic 85, 3) := by decide +kernel
theorem dL_law_27 : decode cL_law 27 = .ok (.istore 4, 2) := by decide +kernel
theorem dL_law_29 : decode cL_law 29 = .ok (.iconst 1, 1) := by decide +kernel
theorem dL_law_30 : decode cL_law 30 = .ok (.iload 4, 2) := by decide +kernel
theorem dL_law_32 : decode cL_law 32 = .ok (.iconst 4, 1) := by decide +kernel
theorem dL_law_33 : decode cL_law 33 = .ok (.irem, 1) := by decide +kernel
theorem dL_law_34 : decode cL_law 34 = .ok (.iadd, 1) := by decide +kernel
theorem dL_law_35 : decode cL_law 35 = .ok (.istore 5, 2) := by decide +kernel
theorem dL_law_37 : decode cL_law 37 = .ok (.aload_n 1, 1) := by decide +kernel
theorem dL_law_38 : decode cL_law 38 = .ok (.iconst 1, 1) := by decide +kernel
theorem dL_law_39 : decode cL_law 39 = .ok (.invokevirtual 61, 3) := by decide +kernel
theorem dL_law_42 : decode cL_law 42 = .ok (.ldc 50, 2) := by decide +kernel
theorem dL_law_44 : decode cL_law 44 = .ok (.if_icmp .ne 31, 3) := by decide +kernel
theorem dL_law_47 : decode cL_law 47 = .ok (.aload_n 1, 1) := by decide +kernel
theorem dL_law_48 : decode cL_law 48 = .ok (.iconst 0, 1) := by decide +kernel
theorem dL_law_49 : decode cL_law 49 = .ok (.invokevirtual 38, 3) := by decide +kernel
theorem dL_law_52 : decode cL_law 52 = .ok (.ifCond .ne 23, 3) := by decide +kernel
theorem dL_law_55 : decode cL_law 55 = .ok (.aload_n 1, 1) := by decide +kernel
theorem dL_law_56 : decode cL_law 56 = .ok (.invokevirtual 89, 3) := by decide +kernel
theorem dL_law_59 : decode cL_law 59 = .ok (.ifCond .ne 16, 3) := by decide +kernel
theorem dL_law_62 : decode cL_law 62 = .ok (.aload_n 1, 1) := by decide +kernel
theorem dL_law_63 : decode cL_law 63 = .ok (.invokevirtual 93, 3) := by decide +kernel
theorem dL_law_66 : decode cL_law 66 = .ok (.ldc 50, 2) := by decide +kernel
theorem dL_law_68 : decode cL_law 68 = .ok (.if_icmp .ne 7, 3) := by decide +kernel
theorem dL_law_71 : decode cL_law 71 = .ok (.iconst 1, 1) := by decide +kernel
theorem dL_law_72 : decode cL_law 72 = .ok (.goto 4, 3) := by decide +kernel
theorem dL_law_75 : decode cL_law 75 = .ok (.iconst 0, 1) := by decide +kernel
theorem dL_law_76 : decode cL_law 76 = .ok (.istore 6, 2) := by decide +kernel
theorem dL_law_78 : decode cL_law 78 = .ok (.iconst 0, 1) := by decide +kernel
theorem dL_law_79 : decode cL_law 79 = .ok (.istore 7, 2) := by decide +kernel
theorem dL_law_81 : decode cL_law 81 = .ok (.iload 7, 2) := by decide +kernel
theorem dL_law_83 : decode cL_law 83 = .ok (.iload 5, 2) := by decide +kernel
theorem dL_law_85 : decode cL_law 85 = .ok (.if_icmp .ge 120, 3) := by decide +kernel
theorem dL_law_88 : decode cL_law 88 = .ok (.iload 6, 2) := by decide +kernel
theorem dL_law_90 : decode cL_law 90 = .ok (.ifCond .eq 115, 3) := by decide +kernel
theorem dL_law_93 : decode cL_law 93 = .ok (.aload_n 0, 1) := by decide +kernel
theorem dL_law_94 : decode cL_law 94 = .ok (.iconst 1, 1) := by decide +kernel
theorem dL_law_95 : decode cL_law 95 = .ok (.iload 7, 2) := by decide +kernel
theorem dL_law_97 : decode cL_law 97 = .ok (.iadd, 1) := by decide +kernel
theorem dL_law_98 : decode cL_law 98 = .ok (.invokestatic 85, 3) := by decide +kernel
theorem dL_law_101 : decode cL_law 101 = .ok (.istore 8, 2) := by decide +kernel
theorem dL_law_103 : decode cL_law 103 = .ok (.aload_n 1, 1) := by decide +kernel
theorem dL_law_104 : decode cL_law 104 = .ok (.aload_n 2, 1) := by decide +kernel
theorem dL_law_105 : decode cL_law 105 = .ok (.iload 7, 2) := by decide +kernel
theorem dL_law_107 : decode cL_law 107 = .ok (.bipush 100, 2) := by decide +kernel
theorem dL_law_109 : decode cL_law 109 = .ok (.iload 8, 2) := by decide +kernel
theorem dL_law_111 : decode cL_law 111 = .ok (.bipush 90, 2) := by decide +kernel
theorem dL_law_113 : decode cL_law 113 = .ok (.irem, 1) := by decide +kernel
theorem dL_law_114 : decode cL_law 114 = .ok (.iadd, 1) := by decide +kernel
theorem dL_law_115 : decode cL_law 115 = .ok (.invokestatic 96, 3) := by decide +kernel
theorem dL_law_118 : decode cL_law 118 = .ok (.istore 6, 2) := by decide +kernel
theorem dL_law_120 : decode cL_law 120 = .ok (.iconst 0, 1) := by decide +kernel
theorem dL_law_121 : decode cL_law 121 = .ok (.istore 9, 2) := by decide +kernel
theorem dL_law_123 : decode cL_law 123 = .ok (.iload 9, 2) := by decide +kernel
theorem dL_law_125 : decode cL_law 125 = .ok (.iconst 3, 1) := by decide +kernel
theorem dL_law_126 : decode cL_law 126 = .ok (.if_icmp .ge 73, 3) := by decide +kernel
theorem dL_law_129 : decode cL_law 129 = .ok (.iload 6, 2) := by decide +kernel
theorem dL_law_131 : decode cL_law 131 = .ok (.ifCond .eq 68, 3) := by decide +kernel
theorem dL_law_134 : decode cL_law 134 = .ok (.iload 8, 2) := by decide +kernel
theorem dL_law_136 : decode cL_law 136 = .ok (.bipush 6, 2) := by decide +kernel
theorem dL_law_138 : decode cL_law 138 = .ok (.iload 9, 2) := by decide +kernel
theorem dL_law_140 : decode cL_law 140 = .ok (.iadd, 1) := by decide +kernel
theorem dL_law_141 : decode cL_law 141 = .ok (.ishr, 1) := by decide +kernel
theorem dL_law_142 : decode cL_law 142 = .ok (.iconst 2, 1) := by decide +kernel
theorem dL_law_143 : decode cL_law 143 = .ok (.irem, 1) := by decide +kernel
theorem dL_law_144 : decode cL_law 144 = .ok (.ifCond .eq 42, 3) := by decide +kernel
theorem dL_law_147 : decode cL_law 147 = .ok (.aload_n 1, 1) := by decide +kernel
theorem dL_law_148 : decode cL_law 148 = .ok (.aload_n 2, 1) := by decide +kernel
theorem dL_law_149 : decode cL_law 149 = .ok (.iload 7, 2) := by decide +kernel
theorem dL_law_151 : decode cL_law 151 = .ok (.iconst 1, 1) := by decide +kernel
theorem dL_law_152 : decode cL_law 152 = .ok (.iload 8, 2) := by decide +kernel
theorem dL_law_154 : decode cL_law 154 = .ok (.bipush 9, 2) := by decide +kernel
theorem dL_law_156 : decode cL_law 156 = .ok (.iconst 3, 1) := by decide +kernel
theorem dL_law_157 : decode cL_law 157 = .ok (.iload 9, 2) := by decide +kernel
theorem dL_law_159 : decode cL_law 159 = .ok (.imul, 1) := by decide +kernel
theorem dL_law_160 : decode cL_law 160 = .ok (.iadd, 1) := by decide +kernel
theorem dL_law_161 : decode cL_law 161 = .ok (.ishr, 1) := by decide +kernel
theorem dL_law_162 : decode cL_law 162 = .ok (.bipush 99, 2) := by decide +kernel
theorem dL_law_164 : decode cL_law 164 = .ok (.irem, 1) := by decide +kernel
theorem dL_law_165 : decode cL_law 165 = .ok (.iadd, 1) := by decide +kernel
theorem dL_law_166 : decode cL_law 166 = .ok (.iconst 1, 1) := by decide +kernel
theorem dL_law_167 : decode cL_law 167 = .ok (.iload 8, 2) := by decide +kernel
theorem dL_law_169 : decode cL_law 169 = .ok (.bipush 10, 2) := by decide +kernel
theorem dL_law_171 : decode cL_law 171 = .ok (.iconst 4, 1) := by decide +kernel
theorem dL_law_172 : decode cL_law 172 = .ok (.iload 9, 2) := by decide +kernel
theorem dL_law_174 : decode cL_law 174 = .ok (.imul, 1) := by decide +kernel
theorem dL_law_175 : decode cL_law 175 = .ok (.iadd, 1) := by decide +kernel
theorem dL_law_176 : decode cL_law 176 = .ok (.ishr, 1) := by decide +kernel
theorem dL_law_177 : decode cL_law 177 = .ok (.iconst 4, 1) := by decide +kernel
theorem dL_law_178 : decode cL_law 178 = .ok (.irem, 1) := by decide +kernel
theorem dL_law_179 : decode cL_law 179 = .ok (.iadd, 1) := by decide +kernel
theorem dL_law_180 : decode cL_law 180 = .ok (.invokestatic 100, 3) := by decide +kernel
theorem dL_law_183 : decode cL_law 183 = .ok (.ifCond .eq 7, 3) := by decide +kernel
theorem dL_law_186 : decode cL_law 186 = .ok (.iconst 1, 1) := by decide +kernel
theorem dL_law_187 : decode cL_law 187 = .ok (.goto 4, 3) := by decide +kernel
theorem dL_law_190 : decode cL_law 190 = .ok (.iconst 0, 1) := by decide +kernel
theorem dL_law_191 : decode cL_law 191 = .ok (.istore 6, 2) := by decide +kernel
theorem dL_law_193 : decode cL_law 193 = .ok (.iinc 9 1, 3) := by decide +kernel
theorem dL_law_196 : decode cL_law 196 = .ok (.goto (-73), 3) := by decide +kernel
theorem dL_law_199 : decode cL_law 199 = .ok (.iinc 7 1, 3) := by decide +kernel
theorem dL_law_202 : decode cL_law 202 = .ok (.goto (-121), 3) := by decide +kernel
theorem dL_law_205 : decode cL_law 205 = .ok (.iconst 0, 1) := by decide +kernel
theorem dL_law_206 : decode cL_law 206 = .ok (.istore 7, 2) := by decide +kernel
theorem dL_law_208 : decode cL_law 208 = .ok (.iload 7, 2) := by decide +kernel
theorem dL_law_210 : decode cL_law 210 = .ok (.bipush 8, 2) := by decide +kernel
theorem dL_law_212 : decode cL_law 212 = .ok (.if_icmp .ge 52, 3) := by decide +kernel
theorem dL_law_215 : decode cL_law 215 = .ok (.iload 6, 2) := by decide +kernel
theorem dL_law_217 : decode cL_law 217 = .ok (.ifCond .eq 47, 3) := by decide +kernel
theorem dL_law_220 : decode cL_law 220 = .ok (.aload_n 0, 1) := by decide +kernel
theorem dL_law_221 : decode cL_law 221 = .ok (.iconst 5, 1) := by decide +kernel
theorem dL_law_222 : decode cL_law 222 = .ok (.iload 7, 2) := by decide +kernel
theorem dL_law_224 : decode cL_law 224 = .ok (.iadd, 1) := by decide +kernel
theorem dL_law_225 : decode cL_law 225 = .ok (.invokestatic 85, 3) := by decide +kernel
theorem dL_law_228 : decode cL_law 228 = .ok (.istore 8, 2) := by decide +kernel
theorem dL_law_230 : decode cL_law 230 = .ok (.iload 8, 2) := by decide +kernel
theorem dL_law_232 : decode cL_law 232 = .ok (.iconst 2, 1) := by decide +kernel
theorem dL_law_233 : decode cL_law 233 = .ok (.irem, 1) := by decide +kernel
theorem dL_law_234 : decode cL_law 234 = .ok (.ifCond .eq 17, 3) := by decide +kernel
theorem dL_law_237 : decode cL_law 237 = .ok (.aload_n 1, 1) := by decide +kernel
theorem dL_law_238 : decode cL_law 238 = .ok (.aload_n 3, 1) := by decide +kernel
theorem dL_law_239 : decode cL_law 239 = .ok (.iload 7, 2) := by decide +kernel
theorem dL_law_241 : decode cL_law 241 = .ok (.iload 8, 2) := by decide +kernel
theorem dL_law_243 : decode cL_law 243 = .ok (.iconst 3, 1) := by decide +kernel
theorem dL_law_244 : decode cL_law 244 = .ok (.ishr, 1) := by decide +kernel
theorem dL_law_245 : decode cL_law 245 = .ok (.invokestatic 104, 3) := by decide +kernel
theorem dL_law_248 : decode cL_law 248 = .ok (.ifCond .eq 7, 3) := by decide +kernel
theorem dL_law_251 : decode cL_law 251 = .ok (.iconst 1, 1) := by decide +kernel
theorem dL_law_252 : decode cL_law 252 = .ok (.goto 4, 3) := by decide +kernel
theorem dL_law_255 : decode cL_law 255 = .ok (.iconst 0, 1) := by decide +kernel
theorem dL_law_256 : decode cL_law 256 = .ok (.istore 6, 2) := by decide +kernel
theorem dL_law_258 : decode cL_law 258 = .ok (.iinc 7 1, 3) := by decide +kernel
theorem dL_law_261 : decode cL_law 261 = .ok (.goto (-53), 3) := by decide +kernel
theorem dL_law_264 : decode cL_law 264 = .ok (.iconst 1, 1) := by decide +kernel
theorem dL_law_265 : decode cL_law 265 = .ok (.iload 4, 2) := by decide +kernel
theorem dL_law_267 : decode cL_law 267 = .ok (.iconst 4, 1) := by decide +kernel
theorem dL_law_268 : decode cL_law 268 = .ok (.ishr, 1) := by decide +kernel
theorem dL_law_269 : decode cL_law 269 = .ok (.bipush 6, 2) := by decide +kernel
theorem dL_law_271 : decode cL_law 271 = .ok (.irem, 1) := by decide +kernel
theorem dL_law_272 : decode cL_law 272 = .ok (.iadd, 1) := by decide +kernel
theorem dL_law_273 : decode cL_law 273 = .ok (.istore 7, 2) := by decide +kernel
theorem dL_law_275 : decode cL_law 275 = .ok (.iconst 0, 1) := by decide +kernel
theorem dL_law_276 : decode cL_law 276 = .ok (.istore 8, 2) := by decide +kernel
theorem dL_law_278 : decode cL_law 278 = .ok (.iload 8, 2) := by decide +kernel
theorem dL_law_280 : decode cL_law 280 = .ok (.iload 7, 2) := by decide +kernel
theorem dL_law_282 : decode cL_law 282 = .ok (.if_icmp .ge 30, 3) := by decide +kernel
theorem dL_law_285 : decode cL_law 285 = .ok (.aload_n 1, 1) := by decide +kernel
theorem dL_law_286 : decode cL_law 286 = .ok (.bipush 48, 2) := by decide +kernel
theorem dL_law_288 : decode cL_law 288 = .ok (.iload 4, 2) := by decide +kernel
theorem dL_law_290 : decode cL_law 290 = .ok (.bipush 7, 2) := by decide +kernel
theorem dL_law_292 : decode cL_law 292 = .ok (.iconst 2, 1) := by decide +kernel
theorem dL_law_293 : decode cL_law 293 = .ok (.iload 8, 2) := by decide +kernel
theorem dL_law_295 : decode cL_law 295 = .ok (.imul, 1) := by decide +kernel
theorem dL_law_296 : decode cL_law 296 = .ok (.iadd, 1) := by decide +kernel
theorem dL_law_297 : decode cL_law 297 = .ok (.ishr, 1) := by decide +kernel
theorem dL_law_298 : decode cL_law 298 = .ok (.iload 5, 2) := by decide +kernel
theorem dL_law_300 : decode cL_law 300 = .ok (.irem, 1) := by decide +kernel
theorem dL_law_301 : decode cL_law 301 = .ok (.iadd, 1) := by decide +kernel
theorem dL_law_302 : decode cL_law 302 = .ok (.invokevirtual 71, 3) := by decide +kernel
theorem dL_law_305 : decode cL_law 305 = .ok (.pop, 1) := by decide +kernel
theorem dL_law_306 : decode cL_law 306 = .ok (.iinc 8 1, 3) := by decide +kernel
theorem dL_law_309 : decode cL_law 309 = .ok (.goto (-31), 3) := by decide +kernel
theorem dL_law_312 : decode cL_law 312 = .ok (.iload 6, 2) := by decide +kernel
theorem dL_law_314 : decode cL_law 314 = .ok (.ifCond .eq 34, 3) := by decide +kernel
theorem dL_law_317 : decode cL_law 317 = .ok (.aload_n 1, 1) := by decide +kernel
theorem dL_law_318 : decode cL_law 318 = .ok (.invokevirtual 107, 3) := by decide +kernel
theorem dL_law_321 : decode cL_law 321 = .ok (.iload 7, 2) := by decide +kernel
theorem dL_law_323 : decode cL_law 323 = .ok (.if_icmp .ne 25, 3) := by decide +kernel
theorem dL_law_326 : decode cL_law 326 = .ok (.aload_n 1, 1) := by decide +kernel
theorem dL_law_327 : decode cL_law 327 = .ok (.invokevirtual 93, 3) := by decide +kernel
theorem dL_law_330 : decode cL_law 330 = .ok (.iload 7, 2) := by decide +kernel
theorem dL_law_332 : decode cL_law 332 = .ok (.if_icmp .ne 16, 3) := by decide +kernel
theorem dL_law_335 : decode cL_law 335 = .ok (.aload_n 1, 1) := by decide +kernel
theorem dL_law_336 : decode cL_law 336 = .ok (.iload 7, 2) := by decide +kernel
theorem dL_law_338 : decode cL_law 338 = .ok (.invokestatic 110, 3) := by decide +kernel
theorem dL_law_341 : decode cL_law 341 = .ok (.ifCond .eq 7, 3) := by decide +kernel
theorem dL_law_344 : decode cL_law 344 = .ok (.iconst 1, 1) := by decide +kernel
theorem dL_law_345 : decode cL_law 345 = .ok (.goto 4, 3) := by decide +kernel
theorem dL_law_348 : decode cL_law 348 = .ok (.iconst 0, 1) := by decide +kernel
theorem dL_law_349 : decode cL_law 349 = .ok (.istore 6, 2) := by decide +kernel
theorem dL_law_351 : decode cL_law 351 = .ok (.iconst 0, 1) := by decide +kernel
theorem dL_law_352 : decode cL_law 352 = .ok (.istore 8, 2) := by decide +kernel
theorem dL_law_354 : decode cL_law 354 = .ok (.iload 8, 2) := by decide +kernel
theorem dL_law_356 : decode cL_law 356 = .ok (.bipush 14, 2) := by decide +kernel
theorem dL_law_358 : decode cL_law 358 = .ok (.if_icmp .ge 236, 3) := by decide +kernel
theorem dL_law_361 : decode cL_law 361 = .ok (.iload 6, 2) := by decide +kernel
theorem dL_law_363 : decode cL_law 363 = .ok (.ifCond .eq 231, 3) := by decide +kernel
theorem dL_law_366 : decode cL_law 366 = .ok (.aload_n 0, 1) := by decide +kernel
theorem dL_law_367 : decode cL_law 367 = .ok (.bipush 13, 2) := by decide +kernel
theorem dL_law_369 : decode cL_law 369 = .ok (.iload 8, 2) := by decide +kernel
theorem dL_law_371 : decode cL_law 371 = .ok (.iadd, 1) := by decide +kernel
theorem dL_law_372 : decode cL_law 372 = .ok (.invokestatic 85, 3) := by decide +kernel
theorem dL_law_375 : decode cL_law 375 = .ok (.istore 9, 2) := by decide +kernel
theorem dL_law_377 : decode cL_law 377 = .ok (.aload_n 1, 1) := by decide +kernel
theorem dL_law_378 : decode cL_law 378 = .ok (.iconst 1, 1) := by decide +kernel
theorem dL_law_379 : decode cL_law 379 = .ok (.iload 9, 2) := by decide +kernel
theorem dL_law_381 : decode cL_law 381 = .ok (.iconst 4, 1) := by decide +kernel
theorem dL_law_382 : decode cL_law 382 = .ok (.ishr, 1) := by decide +kernel
theorem dL_law_383 : decode cL_law 383 = .ok (.bipush 60, 2) := by decide +kernel
theorem dL_law_385 : decode cL_law 385 = .ok (.irem, 1) := by decide +kernel
theorem dL_law_386 : decode cL_law 386 = .ok (.iadd, 1) := by decide +kernel
theorem dL_law_387 : decode cL_law 387 = .ok (.invokestatic 114, 3) := by decide +kernel
theorem dL_law_390 : decode cL_law 390 = .ok (.ifCond .eq 32, 3) := by decide +kernel
theorem dL_law_393 : decode cL_law 393 = .ok (.aload_n 1, 1) := by decide +kernel
theorem dL_law_394 : decode cL_law 394 = .ok (.iload 7, 2) := by decide +kernel
theorem dL_law_396 : decode cL_law 396 = .ok (.invokestatic 110, 3) := by decide +kernel
theorem dL_law_399 : decode cL_law 399 = .ok (.ifCond .eq 23, 3) := by decide +kernel
theorem dL_law_402 : decode cL_law 402 = .ok (.iload 8, 2) := by decide +kernel
theorem dL_law_404 : decode cL_law 404 = .ok (.iconst 4, 1) := by decide +kernel
theorem dL_law_405 : decode cL_law 405 = .ok (.irem, 1) := by decide +kernel
theorem dL_law_406 : decode cL_law 406 = .ok (.ifCond .gt 12, 3) := by decide +kernel
theorem dL_law_409 : decode cL_law 409 = .ok (.aload_n 1, 1) := by decide +kernel
theorem dL_law_410 : decode cL_law 410 = .ok (.iload 5, 2) := by decide +kernel
theorem dL_law_412 : decode cL_law 412 = .ok (.invokestatic 117, 3) := by decide +kernel
theorem dL_law_415 : decode cL_law 415 = .ok (.ifCond .eq 7, 3) := by decide +kernel
theorem dL_law_418 : decode cL_law 418 = .ok (.iconst 1, 1) := by decide +kernel
theorem dL_law_419 : decode cL_law 419 = .ok (.goto 4, 3) := by decide +kernel
theorem dL_law_422 : decode cL_law 422 = .ok (.iconst 0, 1) := by decide +kernel
theorem dL_law_423 : decode cL_law 423 = .ok (.istore 6, 2) := by decide +kernel
theorem dL_law_425 : decode cL_law 425 = .ok (.iload 9, 2) := by decide +kernel
theorem dL_law_427 : decode cL_law 427 = .ok (.bipush 11, 2) := by decide +kernel
theorem dL_law_429 : decode cL_law 429 = .ok (.irem, 1) := by decide +kernel
theorem dL_law_430 : decode cL_law 430 = .ok (.ifCond .ne 49, 3) := by decide +kernel
theorem dL_law_433 : decode cL_law 433 = .ok (.iload 6, 2) := by decide +kernel
theorem dL_law_435 : decode cL_law 435 = .ok (.ifCond .eq 44, 3) := by decide +kernel
theorem dL_law_438 : decode cL_law 438 = .ok (.aload_n 1, 1) := by decide +kernel
theorem dL_law_439 : decode cL_law 439 = .ok (.invokevirtual 93, 3) := by decide +kernel
theorem dL_law_442 : decode cL_law 442 = .ok (.iload 7, 2) := by decide +kernel
theorem dL_law_444 : decode cL_law 444 = .ok (.if_icmp .ne 32, 3) := by decide +kernel
theorem dL_law_447 : decode cL_law 447 = .ok (.aload_n 1, 1) := by decide +kernel
theorem dL_law_448 : decode cL_law 448 = .ok (.iconst 1, 1) := by decide +kernel
theorem dL_law_449 : decode cL_law 449 = .ok (.invokevirtual 38, 3) := by decide +kernel
theorem dL_law_452 : decode cL_law 452 = .ok (.ifCond .ne 24, 3) := by decide +kernel
theorem dL_law_455 : decode cL_law 455 = .ok (.aload_n 1, 1) := by decide +kernel
theorem dL_law_456 : decode cL_law 456 = .ok (.iconst 3, 1) := by decide +kernel
theorem dL_law_457 : decode cL_law 457 = .ok (.invokevirtual 38, 3) := by decide +kernel
theorem dL_law_460 : decode cL_law 460 = .ok (.ifCond .ne 16, 3) := by decide +kernel
theorem dL_law_463 : decode cL_law 463 = .ok (.aload_n 1, 1) := by decide +kernel
theorem dL_law_464 : decode cL_law 464 = .ok (.bipush 6, 2) := by decide +kernel
theorem dL_law_466 : decode cL_law 466 = .ok (.invokevirtual 38, 3) := by decide +kernel
theorem dL_law_469 : decode cL_law 469 = .ok (.ifCond .ne 7, 3) := by decide +kernel
theorem dL_law_472 : decode cL_law 472 = .ok (.iconst 1, 1) := by decide +kernel
theorem dL_law_473 : decode cL_law 473 = .ok (.goto 4, 3) := by decide +kernel
theorem dL_law_476 : decode cL_law 476 = .ok (.iconst 0, 1) := by decide +kernel
theorem dL_law_477 : decode cL_law 477 = .ok (.istore 6, 2) := by decide +kernel
theorem dL_law_479 : decode cL_law 479 = .ok (.iload 9, 2) := by decide +kernel
theorem dL_law_481 : decode cL_law 481 = .ok (.bipush 7, 2) := by decide +kernel
theorem dL_law_483 : decode cL_law 483 = .ok (.irem, 1) := by decide +kernel
theorem dL_law_484 : decode cL_law 484 = .ok (.ifCond .ne 104, 3) := by decide +kernel
theorem dL_law_487 : decode cL_law 487 = .ok (.iload 6, 2) := by decide +kernel
theorem dL_law_489 : decode cL_law 489 = .ok (.ifCond .eq 99, 3) := by decide +kernel
theorem dL_law_492 : decode cL_law 492 = .ok (.aload_n 1, 1) := by decide +kernel
theorem dL_law_493 : decode cL_law 493 = .ok (.iload 9, 2) := by decide +kernel
theorem dL_law_495 : decode cL_law 495 = .ok (.bipush 10, 2) := by decide +kernel
theorem dL_law_497 : decode cL_law 497 = .ok (.ishr, 1) := by decide +kernel
theorem dL_law_498 : decode cL_law 498 = .ok (.iload 5, 2) := by decide +kernel
theorem dL_law_500 : decode cL_law 500 = .ok (.irem, 1) := by decide +kernel
theorem dL_law_501 : decode cL_law 501 = .ok (.iconst 1, 1) := by decide +kernel
theorem dL_law_502 : decode cL_law 502 = .ok (.iload 9, 2) := by decide +kernel
theorem dL_law_504 : decode cL_law 504 = .ok (.bipush 13, 2) := by decide +kernel
theorem dL_law_506 : decode cL_law 506 = .ok (.ishr, 1) := by decide +kernel
theorem dL_law_507 : decode cL_law 507 = .ok (.bipush 10, 2) := by decide +kernel
theorem dL_law_509 : decode cL_law 509 = .ok (.irem, 1) := by decide +kernel
theorem dL_law_510 : decode cL_law 510 = .ok (.iadd, 1) := by decide +kernel
theorem dL_law_511 : decode cL_law 511 = .ok (.invokevirtual 64, 3) := by decide +kernel
theorem dL_law_514 : decode cL_law 514 = .ok (.ifCond .lt 71, 3) := by decide +kernel
theorem dL_law_517 : decode cL_law 517 = .ok (.aload_n 1, 1) := by decide +kernel
theorem dL_law_518 : decode cL_law 518 = .ok (.iload 9, 2) := by decide +kernel
theorem dL_law_520 : decode cL_law 520 = .ok (.bipush 10, 2) := by decide +kernel
theorem dL_law_522 : decode cL_law 522 = .ok (.ishr, 1) := by decide +kernel
theorem dL_law_523 : decode cL_law 523 = .ok (.iload 5, 2) := by decide +kernel
theorem dL_law_525 : decode cL_law 525 = .ok (.irem, 1) := by decide +kernel
theorem dL_law_526 : decode cL_law 526 = .ok (.iconst 1, 1) := by decide +kernel
theorem dL_law_527 : decode cL_law 527 = .ok (.invokevirtual 15, 3) := by decide +kernel
theorem dL_law_530 : decode cL_law 530 = .ok (.bipush 6, 2) := by decide +kernel
theorem dL_law_532 : decode cL_law 532 = .ok (.if_icmp .gt 53, 3) := by decide +kernel
theorem dL_law_535 : decode cL_law 535 = .ok (.aload_n 1, 1) := by decide +kernel
theorem dL_law_536 : decode cL_law 536 = .ok (.iload 9, 2) := by decide +kernel
theorem dL_law_538 : decode cL_law 538 = .ok (.bipush 10, 2) := by decide +kernel
theorem dL_law_540 : decode cL_law 540 = .ok (.ishr, 1) := by decide +kernel
theorem dL_law_541 : decode cL_law 541 = .ok (.iload 5, 2) := by decide +kernel
theorem dL_law_543 : decode cL_law 543 = .ok (.irem, 1) := by decide +kernel
theorem dL_law_544 : decode cL_law 544 = .ok (.iconst 1, 1) := by decide +kernel
theorem dL_law_545 : decode cL_law 545 = .ok (.invokevirtual 15, 3) := by decide +kernel
theorem dL_law_548 : decode cL_law 548 = .ok (.bipush 6, 2) := by decide +kernel
theorem dL_law_550 : decode cL_law 550 = .ok (.if_icmp .eq 31, 3) := by decide +kernel
theorem dL_law_553 : decode cL_law 553 = .ok (.aload_n 1, 1) := by decide +kernel
theorem dL_law_554 : decode cL_law 554 = .ok (.iload 9, 2) := by decide +kernel
theorem dL_law_556 : decode cL_law 556 = .ok (.bipush 10, 2) := by decide +kernel
theorem dL_law_558 : decode cL_law 558 = .ok (.ishr, 1) := by decide +kernel
theorem dL_law_559 : decode cL_law 559 = .ok (.iload 5, 2) := by decide +kernel
theorem dL_law_561 : decode cL_law 561 = .ok (.irem, 1) := by decide +kernel
theorem dL_law_562 : decode cL_law 562 = .ok (.iconst 1, 1) := by decide +kernel
theorem dL_law_563 : decode cL_law 563 = .ok (.iload 9, 2) := by decide +kernel
theorem dL_law_565 : decode cL_law 565 = .ok (.bipush 16, 2) := by decide +kernel
theorem dL_law_567 : decode cL_law 567 = .ok (.ishr, 1) := by decide +kernel
theorem dL_law_568 : decode cL_law 568 = .ok (.bipush 99, 2) := by decide +kernel
theorem dL_law_570 : decode cL_law 570 = .ok (.irem, 1) := by decide +kernel
theorem dL_law_571 : decode cL_law 571 = .ok (.iadd, 1) := by decide +kernel
theorem dL_law_572 : decode cL_law 572 = .ok (.bipush 9, 2) := by decide +kernel
theorem dL_law_574 : decode cL_law 574 = .ok (.invokevirtual 20, 3) := by decide +kernel
theorem dL_law_577 : decode cL_law 577 = .ok (.iconst 1, 1) := by decide +kernel
theorem dL_law_578 : decode cL_law 578 = .ok (.if_icmp .lt 7, 3) := by decide +kernel
theorem dL_law_581 : decode cL_law 581 = .ok (.iconst 1, 1) := by decide +kernel
theorem dL_law_582 : decode cL_law 582 = .ok (.goto 4, 3) := by decide +kernel
theorem dL_law_585 : decode cL_law 585 = .ok (.iconst 0, 1) := by decide +kernel
theorem dL_law_586 : decode cL_law 586 = .ok (.istore 6, 2) := by decide +kernel
theorem dL_law_588 : decode cL_law 588 = .ok (.iinc 8 1, 3) := by decide +kernel
theorem dL_law_591 : decode cL_law 591 = .ok (.goto (-237), 3) := by decide +kernel
theorem dL_law_594 : decode cL_law 594 = .ok (.aload_n 1, 1) := by decide +kernel
theorem dL_law_595 : decode cL_law 595 = .ok (.invokevirtual 54, 3) := by decide +kernel
theorem dL_law_598 : decode cL_law 598 = .ok (.lstore 8, 2) := by decide +kernel
theorem dL_law_600 : decode cL_law 600 = .ok (.iload 6, 2) := by decide +kernel
theorem dL_law_602 : decode cL_law 602 = .ok (.ifCond .eq 48, 3) := by decide +kernel
theorem dL_law_605 : decode cL_law 605 = .ok (.aload_n 1, 1) := by decide +kernel
theorem dL_law_606 : decode cL_law 606 = .ok (.iconst 1, 1) := by decide +kernel
theorem dL_law_607 : decode cL_law 607 = .ok (.invokevirtual 58, 3) := by decide +kernel
theorem dL_law_610 : decode cL_law 610 = .ok (.iload 5, 2) := by decide +kernel
theorem dL_law_612 : decode cL_law 612 = .ok (.if_icmp .ne 38, 3) := by decide +kernel
theorem dL_law_615 : decode cL_law 615 = .ok (.aload_n 1, 1) := by decide +kernel
theorem dL_law_616 : decode cL_law 616 = .ok (.invokevirtual 93, 3) := by decide +kernel
theorem dL_law_619 : decode cL_law 619 = .ok (.iload 7, 2) := by decide +kernel
theorem dL_law_621 : decode cL_law 621 = .ok (.if_icmp .ne 29, 3) := by decide +kernel
theorem dL_law_624 : decode cL_law 624 = .ok (.aload_n 1, 1) := by decide +kernel
theorem dL_law_625 : decode cL_law 625 = .ok (.iconst 0, 1) := by decide +kernel
theorem dL_law_626 : decode cL_law 626 = .ok (.bipush 10, 2) := by decide +kernel
theorem dL_law_628 : decode cL_law 628 = .ok (.invokevirtual 64, 3) := by decide +kernel
theorem dL_law_631 : decode cL_law 631 = .ok (.ifCond .lt 19, 3) := by decide +kernel
theorem dL_law_634 : decode cL_law 634 = .ok (.aload_n 1, 1) := by decide +kernel
theorem dL_law_635 : decode cL_law 635 = .ok (.iconst 0, 1) := by decide +kernel
theorem dL_law_636 : decode cL_law 636 = .ok (.iconst 1, 1) := by decide +kernel
theorem dL_law_637 : decode cL_law 637 = .ok (.invokevirtual 33, 3) := by decide +kernel
theorem dL_law_640 : decode cL_law 640 = .ok (.aload_n 3, 1) := by decide +kernel
theorem dL_law_641 : decode cL_law 641 = .ok (.iconst 0, 1) := by decide +kernel
theorem dL_law_642 : decode cL_law 642 = .ok (.iaload, 1) := by decide +kernel
theorem dL_law_643 : decode cL_law 643 = .ok (.if_icmp .ne 7, 3) := by decide +kernel
theorem dL_law_646 : decode cL_law 646 = .ok (.iconst 1, 1) := by decide +kernel
theorem dL_law_647 : decode cL_law 647 = .ok (.goto 4, 3) := by decide +kernel
theorem dL_law_650 : decode cL_law 650 = .ok (.iconst 0, 1) := by decide +kernel
theorem dL_law_651 : decode cL_law 651 = .ok (.istore 6, 2) := by decide +kernel
theorem dL_law_653 : decode cL_law 653 = .ok (.iload 6, 2) := by decide +kernel
theorem dL_law_655 : decode cL_law 655 = .ok (.ifCond .eq 27, 3) := by decide +kernel
theorem dL_law_658 : decode cL_law 658 = .ok (.aload_n 1, 1) := by decide +kernel
theorem dL_law_659 : decode cL_law 659 = .ok (.iconst 1, 1) := by decide +kernel
theorem dL_law_660 : decode cL_law 660 = .ok (.invokevirtual 61, 3) := by decide +kernel
theorem dL_law_663 : decode cL_law 663 = .ok (.iload 5, 2) := by decide +kernel
theorem dL_law_665 : decode cL_law 665 = .ok (.if_icmp .ne 17, 3) := by decide +kernel
theorem dL_law_668 : decode cL_law 668 = .ok (.aload_n 1, 1) := by decide +kernel
theorem dL_law_669 : decode cL_law 669 = .ok (.invokevirtual 54, 3) := by decide +kernel
theorem dL_law_672 : decode cL_law 672 = .ok (.lload 8, 2) := by decide +kernel
theorem dL_law_674 : decode cL_law 674 = .ok (.lcmp, 1) := by decide +kernel
theorem dL_law_675 : decode cL_law 675 = .ok (.ifCond .ne 7, 3) := by decide +kernel
theorem dL_law_678 : decode cL_law 678 = .ok (.iconst 1, 1) := by decide +kernel
theorem dL_law_679 : decode cL_law 679 = .ok (.goto 4, 3) := by decide +kernel
theorem dL_law_682 : decode cL_law 682 = .ok (.iconst 0, 1) := by decide +kernel
theorem dL_law_683 : decode cL_law 683 = .ok (.ireturn, 1) := by decide +kernel
