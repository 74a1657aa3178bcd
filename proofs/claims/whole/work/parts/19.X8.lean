theorem dX8_init_0 : decode cX8_init 0 = .ok (.aload_n 0, 1) := by decide +kernel
theorem dX8_init_1 : decode cX8_init 1 = .ok (.invokespecial 1, 3) := by decide +kernel
theorem dX8_init_4 : decode cX8_init 4 = .ok (.aload_n 0, 1) := by decide +kernel
theorem dX8_init_5 : decode cX8_init 5 = .ok (.sipush 199, 3) := by decide +kernel
theorem dX8_init_8 : decode cX8_init 8 = .ok (.newarray .int, 2) := by decide +kernel
theorem dX8_init_10 : decode cX8_init 10 = .ok (.putfield 7, 3) := by decide +kernel
theorem dX8_init_13 : decode cX8_init 13 = .ok (.aload_n 0, 1) := by decide +kernel
theorem dX8_init_14 : decode cX8_init 14 = .ok (.sipush 199, 3) := by decide +kernel
theorem dX8_init_17 : decode cX8_init 17 = .ok (.newarray .int, 2) := by decide +kernel
theorem dX8_init_19 : decode cX8_init 19 = .ok (.putfield 13, 3) := by decide +kernel
theorem dX8_init_22 : decode cX8_init 22 = .ok (.aload_n 0, 1) := by decide +kernel
theorem dX8_init_23 : decode cX8_init 23 = .ok (.sipush 398, 3) := by decide +kernel
theorem dX8_init_26 : decode cX8_init 26 = .ok (.newarray .int, 2) := by decide +kernel
theorem dX8_init_28 : decode cX8_init 28 = .ok (.putfield 16, 3) := by decide +kernel
theorem dX8_init_31 : decode cX8_init 31 = .ok (.aload_n 0, 1) := by decide +kernel
theorem dX8_init_32 : decode cX8_init 32 = .ok (.iconst 2, 1) := by decide +kernel
theorem dX8_init_33 : decode cX8_init 33 = .ok (.newarray .boolean, 2) := by decide +kernel
theorem dX8_init_35 : decode cX8_init 35 = .ok (.putfield 19, 3) := by decide +kernel
theorem dX8_init_38 : decode cX8_init 38 = .ok (.aload_n 0, 1) := by decide +kernel
theorem dX8_init_39 : decode cX8_init 39 = .ok (.bipush 8, 2) := by decide +kernel
theorem dX8_init_41 : decode cX8_init 41 = .ok (.newarray .int, 2) := by decide +kernel
theorem dX8_init_43 : decode cX8_init 43 = .ok (.dup, 1) := by decide +kernel
theorem dX8_init_44 : decode cX8_init 44 = .ok (.iconst 0, 1) := by decide +kernel
theorem dX8_init_45 : decode cX8_init 45 = .ok (.iconst 1, 1) := by decide +kernel
theorem dX8_init_46 : decode cX8_init 46 = .ok (.iastore, 1) := by decide +kernel
theorem dX8_init_47 : decode cX8_init 47 = .ok (.dup, 1) := by decide +kernel
theorem dX8_init_48 : decode cX8_init 48 = .ok (.iconst 1, 1) := by decide +kernel
theorem dX8_init_49 : decode cX8_init 49 = .ok (.iconst 1, 1) := by decide +kernel
theorem dX8_init_50 : decode cX8_init 50 = .ok (.iastore, 1) := by decide +kernel
theorem dX8_init_51 : decode cX8_init 51 = .ok (.dup, 1) := by decide +kernel
theorem dX8_init_52 : decode cX8_init 52 = .ok (.iconst 2, 1) := by decide +kernel
theorem dX8_init_53 : decode cX8_init 53 = .ok (.iconst 0, 1) := by decide +kernel
theorem dX8_init_54 : decode cX8_init 54 = .ok (.iastore, 1) := by decide +kernel
theorem dX8_init_55 : decode cX8_init 55 = .ok (.dup, 1) := by decide +kernel
theorem dX8_init_56 : decode cX8_init 56 = .ok (.iconst 3, 1) := by decide +kernel
theorem dX8_init_57 : decode cX8_init 57 = .ok (.iconst 1, 1) := by decide +kernel
theorem dX8_init_58 : decode cX8_init 58 = .ok (.iastore, 1) := by decide +kernel
theorem dX8_init_59 : decode cX8_init 59 = .ok (.dup, 1) := by decide +kernel
theorem dX8_init_60 : decode cX8_init 60 = .ok (.iconst 4, 1) := by decide +kernel
theorem dX8_init_61 : decode cX8_init 61 = .ok (.iconst 1, 1) := by decide +kernel
theorem dX8_init_62 : decode cX8_init 62 = .ok (.iastore, 1) := by decide +kernel
theorem dX8_init_63 : decode cX8_init 63 = .ok (.dup, 1) := by decide +kernel
theorem dX8_init_64 : decode cX8_init 64 = .ok (.iconst 5, 1) := by decide +kernel
theorem dX8_init_65 : decode cX8_init 65 = .ok (.iconst 1, 1) := by decide +kernel
theorem dX8_init_66 : decode cX8_init 66 = .ok (.iastore, 1) := by decide +kernel
theorem dX8_init_67 : decode cX8_init 67 = .ok (.dup, 1) := by decide +kernel
theorem dX8_init_68 : decode cX8_init 68 = .ok (.bipush 6, 2) := by decide +kernel
theorem dX8_init_70 : decode cX8_init 70 = .ok (.iconst 1, 1) := by decide +kernel
theorem dX8_init_71 : decode cX8_init 71 = .ok (.iastore, 1) := by decide +kernel
theorem dX8_init_72 : decode cX8_init 72 = .ok (.dup, 1) := by decide +kernel
theorem dX8_init_73 : decode cX8_init 73 = .ok (.bipush 7, 2) := by decide +kernel
theorem dX8_init_75 : decode cX8_init 75 = .ok (.iconst 0, 1) := by decide +kernel
theorem dX8_init_76 : decode cX8_init 76 = .ok (.iastore, 1) := by decide +kernel
theorem dX8_init_77 : decode cX8_init 77 = .ok (.putfield 23, 3) := by decide +kernel
theorem dX8_init_80 : decode cX8_init 80 = .ok (.aload_n 0, 1) := by decide +kernel
theorem dX8_init_81 : decode cX8_init 81 = .ok (.bipush 8, 2) := by decide +kernel
theorem dX8_init_83 : decode cX8_init 83 = .ok (.newarray .int, 2) := by decide +kernel
theorem dX8_init_85 : decode cX8_init 85 = .ok (.dup, 1) := by decide +kernel
theorem dX8_init_86 : decode cX8_init 86 = .ok (.iconst 0, 1) := by decide +kernel
theorem dX8_init_87 : decode cX8_init 87 = .ok (.bipush 90, 2) := by decide +kernel
theorem dX8_init_89 : decode cX8_init 89 = .ok (.iastore, 1) := by decide +kernel
theorem dX8_init_90 : decode cX8_init 90 = .ok (.dup, 1) := by decide +kernel
theorem dX8_init_91 : decode cX8_init 91 = .ok (.iconst 1, 1) := by decide +kernel
theorem dX8_init_92 : decode cX8_init 92 = .ok (.bipush 99, 2) := by decide +kernel
theorem dX8_init_94 : decode cX8_init 94 = .ok (.iastore, 1) := by decide +kernel
theorem dX8_init_95 : decode cX8_init 95 = .ok (.dup, 1) := by decide +kernel
theorem dX8_init_96 : decode cX8_init 96 = .ok (.iconst 2, 1) := by decide +kernel
theorem dX8_init_97 : decode cX8_init 97 = .ok (.bipush 50, 2) := by decide +kernel
theorem dX8_init_99 : decode cX8_init 99 = .ok (.iastore, 1) := by decide +kernel
theorem dX8_init_100 : decode cX8_init 100 = .ok (.dup, 1) := by decide +kernel
theorem dX8_init_101 : decode cX8_init 101 = .ok (.iconst 3, 1) := by decide +kernel
theorem dX8_init_102 : decode cX8_init 102 = .ok (.sipush 200, 3) := by decide +kernel
theorem dX8_init_105 : decode cX8_init 105 = .ok (.iastore, 1) := by decide +kernel
theorem dX8_init_106 : decode cX8_init 106 = .ok (.dup, 1) := by decide +kernel
theorem dX8_init_107 : decode cX8_init 107 = .ok (.iconst 4, 1) := by decide +kernel
theorem dX8_init_108 : decode cX8_init 108 = .ok (.bipush 50, 2) := by decide +kernel
theorem dX8_init_110 : decode cX8_init 110 = .ok (.iastore, 1) := by decide +kernel
theorem dX8_init_111 : decode cX8_init 111 = .ok (.dup, 1) := by decide +kernel
theorem dX8_init_112 : decode cX8_init 112 = .ok (.iconst 5, 1) := by decide +kernel
theorem dX8_init_113 : decode cX8_init 113 = .ok (.sipush 200, 3) := by decide +kernel
theorem dX8_init_116 : decode cX8_init 116 = .ok (.iastore, 1) := by decide +kernel
theorem dX8_init_117 : decode cX8_init 117 = .ok (.dup, 1) := by decide +kernel
theorem dX8_init_118 : decode cX8_init 118 = .ok (.bipush 6, 2) := by decide +kernel
theorem dX8_init_120 : decode cX8_init 120 = .ok (.sipush 500, 3) := by decide +kernel
theorem dX8_init_123 : decode cX8_init 123 = .ok (.iastore, 1) := by decide +kernel
theorem dX8_init_124 : decode cX8_init 124 = .ok (.dup, 1) := by decide +kernel
theorem dX8_init_125 : decode cX8_init 125 = .ok (.bipush 7, 2) := by decide +kernel
theorem dX8_init_127 : decode cX8_init 127 = .ok (.bipush 20, 2) := by decide +kernel
theorem dX8_init_129 : decode cX8_init 129 = .ok (.iastore, 1) := by decide +kernel
theorem dX8_init_130 : decode cX8_init 130 = .ok (.putfield 26, 3) := by decide +kernel
theorem dX8_init_133 : decode cX8_init 133 = .ok (.aload_n 0, 1) := by decide +kernel
theorem dX8_init_134 : decode cX8_init 134 = .ok (.bipush 8, 2) := by decide +kernel
theorem dX8_init_136 : decode cX8_init 136 = .ok (.newarray .int, 2) := by decide +kernel
theorem dX8_init_138 : decode cX8_init 138 = .ok (.dup, 1) := by decide +kernel
theorem dX8_init_139 : decode cX8_init 139 = .ok (.iconst 0, 1) := by decide +kernel
theorem dX8_init_140 : decode cX8_init 140 = .ok (.bipush 40, 2) := by decide +kernel
theorem dX8_init_142 : decode cX8_init 142 = .ok (.iastore, 1) := by decide +kernel
theorem dX8_init_143 : decode cX8_init 143 = .ok (.dup, 1) := by decide +kernel
theorem dX8_init_144 : decode cX8_init 144 = .ok (.iconst 1, 1) := by decide +kernel
theorem dX8_init_145 : decode cX8_init 145 = .ok (.bipush 60, 2) := by decide +kernel
theorem dX8_init_147 : decode cX8_init 147 = .ok (.iastore, 1) := by decide +kernel
theorem dX8_init_148 : decode cX8_init 148 = .ok (.dup, 1) := by decide +kernel
theorem dX8_init_149 : decode cX8_init 149 = .ok (.iconst 2, 1) := by decide +kernel
theorem dX8_init_150 : decode cX8_init 150 = .ok (.bipush 20, 2) := by decide +kernel
theorem dX8_init_152 : decode cX8_init 152 = .ok (.iastore, 1) := by decide +kernel
theorem dX8_init_153 : decode cX8_init 153 = .ok (.dup, 1) := by decide +kernel
theorem dX8_init_154 : decode cX8_init 154 = .ok (.iconst 3, 1) := by decide +kernel
theorem dX8_init_155 : decode cX8_init 155 = .ok (.bipush 20, 2) := by decide +kernel
theorem dX8_init_157 : decode cX8_init 157 = .ok (.iastore, 1) := by decide +kernel
theorem dX8_init_158 : decode cX8_init 158 = .ok (.dup, 1) := by decide +kernel
theorem dX8_init_159 : decode cX8_init 159 = .ok (.iconst 4, 1) := by decide +kernel
theorem dX8_init_160 : decode cX8_init 160 = .ok (.bipush 10, 2) := by decide +kernel
theorem dX8_init_162 : decode cX8_init 162 = .ok (.iastore, 1) := by decide +kernel
theorem dX8_init_163 : decode cX8_init 163 = .ok (.dup, 1) := by decide +kernel
theorem dX8_init_164 : decode cX8_init 164 = .ok (.iconst 5, 1) := by decide +kernel
theorem dX8_init_165 : decode cX8_init 165 = .ok (.bipush 30, 2) := by decide +kernel
theorem dX8_init_167 : decode cX8_init 167 = .ok (.iastore, 1) := by decide +kernel
theorem dX8_init_168 : decode cX8_init 168 = .ok (.dup, 1) := by decide +kernel
theorem dX8_init_169 : decode cX8_init 169 = .ok (.bipush 6, 2) := by decide +kernel
theorem dX8_init_171 : decode cX8_init 171 = .ok (.bipush 100, 2) := by decide +kernel
theorem dX8_init_173 : decode cX8_init 173 = .ok (.iastore, 1) := by decide +kernel
theorem dX8_init_174 : decode cX8_init 174 = .ok (.dup, 1) := by decide +kernel
theorem dX8_init_175 : decode cX8_init 175 = .ok (.bipush 7, 2) := by decide +kernel
theorem dX8_init_177 : decode cX8_init 177 = .ok (.iconst 4, 1) := by decide +kernel
theorem dX8_init_178 : decode cX8_init 178 = .ok (.iastore, 1) := by decide +kernel
theorem dX8_init_179 : decode cX8_init 179 = .ok (.putfield 29, 3) := by decide +kernel
theorem dX8_init_182 : decode cX8_init 182 = .ok (.aload_n 0, 1) := by decide +kernel
theorem dX8_init_183 : decode cX8_init 183 = .ok (.bipush 60, 2) := by decide +kernel
theorem dX8_init_185 : decode cX8_init 185 = .ok (.newarray .int, 2) := by decide +kernel
theorem dX8_init_187 : decode cX8_init 187 = .ok (.putfield 32, 3) := by decide +kernel
theorem dX8_init_190 : decode cX8_init 190 = .ok (.aload_n 0, 1) := by decide +kernel
theorem dX8_init_191 : decode cX8_init 191 = .ok (.iconst 4, 1) := by decide +kernel
theorem dX8_init_192 : decode cX8_init 192 = .ok (.newarray .boolean, 2) := by decide +kernel
theorem dX8_init_194 : decode cX8_init 194 = .ok (.putfield 35, 3) := by decide +kernel
theorem dX8_init_197 : decode cX8_init 197 = .ok (.aload_n 0, 1) := by decide +kernel
theorem dX8_init_198 : decode cX8_init 198 = .ok (.iconst 3, 1) := by decide +kernel
theorem dX8_init_199 : decode cX8_init 199 = .ok (.newarray .int, 2) := by decide +kernel
theorem dX8_init_201 : decode cX8_init 201 = .ok (.putfield 38, 3) := by decide +kernel
theorem dX8_init_204 : decode cX8_init 204 = .ok (.aload_n 0, 1) := by decide +kernel
theorem dX8_init_205 : decode cX8_init 205 = .ok (.iconst 3, 1) := by decide +kernel
theorem dX8_init_206 : decode cX8_init 206 = .ok (.newarray .int, 2) := by decide +kernel
theorem dX8_init_208 : decode cX8_init 208 = .ok (.putfield 41, 3) := by decide +kernel
theorem dX8_init_211 : decode cX8_init 211 = .ok (.aload_n 0, 1) := by decide +kernel
theorem dX8_init_212 : decode cX8_init 212 = .ok (.bipush 12, 2) := by decide +kernel
theorem dX8_init_214 : decode cX8_init 214 = .ok (.newarray .int, 2) := by decide +kernel
theorem dX8_init_216 : decode cX8_init 216 = .ok (.putfield 44, 3) := by decide +kernel
theorem dX8_init_219 : decode cX8_init 219 = .ok (.iconst 0, 1) := by decide +kernel
theorem dX8_init_220 : decode cX8_init 220 = .ok (.istore_n 1, 1) := by decide +kernel
theorem dX8_init_221 : decode cX8_init 221 = .ok (.iload_n 1, 1) := by decide +kernel
theorem dX8_init_222 : decode cX8_init 222 = .ok (.bipush 8, 2) := by decide +kernel
theorem dX8_init_224 : decode cX8_init 224 = .ok (.if_icmp .ge 25, 3) := by decide +kernel
theorem dX8_init_227 : decode cX8_init 227 = .ok (.aload_n 0, 1) := by decide +kernel
theorem dX8_init_228 : decode cX8_init 228 = .ok (.getfield 7, 3) := by decide +kernel
theorem dX8_init_231 : decode cX8_init 231 = .ok (.sipush 141, 3) := by decide +kernel
theorem dX8_init_234 : decode cX8_init 234 = .ok (.iload_n 1, 1) := by decide +kernel
theorem dX8_init_235 : decode cX8_init 235 = .ok (.iadd, 1) := by decide +kernel
theorem dX8_init_236 : decode cX8_init 236 = .ok (.aload_n 0, 1) := by decide +kernel
theorem dX8_init_237 : decode cX8_init 237 = .ok (.getfield 29, 3) := by decide +kernel
theorem dX8_init_240 : decode cX8_init 240 = .ok (.iload_n 1, 1) := by decide +kernel
theorem dX8_init_241 : decode cX8_init 241 = .ok (.iaload, 1) := by decide +kernel
theorem dX8_init_242 : decode cX8_init 242 = .ok (.iastore, 1) := by decide +kernel
theorem dX8_init_243 : decode cX8_init 243 = .ok (.iinc 1 1, 3) := by decide +kernel
theorem dX8_init_246 : decode cX8_init 246 = .ok (.goto (-25), 3) := by decide +kernel
theorem dX8_init_249 : decode cX8_init 249 = .ok (.aload_n 0, 1) := by decide +kernel
theorem dX8_init_250 : decode cX8_init 250 = .ok (.getfield 7, 3) := by decide +kernel
theorem dX8_init_253 : decode cX8_init 253 = .ok (.sipush 172, 3) := by decide +kernel
theorem dX8_init_256 : decode cX8_init 256 = .ok (.iconst (-1), 1) := by decide +kernel
theorem dX8_init_257 : decode cX8_init 257 = .ok (.iastore, 1) := by decide +kernel
theorem dX8_init_258 : decode cX8_init 258 = .ok (.return_, 1) := by decide +kernel
theorem dX8_in_0 : decode cX8_in 0 = .ok (.iload_n 0, 1) := by decide +kernel
theorem dX8_in_1 : decode cX8_in 1 = .ok (.iload_n 1, 1) := by decide +kernel
theorem dX8_in_2 : decode cX8_in 2 = .ok (.if_icmp .lt 12, 3) := by decide +kernel
theorem dX8_in_5 : decode cX8_in 5 = .ok (.iload_n 0, 1) := by decide +kernel
theorem dX8_in_6 : decode cX8_in 6 = .ok (.iload_n 2, 1) := by decide +kernel
theorem dX8_in_7 : decode cX8_in 7 = .ok (.if_icmp .gt 7, 3) := by decide +kernel
theorem dX8_in_10 : decode cX8_in 10 = .ok (.iconst 1, 1) := by decide +kernel
theorem dX8_in_11 : decode cX8_in 11 = .ok (.goto 4, 3) := by decide +kernel
theorem dX8_in_14 : decode cX8_in 14 = .ok (.iconst 0, 1) := by decide +kernel
theorem dX8_in_15 : decode cX8_in 15 = .ok (.ireturn, 1) := by decide +kernel
theorem dX8_at_0 : decode cX8_at 0 = .ok (.iconst 1, 1) := by decide +kernel
theorem dX8_at_1 : decode cX8_at 1 = .ok (.bipush 14, 2) := by decide +kernel
theorem dX8_at_3 : decode cX8_at 3 = .ok (.iload_n 0, 1) := by decide +kernel
theorem dX8_at_4 : decode cX8_at 4 = .ok (.imul, 1) := by decide +kernel
theorem dX8_at_5 : decode cX8_at 5 = .ok (.iadd, 1) := by decide +kernel
theorem dX8_at_6 : decode cX8_at 6 = .ok (.iload_n 1, 1) := by decide +kernel
theorem dX8_at_7 : decode cX8_at 7 = .ok (.iadd, 1) := by decide +kernel
theorem dX8_at_8 : decode cX8_at 8 = .ok (.ireturn, 1) := by decide +kernel
set_option maxRecDepth 20000 in
theorem ggX8_isReel_X8_in : GoodIn wsX8_isReel wsX8_in := goodIn_r _ [5] (by decide +kernel) (by decide +kernel)
set_option maxRecDepth 20000 in
theorem gX8_isReel_X8_in : GoodIn wsX8_isReel (va_wsS RX8 47 yX8_in wsX8_in) := goodIn_app (goodIn_of _ (by decide +kernel)) ggX8_isReel_X8_in
theorem dX8_isReel_0 : decode cX8_isReel 0 = .ok (.iload_n 1, 1) := by decide +kernel
theorem dX8_isReel_1 : decode cX8_isReel 1 = .ok (.iconst 0, 1) := by decide +kernel
theorem dX8_isReel_2 : decode cX8_isReel 2 = .ok (.aload_n 0, 1) := by decide +kernel
theorem dX8_isReel_3 : decode cX8_isReel 3 = .ok (.getfield 7, 3) := by decide +kernel
theorem dX8_isReel_6 : decode cX8_isReel 6 = .ok (.iconst 0, 1) := by decide +kernel
theorem dX8_isReel_7 : decode cX8_isReel 7 = .ok (.iaload, 1) := by decide +kernel
theorem dX8_isReel_8 : decode cX8_isReel 8 = .ok (.iconst 1, 1) := by decide +kernel
theorem dX8_isReel_9 : decode cX8_isReel 9 = .ok (.isub, 1) := by decide +kernel
theorem dX8_isReel_10 : decode cX8_isReel 10 = .ok (.invokestatic 47, 3) := by decide +kernel
theorem dX8_isReel_13 : decode cX8_isReel 13 = .ok (.ireturn, 1) := by decide +kernel
theorem dX8_puts_0 : decode cX8_puts 0 = .ok (.aload_n 0, 1) := by decide +kernel
theorem dX8_puts_1 : decode cX8_puts 1 = .ok (.getfield 7, 3) := by decide +kernel
theorem dX8_puts_4 : decode cX8_puts 4 = .ok (.iload_n 1, 1) := by decide +kernel
theorem dX8_puts_5 : decode cX8_puts 5 = .ok (.iaload, 1) := by decide +kernel
theorem dX8_puts_6 : decode cX8_puts 6 = .ok (.istore_n 3, 1) := by decide +kernel
theorem dX8_puts_7 : decode cX8_puts 7 = .ok (.aload_n 0, 1) := by decide +kernel
theorem dX8_puts_8 : decode cX8_puts 8 = .ok (.getfield 7, 3) := by decide +kernel
theorem dX8_puts_11 : decode cX8_puts 11 = .ok (.iload_n 1, 1) := by decide +kernel
theorem dX8_puts_12 : decode cX8_puts 12 = .ok (.iload_n 2, 1) := by decide +kernel
theorem dX8_puts_13 : decode cX8_puts 13 = .ok (.iastore, 1) := by decide +kernel
theorem dX8_puts_14 : decode cX8_puts 14 = .ok (.iload_n 3, 1) := by decide +kernel
theorem dX8_puts_15 : decode cX8_puts 15 = .ok (.ireturn, 1) := by decide +kernel
set_option maxRecDepth 20000 in
theorem ggX8_makeReel_X8_in : GoodIn wsX8_makeReel wsX8_in := goodIn_r _ [7] (by decide +kernel) (by decide +kernel)
set_option maxRecDepth 20000 in
theorem gX8_makeReel_X8_in : GoodIn wsX8_makeReel (va_wsS RX8 47 yX8_in wsX8_in) := goodIn_app (goodIn_of _ (by decide +kernel)) ggX8_makeReel_X8_in
set_option maxRecDepth 20000 in
theorem ggX8_makeReel_X8_at : GoodIn wsX8_makeReel wsX8_at := goodIn_r _ [10] (by decide +kernel) (by decide +kernel)
set_option maxRecDepth 20000 in
theorem gX8_makeReel_X8_at : GoodIn wsX8_makeReel (va_wsS RX8 53 yX8_at wsX8_at) := goodIn_app (goodIn_of _ (by decide +kernel)) ggX8_makeReel_X8_at
theorem dX8_makeReel_0 : decode cX8_makeReel 0 = .ok (.iload_n 1, 1) := by decide +kernel
theorem dX8_makeReel_1 : decode cX8_makeReel 1 = .ok (.bipush 100, 2) := by decide +kernel
theorem dX8_makeReel_3 : decode cX8_makeReel 3 = .ok (.sipush 3000, 3) := by decide +kernel
theorem dX8_makeReel_6 : decode cX8_makeReel 6 = .ok (.invokestatic 47, 3) := by decide +kernel
theorem dX8_makeReel_9 : decode cX8_makeReel 9 = .ok (.ifCond .ne 6, 3) := by decide +kernel
theorem dX8_makeReel_12 : decode cX8_makeReel 12 = .ok (.ldc 51, 2) := by decide +kernel
theorem dX8_makeReel_14 : decode cX8_makeReel 14 = .ok (.ireturn, 1) := by decide +kernel
theorem dX8_makeReel_15 : decode cX8_makeReel 15 = .ok (.aload_n 0, 1) := by decide +kernel
theorem dX8_makeReel_16 : decode cX8_makeReel 16 = .ok (.getfield 7, 3) := by decide +kernel
theorem dX8_makeReel_19 : decode cX8_makeReel 19 = .ok (.iconst 0, 1) := by decide +kernel
theorem dX8_makeReel_20 : decode cX8_makeReel 20 = .ok (.iaload, 1) := by decide +kernel
theorem dX8_makeReel_21 : decode cX8_makeReel 21 = .ok (.bipush 10, 2) := by decide +kernel
theorem dX8_makeReel_23 : decode cX8_makeReel 23 = .ok (.if_icmp .ne 6, 3) := by decide +kernel
theorem dX8_makeReel_26 : decode cX8_makeReel 26 = .ok (.ldc 52, 2) := by decide +kernel
theorem dX8_makeReel_28 : decode cX8_makeReel 28 = .ok (.ireturn, 1) := by decide +kernel
theorem dX8_makeReel_29 : decode cX8_makeReel 29 = .ok (.aload_n 0, 1) := by decide +kernel
theorem dX8_makeReel_30 : decode cX8_makeReel 30 = .ok (.getfield 7, 3) := by decide +kernel
theorem dX8_makeReel_33 : decode cX8_makeReel 33 = .ok (.iconst 0, 1) := by decide +kernel
theorem dX8_makeReel_34 : decode cX8_makeReel 34 = .ok (.iaload, 1) := by decide +kernel
theorem dX8_makeReel_35 : decode cX8_makeReel 35 = .ok (.istore_n 2, 1) := by decide +kernel
theorem dX8_makeReel_36 : decode cX8_makeReel 36 = .ok (.aload_n 0, 1) := by decide +kernel
theorem dX8_makeReel_37 : decode cX8_makeReel 37 = .ok (.getfield 7, 3) := by decide +kernel
theorem dX8_makeReel_40 : decode cX8_makeReel 40 = .ok (.iload_n 2, 1) := by decide +kernel
theorem dX8_makeReel_41 : decode cX8_makeReel 41 = .ok (.iconst 0, 1) := by decide +kernel
theorem dX8_makeReel_42 : decode cX8_makeReel 42 = .ok (.invokestatic 53, 3) := by decide +kernel
theorem dX8_makeReel_45 : decode cX8_makeReel 45 = .ok (.iload_n 1, 1) := by decide +kernel
theorem dX8_makeReel_46 : decode cX8_makeReel 46 = .ok (.iastore, 1) := by decide +kernel
theorem dX8_makeReel_47 : decode cX8_makeReel 47 = .ok (.aload_n 0, 1) := by decide +kernel
theorem dX8_makeReel_48 : decode cX8_makeReel 48 = .ok (.getfield 7, 3) := by decide +kernel
theorem dX8_makeReel_51 : decode cX8_makeReel 51 = .ok (.iload_n 2, 1) := by decide +kernel
theorem dX8_makeReel_52 : decode cX8_makeReel 52 = .ok (.iconst 1, 1) := by decide +kernel
theorem dX8_makeReel_53 : decode cX8_makeReel 53 = .ok (.invokestatic 53, 3) := by decide +kernel
theorem dX8_makeReel_56 : decode cX8_makeReel 56 = .ok (.iconst 0, 1) := by decide +kernel
theorem dX8_makeReel_57 : decode cX8_makeReel 57 = .ok (.iastore, 1) := by decide +kernel
theorem dX8_makeReel_58 : decode cX8_makeReel 58 = .ok (.aload_n 0, 1) := by decide +kernel
theorem dX8_makeReel_59 : decode cX8_makeReel 59 = .ok (.getfield 7, 3) := by decide +kernel
theorem dX8_makeReel_62 : decode cX8_makeReel 62 = .ok (.iconst 0, 1) := by decide +kernel
theorem dX8_makeReel_63 : decode cX8_makeReel 63 = .ok (.dup2, 1) := by decide +kernel
theorem dX8_makeReel_64 : decode cX8_makeReel 64 = .ok (.iaload, 1) := by decide +kernel
theorem dX8_makeReel_65 : decode cX8_makeReel 65 = .ok (.iconst 1, 1) := by decide +kernel
theorem dX8_makeReel_66 : decode cX8_makeReel 66 = .ok (.iadd, 1) := by decide +kernel
theorem dX8_makeReel_67 : decode cX8_makeReel 67 = .ok (.iastore, 1) := by decide +kernel
theorem dX8_makeReel_68 : decode cX8_makeReel 68 = .ok (.iload_n 2, 1) := by decide +kernel
theorem dX8_makeReel_69 : decode cX8_makeReel 69 = .ok (.ireturn, 1) := by decide +kernel
set_option maxRecDepth 20000 in
theorem ggX8_spliceFrom_X8_at : GoodIn wsX8_spliceFrom wsX8_at := goodIn_r _ [5] (by decide +kernel) (by decide +kernel)
set_option maxRecDepth 20000 in
theorem gX8_spliceFrom_X8_at : GoodIn wsX8_spliceFrom (va_wsS RX8 53 yX8_at wsX8_at) := goodIn_app (goodIn_of _ (by decide +kernel)) ggX8_spliceFrom_X8_at
theorem dX8_spliceFrom_0 : decode cX8_spliceFrom 0 = .ok (.iconst 0, 1) := by decide +kernel
theorem dX8_spliceFrom_1 : decode cX8_spliceFrom 1 = .ok (.istore_n 3, 1) := by decide +kernel
theorem dX8_spliceFrom_2 : decode cX8_spliceFrom 2 = .ok (.iload_n 3, 1) := by decide +kernel
theorem dX8_spliceFrom_3 : decode cX8_spliceFrom 3 = .ok (.aload_n 0, 1) := by decide +kernel
theorem dX8_spliceFrom_4 : decode cX8_spliceFrom 4 = .ok (.getfield 7, 3) := by decide +kernel
theorem dX8_spliceFrom_7 : decode cX8_spliceFrom 7 = .ok (.iload_n 1, 1) := by decide +kernel
theorem dX8_spliceFrom_8 : decode cX8_spliceFrom 8 = .ok (.iconst 1, 1) := by decide +kernel
theorem dX8_spliceFrom_9 : decode cX8_spliceFrom 9 = .ok (.invokestatic 53, 3) := by decide +kernel
theorem dX8_spliceFrom_12 : decode cX8_spliceFrom 12 = .ok (.iaload, 1) := by decide +kernel
theorem dX8_spliceFrom_13 : decode cX8_spliceFrom 13 = .ok (.if_icmp .ge 27, 3) := by decide +kernel
theorem dX8_spliceFrom_16 : decode cX8_spliceFrom 16 = .ok (.aload_n 0, 1) := by decide +kernel
theorem dX8_spliceFrom_17 : decode cX8_spliceFrom 17 = .ok (.getfield 7, 3) := by decide +kernel
theorem dX8_spliceFrom_20 : decode cX8_spliceFrom 20 = .ok (.iload_n 1, 1) := by decide +kernel
theorem dX8_spliceFrom_21 : decode cX8_spliceFrom 21 = .ok (.iconst 2, 1) := by decide +kernel
theorem dX8_spliceFrom_22 : decode cX8_spliceFrom 22 = .ok (.iconst 2, 1) := by decide +kernel
theorem dX8_spliceFrom_23 : decode cX8_spliceFrom 23 = .ok (.iload_n 3, 1) := by decide +kernel
theorem dX8_spliceFrom_24 : decode cX8_spliceFrom 24 = .ok (.imul, 1) := by decide +kernel
theorem dX8_spliceFrom_25 : decode cX8_spliceFrom 25 = .ok (.iadd, 1) := by decide +kernel
theorem dX8_spliceFrom_26 : decode cX8_spliceFrom 26 = .ok (.invokestatic 53, 3) := by decide +kernel
theorem dX8_spliceFrom_29 : decode cX8_spliceFrom 29 = .ok (.iaload, 1) := by decide +kernel
theorem dX8_spliceFrom_30 : decode cX8_spliceFrom 30 = .ok (.iload_n 2, 1) := by decide +kernel
theorem dX8_spliceFrom_31 : decode cX8_spliceFrom 31 = .ok (.if_icmp .ge 9, 3) := by decide +kernel
theorem dX8_spliceFrom_34 : decode cX8_spliceFrom 34 = .ok (.iinc 3 1, 3) := by decide +kernel
theorem dX8_spliceFrom_37 : decode cX8_spliceFrom 37 = .ok (.goto (-35), 3) := by decide +kernel
theorem dX8_spliceFrom_40 : decode cX8_spliceFrom 40 = .ok (.iload_n 3, 1) := by decide +kernel
theorem dX8_spliceFrom_41 : decode cX8_spliceFrom 41 = .ok (.ireturn, 1) := by decide +kernel
set_option maxRecDepth 20000 in
theorem ggX8_strengthAt_X8_spliceFrom : GoodIn wsX8_strengthAt wsX8_spliceFrom := goodIn_r _ [6, 1, 7, 8, 5, 9, 10, 11, 12, 13, 14, 15, 16, 17, 18, 19, 20, 21, 22, 23, 24] (by decide +kernel) (by decide +kernel)
set_option maxRecDepth 20000 in
theorem gX8_strengthAt_X8_spliceFrom : GoodIn wsX8_strengthAt (wsV RX8 57 RX8 yX8_spliceFrom wsX8_spliceFrom) := goodIn_app (goodIn_of _ (by decide +kernel)) ggX8_strengthAt_X8_spliceFrom
set_option maxRecDepth 20000 in
theorem ggX8_strengthAt_X8_at : GoodIn wsX8_strengthAt wsX8_at := goodIn_r _ [9] (by decide +kernel) (by decide +kernel)
set_option maxRecDepth 20000 in
theorem gX8_strengthAt_X8_at : GoodIn wsX8_strengthAt (va_wsS RX8 53 yX8_at wsX8_at) := goodIn_app (goodIn_of _ (by decide +kernel)) ggX8_strengthAt_X8_at
theorem dX8_strengthAt_0 : decode cX8_strengthAt 0 = .ok (.aload_n 0, 1) := by decide +kernel
theorem dX8_strengthAt_1 : decode cX8_strengthAt 1 = .ok (.iload_n 1, 1) := by decide +kernel
theorem dX8_strengthAt_2 : decode cX8_strengthAt 2 = .ok (.iload_n 2, 1) := by decide +kernel
theorem dX8_strengthAt_3 : decode cX8_strengthAt 3 = .ok (.invokevirtual 57, 3) := by decide +kernel
theorem dX8_strengthAt_6 : decode cX8_strengthAt 6 = .ok (.istore_n 3, 1) := by decide +kernel
theorem dX8_strengthAt_7 : decode cX8_strengthAt 7 = .ok (.iload_n 3, 1) := by decide +kernel
theorem dX8_strengthAt_8 : decode cX8_strengthAt 8 = .ok (.aload_n 0, 1) := by decide +kernel
theorem dX8_strengthAt_9 : decode cX8_strengthAt 9 = .ok (.getfield 7, 3) := by decide +kernel
theorem dX8_strengthAt_12 : decode cX8_strengthAt 12 = .ok (.iload_n 1, 1) := by decide +kernel
theorem dX8_strengthAt_13 : decode cX8_strengthAt 13 = .ok (.iconst 1, 1) := by decide +kernel
theorem dX8_strengthAt_14 : decode cX8_strengthAt 14 = .ok (.invokestatic 53, 3) := by decide +kernel
theorem dX8_strengthAt_17 : decode cX8_strengthAt 17 = .ok (.iaload, 1) := by decide +kernel
theorem dX8_strengthAt_18 : decode cX8_strengthAt 18 = .ok (.if_icmp .ge 33, 3) := by decide +kernel
theorem dX8_strengthAt_21 : decode cX8_strengthAt 21 = .ok (.aload_n 0, 1) := by decide +kernel
theorem dX8_strengthAt_22 : decode cX8_strengthAt 22 = .ok (.getfield 7, 3) := by decide +kernel
theorem dX8_strengthAt_25 : decode cX8_strengthAt 25 = .ok (.iload_n 1, 1) := by decide +kernel
theorem dX8_strengthAt_26 : decode cX8_strengthAt 26 = .ok (.iconst 2, 1) := by decide +kernel
theorem dX8_strengthAt_27 : decode cX8_strengthAt 27 = .ok (.iconst 2, 1) := by decide +kernel
theorem dX8_strengthAt_28 : decode cX8_strengthAt 28 = .ok (.iload_n 3, 1) := by decide +kernel
theorem dX8_strengthAt_29 : decode cX8_strengthAt 29 = .ok (.imul, 1) := by decide +kernel
theorem dX8_strengthAt_30 : decode cX8_strengthAt 30 = .ok (.iadd, 1) := by decide +kernel
theorem dX8_strengthAt_31 : decode cX8_strengthAt 31 = .ok (.invokestatic 53, 3) := by decide +kernel
theorem dX8_strengthAt_34 : decode cX8_strengthAt 34 = .ok (.iaload, 1) := by decide +kernel
theorem dX8_strengthAt_35 : decode cX8_strengthAt 35 = .ok (.iload_n 2, 1) := by decide +kernel
theorem dX8_strengthAt_36 : decode cX8_strengthAt 36 = .ok (.if_icmp .ne 15, 3) := by decide +kernel
theorem dX8_strengthAt_39 : decode cX8_strengthAt 39 = .ok (.iload_n 1, 1) := by decide +kernel
theorem dX8_strengthAt_40 : decode cX8_strengthAt 40 = .ok (.iconst 3, 1) := by decide +kernel
theorem dX8_strengthAt_41 : decode cX8_strengthAt 41 = .ok (.iconst 2, 1) := by decide +kernel
theorem dX8_strengthAt_42 : decode cX8_strengthAt 42 = .ok (.iload_n 3, 1) := by decide +kernel
theorem dX8_strengthAt_43 : decode cX8_strengthAt 43 = .ok (.imul, 1) := by decide +kernel
theorem dX8_strengthAt_44 : decode cX8_strengthAt 44 = .ok (.iadd, 1) := by decide +kernel
theorem dX8_strengthAt_45 : decode cX8_strengthAt 45 = .ok (.invokestatic 53, 3) := by decide +kernel
theorem dX8_strengthAt_48 : decode cX8_strengthAt 48 = .ok (.goto 4, 3) := by decide +kernel
theorem dX8_strengthAt_51 : decode cX8_strengthAt 51 = .ok (.iconst (-1), 1) := by decide +kernel
theorem dX8_strengthAt_52 : decode cX8_strengthAt 52 = .ok (.ireturn, 1) := by decide +kernel
set_option maxRecDepth 20000 in
theorem ggX8_splice_X8_isReel : GoodIn wsX8_splice wsX8_isReel := goodIn_r _ [9, 2, 10, 11, 8, 12, 24, 25, 26, 27, 28, 29, 30, 31, 32, 33, 34, 35, 36, 37, 38] (by decide +kernel) (by decide +kernel)
set_option maxRecDepth 20000 in
theorem gX8_splice_X8_isReel : GoodIn wsX8_splice (wsV RX8 60 RX8 yX8_isReel wsX8_isReel) := goodIn_app (goodIn_of _ (by decide +kernel)) ggX8_splice_X8_isReel
set_option maxRecDepth 20000 in
theorem ggX8_splice_X8_at : GoodIn wsX8_splice wsX8_at := goodIn_r _ [15] (by decide +kernel) (by decide +kernel)
set_option maxRecDepth 20000 in
theorem gX8_splice_X8_at : GoodIn wsX8_splice (va_wsS RX8 53 yX8_at wsX8_at) := goodIn_app (goodIn_of _ (by decide +kernel)) ggX8_splice_X8_at
set_option maxRecDepth 20000 in
theorem ggX8_splice_X8_in : GoodIn wsX8_splice wsX8_in := goodIn_r _ [12] (by decide +kernel) (by decide +kernel)
set_option maxRecDepth 20000 in
theorem gX8_splice_X8_in : GoodIn wsX8_splice (va_wsS RX8 47 yX8_in wsX8_in) := goodIn_app (goodIn_of _ (by decide +kernel)) ggX8_splice_X8_in
set_option maxRecDepth 20000 in
theorem ggX8_splice_X8_spliceFrom : GoodIn wsX8_splice wsX8_spliceFrom := goodIn_r _ [19, 2, 13, 14, 8, 15, 24, 25, 26, 27, 28, 29, 30, 31, 32, 33, 34, 35, 36, 37, 38] (by decide +kernel) (by decide +kernel)
set_option maxRecDepth 20000 in
theorem gX8_splice_X8_spliceFrom : GoodIn wsX8_splice (wsV RX8 57 RX8 yX8_spliceFrom wsX8_spliceFrom) := goodIn_app (goodIn_of _ (by decide +kernel)) ggX8_splice_X8_spliceFrom
set_option maxRecDepth 20000 in
theorem ggX8_splice_X8_strengthAt : GoodIn wsX8_splice wsX8_strengthAt := goodIn_r _ [23, 2, 16, 17, 18, 8, 19, 13, 14, 15, 24, 25, 26, 27, 28, 29, 30, 31, 32, 33, 34, 35, 36, 37, 38] (by decide +kernel) (by decide +kernel)
set_option maxRecDepth 20000 in
theorem gX8_splice_X8_strengthAt : GoodIn wsX8_splice (wsV RX8 65 RX8 yX8_strengthAt wsX8_strengthAt) := goodIn_app (goodIn_of _ (by decide +kernel)) ggX8_splice_X8_strengthAt
theorem dX8_splice_0 : decode cX8_splice 0 = .ok (.aload_n 0, 1) := by decide +kernel
theorem dX8_splice_1 : decode cX8_splice 1 = .ok (.iload_n 1, 1) := by decide +kernel
theorem dX8_splice_2 : decode cX8_splice 2 = .ok (.invokevirtual 60, 3) := by decide +kernel
theorem dX8_splice_5 : decode cX8_splice 5 = .ok (.ifCond .ne 6, 3) := by decide +kernel
theorem dX8_splice_8 : decode cX8_splice 8 = .ok (.ldc 64, 2) := by decide +kernel
theorem dX8_splice_10 : decode cX8_splice 10 = .ok (.ireturn, 1) := by decide +kernel
theorem dX8_splice_11 : decode cX8_splice 11 = .ok (.iload_n 2, 1) := by decide +kernel
theorem dX8_splice_12 : decode cX8_splice 12 = .ok (.iconst 1, 1) := by decide +kernel
theorem dX8_splice_13 : decode cX8_splice 13 = .ok (.aload_n 0, 1) := by decide +kernel
theorem dX8_splice_14 : decode cX8_splice 14 = .ok (.getfield 7, 3) := by decide +kernel
theorem dX8_splice_17 : decode cX8_splice 17 = .ok (.iload_n 1, 1) := by decide +kernel
theorem dX8_splice_18 : decode cX8_splice 18 = .ok (.iconst 0, 1) := by decide +kernel
theorem dX8_splice_19 : decode cX8_splice 19 = .ok (.invokestatic 53, 3) := by decide +kernel
theorem dX8_splice_22 : decode cX8_splice 22 = .ok (.iaload, 1) := by decide +kernel
theorem dX8_splice_23 : decode cX8_splice 23 = .ok (.iconst 1, 1) := by decide +kernel
theorem dX8_splice_24 : decode cX8_splice 24 = .ok (.isub, 1) := by decide +kernel
theorem dX8_splice_25 : decode cX8_splice 25 = .ok (.invokestatic 47, 3) := by decide +kernel
theorem dX8_splice_28 : decode cX8_splice 28 = .ok (.ifCond .eq 13, 3) := by decide +kernel
theorem dX8_splice_31 : decode cX8_splice 31 = .ok (.iload_n 3, 1) := by decide +kernel
theorem dX8_splice_32 : decode cX8_splice 32 = .ok (.iconst 1, 1) := by decide +kernel
theorem dX8_splice_33 : decode cX8_splice 33 = .ok (.bipush 9, 2) := by decide +kernel
theorem dX8_splice_35 : decode cX8_splice 35 = .ok (.invokestatic 47, 3) := by decide +kernel
theorem dX8_splice_38 : decode cX8_splice 38 = .ok (.ifCond .ne 6, 3) := by decide +kernel
theorem dX8_splice_41 : decode cX8_splice 41 = .ok (.ldc 51, 2) := by decide +kernel
theorem dX8_splice_43 : decode cX8_splice 43 = .ok (.ireturn, 1) := by decide +kernel
theorem dX8_splice_44 : decode cX8_splice 44 = .ok (.aload_n 0, 1) := by decide +kernel
theorem dX8_splice_45 : decode cX8_splice 45 = .ok (.getfield 7, 3) := by decide +kernel
theorem dX8_splice_48 : decode cX8_splice 48 = .ok (.iload_n 1, 1) := by decide +kernel
theorem dX8_splice_49 : decode cX8_splice 49 = .ok (.iconst 1, 1) := by decide +kernel
theorem dX8_splice_50 : decode cX8_splice 50 = .ok (.invokestatic 53, 3) := by decide +kernel
theorem dX8_splice_53 : decode cX8_splice 53 = .ok (.iaload, 1) := by decide +kernel
theorem dX8_splice_54 : decode cX8_splice 54 = .ok (.istore 4, 2) := by decide +kernel
theorem dX8_splice_56 : decode cX8_splice 56 = .ok (.aload_n 0, 1) := by decide +kernel
theorem dX8_splice_57 : decode cX8_splice 57 = .ok (.iload_n 1, 1) := by decide +kernel
theorem dX8_splice_58 : decode cX8_splice 58 = .ok (.iload_n 2, 1) := by decide +kernel
theorem dX8_splice_59 : decode cX8_splice 59 = .ok (.invokevirtual 57, 3) := by decide +kernel
theorem dX8_splice_62 : decode cX8_splice 62 = .ok (.istore 5, 2) := by decide +kernel
theorem dX8_splice_64 : decode cX8_splice 64 = .ok (.aload_n 0, 1) := by decide +kernel
theorem dX8_splice_65 : decode cX8_splice 65 = .ok (.iload_n 1, 1) := by decide +kernel
theorem dX8_splice_66 : decode cX8_splice 66 = .ok (.iload_n 2, 1) := by decide +kernel
theorem dX8_splice_67 : decode cX8_splice 67 = .ok (.invokevirtual 65, 3) := by decide +kernel
theorem dX8_splice_70 : decode cX8_splice 70 = .ok (.ifCond .ge 76, 3) := by decide +kernel
theorem dX8_splice_73 : decode cX8_splice 73 = .ok (.iload 4, 2) := by decide +kernel
theorem dX8_splice_75 : decode cX8_splice 75 = .ok (.bipush 6, 2) := by decide +kernel
theorem dX8_splice_77 : decode cX8_splice 77 = .ok (.if_icmp .ne 6, 3) := by decide +kernel
theorem dX8_splice_80 : decode cX8_splice 80 = .ok (.ldc 52, 2) := by decide +kernel
theorem dX8_splice_82 : decode cX8_splice 82 = .ok (.ireturn, 1) := by decide +kernel
theorem dX8_splice_83 : decode cX8_splice 83 = .ok (.iconst 2, 1) := by decide +kernel
theorem dX8_splice_84 : decode cX8_splice 84 = .ok (.iload 4, 2) := by decide +kernel
theorem dX8_splice_86 : decode cX8_splice 86 = .ok (.imul, 1) := by decide +kernel
theorem dX8_splice_87 : decode cX8_splice 87 = .ok (.iconst 1, 1) := by decide +kernel
theorem dX8_splice_88 : decode cX8_splice 88 = .ok (.isub, 1) := by decide +kernel
theorem dX8_splice_89 : decode cX8_splice 89 = .ok (.istore 6, 2) := by decide +kernel
theorem dX8_splice_91 : decode cX8_splice 91 = .ok (.iload 6, 2) := by decide +kernel
theorem dX8_splice_93 : decode cX8_splice 93 = .ok (.iconst 2, 1) := by decide +kernel
theorem dX8_splice_94 : decode cX8_splice 94 = .ok (.iload 5, 2) := by decide +kernel
theorem dX8_splice_96 : decode cX8_splice 96 = .ok (.imul, 1) := by decide +kernel
theorem dX8_splice_97 : decode cX8_splice 97 = .ok (.if_icmp .lt 35, 3) := by decide +kernel
theorem dX8_splice_100 : decode cX8_splice 100 = .ok (.aload_n 0, 1) := by decide +kernel
theorem dX8_splice_101 : decode cX8_splice 101 = .ok (.getfield 7, 3) := by decide +kernel
theorem dX8_splice_104 : decode cX8_splice 104 = .ok (.iload_n 1, 1) := by decide +kernel
theorem dX8_splice_105 : decode cX8_splice 105 = .ok (.iconst 4, 1) := by decide +kernel
theorem dX8_splice_106 : decode cX8_splice 106 = .ok (.iload 6, 2) := by decide +kernel
theorem dX8_splice_108 : decode cX8_splice 108 = .ok (.iadd, 1) := by decide +kernel
theorem dX8_splice_109 : decode cX8_splice 109 = .ok (.invokestatic 53, 3) := by decide +kernel
theorem dX8_splice_112 : decode cX8_splice 112 = .ok (.aload_n 0, 1) := by decide +kernel
theorem dX8_splice_113 : decode cX8_splice 113 = .ok (.getfield 7, 3) := by decide +kernel
theorem dX8_splice_116 : decode cX8_splice 116 = .ok (.iload_n 1, 1) := by decide +kernel
theorem dX8_splice_117 : decode cX8_splice 117 = .ok (.iconst 2, 1) := by decide +kernel
theorem dX8_splice_118 : decode cX8_splice 118 = .ok (.iload 6, 2) := by decide +kernel
theorem dX8_splice_120 : decode cX8_splice 120 = .ok (.iadd, 1) := by decide +kernel
theorem dX8_splice_121 : decode cX8_splice 121 = .ok (.invokestatic 53, 3) := by decide +kernel
theorem dX8_splice_124 : decode cX8_splice 124 = .ok (.iaload, 1) := by decide +kernel
theorem dX8_splice_125 : decode cX8_splice 125 = .ok (.iastore, 1) := by decide +kernel
theorem dX8_splice_126 : decode cX8_splice 126 = .ok (.iinc 6 (-1), 3) := by decide +kernel
theorem dX8_splice_129 : decode cX8_splice 129 = .ok (.goto (-38), 3) := by decide +kernel
theorem dX8_splice_132 : decode cX8_splice 132 = .ok (.aload_n 0, 1) := by decide +kernel
theorem dX8_splice_133 : decode cX8_splice 133 = .ok (.getfield 7, 3) := by decide +kernel
theorem dX8_splice_136 : decode cX8_splice 136 = .ok (.iload_n 1, 1) := by decide +kernel
theorem dX8_splice_137 : decode cX8_splice 137 = .ok (.iconst 1, 1) := by decide +kernel
theorem dX8_splice_138 : decode cX8_splice 138 = .ok (.invokestatic 53, 3) := by decide +kernel
theorem dX8_splice_141 : decode cX8_splice 141 = .ok (.dup2, 1) := by decide +kernel
theorem dX8_splice_142 : decode cX8_splice 142 = .ok (.iaload, 1) := by decide +kernel
theorem dX8_splice_143 : decode cX8_splice 143 = .ok (.iconst 1, 1) := by decide +kernel
theorem dX8_splice_144 : decode cX8_splice 144 = .ok (.iadd, 1) := by decide +kernel
theorem dX8_splice_145 : decode cX8_splice 145 = .ok (.iastore, 1) := by decide +kernel
theorem dX8_splice_146 : decode cX8_splice 146 = .ok (.aload_n 0, 1) := by decide +kernel
theorem dX8_splice_147 : decode cX8_splice 147 = .ok (.getfield 7, 3) := by decide +kernel
theorem dX8_splice_150 : decode cX8_splice 150 = .ok (.iload_n 1, 1) := by decide +kernel
theorem dX8_splice_151 : decode cX8_splice 151 = .ok (.iconst 2, 1) := by decide +kernel
theorem dX8_splice_152 : decode cX8_splice 152 = .ok (.iconst 2, 1) := by decide +kernel
theorem dX8_splice_153 : decode cX8_splice 153 = .ok (.iload 5, 2) := by decide +kernel
theorem dX8_splice_155 : decode cX8_splice 155 = .ok (.imul, 1) := by decide +kernel
theorem dX8_splice_156 : decode cX8_splice 156 = .ok (.iadd, 1) := by decide +kernel
theorem dX8_splice_157 : decode cX8_splice 157 = .ok (.invokestatic 53, 3) := by decide +kernel
theorem dX8_splice_160 : decode cX8_splice 160 = .ok (.iload_n 2, 1) := by decide +kernel
theorem dX8_splice_161 : decode cX8_splice 161 = .ok (.iastore, 1) := by decide +kernel
theorem dX8_splice_162 : decode cX8_splice 162 = .ok (.aload_n 0, 1) := by decide +kernel
theorem dX8_splice_163 : decode cX8_splice 163 = .ok (.getfield 7, 3) := by decide +kernel
theorem dX8_splice_166 : decode cX8_splice 166 = .ok (.iload_n 1, 1) := by decide +kernel
theorem dX8_splice_167 : decode cX8_splice 167 = .ok (.iconst 3, 1) := by decide +kernel
theorem dX8_splice_168 : decode cX8_splice 168 = .ok (.iconst 2, 1) := by decide +kernel
theorem dX8_splice_169 : decode cX8_splice 169 = .ok (.iload 5, 2) := by decide +kernel
theorem dX8_splice_171 : decode cX8_splice 171 = .ok (.imul, 1) := by decide +kernel
theorem dX8_splice_172 : decode cX8_splice 172 = .ok (.iadd, 1) := by decide +kernel
theorem dX8_splice_173 : decode cX8_splice 173 = .ok (.invokestatic 53, 3) := by decide +kernel
theorem dX8_splice_176 : decode cX8_splice 176 = .ok (.iload_n 3, 1) := by decide +kernel
theorem dX8_splice_177 : decode cX8_splice 177 = .ok (.iastore, 1) := by decide +kernel
theorem dX8_splice_178 : decode cX8_splice 178 = .ok (.aload_n 0, 1) := by decide +kernel
theorem dX8_splice_179 : decode cX8_splice 179 = .ok (.getfield 7, 3) := by decide +kernel
theorem dX8_splice_182 : decode cX8_splice 182 = .ok (.iload_n 1, 1) := by decide +kernel
theorem dX8_splice_183 : decode cX8_splice 183 = .ok (.iconst 1, 1) := by decide +kernel
theorem dX8_splice_184 : decode cX8_splice 184 = .ok (.invokestatic 53, 3) := by decide +kernel
theorem dX8_splice_187 : decode cX8_splice 187 = .ok (.iaload, 1) := by decide +kernel
theorem dX8_splice_188 : decode cX8_splice 188 = .ok (.ireturn, 1) := by decide +kernel
set_option maxRecDepth 20000 in
theorem ggX8_mend_X8_isReel : GoodIn wsX8_mend wsX8_isReel := goodIn_r _ [8, 3, 9, 10, 7, 11, 15, 16, 17, 18, 19, 20, 21, 22, 23, 24, 25, 26, 27, 28, 29] (by decide +kernel) (by decide +kernel)
set_option maxRecDepth 20000 in
theorem gX8_mend_X8_isReel : GoodIn wsX8_mend (wsV RX8 60 RX8 yX8_isReel wsX8_isReel) := goodIn_app (goodIn_of _ (by decide +kernel)) ggX8_mend_X8_isReel
set_option maxRecDepth 20000 in
theorem ggX8_mend_X8_in : GoodIn wsX8_mend wsX8_in := goodIn_r _ [11] (by decide +kernel) (by decide +kernel)
set_option maxRecDepth 20000 in
theorem gX8_mend_X8_in : GoodIn wsX8_mend (va_wsS RX8 47 yX8_in wsX8_in) := goodIn_app (goodIn_of _ (by decide +kernel)) ggX8_mend_X8_in
set_option maxRecDepth 20000 in
theorem ggX8_mend_X8_at : GoodIn wsX8_mend wsX8_at := goodIn_r _ [14] (by decide +kernel) (by decide +kernel)
set_option maxRecDepth 20000 in
theorem gX8_mend_X8_at : GoodIn wsX8_mend (va_wsS RX8 53 yX8_at wsX8_at) := goodIn_app (goodIn_of _ (by decide +kernel)) ggX8_mend_X8_at
theorem dX8_mend_0 : decode cX8_mend 0 = .ok (.aload_n 0, 1) := by decide +kernel
theorem dX8_mend_1 : decode cX8_mend 1 = .ok (.iload_n 1, 1) := by decide +kernel
theorem dX8_mend_2 : decode cX8_mend 2 = .ok (.invokevirtual 60, 3) := by decide +kernel
theorem dX8_mend_5 : decode cX8_mend 5 = .ok (.ifCond .ne 6, 3) := by decide +kernel
theorem dX8_mend_8 : decode cX8_mend 8 = .ok (.ldc 64, 2) := by decide +kernel
theorem dX8_mend_10 : decode cX8_mend 10 = .ok (.ireturn, 1) := by decide +kernel
theorem dX8_mend_11 : decode cX8_mend 11 = .ok (.iload_n 2, 1) := by decide +kernel
theorem dX8_mend_12 : decode cX8_mend 12 = .ok (.iconst 1, 1) := by decide +kernel
theorem dX8_mend_13 : decode cX8_mend 13 = .ok (.bipush 10, 2) := by decide +kernel
theorem dX8_mend_15 : decode cX8_mend 15 = .ok (.invokestatic 47, 3) := by decide +kernel
theorem dX8_mend_18 : decode cX8_mend 18 = .ok (.ifCond .ne 6, 3) := by decide +kernel
theorem dX8_mend_21 : decode cX8_mend 21 = .ok (.ldc 51, 2) := by decide +kernel
theorem dX8_mend_23 : decode cX8_mend 23 = .ok (.ireturn, 1) := by decide +kernel
theorem dX8_mend_24 : decode cX8_mend 24 = .ok (.aload_n 0, 1) := by decide +kernel
theorem dX8_mend_25 : decode cX8_mend 25 = .ok (.getfield 7, 3) := by decide +kernel
theorem dX8_mend_28 : decode cX8_mend 28 = .ok (.iload_n 1, 1) := by decide +kernel
theorem dX8_mend_29 : decode cX8_mend 29 = .ok (.iconst 1, 1) := by decide +kernel
theorem dX8_mend_30 : decode cX8_mend 30 = .ok (.invokestatic 53, 3) := by decide +kernel
theorem dX8_mend_33 : decode cX8_mend 33 = .ok (.iaload, 1) := by decide +kernel
theorem dX8_mend_34 : decode cX8_mend 34 = .ok (.istore_n 3, 1) := by decide +kernel
theorem dX8_mend_35 : decode cX8_mend 35 = .ok (.iconst 0, 1) := by decide +kernel
theorem dX8_mend_36 : decode cX8_mend 36 = .ok (.istore 4, 2) := by decide +kernel
theorem dX8_mend_38 : decode cX8_mend 38 = .ok (.iconst 0, 1) := by decide +kernel
theorem dX8_mend_39 : decode cX8_mend 39 = .ok (.istore 5, 2) := by decide +kernel
theorem dX8_mend_41 : decode cX8_mend 41 = .ok (.iload 5, 2) := by decide +kernel
theorem dX8_mend_43 : decode cX8_mend 43 = .ok (.iload_n 3, 1) := by decide +kernel
theorem dX8_mend_44 : decode cX8_mend 44 = .ok (.if_icmp .ge 91, 3) := by decide +kernel
theorem dX8_mend_47 : decode cX8_mend 47 = .ok (.aload_n 0, 1) := by decide +kernel
theorem dX8_mend_48 : decode cX8_mend 48 = .ok (.getfield 7, 3) := by decide +kernel
theorem dX8_mend_51 : decode cX8_mend 51 = .ok (.iload_n 1, 1) := by decide +kernel
theorem dX8_mend_52 : decode cX8_mend 52 = .ok (.iconst 3, 1) := by decide +kernel
theorem dX8_mend_53 : decode cX8_mend 53 = .ok (.iconst 2, 1) := by decide +kernel
theorem dX8_mend_54 : decode cX8_mend 54 = .ok (.iload 5, 2) := by decide +kernel
theorem dX8_mend_56 : decode cX8_mend 56 = .ok (.imul, 1) := by decide +kernel
theorem dX8_mend_57 : decode cX8_mend 57 = .ok (.iadd, 1) := by decide +kernel
theorem dX8_mend_58 : decode cX8_mend 58 = .ok (.invokestatic 53, 3) := by decide +kernel
theorem dX8_mend_61 : decode cX8_mend 61 = .ok (.iaload, 1) := by decide +kernel
theorem dX8_mend_62 : decode cX8_mend 62 = .ok (.iload_n 2, 1) := by decide +kernel
theorem dX8_mend_63 : decode cX8_mend 63 = .ok (.if_icmp .lt 66, 3) := by decide +kernel
theorem dX8_mend_66 : decode cX8_mend 66 = .ok (.aload_n 0, 1) := by decide +kernel
theorem dX8_mend_67 : decode cX8_mend 67 = .ok (.getfield 7, 3) := by decide +kernel
theorem dX8_mend_70 : decode cX8_mend 70 = .ok (.iload_n 1, 1) := by decide +kernel
theorem dX8_mend_71 : decode cX8_mend 71 = .ok (.iconst 2, 1) := by decide +kernel
theorem dX8_mend_72 : decode cX8_mend 72 = .ok (.iconst 2, 1) := by decide +kernel
theorem dX8_mend_73 : decode cX8_mend 73 = .ok (.iload 4, 2) := by decide +kernel
theorem dX8_mend_75 : decode cX8_mend 75 = .ok (.imul, 1) := by decide +kernel
theorem dX8_mend_76 : decode cX8_mend 76 = .ok (.iadd, 1) := by decide +kernel
theorem dX8_mend_77 : decode cX8_mend 77 = .ok (.invokestatic 53, 3) := by decide +kernel
theorem dX8_mend_80 : decode cX8_mend 80 = .ok (.aload_n 0, 1) := by decide +kernel
theorem dX8_mend_81 : decode cX8_mend 81 = .ok (.getfield 7, 3) := by decide +kernel
theorem dX8_mend_84 : decode cX8_mend 84 = .ok (.iload_n 1, 1) := by decide +kernel
theorem dX8_mend_85 : decode cX8_mend 85 = .ok (.iconst 2, 1) := by decide +kernel
theorem dX8_mend_86 : decode cX8_mend 86 = .ok (.iconst 2, 1) := by decide +kernel
theorem dX8_mend_87 : decode cX8_mend 87 = .ok (.iload 5, 2) := by decide +kernel
theorem dX8_mend_89 : decode cX8_mend 89 = .ok (.imul, 1) := by decide +kernel
theorem dX8_mend_90 : decode cX8_mend 90 = .ok (.iadd, 1) := by decide +kernel
theorem dX8_mend_91 : decode cX8_mend 91 = .ok (.invokestatic 53, 3) := by decide +kernel
theorem dX8_mend_94 : decode cX8_mend 94 = .ok (.iaload, 1) := by decide +kernel
theorem dX8_mend_95 : decode cX8_mend 95 = .ok (.iastore, 1) := by decide +kernel
theorem dX8_mend_96 : decode cX8_mend 96 = .ok (.aload_n 0, 1) := by decide +kernel
theorem dX8_mend_97 : decode cX8_mend 97 = .ok (.getfield 7, 3) := by decide +kernel
theorem dX8_mend_100 : decode cX8_mend 100 = .ok (.iload_n 1, 1) := by decide +kernel
theorem dX8_mend_101 : decode cX8_mend 101 = .ok (.iconst 3, 1) := by decide +kernel
theorem dX8_mend_102 : decode cX8_mend 102 = .ok (.iconst 2, 1) := by decide +kernel
theorem dX8_mend_103 : decode cX8_mend 103 = .ok (.iload 4, 2) := by decide +kernel
theorem dX8_mend_105 : decode cX8_mend 105 = .ok (.imul, 1) := by decide +kernel
theorem dX8_mend_106 : decode cX8_mend 106 = .ok (.iadd, 1) := by decide +kernel
theorem dX8_mend_107 : decode cX8_mend 107 = .ok (.invokestatic 53, 3) := by decide +kernel
theorem dX8_mend_110 : decode cX8_mend 110 = .ok (.aload_n 0, 1) := by decide +kernel
theorem dX8_mend_111 : decode cX8_mend 111 = .ok (.getfield 7, 3) := by decide +kernel
theorem dX8_mend_114 : decode cX8_mend 114 = .ok (.iload_n 1, 1) := by decide +kernel
theorem dX8_mend_115 : decode cX8_mend 115 = .ok (.iconst 3, 1) := by decide +kernel
theorem dX8_mend_116 : decode cX8_mend 116 = .ok (.iconst 2, 1) := by decide +kernel
theorem dX8_mend_117 : decode cX8_mend 117 = .ok (.iload 5, 2) := by decide +kernel
theorem dX8_mend_119 : decode cX8_mend 119 = .ok (.imul, 1) := by decide +kernel
theorem dX8_mend_120 : decode cX8_mend 120 = .ok (.iadd, 1) := by decide +kernel
theorem dX8_mend_121 : decode cX8_mend 121 = .ok (.invokestatic 53, 3) := by decide +kernel
theorem dX8_mend_124 : decode cX8_mend 124 = .ok (.iaload, 1) := by decide +kernel
theorem dX8_mend_125 : decode cX8_mend 125 = .ok (.iastore, 1) := by decide +kernel
theorem dX8_mend_126 : decode cX8_mend 126 = .ok (.iinc 4 1, 3) := by decide +kernel
theorem dX8_mend_129 : decode cX8_mend 129 = .ok (.iinc 5 1, 3) := by decide +kernel
theorem dX8_mend_132 : decode cX8_mend 132 = .ok (.goto (-91), 3) := by decide +kernel
theorem dX8_mend_135 : decode cX8_mend 135 = .ok (.aload_n 0, 1) := by decide +kernel
theorem dX8_mend_136 : decode cX8_mend 136 = .ok (.getfield 7, 3) := by decide +kernel
theorem dX8_mend_139 : decode cX8_mend 139 = .ok (.iload_n 1, 1) := by decide +kernel
theorem dX8_mend_140 : decode cX8_mend 140 = .ok (.iconst 1, 1) := by decide +kernel
theorem dX8_mend_141 : decode cX8_mend 141 = .ok (.invokestatic 53, 3) := by decide +kernel
theorem dX8_mend_144 : decode cX8_mend 144 = .ok (.iload 4, 2) := by decide +kernel
theorem dX8_mend_146 : decode cX8_mend 146 = .ok (.iastore, 1) := by decide +kernel
theorem dX8_mend_147 : decode cX8_mend 147 = .ok (.iload_n 3, 1) := by decide +kernel
theorem dX8_mend_148 : decode cX8_mend 148 = .ok (.iload 4, 2) := by decide +kernel
theorem dX8_mend_150 : decode cX8_mend 150 = .ok (.isub, 1) := by decide +kernel
theorem dX8_mend_151 : decode cX8_mend 151 = .ok (.ireturn, 1) := by decide +kernel
set_option maxRecDepth 20000 in
theorem ggX8_weakest_X8_at : GoodIn wsX8_weakest wsX8_at := goodIn_r _ [6] (by decide +kernel) (by decide +kernel)
set_option maxRecDepth 20000 in
theorem gX8_weakest_X8_at : GoodIn wsX8_weakest (va_wsS RX8 53 yX8_at wsX8_at) := goodIn_app (goodIn_of _ (by decide +kernel)) ggX8_weakest_X8_at
theorem dX8_weakest_0 : decode cX8_weakest 0 = .ok (.ldc 68, 2) := by decide +kernel
theorem dX8_weakest_2 : decode cX8_weakest 2 = .ok (.istore_n 2, 1) := by decide +kernel
theorem dX8_weakest_3 : decode cX8_weakest 3 = .ok (.iconst 0, 1) := by decide +kernel
theorem dX8_weakest_4 : decode cX8_weakest 4 = .ok (.istore_n 3, 1) := by decide +kernel
theorem dX8_weakest_5 : decode cX8_weakest 5 = .ok (.iload_n 3, 1) := by decide +kernel
theorem dX8_weakest_6 : decode cX8_weakest 6 = .ok (.aload_n 0, 1) := by decide +kernel
theorem dX8_weakest_7 : decode cX8_weakest 7 = .ok (.getfield 7, 3) := by decide +kernel
theorem dX8_weakest_10 : decode cX8_weakest 10 = .ok (.iload_n 1, 1) := by decide +kernel
theorem dX8_weakest_11 : decode cX8_weakest 11 = .ok (.iconst 1, 1) := by decide +kernel
theorem dX8_weakest_12 : decode cX8_weakest 12 = .ok (.invokestatic 53, 3) := by decide +kernel
theorem dX8_weakest_15 : decode cX8_weakest 15 = .ok (.iaload, 1) := by decide +kernel
theorem dX8_weakest_16 : decode cX8_weakest 16 = .ok (.if_icmp .ge 44, 3) := by decide +kernel
theorem dX8_weakest_19 : decode cX8_weakest 19 = .ok (.aload_n 0, 1) := by decide +kernel
theorem dX8_weakest_20 : decode cX8_weakest 20 = .ok (.getfield 7, 3) := by decide +kernel
theorem dX8_weakest_23 : decode cX8_weakest 23 = .ok (.iload_n 1, 1) := by decide +kernel
theorem dX8_weakest_24 : decode cX8_weakest 24 = .ok (.iconst 3, 1) := by decide +kernel
theorem dX8_weakest_25 : decode cX8_weakest 25 = .ok (.iconst 2, 1) := by decide +kernel
theorem dX8_weakest_26 : decode cX8_weakest 26 = .ok (.iload_n 3, 1) := by decide +kernel
theorem dX8_weakest_27 : decode cX8_weakest 27 = .ok (.imul, 1) := by decide +kernel
theorem dX8_weakest_28 : decode cX8_weakest 28 = .ok (.iadd, 1) := by decide +kernel
theorem dX8_weakest_29 : decode cX8_weakest 29 = .ok (.invokestatic 53, 3) := by decide +kernel
theorem dX8_weakest_32 : decode cX8_weakest 32 = .ok (.iaload, 1) := by decide +kernel
theorem dX8_weakest_33 : decode cX8_weakest 33 = .ok (.istore 4, 2) := by decide +kernel
theorem dX8_weakest_35 : decode cX8_weakest 35 = .ok (.iload_n 2, 1) := by decide +kernel
theorem dX8_weakest_36 : decode cX8_weakest 36 = .ok (.ldc 68, 2) := by decide +kernel
theorem dX8_weakest_38 : decode cX8_weakest 38 = .ok (.if_icmp .eq 9, 3) := by decide +kernel
theorem dX8_weakest_41 : decode cX8_weakest 41 = .ok (.iload 4, 2) := by decide +kernel
theorem dX8_weakest_43 : decode cX8_weakest 43 = .ok (.iload_n 2, 1) := by decide +kernel
theorem dX8_weakest_44 : decode cX8_weakest 44 = .ok (.if_icmp .ge 8, 3) := by decide +kernel
theorem dX8_weakest_47 : decode cX8_weakest 47 = .ok (.iload 4, 2) := by decide +kernel
theorem dX8_weakest_49 : decode cX8_weakest 49 = .ok (.goto 4, 3) := by decide +kernel
theorem dX8_weakest_52 : decode cX8_weakest 52 = .ok (.iload_n 2, 1) := by decide +kernel
theorem dX8_weakest_53 : decode cX8_weakest 53 = .ok (.istore_n 2, 1) := by decide +kernel
theorem dX8_weakest_54 : decode cX8_weakest 54 = .ok (.iinc 3 1, 3) := by decide +kernel
theorem dX8_weakest_57 : decode cX8_weakest 57 = .ok (.goto (-52), 3) := by decide +kernel
theorem dX8_weakest_60 : decode cX8_weakest 60 = .ok (.iload_n 2, 1) := by decide +kernel
theorem dX8_weakest_61 : decode cX8_weakest 61 = .ok (.ireturn, 1) := by decide +kernel
set_option maxRecDepth 20000 in
theorem ggX8_reel_X8_isReel : GoodIn wsX8_reel wsX8_isReel := goodIn_r _ [8, 3, 9, 10, 7, 11, 20, 21, 22, 23, 24, 25, 26, 27, 28, 29, 30, 31, 32, 33, 34] (by decide +kernel) (by decide +kernel)
set_option maxRecDepth 20000 in
theorem gX8_reel_X8_isReel : GoodIn wsX8_reel (wsV RX8 60 RX8 yX8_isReel wsX8_isReel) := goodIn_app (goodIn_of _ (by decide +kernel)) ggX8_reel_X8_isReel
set_option maxRecDepth 20000 in
theorem ggX8_reel_X8_in : GoodIn wsX8_reel wsX8_in := goodIn_r _ [11] (by decide +kernel) (by decide +kernel)
set_option maxRecDepth 20000 in
theorem gX8_reel_X8_in : GoodIn wsX8_reel (va_wsS RX8 47 yX8_in wsX8_in) := goodIn_app (goodIn_of _ (by decide +kernel)) ggX8_reel_X8_in
set_option maxRecDepth 20000 in
theorem ggX8_reel_X8_at : GoodIn wsX8_reel wsX8_at := goodIn_r _ [14] (by decide +kernel) (by decide +kernel)
set_option maxRecDepth 20000 in
theorem gX8_reel_X8_at : GoodIn wsX8_reel (va_wsS RX8 53 yX8_at wsX8_at) := goodIn_app (goodIn_of _ (by decide +kernel)) ggX8_reel_X8_at
set_option maxRecDepth 20000 in
theorem ggX8_reel_X8_weakest : GoodIn wsX8_reel wsX8_weakest := goodIn_r _ [18, 19, 3, 12, 13, 7, 14, 20, 21, 22, 23, 24, 25, 26, 27, 28, 29, 30, 31, 32, 33, 34] (by decide +kernel) (by decide +kernel)
set_option maxRecDepth 20000 in
theorem gX8_reel_X8_weakest : GoodIn wsX8_reel (wsV RX8 69 RX8 yX8_weakest wsX8_weakest) := goodIn_app (goodIn_of _ (by decide +kernel)) ggX8_reel_X8_weakest
theorem dX8_reel_0 : decode cX8_reel 0 = .ok (.aload_n 0, 1) := by decide +kernel
theorem dX8_reel_1 : decode cX8_reel 1 = .ok (.iload_n 1, 1) := by decide +kernel
theorem dX8_reel_2 : decode cX8_reel 2 = .ok (.invokevirtual 60, 3) := by decide +kernel
theorem dX8_reel_5 : decode cX8_reel 5 = .ok (.ifCond .ne 6, 3) := by decide +kernel
theorem dX8_reel_8 : decode cX8_reel 8 = .ok (.ldc 64, 2) := by decide +kernel
theorem dX8_reel_10 : decode cX8_reel 10 = .ok (.ireturn, 1) := by decide +kernel
theorem dX8_reel_11 : decode cX8_reel 11 = .ok (.iload_n 2, 1) := by decide +kernel
theorem dX8_reel_12 : decode cX8_reel 12 = .ok (.iconst 0, 1) := by decide +kernel
theorem dX8_reel_13 : decode cX8_reel 13 = .ok (.iconst 2, 1) := by decide +kernel
theorem dX8_reel_14 : decode cX8_reel 14 = .ok (.invokestatic 47, 3) := by decide +kernel
theorem dX8_reel_17 : decode cX8_reel 17 = .ok (.ifCond .ne 8, 3) := by decide +kernel
theorem dX8_reel_20 : decode cX8_reel 20 = .ok (.ldc 51, 2) := by decide +kernel
theorem dX8_reel_22 : decode cX8_reel 22 = .ok (.goto 26, 3) := by decide +kernel
theorem dX8_reel_25 : decode cX8_reel 25 = .ok (.iload_n 2, 1) := by decide +kernel
theorem dX8_reel_26 : decode cX8_reel 26 = .ok (.iconst 2, 1) := by decide +kernel
theorem dX8_reel_27 : decode cX8_reel 27 = .ok (.if_icmp .ge 16, 3) := by decide +kernel
theorem dX8_reel_30 : decode cX8_reel 30 = .ok (.aload_n 0, 1) := by decide +kernel
theorem dX8_reel_31 : decode cX8_reel 31 = .ok (.getfield 7, 3) := by decide +kernel
theorem dX8_reel_34 : decode cX8_reel 34 = .ok (.iload_n 1, 1) := by decide +kernel
theorem dX8_reel_35 : decode cX8_reel 35 = .ok (.iload_n 2, 1) := by decide +kernel
theorem dX8_reel_36 : decode cX8_reel 36 = .ok (.invokestatic 53, 3) := by decide +kernel
theorem dX8_reel_39 : decode cX8_reel 39 = .ok (.iaload, 1) := by decide +kernel
theorem dX8_reel_40 : decode cX8_reel 40 = .ok (.goto 8, 3) := by decide +kernel
theorem dX8_reel_43 : decode cX8_reel 43 = .ok (.aload_n 0, 1) := by decide +kernel
theorem dX8_reel_44 : decode cX8_reel 44 = .ok (.iload_n 1, 1) := by decide +kernel
theorem dX8_reel_45 : decode cX8_reel 45 = .ok (.invokevirtual 69, 3) := by decide +kernel
theorem dX8_reel_48 : decode cX8_reel 48 = .ok (.ireturn, 1) := by decide +kernel
set_option maxRecDepth 20000 in
theorem ggX8_spliceAt_X8_isReel : GoodIn wsX8_spliceAt wsX8_isReel := goodIn_r _ [7, 1, 8, 9, 6, 10, 14, 15, 16, 17, 18, 19, 20, 21, 22, 23, 24, 25, 26, 27, 28] (by decide +kernel) (by decide +kernel)
set_option maxRecDepth 20000 in
theorem gX8_spliceAt_X8_isReel : GoodIn wsX8_spliceAt (wsV RX8 60 RX8 yX8_isReel wsX8_isReel) := goodIn_app (goodIn_of _ (by decide +kernel)) ggX8_spliceAt_X8_isReel
set_option maxRecDepth 20000 in
theorem ggX8_spliceAt_X8_at : GoodIn wsX8_spliceAt wsX8_at := goodIn_r _ [13] (by decide +kernel) (by decide +kernel)
set_option maxRecDepth 20000 in
theorem gX8_spliceAt_X8_at : GoodIn wsX8_spliceAt (va_wsS RX8 53 yX8_at wsX8_at) := goodIn_app (goodIn_of _ (by decide +kernel)) ggX8_spliceAt_X8_at
set_option maxRecDepth 20000 in
theorem ggX8_spliceAt_X8_in : GoodIn wsX8_spliceAt wsX8_in := goodIn_r _ [10] (by decide +kernel) (by decide +kernel)
set_option maxRecDepth 20000 in
theorem gX8_spliceAt_X8_in : GoodIn wsX8_spliceAt (va_wsS RX8 47 yX8_in wsX8_in) := goodIn_app (goodIn_of _ (by decide +kernel)) ggX8_spliceAt_X8_in
theorem dX8_spliceAt_0 : decode cX8_spliceAt 0 = .ok (.aload_n 0, 1) := by decide +kernel
theorem dX8_spliceAt_1 : decode cX8_spliceAt 1 = .ok (.iload_n 1, 1) := by decide +kernel
theorem dX8_spliceAt_2 : decode cX8_spliceAt 2 = .ok (.invokevirtual 60, 3) := by decide +kernel
theorem dX8_spliceAt_5 : decode cX8_spliceAt 5 = .ok (.ifCond .eq 23, 3) := by decide +kernel
theorem dX8_spliceAt_8 : decode cX8_spliceAt 8 = .ok (.iload_n 2, 1) := by decide +kernel
theorem dX8_spliceAt_9 : decode cX8_spliceAt 9 = .ok (.iconst 0, 1) := by decide +kernel
theorem dX8_spliceAt_10 : decode cX8_spliceAt 10 = .ok (.aload_n 0, 1) := by decide +kernel
theorem dX8_spliceAt_11 : decode cX8_spliceAt 11 = .ok (.getfield 7, 3) := by decide +kernel
theorem dX8_spliceAt_14 : decode cX8_spliceAt 14 = .ok (.iload_n 1, 1) := by decide +kernel
theorem dX8_spliceAt_15 : decode cX8_spliceAt 15 = .ok (.iconst 1, 1) := by decide +kernel
theorem dX8_spliceAt_16 : decode cX8_spliceAt 16 = .ok (.invokestatic 53, 3) := by decide +kernel
theorem dX8_spliceAt_19 : decode cX8_spliceAt 19 = .ok (.iaload, 1) := by decide +kernel
theorem dX8_spliceAt_20 : decode cX8_spliceAt 20 = .ok (.iconst 1, 1) := by decide +kernel
theorem dX8_spliceAt_21 : decode cX8_spliceAt 21 = .ok (.isub, 1) := by decide +kernel
theorem dX8_spliceAt_22 : decode cX8_spliceAt 22 = .ok (.invokestatic 47, 3) := by decide +kernel
theorem dX8_spliceAt_25 : decode cX8_spliceAt 25 = .ok (.ifCond .ne 6, 3) := by decide +kernel
theorem dX8_spliceAt_28 : decode cX8_spliceAt 28 = .ok (.ldc 64, 2) := by decide +kernel
theorem dX8_spliceAt_30 : decode cX8_spliceAt 30 = .ok (.ireturn, 1) := by decide +kernel
theorem dX8_spliceAt_31 : decode cX8_spliceAt 31 = .ok (.aload_n 0, 1) := by decide +kernel
theorem dX8_spliceAt_32 : decode cX8_spliceAt 32 = .ok (.getfield 7, 3) := by decide +kernel
theorem dX8_spliceAt_35 : decode cX8_spliceAt 35 = .ok (.iload_n 1, 1) := by decide +kernel
theorem dX8_spliceAt_36 : decode cX8_spliceAt 36 = .ok (.iconst 2, 1) := by decide +kernel
theorem dX8_spliceAt_37 : decode cX8_spliceAt 37 = .ok (.iconst 2, 1) := by decide +kernel
theorem dX8_spliceAt_38 : decode cX8_spliceAt 38 = .ok (.iload_n 2, 1) := by decide +kernel
theorem dX8_spliceAt_39 : decode cX8_spliceAt 39 = .ok (.imul, 1) := by decide +kernel
theorem dX8_spliceAt_40 : decode cX8_spliceAt 40 = .ok (.iadd, 1) := by decide +kernel
theorem dX8_spliceAt_41 : decode cX8_spliceAt 41 = .ok (.iload_n 3, 1) := by decide +kernel
theorem dX8_spliceAt_42 : decode cX8_spliceAt 42 = .ok (.ifCond .eq 7, 3) := by decide +kernel
theorem dX8_spliceAt_45 : decode cX8_spliceAt 45 = .ok (.iconst 1, 1) := by decide +kernel
theorem dX8_spliceAt_46 : decode cX8_spliceAt 46 = .ok (.goto 4, 3) := by decide +kernel
theorem dX8_spliceAt_49 : decode cX8_spliceAt 49 = .ok (.iconst 0, 1) := by decide +kernel
theorem dX8_spliceAt_50 : decode cX8_spliceAt 50 = .ok (.iadd, 1) := by decide +kernel
theorem dX8_spliceAt_51 : decode cX8_spliceAt 51 = .ok (.invokestatic 53, 3) := by decide +kernel
theorem dX8_spliceAt_54 : decode cX8_spliceAt 54 = .ok (.iaload, 1) := by decide +kernel
theorem dX8_spliceAt_55 : decode cX8_spliceAt 55 = .ok (.ireturn, 1) := by decide +kernel
set_option maxRecDepth 20000 in
theorem ggX8_set_X8_in : GoodIn wsX8_set wsX8_in := goodIn_r _ [8] (by decide +kernel) (by decide +kernel)
set_option maxRecDepth 20000 in
theorem gX8_set_X8_in : GoodIn wsX8_set (va_wsS RX8 47 yX8_in wsX8_in) := goodIn_app (goodIn_of _ (by decide +kernel)) ggX8_set_X8_in
set_option maxRecDepth 20000 in
theorem ggX8_set_X8_puts : GoodIn wsX8_set wsX8_puts := goodIn_r _ [12, 13, 14, 15, 16, 17, 18, 19, 20, 21, 22, 23, 24, 25, 26, 27, 28] (by decide +kernel) (by decide +kernel)
set_option maxRecDepth 20000 in
theorem gX8_set_X8_puts : GoodIn wsX8_set (wsV RX8 73 RX8 yX8_puts wsX8_puts) := goodIn_app (goodIn_of _ (by decide +kernel)) ggX8_set_X8_puts
theorem dX8_set_0 : decode cX8_set 0 = .ok (.iload_n 1, 1) := by decide +kernel
theorem dX8_set_1 : decode cX8_set 1 = .ok (.iconst 0, 1) := by decide +kernel
theorem dX8_set_2 : decode cX8_set 2 = .ok (.bipush 7, 2) := by decide +kernel
theorem dX8_set_4 : decode cX8_set 4 = .ok (.invokestatic 47, 3) := by decide +kernel
theorem dX8_set_7 : decode cX8_set 7 = .ok (.ifCond .ne 6, 3) := by decide +kernel
theorem dX8_set_10 : decode cX8_set 10 = .ok (.ldc 64, 2) := by decide +kernel
theorem dX8_set_12 : decode cX8_set 12 = .ok (.ireturn, 1) := by decide +kernel
theorem dX8_set_13 : decode cX8_set 13 = .ok (.iload_n 2, 1) := by decide +kernel
theorem dX8_set_14 : decode cX8_set 14 = .ok (.aload_n 0, 1) := by decide +kernel
theorem dX8_set_15 : decode cX8_set 15 = .ok (.getfield 23, 3) := by decide +kernel
theorem dX8_set_18 : decode cX8_set 18 = .ok (.iload_n 1, 1) := by decide +kernel
theorem dX8_set_19 : decode cX8_set 19 = .ok (.iaload, 1) := by decide +kernel
theorem dX8_set_20 : decode cX8_set 20 = .ok (.aload_n 0, 1) := by decide +kernel
theorem dX8_set_21 : decode cX8_set 21 = .ok (.getfield 26, 3) := by decide +kernel
theorem dX8_set_24 : decode cX8_set 24 = .ok (.iload_n 1, 1) := by decide +kernel
theorem dX8_set_25 : decode cX8_set 25 = .ok (.iaload, 1) := by decide +kernel
theorem dX8_set_26 : decode cX8_set 26 = .ok (.invokestatic 47, 3) := by decide +kernel
theorem dX8_set_29 : decode cX8_set 29 = .ok (.ifCond .eq 16, 3) := by decide +kernel
theorem dX8_set_32 : decode cX8_set 32 = .ok (.aload_n 0, 1) := by decide +kernel
theorem dX8_set_33 : decode cX8_set 33 = .ok (.sipush 141, 3) := by decide +kernel
theorem dX8_set_36 : decode cX8_set 36 = .ok (.iload_n 1, 1) := by decide +kernel
theorem dX8_set_37 : decode cX8_set 37 = .ok (.iadd, 1) := by decide +kernel
theorem dX8_set_38 : decode cX8_set 38 = .ok (.iload_n 2, 1) := by decide +kernel
theorem dX8_set_39 : decode cX8_set 39 = .ok (.invokevirtual 73, 3) := by decide +kernel
theorem dX8_set_42 : decode cX8_set 42 = .ok (.goto 5, 3) := by decide +kernel
theorem dX8_set_45 : decode cX8_set 45 = .ok (.ldc 51, 2) := by decide +kernel
theorem dX8_set_47 : decode cX8_set 47 = .ok (.ireturn, 1) := by decide +kernel
set_option maxRecDepth 20000 in
theorem ggX8_append_X8_in : GoodIn wsX8_append wsX8_in := goodIn_r _ [8] (by decide +kernel) (by decide +kernel)
set_option maxRecDepth 20000 in
theorem gX8_append_X8_in : GoodIn wsX8_append (va_wsS RX8 47 yX8_in wsX8_in) := goodIn_app (goodIn_of _ (by decide +kernel)) ggX8_append_X8_in
theorem dX8_append_0 : decode cX8_append 0 = .ok (.iload_n 1, 1) := by decide +kernel
theorem dX8_append_1 : decode cX8_append 1 = .ok (.iconst 0, 1) := by decide +kernel
theorem dX8_append_2 : decode cX8_append 2 = .ok (.bipush 127, 2) := by decide +kernel
theorem dX8_append_4 : decode cX8_append 4 = .ok (.invokestatic 47, 3) := by decide +kernel
theorem dX8_append_7 : decode cX8_append 7 = .ok (.ifCond .ne 6, 3) := by decide +kernel
theorem dX8_append_10 : decode cX8_append 10 = .ok (.ldc 51, 2) := by decide +kernel
theorem dX8_append_12 : decode cX8_append 12 = .ok (.ireturn, 1) := by decide +kernel
theorem dX8_append_13 : decode cX8_append 13 = .ok (.aload_n 0, 1) := by decide +kernel
theorem dX8_append_14 : decode cX8_append 14 = .ok (.getfield 76, 3) := by decide +kernel
theorem dX8_append_17 : decode cX8_append 17 = .ok (.bipush 60, 2) := by decide +kernel
theorem dX8_append_19 : decode cX8_append 19 = .ok (.if_icmp .ne 6, 3) := by decide +kernel
theorem dX8_append_22 : decode cX8_append 22 = .ok (.ldc 52, 2) := by decide +kernel
theorem dX8_append_24 : decode cX8_append 24 = .ok (.ireturn, 1) := by decide +kernel
theorem dX8_append_25 : decode cX8_append 25 = .ok (.aload_n 0, 1) := by decide +kernel
theorem dX8_append_26 : decode cX8_append 26 = .ok (.getfield 32, 3) := by decide +kernel
theorem dX8_append_29 : decode cX8_append 29 = .ok (.aload_n 0, 1) := by decide +kernel
theorem dX8_append_30 : decode cX8_append 30 = .ok (.getfield 76, 3) := by decide +kernel
theorem dX8_append_33 : decode cX8_append 33 = .ok (.iload_n 1, 1) := by decide +kernel
theorem dX8_append_34 : decode cX8_append 34 = .ok (.iastore, 1) := by decide +kernel
theorem dX8_append_35 : decode cX8_append 35 = .ok (.aload_n 0, 1) := by decide +kernel
theorem dX8_append_36 : decode cX8_append 36 = .ok (.dup, 1) := by decide +kernel
theorem dX8_append_37 : decode cX8_append 37 = .ok (.getfield 76, 3) := by decide +kernel
theorem dX8_append_40 : decode cX8_append 40 = .ok (.iconst 1, 1) := by decide +kernel
theorem dX8_append_41 : decode cX8_append 41 = .ok (.iadd, 1) := by decide +kernel
theorem dX8_append_42 : decode cX8_append 42 = .ok (.putfield 76, 3) := by decide +kernel
theorem dX8_append_45 : decode cX8_append 45 = .ok (.aload_n 0, 1) := by decide +kernel
theorem dX8_append_46 : decode cX8_append 46 = .ok (.getfield 76, 3) := by decide +kernel
theorem dX8_append_49 : decode cX8_append 49 = .ok (.ireturn, 1) := by decide +kernel
theorem dX8_clearText_0 : decode cX8_clearText 0 = .ok (.aload_n 0, 1) := by decide +kernel
theorem dX8_clearText_1 : decode cX8_clearText 1 = .ok (.getfield 76, 3) := by decide +kernel
theorem dX8_clearText_4 : decode cX8_clearText 4 = .ok (.istore_n 1, 1) := by decide +kernel
theorem dX8_clearText_5 : decode cX8_clearText 5 = .ok (.aload_n 0, 1) := by decide +kernel
theorem dX8_clearText_6 : decode cX8_clearText 6 = .ok (.iconst 0, 1) := by decide +kernel
theorem dX8_clearText_7 : decode cX8_clearText 7 = .ok (.putfield 76, 3) := by decide +kernel
theorem dX8_clearText_10 : decode cX8_clearText 10 = .ok (.iload_n 1, 1) := by decide +kernel
theorem dX8_clearText_11 : decode cX8_clearText 11 = .ok (.ireturn, 1) := by decide +kernel
theorem dX8_here_0 : decode cX8_here 0 = .ok (.aload_n 0, 1) := by decide +kernel
theorem dX8_here_1 : decode cX8_here 1 = .ok (.getfield 80, 3) := by decide +kernel
theorem dX8_here_4 : decode cX8_here 4 = .ok (.aload_n 0, 1) := by decide +kernel
theorem dX8_here_5 : decode cX8_here 5 = .ok (.getfield 76, 3) := by decide +kernel
theorem dX8_here_8 : decode cX8_here 8 = .ok (.if_icmp .ge 15, 3) := by decide +kernel
theorem dX8_here_11 : decode cX8_here 11 = .ok (.aload_n 0, 1) := by decide +kernel
theorem dX8_here_12 : decode cX8_here 12 = .ok (.getfield 32, 3) := by decide +kernel
theorem dX8_here_15 : decode cX8_here 15 = .ok (.aload_n 0, 1) := by decide +kernel
theorem dX8_here_16 : decode cX8_here 16 = .ok (.getfield 80, 3) := by decide +kernel
theorem dX8_here_19 : decode cX8_here 19 = .ok (.iaload, 1) := by decide +kernel
theorem dX8_here_20 : decode cX8_here 20 = .ok (.goto 4, 3) := by decide +kernel
theorem dX8_here_23 : decode cX8_here 23 = .ok (.iconst (-1), 1) := by decide +kernel
theorem dX8_here_24 : decode cX8_here 24 = .ok (.ireturn, 1) := by decide +kernel
set_option maxRecDepth 20000 in
theorem ggX8_isPart_X8_here : GoodIn wsX8_isPart wsX8_here := goodIn_r _ [8, 3, 9, 10, 23, 24, 25, 26, 27, 28, 29, 30, 31, 32, 33, 34, 35, 36, 37] (by decide +kernel) (by decide +kernel)
set_option maxRecDepth 20000 in
theorem gX8_isPart_X8_here : GoodIn wsX8_isPart (wsV RX8 83 RX8 yX8_here wsX8_here) := goodIn_app (goodIn_of _ (by decide +kernel)) ggX8_isPart_X8_here
set_option maxRecDepth 20000 in
theorem ggX8_isPart_X8_isSigned : GoodIn wsX8_isPart wsX8_isSigned := goodIn_r _ [14, 3, 4, 5, 6, 7, 8, 9, 10, 15, 16, 17, 23, 24, 25, 26, 27, 28, 29, 30, 31, 32, 33, 34, 35, 36, 37] (by decide +kernel) (by decide +kernel)
set_option maxRecDepth 20000 in
theorem gX8_isPart_X8_isSigned : GoodIn wsX8_isPart (wsV RX8 90 RX8 yX8_isSigned wsX8_isSigned) := goodIn_app (goodIn_of _ (by decide +kernel)) ggX8_isPart_X8_isSigned
set_option maxRecDepth 20000 in
theorem ggX8_isPart_X8_isReel : GoodIn wsX8_isPart wsX8_isReel := goodIn_r _ [21, 22, 15, 16, 7, 17, 23, 24, 25, 26, 27, 28, 29, 30, 31, 32, 33, 34, 35, 36, 37] (by decide +kernel) (by decide +kernel)
set_option maxRecDepth 20000 in
theorem gX8_isPart_X8_isReel : GoodIn wsX8_isPart (wsV RX8 60 RX8 yX8_isReel wsX8_isReel) := goodIn_app (goodIn_of _ (by decide +kernel)) ggX8_isPart_X8_isReel
theorem dX8_isPart_0 : decode cX8_isPart 0 = .ok (.aload_n 0, 1) := by decide +kernel
theorem dX8_isPart_1 : decode cX8_isPart 1 = .ok (.invokevirtual 83, 3) := by decide +kernel
theorem dX8_isPart_4 : decode cX8_isPart 4 = .ok (.istore_n 1, 1) := by decide +kernel
theorem dX8_isPart_5 : decode cX8_isPart 5 = .ok (.iload_n 1, 1) := by decide +kernel
theorem dX8_isPart_6 : decode cX8_isPart 6 = .ok (.bipush 40, 2) := by decide +kernel
theorem dX8_isPart_8 : decode cX8_isPart 8 = .ok (.if_icmp .ne 45, 3) := by decide +kernel
theorem dX8_isPart_11 : decode cX8_isPart 11 = .ok (.aload_n 0, 1) := by decide +kernel
theorem dX8_isPart_12 : decode cX8_isPart 12 = .ok (.getfield 87, 3) := by decide +kernel
theorem dX8_isPart_15 : decode cX8_isPart 15 = .ok (.iconst 3, 1) := by decide +kernel
theorem dX8_isPart_16 : decode cX8_isPart 16 = .ok (.if_icmp .ne 5, 3) := by decide +kernel
theorem dX8_isPart_19 : decode cX8_isPart 19 = .ok (.iconst 0, 1) := by decide +kernel
theorem dX8_isPart_20 : decode cX8_isPart 20 = .ok (.ireturn, 1) := by decide +kernel
theorem dX8_isPart_21 : decode cX8_isPart 21 = .ok (.aload_n 0, 1) := by decide +kernel
theorem dX8_isPart_22 : decode cX8_isPart 22 = .ok (.dup, 1) := by decide +kernel
theorem dX8_isPart_23 : decode cX8_isPart 23 = .ok (.getfield 87, 3) := by decide +kernel
theorem dX8_isPart_26 : decode cX8_isPart 26 = .ok (.iconst 1, 1) := by decide +kernel
theorem dX8_isPart_27 : decode cX8_isPart 27 = .ok (.iadd, 1) := by decide +kernel
theorem dX8_isPart_28 : decode cX8_isPart 28 = .ok (.putfield 87, 3) := by decide +kernel
theorem dX8_isPart_31 : decode cX8_isPart 31 = .ok (.aload_n 0, 1) := by decide +kernel
theorem dX8_isPart_32 : decode cX8_isPart 32 = .ok (.getfield 35, 3) := by decide +kernel
theorem dX8_isPart_35 : decode cX8_isPart 35 = .ok (.aload_n 0, 1) := by decide +kernel
theorem dX8_isPart_36 : decode cX8_isPart 36 = .ok (.getfield 87, 3) := by decide +kernel
theorem dX8_isPart_39 : decode cX8_isPart 39 = .ok (.iconst 0, 1) := by decide +kernel
theorem dX8_isPart_40 : decode cX8_isPart 40 = .ok (.bastore, 1) := by decide +kernel
theorem dX8_isPart_41 : decode cX8_isPart 41 = .ok (.aload_n 0, 1) := by decide +kernel
theorem dX8_isPart_42 : decode cX8_isPart 42 = .ok (.dup, 1) := by decide +kernel
theorem dX8_isPart_43 : decode cX8_isPart 43 = .ok (.getfield 80, 3) := by decide +kernel
theorem dX8_isPart_46 : decode cX8_isPart 46 = .ok (.iconst 1, 1) := by decide +kernel
theorem dX8_isPart_47 : decode cX8_isPart 47 = .ok (.iadd, 1) := by decide +kernel
theorem dX8_isPart_48 : decode cX8_isPart 48 = .ok (.putfield 80, 3) := by decide +kernel
theorem dX8_isPart_51 : decode cX8_isPart 51 = .ok (.iconst 1, 1) := by decide +kernel
theorem dX8_isPart_52 : decode cX8_isPart 52 = .ok (.ireturn, 1) := by decide +kernel
theorem dX8_isPart_53 : decode cX8_isPart 53 = .ok (.iload_n 1, 1) := by decide +kernel
theorem dX8_isPart_54 : decode cX8_isPart 54 = .ok (.bipush 41, 2) := by decide +kernel
theorem dX8_isPart_56 : decode cX8_isPart 56 = .ok (.if_icmp .ne 59, 3) := by decide +kernel
theorem dX8_isPart_59 : decode cX8_isPart 59 = .ok (.aload_n 0, 1) := by decide +kernel
theorem dX8_isPart_60 : decode cX8_isPart 60 = .ok (.getfield 87, 3) := by decide +kernel
theorem dX8_isPart_63 : decode cX8_isPart 63 = .ok (.ifCond .eq 15, 3) := by decide +kernel
theorem dX8_isPart_66 : decode cX8_isPart 66 = .ok (.aload_n 0, 1) := by decide +kernel
theorem dX8_isPart_67 : decode cX8_isPart 67 = .ok (.getfield 35, 3) := by decide +kernel
theorem dX8_isPart_70 : decode cX8_isPart 70 = .ok (.aload_n 0, 1) := by decide +kernel
theorem dX8_isPart_71 : decode cX8_isPart 71 = .ok (.getfield 87, 3) := by decide +kernel
theorem dX8_isPart_74 : decode cX8_isPart 74 = .ok (.baload, 1) := by decide +kernel
theorem dX8_isPart_75 : decode cX8_isPart 75 = .ok (.ifCond .ne 5, 3) := by decide +kernel
theorem dX8_isPart_78 : decode cX8_isPart 78 = .ok (.iconst 0, 1) := by decide +kernel
theorem dX8_isPart_79 : decode cX8_isPart 79 = .ok (.ireturn, 1) := by decide +kernel
theorem dX8_isPart_80 : decode cX8_isPart 80 = .ok (.aload_n 0, 1) := by decide +kernel
theorem dX8_isPart_81 : decode cX8_isPart 81 = .ok (.dup, 1) := by decide +kernel
theorem dX8_isPart_82 : decode cX8_isPart 82 = .ok (.getfield 87, 3) := by decide +kernel
theorem dX8_isPart_85 : decode cX8_isPart 85 = .ok (.iconst 1, 1) := by decide +kernel
theorem dX8_isPart_86 : decode cX8_isPart 86 = .ok (.isub, 1) := by decide +kernel
theorem dX8_isPart_87 : decode cX8_isPart 87 = .ok (.putfield 87, 3) := by decide +kernel
theorem dX8_isPart_90 : decode cX8_isPart 90 = .ok (.aload_n 0, 1) := by decide +kernel
theorem dX8_isPart_91 : decode cX8_isPart 91 = .ok (.getfield 35, 3) := by decide +kernel
theorem dX8_isPart_94 : decode cX8_isPart 94 = .ok (.aload_n 0, 1) := by decide +kernel
theorem dX8_isPart_95 : decode cX8_isPart 95 = .ok (.getfield 87, 3) := by decide +kernel
theorem dX8_isPart_98 : decode cX8_isPart 98 = .ok (.iconst 1, 1) := by decide +kernel
theorem dX8_isPart_99 : decode cX8_isPart 99 = .ok (.bastore, 1) := by decide +kernel
theorem dX8_isPart_100 : decode cX8_isPart 100 = .ok (.aload_n 0, 1) := by decide +kernel
theorem dX8_isPart_101 : decode cX8_isPart 101 = .ok (.dup, 1) := by decide +kernel
theorem dX8_isPart_102 : decode cX8_isPart 102 = .ok (.getfield 80, 3) := by decide +kernel
theorem dX8_isPart_105 : decode cX8_isPart 105 = .ok (.iconst 1, 1) := by decide +kernel
theorem dX8_isPart_106 : decode cX8_isPart 106 = .ok (.iadd, 1) := by decide +kernel
theorem dX8_isPart_107 : decode cX8_isPart 107 = .ok (.putfield 80, 3) := by decide +kernel
theorem dX8_isPart_110 : decode cX8_isPart 110 = .ok (.aload_n 0, 1) := by decide +kernel
theorem dX8_isPart_111 : decode cX8_isPart 111 = .ok (.invokevirtual 90, 3) := by decide +kernel
theorem dX8_isPart_114 : decode cX8_isPart 114 = .ok (.ireturn, 1) := by decide +kernel
theorem dX8_isPart_115 : decode cX8_isPart 115 = .ok (.aload_n 0, 1) := by decide +kernel
theorem dX8_isPart_116 : decode cX8_isPart 116 = .ok (.iload_n 1, 1) := by decide +kernel
theorem dX8_isPart_117 : decode cX8_isPart 117 = .ok (.bipush 48, 2) := by decide +kernel
theorem dX8_isPart_119 : decode cX8_isPart 119 = .ok (.isub, 1) := by decide +kernel
theorem dX8_isPart_120 : decode cX8_isPart 120 = .ok (.invokevirtual 60, 3) := by decide +kernel
theorem dX8_isPart_123 : decode cX8_isPart 123 = .ok (.ifCond .ne 5, 3) := by decide +kernel
theorem dX8_isPart_126 : decode cX8_isPart 126 = .ok (.iconst 0, 1) := by decide +kernel
theorem dX8_isPart_127 : decode cX8_isPart 127 = .ok (.ireturn, 1) := by decide +kernel
theorem dX8_isPart_128 : decode cX8_isPart 128 = .ok (.aload_n 0, 1) := by decide +kernel
theorem dX8_isPart_129 : decode cX8_isPart 129 = .ok (.getfield 35, 3) := by decide +kernel
theorem dX8_isPart_132 : decode cX8_isPart 132 = .ok (.aload_n 0, 1) := by decide +kernel
theorem dX8_isPart_133 : decode cX8_isPart 133 = .ok (.getfield 87, 3) := by decide +kernel
theorem dX8_isPart_136 : decode cX8_isPart 136 = .ok (.iconst 1, 1) := by decide +kernel
theorem dX8_isPart_137 : decode cX8_isPart 137 = .ok (.bastore, 1) := by decide +kernel
theorem dX8_isPart_138 : decode cX8_isPart 138 = .ok (.aload_n 0, 1) := by decide +kernel
theorem dX8_isPart_139 : decode cX8_isPart 139 = .ok (.dup, 1) := by decide +kernel
theorem dX8_isPart_140 : decode cX8_isPart 140 = .ok (.getfield 80, 3) := by decide +kernel
theorem dX8_isPart_143 : decode cX8_isPart 143 = .ok (.iconst 1, 1) := by decide +kernel
theorem dX8_isPart_144 : decode cX8_isPart 144 = .ok (.iadd, 1) := by decide +kernel
theorem dX8_isPart_145 : decode cX8_isPart 145 = .ok (.putfield 80, 3) := by decide +kernel
theorem dX8_isPart_148 : decode cX8_isPart 148 = .ok (.iconst 1, 1) := by decide +kernel
theorem dX8_isPart_149 : decode cX8_isPart 149 = .ok (.ireturn, 1) := by decide +kernel
set_option maxRecDepth 20000 in
theorem ggX8_isSigned_X8_here : GoodIn wsX8_isSigned wsX8_here := goodIn_r _ [6, 1, 7, 8, 12, 13, 14, 15, 16, 17, 18, 19, 20, 21, 22, 23, 24, 25, 26] (by decide +kernel) (by decide +kernel)
set_option maxRecDepth 20000 in
theorem gX8_isSigned_X8_here : GoodIn wsX8_isSigned (wsV RX8 83 RX8 yX8_here wsX8_here) := goodIn_app (goodIn_of _ (by decide +kernel)) ggX8_isSigned_X8_here
set_option maxRecDepth 20000 in
theorem ggX8_isSigned_X8_in : GoodIn wsX8_isSigned wsX8_in := goodIn_r _ [11] (by decide +kernel) (by decide +kernel)
set_option maxRecDepth 20000 in
theorem gX8_isSigned_X8_in : GoodIn wsX8_isSigned (va_wsS RX8 47 yX8_in wsX8_in) := goodIn_app (goodIn_of _ (by decide +kernel)) ggX8_isSigned_X8_in
theorem dX8_isSigned_0 : decode cX8_isSigned 0 = .ok (.aload_n 0, 1) := by decide +kernel
theorem dX8_isSigned_1 : decode cX8_isSigned 1 = .ok (.invokevirtual 83, 3) := by decide +kernel
theorem dX8_isSigned_4 : decode cX8_isSigned 4 = .ok (.bipush 120, 2) := by decide +kernel
theorem dX8_isSigned_6 : decode cX8_isSigned 6 = .ok (.if_icmp .eq 5, 3) := by decide +kernel
theorem dX8_isSigned_9 : decode cX8_isSigned 9 = .ok (.iconst 1, 1) := by decide +kernel
theorem dX8_isSigned_10 : decode cX8_isSigned 10 = .ok (.ireturn, 1) := by decide +kernel
theorem dX8_isSigned_11 : decode cX8_isSigned 11 = .ok (.aload_n 0, 1) := by decide +kernel
theorem dX8_isSigned_12 : decode cX8_isSigned 12 = .ok (.dup, 1) := by decide +kernel
theorem dX8_isSigned_13 : decode cX8_isSigned 13 = .ok (.getfield 80, 3) := by decide +kernel
theorem dX8_isSigned_16 : decode cX8_isSigned 16 = .ok (.iconst 1, 1) := by decide +kernel
theorem dX8_isSigned_17 : decode cX8_isSigned 17 = .ok (.iadd, 1) := by decide +kernel
theorem dX8_isSigned_18 : decode cX8_isSigned 18 = .ok (.putfield 80, 3) := by decide +kernel
theorem dX8_isSigned_21 : decode cX8_isSigned 21 = .ok (.aload_n 0, 1) := by decide +kernel
theorem dX8_isSigned_22 : decode cX8_isSigned 22 = .ok (.invokevirtual 83, 3) := by decide +kernel
theorem dX8_isSigned_25 : decode cX8_isSigned 25 = .ok (.bipush 50, 2) := by decide +kernel
theorem dX8_isSigned_27 : decode cX8_isSigned 27 = .ok (.bipush 57, 2) := by decide +kernel
theorem dX8_isSigned_29 : decode cX8_isSigned 29 = .ok (.invokestatic 47, 3) := by decide +kernel
theorem dX8_isSigned_32 : decode cX8_isSigned 32 = .ok (.istore_n 1, 1) := by decide +kernel
theorem dX8_isSigned_33 : decode cX8_isSigned 33 = .ok (.aload_n 0, 1) := by decide +kernel
theorem dX8_isSigned_34 : decode cX8_isSigned 34 = .ok (.dup, 1) := by decide +kernel
theorem dX8_isSigned_35 : decode cX8_isSigned 35 = .ok (.getfield 80, 3) := by decide +kernel
theorem dX8_isSigned_38 : decode cX8_isSigned 38 = .ok (.iload_n 1, 1) := by decide +kernel
theorem dX8_isSigned_39 : decode cX8_isSigned 39 = .ok (.ifCond .eq 7, 3) := by decide +kernel
theorem dX8_isSigned_42 : decode cX8_isSigned 42 = .ok (.iconst 1, 1) := by decide +kernel
theorem dX8_isSigned_43 : decode cX8_isSigned 43 = .ok (.goto 4, 3) := by decide +kernel
theorem dX8_isSigned_46 : decode cX8_isSigned 46 = .ok (.iconst 0, 1) := by decide +kernel
theorem dX8_isSigned_47 : decode cX8_isSigned 47 = .ok (.iadd, 1) := by decide +kernel
theorem dX8_isSigned_48 : decode cX8_isSigned 48 = .ok (.putfield 80, 3) := by decide +kernel
theorem dX8_isSigned_51 : decode cX8_isSigned 51 = .ok (.iload_n 1, 1) := by decide +kernel
theorem dX8_isSigned_52 : decode cX8_isSigned 52 = .ok (.ireturn, 1) := by decide +kernel
set_option maxRecDepth 20000 in
theorem ggX8_isText_X8_isPart : GoodIn wsX8_isText wsX8_isPart := goodIn_r _ [8, 2, 9, 1, 10, 11, 12, 7, 13, 3, 14, 15, 16, 17, 18, 19, 20, 21, 22, 23, 24, 25, 26, 27, 28, 29, 30, 31, 32, 33, 34, 35, 36, 37, 38, 39, 40, 41] (by decide +kernel) (by decide +kernel)
set_option maxRecDepth 20000 in
theorem gX8_isText_X8_isPart : GoodIn wsX8_isText (wsV RX8 94 RX8 yX8_isPart wsX8_isPart) := goodIn_app (goodIn_of _ (by decide +kernel)) ggX8_isText_X8_isPart
theorem dX8_isText_0 : decode cX8_isText 0 = .ok (.aload_n 0, 1) := by decide +kernel
theorem dX8_isText_1 : decode cX8_isText 1 = .ok (.iconst 0, 1) := by decide +kernel
theorem dX8_isText_2 : decode cX8_isText 2 = .ok (.putfield 80, 3) := by decide +kernel
theorem dX8_isText_5 : decode cX8_isText 5 = .ok (.aload_n 0, 1) := by decide +kernel
theorem dX8_isText_6 : decode cX8_isText 6 = .ok (.iconst 0, 1) := by decide +kernel
theorem dX8_isText_7 : decode cX8_isText 7 = .ok (.putfield 87, 3) := by decide +kernel
theorem dX8_isText_10 : decode cX8_isText 10 = .ok (.iconst 1, 1) := by decide +kernel
theorem dX8_isText_11 : decode cX8_isText 11 = .ok (.istore_n 1, 1) := by decide +kernel
theorem dX8_isText_12 : decode cX8_isText 12 = .ok (.iload_n 1, 1) := by decide +kernel
theorem dX8_isText_13 : decode cX8_isText 13 = .ok (.ifCond .eq 22, 3) := by decide +kernel
theorem dX8_isText_16 : decode cX8_isText 16 = .ok (.aload_n 0, 1) := by decide +kernel
theorem dX8_isText_17 : decode cX8_isText 17 = .ok (.getfield 80, 3) := by decide +kernel
theorem dX8_isText_20 : decode cX8_isText 20 = .ok (.aload_n 0, 1) := by decide +kernel
theorem dX8_isText_21 : decode cX8_isText 21 = .ok (.getfield 76, 3) := by decide +kernel
theorem dX8_isText_24 : decode cX8_isText 24 = .ok (.if_icmp .ge 11, 3) := by decide +kernel
theorem dX8_isText_27 : decode cX8_isText 27 = .ok (.aload_n 0, 1) := by decide +kernel
theorem dX8_isText_28 : decode cX8_isText 28 = .ok (.invokevirtual 94, 3) := by decide +kernel
theorem dX8_isText_31 : decode cX8_isText 31 = .ok (.istore_n 1, 1) := by decide +kernel
theorem dX8_isText_32 : decode cX8_isText 32 = .ok (.goto (-20), 3) := by decide +kernel
theorem dX8_isText_35 : decode cX8_isText 35 = .ok (.iload_n 1, 1) := by decide +kernel
theorem dX8_isText_36 : decode cX8_isText 36 = .ok (.ifCond .eq 21, 3) := by decide +kernel
theorem dX8_isText_39 : decode cX8_isText 39 = .ok (.aload_n 0, 1) := by decide +kernel
theorem dX8_isText_40 : decode cX8_isText 40 = .ok (.getfield 87, 3) := by decide +kernel
theorem dX8_isText_43 : decode cX8_isText 43 = .ok (.ifCond .ne 14, 3) := by decide +kernel
theorem dX8_isText_46 : decode cX8_isText 46 = .ok (.aload_n 0, 1) := by decide +kernel
theorem dX8_isText_47 : decode cX8_isText 47 = .ok (.getfield 76, 3) := by decide +kernel
theorem dX8_isText_50 : decode cX8_isText 50 = .ok (.ifCond .le 7, 3) := by decide +kernel
theorem dX8_isText_53 : decode cX8_isText 53 = .ok (.iconst 1, 1) := by decide +kernel
theorem dX8_isText_54 : decode cX8_isText 54 = .ok (.goto 4, 3) := by decide +kernel
theorem dX8_isText_57 : decode cX8_isText 57 = .ok (.iconst 0, 1) := by decide +kernel
theorem dX8_isText_58 : decode cX8_isText 58 = .ok (.ireturn, 1) := by decide +kernel
set_option maxRecDepth 20000 in
theorem ggX8_faultPosition_X8_isText : GoodIn wsX8_faultPosition wsX8_isText := goodIn_r _ [7, 2, 8, 9, 10, 11, 12, 6, 13, 14, 15, 16, 17, 18, 19, 20, 21, 22, 23, 24, 25, 26, 27, 28, 29, 30, 31, 32, 33, 34, 35, 36, 37, 38, 39, 40, 41, 42, 43, 44, 45, 46] (by decide +kernel) (by decide +kernel)
set_option maxRecDepth 20000 in
theorem gX8_faultPosition_X8_isText : GoodIn wsX8_faultPosition (wsV RX8 97 RX8 yX8_isText wsX8_isText) := goodIn_app (goodIn_of _ (by decide +kernel)) ggX8_faultPosition_X8_isText
theorem dX8_faultPosition_0 : decode cX8_faultPosition 0 = .ok (.aload_n 0, 1) := by decide +kernel
theorem dX8_faultPosition_1 : decode cX8_faultPosition 1 = .ok (.invokevirtual 97, 3) := by decide +kernel
theorem dX8_faultPosition_4 : decode cX8_faultPosition 4 = .ok (.ifCond .eq 8, 3) := by decide +kernel
theorem dX8_faultPosition_7 : decode cX8_faultPosition 7 = .ok (.ldc 68, 2) := by decide +kernel
theorem dX8_faultPosition_9 : decode cX8_faultPosition 9 = .ok (.goto 7, 3) := by decide +kernel
theorem dX8_faultPosition_12 : decode cX8_faultPosition 12 = .ok (.aload_n 0, 1) := by decide +kernel
theorem dX8_faultPosition_13 : decode cX8_faultPosition 13 = .ok (.getfield 80, 3) := by decide +kernel
theorem dX8_faultPosition_16 : decode cX8_faultPosition 16 = .ok (.ireturn, 1) := by decide +kernel
set_option maxRecDepth 20000 in
theorem ggX8_faultDepth_X8_isText : GoodIn wsX8_faultDepth wsX8_isText := goodIn_r _ [7, 8, 2, 9, 10, 11, 12, 6, 13, 14, 15, 16, 17, 18, 19, 20, 21, 22, 23, 24, 25, 26, 27, 28, 29, 30, 31, 32, 33, 34, 35, 36, 37, 38, 39, 40, 41, 42, 43, 44, 45, 46] (by decide +kernel) (by decide +kernel)
set_option maxRecDepth 20000 in
theorem gX8_faultDepth_X8_isText : GoodIn wsX8_faultDepth (wsV RX8 97 RX8 yX8_isText wsX8_isText) := goodIn_app (goodIn_of _ (by decide +kernel)) ggX8_faultDepth_X8_isText
theorem dX8_faultDepth_0 : decode cX8_faultDepth 0 = .ok (.aload_n 0, 1) := by decide +kernel
theorem dX8_faultDepth_1 : decode cX8_faultDepth 1 = .ok (.invokevirtual 97, 3) := by decide +kernel
theorem dX8_faultDepth_4 : decode cX8_faultDepth 4 = .ok (.ifCond .eq 8, 3) := by decide +kernel
theorem dX8_faultDepth_7 : decode cX8_faultDepth 7 = .ok (.ldc 68, 2) := by decide +kernel
theorem dX8_faultDepth_9 : decode cX8_faultDepth 9 = .ok (.goto 7, 3) := by decide +kernel
theorem dX8_faultDepth_12 : decode cX8_faultDepth 12 = .ok (.aload_n 0, 1) := by decide +kernel
theorem dX8_faultDepth_13 : decode cX8_faultDepth 13 = .ok (.getfield 87, 3) := by decide +kernel
theorem dX8_faultDepth_16 : decode cX8_faultDepth 16 = .ok (.ireturn, 1) := by decide +kernel
set_option maxRecDepth 20000 in
theorem ggX8_tells_X8_here : GoodIn wsX8_tells wsX8_here := goodIn_r _ [12, 2, 3, 4, 13, 14, 15, 16, 17, 18, 19, 20, 21, 22, 23, 24, 25, 26, 27] (by decide +kernel) (by decide +kernel)
set_option maxRecDepth 20000 in
theorem gX8_tells_X8_here : GoodIn wsX8_tells (wsV RX8 83 RX8 yX8_here wsX8_here) := goodIn_app (goodIn_of _ (by decide +kernel)) ggX8_tells_X8_here
theorem dX8_tells_0 : decode cX8_tells 0 = .ok (.iconst 0, 1) := by decide +kernel
theorem dX8_tells_1 : decode cX8_tells 1 = .ok (.istore_n 1, 1) := by decide +kernel
theorem dX8_tells_2 : decode cX8_tells 2 = .ok (.aload_n 0, 1) := by decide +kernel
theorem dX8_tells_3 : decode cX8_tells 3 = .ok (.iconst 0, 1) := by decide +kernel
theorem dX8_tells_4 : decode cX8_tells 4 = .ok (.putfield 87, 3) := by decide +kernel
theorem dX8_tells_7 : decode cX8_tells 7 = .ok (.aload_n 0, 1) := by decide +kernel
theorem dX8_tells_8 : decode cX8_tells 8 = .ok (.iconst 0, 1) := by decide +kernel
theorem dX8_tells_9 : decode cX8_tells 9 = .ok (.putfield 80, 3) := by decide +kernel
theorem dX8_tells_12 : decode cX8_tells 12 = .ok (.aload_n 0, 1) := by decide +kernel
theorem dX8_tells_13 : decode cX8_tells 13 = .ok (.getfield 80, 3) := by decide +kernel
theorem dX8_tells_16 : decode cX8_tells 16 = .ok (.aload_n 0, 1) := by decide +kernel
theorem dX8_tells_17 : decode cX8_tells 17 = .ok (.getfield 76, 3) := by decide +kernel
theorem dX8_tells_20 : decode cX8_tells 20 = .ok (.if_icmp .ge 241, 3) := by decide +kernel
theorem dX8_tells_23 : decode cX8_tells 23 = .ok (.iload_n 1, 1) := by decide +kernel
theorem dX8_tells_24 : decode cX8_tells 24 = .ok (.bipush 13, 2) := by decide +kernel
theorem dX8_tells_26 : decode cX8_tells 26 = .ok (.if_icmp .ge 235, 3) := by decide +kernel
theorem dX8_tells_29 : decode cX8_tells 29 = .ok (.aload_n 0, 1) := by decide +kernel
theorem dX8_tells_30 : decode cX8_tells 30 = .ok (.getfield 32, 3) := by decide +kernel
theorem dX8_tells_33 : decode cX8_tells 33 = .ok (.aload_n 0, 1) := by decide +kernel
theorem dX8_tells_34 : decode cX8_tells 34 = .ok (.getfield 80, 3) := by decide +kernel
theorem dX8_tells_37 : decode cX8_tells 37 = .ok (.iaload, 1) := by decide +kernel
theorem dX8_tells_38 : decode cX8_tells 38 = .ok (.istore_n 2, 1) := by decide +kernel
theorem dX8_tells_39 : decode cX8_tells 39 = .ok (.aload_n 0, 1) := by decide +kernel
theorem dX8_tells_40 : decode cX8_tells 40 = .ok (.dup, 1) := by decide +kernel
theorem dX8_tells_41 : decode cX8_tells 41 = .ok (.getfield 80, 3) := by decide +kernel
theorem dX8_tells_44 : decode cX8_tells 44 = .ok (.iconst 1, 1) := by decide +kernel
theorem dX8_tells_45 : decode cX8_tells 45 = .ok (.iadd, 1) := by decide +kernel
theorem dX8_tells_46 : decode cX8_tells 46 = .ok (.putfield 80, 3) := by decide +kernel
theorem dX8_tells_49 : decode cX8_tells 49 = .ok (.iload_n 2, 1) := by decide +kernel
theorem dX8_tells_50 : decode cX8_tells 50 = .ok (.bipush 40, 2) := by decide +kernel
theorem dX8_tells_52 : decode cX8_tells 52 = .ok (.if_icmp .ne 39, 3) := by decide +kernel
theorem dX8_tells_55 : decode cX8_tells 55 = .ok (.aload_n 0, 1) := by decide +kernel
theorem dX8_tells_56 : decode cX8_tells 56 = .ok (.getfield 38, 3) := by decide +kernel
theorem dX8_tells_59 : decode cX8_tells 59 = .ok (.aload_n 0, 1) := by decide +kernel
theorem dX8_tells_60 : decode cX8_tells 60 = .ok (.getfield 87, 3) := by decide +kernel
theorem dX8_tells_63 : decode cX8_tells 63 = .ok (.aload_n 0, 1) := by decide +kernel
theorem dX8_tells_64 : decode cX8_tells 64 = .ok (.getfield 80, 3) := by decide +kernel
theorem dX8_tells_67 : decode cX8_tells 67 = .ok (.iastore, 1) := by decide +kernel
theorem dX8_tells_68 : decode cX8_tells 68 = .ok (.aload_n 0, 1) := by decide +kernel
theorem dX8_tells_69 : decode cX8_tells 69 = .ok (.getfield 41, 3) := by decide +kernel
theorem dX8_tells_72 : decode cX8_tells 72 = .ok (.aload_n 0, 1) := by decide +kernel
theorem dX8_tells_73 : decode cX8_tells 73 = .ok (.getfield 87, 3) := by decide +kernel
theorem dX8_tells_76 : decode cX8_tells 76 = .ok (.iconst (-1), 1) := by decide +kernel
theorem dX8_tells_77 : decode cX8_tells 77 = .ok (.iastore, 1) := by decide +kernel
theorem dX8_tells_78 : decode cX8_tells 78 = .ok (.aload_n 0, 1) := by decide +kernel
theorem dX8_tells_79 : decode cX8_tells 79 = .ok (.dup, 1) := by decide +kernel
theorem dX8_tells_80 : decode cX8_tells 80 = .ok (.getfield 87, 3) := by decide +kernel
theorem dX8_tells_83 : decode cX8_tells 83 = .ok (.iconst 1, 1) := by decide +kernel
theorem dX8_tells_84 : decode cX8_tells 84 = .ok (.iadd, 1) := by decide +kernel
theorem dX8_tells_85 : decode cX8_tells 85 = .ok (.putfield 87, 3) := by decide +kernel
theorem dX8_tells_88 : decode cX8_tells 88 = .ok (.goto 170, 3) := by decide +kernel
theorem dX8_tells_91 : decode cX8_tells 91 = .ok (.iload_n 2, 1) := by decide +kernel
theorem dX8_tells_92 : decode cX8_tells 92 = .ok (.bipush 41, 2) := by decide +kernel
theorem dX8_tells_94 : decode cX8_tells 94 = .ok (.if_icmp .ne 145, 3) := by decide +kernel
theorem dX8_tells_97 : decode cX8_tells 97 = .ok (.aload_n 0, 1) := by decide +kernel
theorem dX8_tells_98 : decode cX8_tells 98 = .ok (.invokevirtual 83, 3) := by decide +kernel
theorem dX8_tells_101 : decode cX8_tells 101 = .ok (.bipush 120, 2) := by decide +kernel
theorem dX8_tells_103 : decode cX8_tells 103 = .ok (.if_icmp .ne 7, 3) := by decide +kernel
theorem dX8_tells_106 : decode cX8_tells 106 = .ok (.iconst 1, 1) := by decide +kernel
theorem dX8_tells_107 : decode cX8_tells 107 = .ok (.goto 4, 3) := by decide +kernel
theorem dX8_tells_110 : decode cX8_tells 110 = .ok (.iconst 0, 1) := by decide +kernel
theorem dX8_tells_111 : decode cX8_tells 111 = .ok (.istore_n 3, 1) := by decide +kernel
theorem dX8_tells_112 : decode cX8_tells 112 = .ok (.iload_n 3, 1) := by decide +kernel
theorem dX8_tells_113 : decode cX8_tells 113 = .ok (.ifCond .eq 20, 3) := by decide +kernel
theorem dX8_tells_116 : decode cX8_tells 116 = .ok (.aload_n 0, 1) := by decide +kernel
theorem dX8_tells_117 : decode cX8_tells 117 = .ok (.getfield 32, 3) := by decide +kernel
theorem dX8_tells_120 : decode cX8_tells 120 = .ok (.aload_n 0, 1) := by decide +kernel
theorem dX8_tells_121 : decode cX8_tells 121 = .ok (.getfield 80, 3) := by decide +kernel
theorem dX8_tells_124 : decode cX8_tells 124 = .ok (.iconst 1, 1) := by decide +kernel
theorem dX8_tells_125 : decode cX8_tells 125 = .ok (.iadd, 1) := by decide +kernel
theorem dX8_tells_126 : decode cX8_tells 126 = .ok (.iaload, 1) := by decide +kernel
theorem dX8_tells_127 : decode cX8_tells 127 = .ok (.bipush 48, 2) := by decide +kernel
theorem dX8_tells_129 : decode cX8_tells 129 = .ok (.isub, 1) := by decide +kernel
theorem dX8_tells_130 : decode cX8_tells 130 = .ok (.goto 4, 3) := by decide +kernel
theorem dX8_tells_133 : decode cX8_tells 133 = .ok (.iconst 1, 1) := by decide +kernel
theorem dX8_tells_134 : decode cX8_tells 134 = .ok (.istore 4, 2) := by decide +kernel
theorem dX8_tells_136 : decode cX8_tells 136 = .ok (.aload_n 0, 1) := by decide +kernel
theorem dX8_tells_137 : decode cX8_tells 137 = .ok (.getfield 41, 3) := by decide +kernel
theorem dX8_tells_140 : decode cX8_tells 140 = .ok (.aload_n 0, 1) := by decide +kernel
theorem dX8_tells_141 : decode cX8_tells 141 = .ok (.getfield 87, 3) := by decide +kernel
theorem dX8_tells_144 : decode cX8_tells 144 = .ok (.iconst 1, 1) := by decide +kernel
theorem dX8_tells_145 : decode cX8_tells 145 = .ok (.isub, 1) := by decide +kernel
theorem dX8_tells_146 : decode cX8_tells 146 = .ok (.iaload, 1) := by decide +kernel
theorem dX8_tells_147 : decode cX8_tells 147 = .ok (.ifCond .ge 10, 3) := by decide +kernel
theorem dX8_tells_150 : decode cX8_tells 150 = .ok (.iload 4, 2) := by decide +kernel
theorem dX8_tells_152 : decode cX8_tells 152 = .ok (.iconst 1, 1) := by decide +kernel
theorem dX8_tells_153 : decode cX8_tells 153 = .ok (.isub, 1) := by decide +kernel
theorem dX8_tells_154 : decode cX8_tells 154 = .ok (.goto 14, 3) := by decide +kernel
theorem dX8_tells_157 : decode cX8_tells 157 = .ok (.aload_n 0, 1) := by decide +kernel
theorem dX8_tells_158 : decode cX8_tells 158 = .ok (.getfield 41, 3) := by decide +kernel
theorem dX8_tells_161 : decode cX8_tells 161 = .ok (.aload_n 0, 1) := by decide +kernel
theorem dX8_tells_162 : decode cX8_tells 162 = .ok (.getfield 87, 3) := by decide +kernel
theorem dX8_tells_165 : decode cX8_tells 165 = .ok (.iconst 1, 1) := by decide +kernel
theorem dX8_tells_166 : decode cX8_tells 166 = .ok (.isub, 1) := by decide +kernel
theorem dX8_tells_167 : decode cX8_tells 167 = .ok (.iaload, 1) := by decide +kernel
theorem dX8_tells_168 : decode cX8_tells 168 = .ok (.istore 5, 2) := by decide +kernel
theorem dX8_tells_170 : decode cX8_tells 170 = .ok (.iload 5, 2) := by decide +kernel
theorem dX8_tells_172 : decode cX8_tells 172 = .ok (.ifCond .le 36, 3) := by decide +kernel
theorem dX8_tells_175 : decode cX8_tells 175 = .ok (.aload_n 0, 1) := by decide +kernel
theorem dX8_tells_176 : decode cX8_tells 176 = .ok (.getfield 41, 3) := by decide +kernel
theorem dX8_tells_179 : decode cX8_tells 179 = .ok (.aload_n 0, 1) := by decide +kernel
theorem dX8_tells_180 : decode cX8_tells 180 = .ok (.getfield 87, 3) := by decide +kernel
theorem dX8_tells_183 : decode cX8_tells 183 = .ok (.iconst 1, 1) := by decide +kernel
theorem dX8_tells_184 : decode cX8_tells 184 = .ok (.isub, 1) := by decide +kernel
theorem dX8_tells_185 : decode cX8_tells 185 = .ok (.iload 5, 2) := by decide +kernel
theorem dX8_tells_187 : decode cX8_tells 187 = .ok (.iconst 1, 1) := by decide +kernel
theorem dX8_tells_188 : decode cX8_tells 188 = .ok (.isub, 1) := by decide +kernel
theorem dX8_tells_189 : decode cX8_tells 189 = .ok (.iastore, 1) := by decide +kernel
theorem dX8_tells_190 : decode cX8_tells 190 = .ok (.aload_n 0, 1) := by decide +kernel
theorem dX8_tells_191 : decode cX8_tells 191 = .ok (.aload_n 0, 1) := by decide +kernel
theorem dX8_tells_192 : decode cX8_tells 192 = .ok (.getfield 38, 3) := by decide +kernel
theorem dX8_tells_195 : decode cX8_tells 195 = .ok (.aload_n 0, 1) := by decide +kernel
theorem dX8_tells_196 : decode cX8_tells 196 = .ok (.getfield 87, 3) := by decide +kernel
theorem dX8_tells_199 : decode cX8_tells 199 = .ok (.iconst 1, 1) := by decide +kernel
theorem dX8_tells_200 : decode cX8_tells 200 = .ok (.isub, 1) := by decide +kernel
theorem dX8_tells_201 : decode cX8_tells 201 = .ok (.iaload, 1) := by decide +kernel
theorem dX8_tells_202 : decode cX8_tells 202 = .ok (.putfield 80, 3) := by decide +kernel
theorem dX8_tells_205 : decode cX8_tells 205 = .ok (.goto 31, 3) := by decide +kernel
theorem dX8_tells_208 : decode cX8_tells 208 = .ok (.aload_n 0, 1) := by decide +kernel
theorem dX8_tells_209 : decode cX8_tells 209 = .ok (.dup, 1) := by decide +kernel
theorem dX8_tells_210 : decode cX8_tells 210 = .ok (.getfield 87, 3) := by decide +kernel
theorem dX8_tells_213 : decode cX8_tells 213 = .ok (.iconst 1, 1) := by decide +kernel
theorem dX8_tells_214 : decode cX8_tells 214 = .ok (.isub, 1) := by decide +kernel
theorem dX8_tells_215 : decode cX8_tells 215 = .ok (.putfield 87, 3) := by decide +kernel
theorem dX8_tells_218 : decode cX8_tells 218 = .ok (.aload_n 0, 1) := by decide +kernel
theorem dX8_tells_219 : decode cX8_tells 219 = .ok (.dup, 1) := by decide +kernel
theorem dX8_tells_220 : decode cX8_tells 220 = .ok (.getfield 80, 3) := by decide +kernel
theorem dX8_tells_223 : decode cX8_tells 223 = .ok (.iload_n 3, 1) := by decide +kernel
theorem dX8_tells_224 : decode cX8_tells 224 = .ok (.ifCond .eq 7, 3) := by decide +kernel
theorem dX8_tells_227 : decode cX8_tells 227 = .ok (.iconst 2, 1) := by decide +kernel
theorem dX8_tells_228 : decode cX8_tells 228 = .ok (.goto 4, 3) := by decide +kernel
theorem dX8_tells_231 : decode cX8_tells 231 = .ok (.iconst 0, 1) := by decide +kernel
theorem dX8_tells_232 : decode cX8_tells 232 = .ok (.iadd, 1) := by decide +kernel
theorem dX8_tells_233 : decode cX8_tells 233 = .ok (.putfield 80, 3) := by decide +kernel
theorem dX8_tells_236 : decode cX8_tells 236 = .ok (.goto 22, 3) := by decide +kernel
theorem dX8_tells_239 : decode cX8_tells 239 = .ok (.iload_n 1, 1) := by decide +kernel
theorem dX8_tells_240 : decode cX8_tells 240 = .ok (.bipush 12, 2) := by decide +kernel
theorem dX8_tells_242 : decode cX8_tells 242 = .ok (.if_icmp .ge 13, 3) := by decide +kernel
theorem dX8_tells_245 : decode cX8_tells 245 = .ok (.aload_n 0, 1) := by decide +kernel
theorem dX8_tells_246 : decode cX8_tells 246 = .ok (.getfield 44, 3) := by decide +kernel
theorem dX8_tells_249 : decode cX8_tells 249 = .ok (.iload_n 1, 1) := by decide +kernel
theorem dX8_tells_250 : decode cX8_tells 250 = .ok (.iload_n 2, 1) := by decide +kernel
theorem dX8_tells_251 : decode cX8_tells 251 = .ok (.bipush 48, 2) := by decide +kernel
theorem dX8_tells_253 : decode cX8_tells 253 = .ok (.isub, 1) := by decide +kernel
theorem dX8_tells_254 : decode cX8_tells 254 = .ok (.iastore, 1) := by decide +kernel
theorem dX8_tells_255 : decode cX8_tells 255 = .ok (.iinc 1 1, 3) := by decide +kernel
theorem dX8_tells_258 : decode cX8_tells 258 = .ok (.goto (-246), 3) := by decide +kernel
theorem dX8_tells_261 : decode cX8_tells 261 = .ok (.iload_n 1, 1) := by decide +kernel
theorem dX8_tells_262 : decode cX8_tells 262 = .ok (.ireturn, 1) := by decide +kernel
theorem dX8_isRunning_0 : decode cX8_isRunning 0 = .ok (.aload_n 0, 1) := by decide +kernel
theorem dX8_isRunning_1 : decode cX8_isRunning 1 = .ok (.getfield 7, 3) := by decide +kernel
theorem dX8_isRunning_4 : decode cX8_isRunning 4 = .ok (.sipush 162, 3) := by decide +kernel
theorem dX8_isRunning_7 : decode cX8_isRunning 7 = .ok (.iaload, 1) := by decide +kernel
theorem dX8_isRunning_8 : decode cX8_isRunning 8 = .ok (.iconst 1, 1) := by decide +kernel
theorem dX8_isRunning_9 : decode cX8_isRunning 9 = .ok (.if_icmp .ne 18, 3) := by decide +kernel
theorem dX8_isRunning_12 : decode cX8_isRunning 12 = .ok (.aload_n 0, 1) := by decide +kernel
theorem dX8_isRunning_13 : decode cX8_isRunning 13 = .ok (.getfield 7, 3) := by decide +kernel
theorem dX8_isRunning_16 : decode cX8_isRunning 16 = .ok (.sipush 163, 3) := by decide +kernel
theorem dX8_isRunning_19 : decode cX8_isRunning 19 = .ok (.iaload, 1) := by decide +kernel
theorem dX8_isRunning_20 : decode cX8_isRunning 20 = .ok (.ifCond .ne 7, 3) := by decide +kernel
theorem dX8_isRunning_23 : decode cX8_isRunning 23 = .ok (.iconst 1, 1) := by decide +kernel
theorem dX8_isRunning_24 : decode cX8_isRunning 24 = .ok (.goto 4, 3) := by decide +kernel
theorem dX8_isRunning_27 : decode cX8_isRunning 27 = .ok (.iconst 0, 1) := by decide +kernel
theorem dX8_isRunning_28 : decode cX8_isRunning 28 = .ok (.ireturn, 1) := by decide +kernel
set_option maxRecDepth 20000 in
theorem ggX8_setProgram_X8_isText : GoodIn wsX8_setProgram wsX8_isText := goodIn_r _ [9, 10, 11, 12, 13, 14, 15, 8, 16, 17, 18, 19, 20, 21, 22, 23, 24, 25, 26, 27, 28, 29, 30, 31, 32, 33, 3, 44, 45, 46, 47, 48, 49, 50, 51, 52, 53, 54, 55, 56, 57, 58] (by decide +kernel) (by decide +kernel)
set_option maxRecDepth 20000 in
theorem gX8_setProgram_X8_isText : GoodIn wsX8_setProgram (wsV RX8 97 RX8 yX8_isText wsX8_isText) := goodIn_app (goodIn_of _ (by decide +kernel)) ggX8_setProgram_X8_isText
set_option maxRecDepth 20000 in
theorem ggX8_setProgram_X8_isRunning : GoodIn wsX8_setProgram wsX8_isRunning := goodIn_r _ [37, 3, 44, 45, 46, 47, 48, 49, 50, 51, 52, 53, 54, 55, 56, 57, 58] (by decide +kernel) (by decide +kernel)
set_option maxRecDepth 20000 in
theorem gX8_setProgram_X8_isRunning : GoodIn wsX8_setProgram (wsV RX8 100 RX8 yX8_isRunning wsX8_isRunning) := goodIn_app (goodIn_of _ (by decide +kernel)) ggX8_setProgram_X8_isRunning
set_option maxRecDepth 20000 in
theorem ggX8_setProgram_X8_tells : GoodIn wsX8_setProgram wsX8_tells := goodIn_r _ [41, 11, 10, 12, 22, 42, 43, 4, 18, 19, 20, 8, 21, 44, 45, 46, 47, 48, 49, 50, 51, 52, 53, 54, 55, 56, 57, 58] (by decide +kernel) (by decide +kernel)
set_option maxRecDepth 20000 in
theorem gX8_setProgram_X8_tells : GoodIn wsX8_setProgram (wsV RX8 104 RX8 yX8_tells wsX8_tells) := goodIn_app (goodIn_of _ (by decide +kernel)) ggX8_setProgram_X8_tells
theorem dX8_setProgram_0 : decode cX8_setProgram 0 = .ok (.aload_n 0, 1) := by decide +kernel
theorem dX8_setProgram_1 : decode cX8_setProgram 1 = .ok (.invokevirtual 97, 3) := by decide +kernel
theorem dX8_setProgram_4 : decode cX8_setProgram 4 = .ok (.ifCond .eq 10, 3) := by decide +kernel
theorem dX8_setProgram_7 : decode cX8_setProgram 7 = .ok (.aload_n 0, 1) := by decide +kernel
theorem dX8_setProgram_8 : decode cX8_setProgram 8 = .ok (.invokevirtual 100, 3) := by decide +kernel
theorem dX8_setProgram_11 : decode cX8_setProgram 11 = .ok (.ifCond .eq 6, 3) := by decide +kernel
theorem dX8_setProgram_14 : decode cX8_setProgram 14 = .ok (.ldc 103, 2) := by decide +kernel
theorem dX8_setProgram_16 : decode cX8_setProgram 16 = .ok (.ireturn, 1) := by decide +kernel
theorem dX8_setProgram_17 : decode cX8_setProgram 17 = .ok (.aload_n 0, 1) := by decide +kernel
theorem dX8_setProgram_18 : decode cX8_setProgram 18 = .ok (.invokevirtual 104, 3) := by decide +kernel
theorem dX8_setProgram_21 : decode cX8_setProgram 21 = .ok (.istore_n 1, 1) := by decide +kernel
theorem dX8_setProgram_22 : decode cX8_setProgram 22 = .ok (.iload_n 1, 1) := by decide +kernel
theorem dX8_setProgram_23 : decode cX8_setProgram 23 = .ok (.bipush 12, 2) := by decide +kernel
theorem dX8_setProgram_25 : decode cX8_setProgram 25 = .ok (.if_icmp .le 6, 3) := by decide +kernel
theorem dX8_setProgram_28 : decode cX8_setProgram 28 = .ok (.ldc 52, 2) := by decide +kernel
theorem dX8_setProgram_30 : decode cX8_setProgram 30 = .ok (.ireturn, 1) := by decide +kernel
theorem dX8_setProgram_31 : decode cX8_setProgram 31 = .ok (.iconst 0, 1) := by decide +kernel
theorem dX8_setProgram_32 : decode cX8_setProgram 32 = .ok (.istore_n 2, 1) := by decide +kernel
theorem dX8_setProgram_33 : decode cX8_setProgram 33 = .ok (.iload_n 2, 1) := by decide +kernel
theorem dX8_setProgram_34 : decode cX8_setProgram 34 = .ok (.iload_n 1, 1) := by decide +kernel
theorem dX8_setProgram_35 : decode cX8_setProgram 35 = .ok (.if_icmp .ge 25, 3) := by decide +kernel
theorem dX8_setProgram_38 : decode cX8_setProgram 38 = .ok (.aload_n 0, 1) := by decide +kernel
theorem dX8_setProgram_39 : decode cX8_setProgram 39 = .ok (.getfield 7, 3) := by decide +kernel
theorem dX8_setProgram_42 : decode cX8_setProgram 42 = .ok (.sipush 150, 3) := by decide +kernel
theorem dX8_setProgram_45 : decode cX8_setProgram 45 = .ok (.iload_n 2, 1) := by decide +kernel
theorem dX8_setProgram_46 : decode cX8_setProgram 46 = .ok (.iadd, 1) := by decide +kernel
theorem dX8_setProgram_47 : decode cX8_setProgram 47 = .ok (.aload_n 0, 1) := by decide +kernel
theorem dX8_setProgram_48 : decode cX8_setProgram 48 = .ok (.getfield 44, 3) := by decide +kernel
theorem dX8_setProgram_51 : decode cX8_setProgram 51 = .ok (.iload_n 2, 1) := by decide +kernel
theorem dX8_setProgram_52 : decode cX8_setProgram 52 = .ok (.iaload, 1) := by decide +kernel
theorem dX8_setProgram_53 : decode cX8_setProgram 53 = .ok (.iastore, 1) := by decide +kernel
theorem dX8_setProgram_54 : decode cX8_setProgram 54 = .ok (.iinc 2 1, 3) := by decide +kernel
theorem dX8_setProgram_57 : decode cX8_setProgram 57 = .ok (.goto (-24), 3) := by decide +kernel
theorem dX8_setProgram_60 : decode cX8_setProgram 60 = .ok (.aload_n 0, 1) := by decide +kernel
theorem dX8_setProgram_61 : decode cX8_setProgram 61 = .ok (.getfield 7, 3) := by decide +kernel
theorem dX8_setProgram_64 : decode cX8_setProgram 64 = .ok (.sipush 149, 3) := by decide +kernel
theorem dX8_setProgram_67 : decode cX8_setProgram 67 = .ok (.iload_n 1, 1) := by decide +kernel
theorem dX8_setProgram_68 : decode cX8_setProgram 68 = .ok (.iastore, 1) := by decide +kernel
theorem dX8_setProgram_69 : decode cX8_setProgram 69 = .ok (.iload_n 1, 1) := by decide +kernel
theorem dX8_setProgram_70 : decode cX8_setProgram 70 = .ok (.ireturn, 1) := by decide +kernel
set_option maxRecDepth 20000 in
theorem ggX8_program_X8_in : GoodIn wsX8_program wsX8_in := goodIn_r _ [6] (by decide +kernel) (by decide +kernel)
set_option maxRecDepth 20000 in
theorem gX8_program_X8_in : GoodIn wsX8_program (va_wsS RX8 47 yX8_in wsX8_in) := goodIn_app (goodIn_of _ (by decide +kernel)) ggX8_program_X8_in
theorem dX8_program_0 : decode cX8_program 0 = .ok (.iload_n 1, 1) := by decide +kernel
theorem dX8_program_1 : decode cX8_program 1 = .ok (.iconst 0, 1) := by decide +kernel
theorem dX8_program_2 : decode cX8_program 2 = .ok (.aload_n 0, 1) := by decide +kernel
theorem dX8_program_3 : decode cX8_program 3 = .ok (.getfield 7, 3) := by decide +kernel
theorem dX8_program_6 : decode cX8_program 6 = .ok (.sipush 149, 3) := by decide +kernel
theorem dX8_program_9 : decode cX8_program 9 = .ok (.iaload, 1) := by decide +kernel
theorem dX8_program_10 : decode cX8_program 10 = .ok (.iconst 1, 1) := by decide +kernel
theorem dX8_program_11 : decode cX8_program 11 = .ok (.isub, 1) := by decide +kernel
theorem dX8_program_12 : decode cX8_program 12 = .ok (.invokestatic 47, 3) := by decide +kernel
theorem dX8_program_15 : decode cX8_program 15 = .ok (.ifCond .eq 16, 3) := by decide +kernel
theorem dX8_program_18 : decode cX8_program 18 = .ok (.aload_n 0, 1) := by decide +kernel
theorem dX8_program_19 : decode cX8_program 19 = .ok (.getfield 7, 3) := by decide +kernel
theorem dX8_program_22 : decode cX8_program 22 = .ok (.sipush 150, 3) := by decide +kernel
theorem dX8_program_25 : decode cX8_program 25 = .ok (.iload_n 1, 1) := by decide +kernel
theorem dX8_program_26 : decode cX8_program 26 = .ok (.iadd, 1) := by decide +kernel
theorem dX8_program_27 : decode cX8_program 27 = .ok (.iaload, 1) := by decide +kernel
theorem dX8_program_28 : decode cX8_program 28 = .ok (.goto 5, 3) := by decide +kernel
theorem dX8_program_31 : decode cX8_program 31 = .ok (.ldc 64, 2) := by decide +kernel
theorem dX8_program_33 : decode cX8_program 33 = .ok (.ireturn, 1) := by decide +kernel
theorem dX8_on_0 : decode cX8_on 0 = .ok (.sipush 191, 3) := by decide +kernel
theorem dX8_on_3 : decode cX8_on 3 = .ok (.iconst 4, 1) := by decide +kernel
theorem dX8_on_4 : decode cX8_on 4 = .ok (.iload_n 0, 1) := by decide +kernel
theorem dX8_on_5 : decode cX8_on 5 = .ok (.imul, 1) := by decide +kernel
theorem dX8_on_6 : decode cX8_on 6 = .ok (.iadd, 1) := by decide +kernel
theorem dX8_on_7 : decode cX8_on 7 = .ok (.iload_n 1, 1) := by decide +kernel
theorem dX8_on_8 : decode cX8_on 8 = .ok (.iadd, 1) := by decide +kernel
theorem dX8_on_9 : decode cX8_on 9 = .ok (.ireturn, 1) := by decide +kernel
set_option maxRecDepth 20000 in
theorem ggX8_reelOn_X8_on : GoodIn wsX8_reelOn wsX8_on := goodIn_r _ [5] (by decide +kernel) (by decide +kernel)
set_option maxRecDepth 20000 in
theorem gX8_reelOn_X8_on : GoodIn wsX8_reelOn (va_wsS RX8 107 yX8_on wsX8_on) := goodIn_app (goodIn_of _ (by decide +kernel)) ggX8_reelOn_X8_on
theorem dX8_reelOn_0 : decode cX8_reelOn 0 = .ok (.aload_n 0, 1) := by decide +kernel
theorem dX8_reelOn_1 : decode cX8_reelOn 1 = .ok (.getfield 7, 3) := by decide +kernel
theorem dX8_reelOn_4 : decode cX8_reelOn 4 = .ok (.sipush 150, 3) := by decide +kernel
theorem dX8_reelOn_7 : decode cX8_reelOn 7 = .ok (.aload_n 0, 1) := by decide +kernel
theorem dX8_reelOn_8 : decode cX8_reelOn 8 = .ok (.getfield 7, 3) := by decide +kernel
theorem dX8_reelOn_11 : decode cX8_reelOn 11 = .ok (.iload_n 1, 1) := by decide +kernel
theorem dX8_reelOn_12 : decode cX8_reelOn 12 = .ok (.iconst 1, 1) := by decide +kernel
theorem dX8_reelOn_13 : decode cX8_reelOn 13 = .ok (.invokestatic 107, 3) := by decide +kernel
theorem dX8_reelOn_16 : decode cX8_reelOn 16 = .ok (.iaload, 1) := by decide +kernel
theorem dX8_reelOn_17 : decode cX8_reelOn 17 = .ok (.iadd, 1) := by decide +kernel
theorem dX8_reelOn_18 : decode cX8_reelOn 18 = .ok (.iaload, 1) := by decide +kernel
theorem dX8_reelOn_19 : decode cX8_reelOn 19 = .ok (.ireturn, 1) := by decide +kernel
set_option maxRecDepth 20000 in
theorem ggX8_lengthOn_X8_reelOn : GoodIn wsX8_lengthOn wsX8_reelOn := goodIn_r _ [6, 1, 7, 8, 5, 9, 13, 14, 15, 16, 17, 18, 19, 20, 21, 22, 23, 24, 25, 26, 27] (by decide +kernel) (by decide +kernel)
set_option maxRecDepth 20000 in
theorem gX8_lengthOn_X8_reelOn : GoodIn wsX8_lengthOn (wsV RX8 110 RX8 yX8_reelOn wsX8_reelOn) := goodIn_app (goodIn_of _ (by decide +kernel)) ggX8_lengthOn_X8_reelOn
set_option maxRecDepth 20000 in
theorem ggX8_lengthOn_X8_at : GoodIn wsX8_lengthOn wsX8_at := goodIn_r _ [12] (by decide +kernel) (by decide +kernel)
set_option maxRecDepth 20000 in
theorem gX8_lengthOn_X8_at : GoodIn wsX8_lengthOn (va_wsS RX8 53 yX8_at wsX8_at) := goodIn_app (goodIn_of _ (by decide +kernel)) ggX8_lengthOn_X8_at
theorem dX8_lengthOn_0 : decode cX8_lengthOn 0 = .ok (.aload_n 0, 1) := by decide +kernel
theorem dX8_lengthOn_1 : decode cX8_lengthOn 1 = .ok (.getfield 7, 3) := by decide +kernel
theorem dX8_lengthOn_4 : decode cX8_lengthOn 4 = .ok (.aload_n 0, 1) := by decide +kernel
theorem dX8_lengthOn_5 : decode cX8_lengthOn 5 = .ok (.iload_n 1, 1) := by decide +kernel
theorem dX8_lengthOn_6 : decode cX8_lengthOn 6 = .ok (.invokevirtual 110, 3) := by decide +kernel
theorem dX8_lengthOn_9 : decode cX8_lengthOn 9 = .ok (.iconst 0, 1) := by decide +kernel
theorem dX8_lengthOn_10 : decode cX8_lengthOn 10 = .ok (.invokestatic 53, 3) := by decide +kernel
theorem dX8_lengthOn_13 : decode cX8_lengthOn 13 = .ok (.iaload, 1) := by decide +kernel
theorem dX8_lengthOn_14 : decode cX8_lengthOn 14 = .ok (.ireturn, 1) := by decide +kernel
set_option maxRecDepth 20000 in
theorem ggX8_comes_X8_on : GoodIn wsX8_comes wsX8_on := goodIn_r _ [5] (by decide +kernel) (by decide +kernel)
set_option maxRecDepth 20000 in
theorem gX8_comes_X8_on : GoodIn wsX8_comes (va_wsS RX8 107 yX8_on wsX8_on) := goodIn_app (goodIn_of _ (by decide +kernel)) ggX8_comes_X8_on
theorem dX8_comes_0 : decode cX8_comes 0 = .ok (.aload_n 0, 1) := by decide +kernel
theorem dX8_comes_1 : decode cX8_comes 1 = .ok (.getfield 7, 3) := by decide +kernel
theorem dX8_comes_4 : decode cX8_comes 4 = .ok (.iload_n 1, 1) := by decide +kernel
theorem dX8_comes_5 : decode cX8_comes 5 = .ok (.iconst 0, 1) := by decide +kernel
theorem dX8_comes_6 : decode cX8_comes 6 = .ok (.invokestatic 107, 3) := by decide +kernel
theorem dX8_comes_9 : decode cX8_comes 9 = .ok (.iconst 1, 1) := by decide +kernel
theorem dX8_comes_10 : decode cX8_comes 10 = .ok (.iastore, 1) := by decide +kernel
theorem dX8_comes_11 : decode cX8_comes 11 = .ok (.aload_n 0, 1) := by decide +kernel
theorem dX8_comes_12 : decode cX8_comes 12 = .ok (.getfield 7, 3) := by decide +kernel
theorem dX8_comes_15 : decode cX8_comes 15 = .ok (.iload_n 1, 1) := by decide +kernel
theorem dX8_comes_16 : decode cX8_comes 16 = .ok (.iconst 1, 1) := by decide +kernel
theorem dX8_comes_17 : decode cX8_comes 17 = .ok (.invokestatic 107, 3) := by decide +kernel
theorem dX8_comes_20 : decode cX8_comes 20 = .ok (.aload_n 0, 1) := by decide +kernel
theorem dX8_comes_21 : decode cX8_comes 21 = .ok (.getfield 7, 3) := by decide +kernel
theorem dX8_comes_24 : decode cX8_comes 24 = .ok (.sipush 170, 3) := by decide +kernel
theorem dX8_comes_27 : decode cX8_comes 27 = .ok (.iaload, 1) := by decide +kernel
theorem dX8_comes_28 : decode cX8_comes 28 = .ok (.iastore, 1) := by decide +kernel
theorem dX8_comes_29 : decode cX8_comes 29 = .ok (.aload_n 0, 1) := by decide +kernel
theorem dX8_comes_30 : decode cX8_comes 30 = .ok (.getfield 7, 3) := by decide +kernel
theorem dX8_comes_33 : decode cX8_comes 33 = .ok (.sipush 170, 3) := by decide +kernel
theorem dX8_comes_36 : decode cX8_comes 36 = .ok (.dup2, 1) := by decide +kernel
theorem dX8_comes_37 : decode cX8_comes 37 = .ok (.iaload, 1) := by decide +kernel
theorem dX8_comes_38 : decode cX8_comes 38 = .ok (.iconst 1, 1) := by decide +kernel
theorem dX8_comes_39 : decode cX8_comes 39 = .ok (.iadd, 1) := by decide +kernel
theorem dX8_comes_40 : decode cX8_comes 40 = .ok (.iastore, 1) := by decide +kernel
theorem dX8_comes_41 : decode cX8_comes 41 = .ok (.return_, 1) := by decide +kernel
set_option maxRecDepth 20000 in
theorem ggX8_opens_X8_comes : GoodIn wsX8_opens wsX8_comes := goodIn_r _ [6, 1, 7, 8, 5, 9, 10, 11, 12, 13, 14, 15, 16, 17, 18, 19, 20, 21, 22, 23, 24] (by decide +kernel) (by decide +kernel)
set_option maxRecDepth 20000 in
theorem gX8_opens_X8_comes : GoodIn wsX8_opens (wsV RX8 113 RX8 yX8_comes wsX8_comes) := goodIn_app (goodIn_of _ (by decide +kernel)) ggX8_opens_X8_comes
set_option maxRecDepth 20000 in
theorem ggX8_opens_X8_on : GoodIn wsX8_opens wsX8_on := goodIn_r _ [9] (by decide +kernel) (by decide +kernel)
set_option maxRecDepth 20000 in
theorem gX8_opens_X8_on : GoodIn wsX8_opens (va_wsS RX8 107 yX8_on wsX8_on) := goodIn_app (goodIn_of _ (by decide +kernel)) ggX8_opens_X8_on
theorem dX8_opens_0 : decode cX8_opens 0 = .ok (.sipush 162, 3) := by decide +kernel
theorem dX8_opens_3 : decode cX8_opens 3 = .ok (.istore_n 1, 1) := by decide +kernel
theorem dX8_opens_4 : decode cX8_opens 4 = .ok (.iload_n 1, 1) := by decide +kernel
theorem dX8_opens_5 : decode cX8_opens 5 = .ok (.sipush 199, 3) := by decide +kernel
theorem dX8_opens_8 : decode cX8_opens 8 = .ok (.if_icmp .ge 16, 3) := by decide +kernel
theorem dX8_opens_11 : decode cX8_opens 11 = .ok (.aload_n 0, 1) := by decide +kernel
theorem dX8_opens_12 : decode cX8_opens 12 = .ok (.getfield 7, 3) := by decide +kernel
theorem dX8_opens_15 : decode cX8_opens 15 = .ok (.iload_n 1, 1) := by decide +kernel
theorem dX8_opens_16 : decode cX8_opens 16 = .ok (.iconst 0, 1) := by decide +kernel
theorem dX8_opens_17 : decode cX8_opens 17 = .ok (.iastore, 1) := by decide +kernel
theorem dX8_opens_18 : decode cX8_opens 18 = .ok (.iinc 1 1, 3) := by decide +kernel
theorem dX8_opens_21 : decode cX8_opens 21 = .ok (.goto (-17), 3) := by decide +kernel
theorem dX8_opens_24 : decode cX8_opens 24 = .ok (.aload_n 0, 1) := by decide +kernel
theorem dX8_opens_25 : decode cX8_opens 25 = .ok (.getfield 7, 3) := by decide +kernel
theorem dX8_opens_28 : decode cX8_opens 28 = .ok (.sipush 162, 3) := by decide +kernel
theorem dX8_opens_31 : decode cX8_opens 31 = .ok (.iconst 1, 1) := by decide +kernel
theorem dX8_opens_32 : decode cX8_opens 32 = .ok (.iastore, 1) := by decide +kernel
theorem dX8_opens_33 : decode cX8_opens 33 = .ok (.aload_n 0, 1) := by decide +kernel
theorem dX8_opens_34 : decode cX8_opens 34 = .ok (.getfield 7, 3) := by decide +kernel
theorem dX8_opens_37 : decode cX8_opens 37 = .ok (.sipush 172, 3) := by decide +kernel
theorem dX8_opens_40 : decode cX8_opens 40 = .ok (.iconst (-1), 1) := by decide +kernel
theorem dX8_opens_41 : decode cX8_opens 41 = .ok (.iastore, 1) := by decide +kernel
theorem dX8_opens_42 : decode cX8_opens 42 = .ok (.aload_n 0, 1) := by decide +kernel
theorem dX8_opens_43 : decode cX8_opens 43 = .ok (.iconst 0, 1) := by decide +kernel
theorem dX8_opens_44 : decode cX8_opens 44 = .ok (.invokevirtual 113, 3) := by decide +kernel
theorem dX8_opens_47 : decode cX8_opens 47 = .ok (.aload_n 0, 1) := by decide +kernel
theorem dX8_opens_48 : decode cX8_opens 48 = .ok (.getfield 7, 3) := by decide +kernel
theorem dX8_opens_51 : decode cX8_opens 51 = .ok (.iconst 0, 1) := by decide +kernel
theorem dX8_opens_52 : decode cX8_opens 52 = .ok (.iconst 0, 1) := by decide +kernel
theorem dX8_opens_53 : decode cX8_opens 53 = .ok (.invokestatic 107, 3) := by decide +kernel
theorem dX8_opens_56 : decode cX8_opens 56 = .ok (.iconst 3, 1) := by decide +kernel
theorem dX8_opens_57 : decode cX8_opens 57 = .ok (.iastore, 1) := by decide +kernel
theorem dX8_opens_58 : decode cX8_opens 58 = .ok (.aload_n 0, 1) := by decide +kernel
theorem dX8_opens_59 : decode cX8_opens 59 = .ok (.getfield 7, 3) := by decide +kernel
theorem dX8_opens_62 : decode cX8_opens 62 = .ok (.iconst 0, 1) := by decide +kernel
theorem dX8_opens_63 : decode cX8_opens 63 = .ok (.iconst 2, 1) := by decide +kernel
theorem dX8_opens_64 : decode cX8_opens 64 = .ok (.invokestatic 107, 3) := by decide +kernel
theorem dX8_opens_67 : decode cX8_opens 67 = .ok (.iconst 0, 1) := by decide +kernel
theorem dX8_opens_68 : decode cX8_opens 68 = .ok (.iastore, 1) := by decide +kernel
theorem dX8_opens_69 : decode cX8_opens 69 = .ok (.aload_n 0, 1) := by decide +kernel
theorem dX8_opens_70 : decode cX8_opens 70 = .ok (.getfield 7, 3) := by decide +kernel
theorem dX8_opens_73 : decode cX8_opens 73 = .ok (.sipush 149, 3) := by decide +kernel
theorem dX8_opens_76 : decode cX8_opens 76 = .ok (.iaload, 1) := by decide +kernel
theorem dX8_opens_77 : decode cX8_opens 77 = .ok (.iconst 1, 1) := by decide +kernel
theorem dX8_opens_78 : decode cX8_opens 78 = .ok (.if_icmp .le 8, 3) := by decide +kernel
theorem dX8_opens_81 : decode cX8_opens 81 = .ok (.aload_n 0, 1) := by decide +kernel
theorem dX8_opens_82 : decode cX8_opens 82 = .ok (.iconst 1, 1) := by decide +kernel
theorem dX8_opens_83 : decode cX8_opens 83 = .ok (.invokevirtual 113, 3) := by decide +kernel
theorem dX8_opens_86 : decode cX8_opens 86 = .ok (.return_, 1) := by decide +kernel
set_option maxRecDepth 20000 in
theorem ggX8_begin_X8_opens : GoodIn wsX8_begin wsX8_opens := goodIn_r _ [7, 1, 8, 9, 10, 6, 11, 12, 13, 14, 15, 16, 17, 18, 19, 20, 21, 22, 23, 24, 25, 26, 27, 28, 29] (by decide +kernel) (by decide +kernel)
set_option maxRecDepth 20000 in
theorem gX8_begin_X8_opens : GoodIn wsX8_begin (wsV RX8 117 RX8 yX8_opens wsX8_opens) := goodIn_app (goodIn_of _ (by decide +kernel)) ggX8_begin_X8_opens
theorem dX8_begin_0 : decode cX8_begin 0 = .ok (.aload_n 0, 1) := by decide +kernel
theorem dX8_begin_1 : decode cX8_begin 1 = .ok (.getfield 7, 3) := by decide +kernel
theorem dX8_begin_4 : decode cX8_begin 4 = .ok (.sipush 149, 3) := by decide +kernel
theorem dX8_begin_7 : decode cX8_begin 7 = .ok (.iaload, 1) := by decide +kernel
theorem dX8_begin_8 : decode cX8_begin 8 = .ok (.ifCond .ne 6, 3) := by decide +kernel
theorem dX8_begin_11 : decode cX8_begin 11 = .ok (.ldc 103, 2) := by decide +kernel
theorem dX8_begin_13 : decode cX8_begin 13 = .ok (.ireturn, 1) := by decide +kernel
theorem dX8_begin_14 : decode cX8_begin 14 = .ok (.aload_n 0, 1) := by decide +kernel
theorem dX8_begin_15 : decode cX8_begin 15 = .ok (.invokevirtual 117, 3) := by decide +kernel
theorem dX8_begin_18 : decode cX8_begin 18 = .ok (.aload_n 0, 1) := by decide +kernel
theorem dX8_begin_19 : decode cX8_begin 19 = .ok (.getfield 7, 3) := by decide +kernel
theorem dX8_begin_22 : decode cX8_begin 22 = .ok (.sipush 149, 3) := by decide +kernel
theorem dX8_begin_25 : decode cX8_begin 25 = .ok (.iaload, 1) := by decide +kernel
theorem dX8_begin_26 : decode cX8_begin 26 = .ok (.ireturn, 1) := by decide +kernel
set_option maxRecDepth 20000 in
theorem ggX8_ticksFor_X8_lengthOn : GoodIn wsX8_ticksFor wsX8_lengthOn := goodIn_r _ [6, 1, 7, 8, 9, 5, 10, 11, 12, 13, 14, 15, 16, 17, 18, 19, 20, 21, 22, 23, 24, 25, 26, 27, 28, 29, 30, 31] (by decide +kernel) (by decide +kernel)
set_option maxRecDepth 20000 in
theorem gX8_ticksFor_X8_lengthOn : GoodIn wsX8_ticksFor (wsV RX8 120 RX8 yX8_lengthOn wsX8_lengthOn) := goodIn_app (goodIn_of _ (by decide +kernel)) ggX8_ticksFor_X8_lengthOn
theorem dX8_ticksFor_0 : decode cX8_ticksFor 0 = .ok (.iload_n 1, 1) := by decide +kernel
theorem dX8_ticksFor_1 : decode cX8_ticksFor 1 = .ok (.iconst 3, 1) := by decide +kernel
theorem dX8_ticksFor_2 : decode cX8_ticksFor 2 = .ok (.idiv, 1) := by decide +kernel
theorem dX8_ticksFor_3 : decode cX8_ticksFor 3 = .ok (.istore_n 2, 1) := by decide +kernel
theorem dX8_ticksFor_4 : decode cX8_ticksFor 4 = .ok (.iload_n 1, 1) := by decide +kernel
theorem dX8_ticksFor_5 : decode cX8_ticksFor 5 = .ok (.iconst 3, 1) := by decide +kernel
theorem dX8_ticksFor_6 : decode cX8_ticksFor 6 = .ok (.irem, 1) := by decide +kernel
theorem dX8_ticksFor_7 : decode cX8_ticksFor 7 = .ok (.iconst 1, 1) := by decide +kernel
theorem dX8_ticksFor_8 : decode cX8_ticksFor 8 = .ok (.if_icmp .ne 12, 3) := by decide +kernel
theorem dX8_ticksFor_11 : decode cX8_ticksFor 11 = .ok (.aload_n 0, 1) := by decide +kernel
theorem dX8_ticksFor_12 : decode cX8_ticksFor 12 = .ok (.getfield 7, 3) := by decide +kernel
theorem dX8_ticksFor_15 : decode cX8_ticksFor 15 = .ok (.sipush 146, 3) := by decide +kernel
theorem dX8_ticksFor_18 : decode cX8_ticksFor 18 = .ok (.iaload, 1) := by decide +kernel
theorem dX8_ticksFor_19 : decode cX8_ticksFor 19 = .ok (.ireturn, 1) := by decide +kernel
theorem dX8_ticksFor_20 : decode cX8_ticksFor 20 = .ok (.iload_n 1, 1) := by decide +kernel
theorem dX8_ticksFor_21 : decode cX8_ticksFor 21 = .ok (.iconst 3, 1) := by decide +kernel
theorem dX8_ticksFor_22 : decode cX8_ticksFor 22 = .ok (.irem, 1) := by decide +kernel
theorem dX8_ticksFor_23 : decode cX8_ticksFor 23 = .ok (.iconst 2, 1) := by decide +kernel
theorem dX8_ticksFor_24 : decode cX8_ticksFor 24 = .ok (.if_icmp .ne 12, 3) := by decide +kernel
theorem dX8_ticksFor_27 : decode cX8_ticksFor 27 = .ok (.aload_n 0, 1) := by decide +kernel
theorem dX8_ticksFor_28 : decode cX8_ticksFor 28 = .ok (.getfield 7, 3) := by decide +kernel
theorem dX8_ticksFor_31 : decode cX8_ticksFor 31 = .ok (.sipush 147, 3) := by decide +kernel
theorem dX8_ticksFor_34 : decode cX8_ticksFor 34 = .ok (.iaload, 1) := by decide +kernel
theorem dX8_ticksFor_35 : decode cX8_ticksFor 35 = .ok (.ireturn, 1) := by decide +kernel
theorem dX8_ticksFor_36 : decode cX8_ticksFor 36 = .ok (.aload_n 0, 1) := by decide +kernel
theorem dX8_ticksFor_37 : decode cX8_ticksFor 37 = .ok (.getfield 7, 3) := by decide +kernel
theorem dX8_ticksFor_40 : decode cX8_ticksFor 40 = .ok (.sipush 144, 3) := by decide +kernel
theorem dX8_ticksFor_43 : decode cX8_ticksFor 43 = .ok (.iaload, 1) := by decide +kernel
theorem dX8_ticksFor_44 : decode cX8_ticksFor 44 = .ok (.aload_n 0, 1) := by decide +kernel
theorem dX8_ticksFor_45 : decode cX8_ticksFor 45 = .ok (.iload_n 2, 1) := by decide +kernel
theorem dX8_ticksFor_46 : decode cX8_ticksFor 46 = .ok (.invokevirtual 120, 3) := by decide +kernel
theorem dX8_ticksFor_49 : decode cX8_ticksFor 49 = .ok (.aload_n 0, 1) := by decide +kernel
theorem dX8_ticksFor_50 : decode cX8_ticksFor 50 = .ok (.getfield 7, 3) := by decide +kernel
theorem dX8_ticksFor_53 : decode cX8_ticksFor 53 = .ok (.sipush 145, 3) := by decide +kernel
theorem dX8_ticksFor_56 : decode cX8_ticksFor 56 = .ok (.iaload, 1) := by decide +kernel
theorem dX8_ticksFor_57 : decode cX8_ticksFor 57 = .ok (.iadd, 1) := by decide +kernel
theorem dX8_ticksFor_58 : decode cX8_ticksFor 58 = .ok (.iconst 1, 1) := by decide +kernel
theorem dX8_ticksFor_59 : decode cX8_ticksFor 59 = .ok (.isub, 1) := by decide +kernel
theorem dX8_ticksFor_60 : decode cX8_ticksFor 60 = .ok (.aload_n 0, 1) := by decide +kernel
theorem dX8_ticksFor_61 : decode cX8_ticksFor 61 = .ok (.getfield 7, 3) := by decide +kernel
theorem dX8_ticksFor_64 : decode cX8_ticksFor 64 = .ok (.sipush 145, 3) := by decide +kernel
theorem dX8_ticksFor_67 : decode cX8_ticksFor 67 = .ok (.iaload, 1) := by decide +kernel
theorem dX8_ticksFor_68 : decode cX8_ticksFor 68 = .ok (.idiv, 1) := by decide +kernel
theorem dX8_ticksFor_69 : decode cX8_ticksFor 69 = .ok (.iadd, 1) := by decide +kernel
theorem dX8_ticksFor_70 : decode cX8_ticksFor 70 = .ok (.ireturn, 1) := by decide +kernel
set_option maxRecDepth 20000 in
theorem ggX8_finishes_X8_on : GoodIn wsX8_finishes wsX8_on := goodIn_r _ [5] (by decide +kernel) (by decide +kernel)
set_option maxRecDepth 20000 in
theorem gX8_finishes_X8_on : GoodIn wsX8_finishes (va_wsS RX8 107 yX8_on wsX8_on) := goodIn_app (goodIn_of _ (by decide +kernel)) ggX8_finishes_X8_on
set_option maxRecDepth 20000 in
theorem ggX8_finishes_X8_comes : GoodIn wsX8_finishes wsX8_comes := goodIn_r _ [9, 1, 2, 3, 4, 5, 29, 30, 31, 32, 33, 34, 35, 36, 37, 38, 39, 40, 41, 42, 43] (by decide +kernel) (by decide +kernel)
set_option maxRecDepth 20000 in
theorem gX8_finishes_X8_comes : GoodIn wsX8_finishes (wsV RX8 113 RX8 yX8_comes wsX8_comes) := goodIn_app (goodIn_of _ (by decide +kernel)) ggX8_finishes_X8_comes
set_option maxRecDepth 20000 in
theorem ggX8_finishes_X8_lengthOn : GoodIn wsX8_finishes wsX8_lengthOn := goodIn_r _ [13, 1, 14, 15, 16, 4, 17, 2, 3, 5, 18, 19, 20, 29, 30, 31, 32, 33, 34, 35, 36, 37, 38, 39, 40, 41, 42, 43] (by decide +kernel) (by decide +kernel)
set_option maxRecDepth 20000 in
theorem gX8_finishes_X8_lengthOn : GoodIn wsX8_finishes (wsV RX8 120 RX8 yX8_lengthOn wsX8_lengthOn) := goodIn_app (goodIn_of _ (by decide +kernel)) ggX8_finishes_X8_lengthOn
set_option maxRecDepth 20000 in
theorem ggX8_finishes_X8_reelOn : GoodIn wsX8_finishes wsX8_reelOn := goodIn_r _ [17, 1, 2, 3, 4, 5, 29, 30, 31, 32, 33, 34, 35, 36, 37, 38, 39, 40, 41, 42, 43] (by decide +kernel) (by decide +kernel)
set_option maxRecDepth 20000 in
theorem gX8_finishes_X8_reelOn : GoodIn wsX8_finishes (wsV RX8 110 RX8 yX8_reelOn wsX8_reelOn) := goodIn_app (goodIn_of _ (by decide +kernel)) ggX8_finishes_X8_reelOn
set_option maxRecDepth 20000 in
theorem ggX8_finishes_X8_strengthAt : GoodIn wsX8_finishes wsX8_strengthAt := goodIn_r _ [24, 1, 25, 26, 27, 4, 28, 18, 19, 20, 29, 30, 31, 32, 33, 34, 35, 36, 37, 38, 39, 40, 41, 42, 43] (by decide +kernel) (by decide +kernel)
set_option maxRecDepth 20000 in
theorem gX8_finishes_X8_strengthAt : GoodIn wsX8_finishes (wsV RX8 65 RX8 yX8_strengthAt wsX8_strengthAt) := goodIn_app (goodIn_of _ (by decide +kernel)) ggX8_finishes_X8_strengthAt
theorem dX8_finishes_0 : decode cX8_finishes 0 = .ok (.iload_n 1, 1) := by decide +kernel
theorem dX8_finishes_1 : decode cX8_finishes 1 = .ok (.iconst 3, 1) := by decide +kernel
theorem dX8_finishes_2 : decode cX8_finishes 2 = .ok (.idiv, 1) := by decide +kernel
theorem dX8_finishes_3 : decode cX8_finishes 3 = .ok (.istore_n 2, 1) := by decide +kernel
theorem dX8_finishes_4 : decode cX8_finishes 4 = .ok (.iload_n 1, 1) := by decide +kernel
theorem dX8_finishes_5 : decode cX8_finishes 5 = .ok (.iconst 3, 1) := by decide +kernel
theorem dX8_finishes_6 : decode cX8_finishes 6 = .ok (.irem, 1) := by decide +kernel
theorem dX8_finishes_7 : decode cX8_finishes 7 = .ok (.ifCond .ne 17, 3) := by decide +kernel
theorem dX8_finishes_10 : decode cX8_finishes 10 = .ok (.aload_n 0, 1) := by decide +kernel
theorem dX8_finishes_11 : decode cX8_finishes 11 = .ok (.getfield 7, 3) := by decide +kernel
theorem dX8_finishes_14 : decode cX8_finishes 14 = .ok (.iload_n 2, 1) := by decide +kernel
theorem dX8_finishes_15 : decode cX8_finishes 15 = .ok (.iconst 0, 1) := by decide +kernel
theorem dX8_finishes_16 : decode cX8_finishes 16 = .ok (.invokestatic 107, 3) := by decide +kernel
theorem dX8_finishes_19 : decode cX8_finishes 19 = .ok (.iconst 0, 1) := by decide +kernel
theorem dX8_finishes_20 : decode cX8_finishes 20 = .ok (.iastore, 1) := by decide +kernel
theorem dX8_finishes_21 : decode cX8_finishes 21 = .ok (.goto 112, 3) := by decide +kernel
theorem dX8_finishes_24 : decode cX8_finishes 24 = .ok (.iload_n 1, 1) := by decide +kernel
theorem dX8_finishes_25 : decode cX8_finishes 25 = .ok (.iconst 3, 1) := by decide +kernel
theorem dX8_finishes_26 : decode cX8_finishes 26 = .ok (.irem, 1) := by decide +kernel
theorem dX8_finishes_27 : decode cX8_finishes 27 = .ok (.iconst 1, 1) := by decide +kernel
theorem dX8_finishes_28 : decode cX8_finishes 28 = .ok (.if_icmp .ne 11, 3) := by decide +kernel
theorem dX8_finishes_31 : decode cX8_finishes 31 = .ok (.aload_n 0, 1) := by decide +kernel
theorem dX8_finishes_32 : decode cX8_finishes 32 = .ok (.iload_n 2, 1) := by decide +kernel
theorem dX8_finishes_33 : decode cX8_finishes 33 = .ok (.invokevirtual 113, 3) := by decide +kernel
theorem dX8_finishes_36 : decode cX8_finishes 36 = .ok (.goto 97, 3) := by decide +kernel
theorem dX8_finishes_39 : decode cX8_finishes 39 = .ok (.aload_n 0, 1) := by decide +kernel
theorem dX8_finishes_40 : decode cX8_finishes 40 = .ok (.getfield 7, 3) := by decide +kernel
theorem dX8_finishes_43 : decode cX8_finishes 43 = .ok (.iload_n 2, 1) := by decide +kernel
theorem dX8_finishes_44 : decode cX8_finishes 44 = .ok (.iconst 3, 1) := by decide +kernel
theorem dX8_finishes_45 : decode cX8_finishes 45 = .ok (.invokestatic 107, 3) := by decide +kernel
theorem dX8_finishes_48 : decode cX8_finishes 48 = .ok (.iaload, 1) := by decide +kernel
theorem dX8_finishes_49 : decode cX8_finishes 49 = .ok (.aload_n 0, 1) := by decide +kernel
theorem dX8_finishes_50 : decode cX8_finishes 50 = .ok (.getfield 7, 3) := by decide +kernel
theorem dX8_finishes_53 : decode cX8_finishes 53 = .ok (.sipush 148, 3) := by decide +kernel
theorem dX8_finishes_56 : decode cX8_finishes 56 = .ok (.iaload, 1) := by decide +kernel
theorem dX8_finishes_57 : decode cX8_finishes 57 = .ok (.iadd, 1) := by decide +kernel
theorem dX8_finishes_58 : decode cX8_finishes 58 = .ok (.istore_n 3, 1) := by decide +kernel
theorem dX8_finishes_59 : decode cX8_finishes 59 = .ok (.aload_n 0, 1) := by decide +kernel
theorem dX8_finishes_60 : decode cX8_finishes 60 = .ok (.getfield 7, 3) := by decide +kernel
theorem dX8_finishes_63 : decode cX8_finishes 63 = .ok (.iload_n 2, 1) := by decide +kernel
theorem dX8_finishes_64 : decode cX8_finishes 64 = .ok (.iconst 0, 1) := by decide +kernel
theorem dX8_finishes_65 : decode cX8_finishes 65 = .ok (.invokestatic 107, 3) := by decide +kernel
theorem dX8_finishes_68 : decode cX8_finishes 68 = .ok (.iconst 3, 1) := by decide +kernel
theorem dX8_finishes_69 : decode cX8_finishes 69 = .ok (.iastore, 1) := by decide +kernel
theorem dX8_finishes_70 : decode cX8_finishes 70 = .ok (.aload_n 0, 1) := by decide +kernel
theorem dX8_finishes_71 : decode cX8_finishes 71 = .ok (.getfield 7, 3) := by decide +kernel
theorem dX8_finishes_74 : decode cX8_finishes 74 = .ok (.iload_n 2, 1) := by decide +kernel
theorem dX8_finishes_75 : decode cX8_finishes 75 = .ok (.iconst 2, 1) := by decide +kernel
theorem dX8_finishes_76 : decode cX8_finishes 76 = .ok (.invokestatic 107, 3) := by decide +kernel
theorem dX8_finishes_79 : decode cX8_finishes 79 = .ok (.iload_n 3, 1) := by decide +kernel
theorem dX8_finishes_80 : decode cX8_finishes 80 = .ok (.aload_n 0, 1) := by decide +kernel
theorem dX8_finishes_81 : decode cX8_finishes 81 = .ok (.iload_n 2, 1) := by decide +kernel
theorem dX8_finishes_82 : decode cX8_finishes 82 = .ok (.invokevirtual 120, 3) := by decide +kernel
theorem dX8_finishes_85 : decode cX8_finishes 85 = .ok (.if_icmp .ge 7, 3) := by decide +kernel
theorem dX8_finishes_88 : decode cX8_finishes 88 = .ok (.iload_n 3, 1) := by decide +kernel
theorem dX8_finishes_89 : decode cX8_finishes 89 = .ok (.goto 8, 3) := by decide +kernel
theorem dX8_finishes_92 : decode cX8_finishes 92 = .ok (.aload_n 0, 1) := by decide +kernel
theorem dX8_finishes_93 : decode cX8_finishes 93 = .ok (.iload_n 2, 1) := by decide +kernel
theorem dX8_finishes_94 : decode cX8_finishes 94 = .ok (.invokevirtual 120, 3) := by decide +kernel
theorem dX8_finishes_97 : decode cX8_finishes 97 = .ok (.iastore, 1) := by decide +kernel
theorem dX8_finishes_98 : decode cX8_finishes 98 = .ok (.aload_n 0, 1) := by decide +kernel
theorem dX8_finishes_99 : decode cX8_finishes 99 = .ok (.aload_n 0, 1) := by decide +kernel
theorem dX8_finishes_100 : decode cX8_finishes 100 = .ok (.iload_n 2, 1) := by decide +kernel
theorem dX8_finishes_101 : decode cX8_finishes 101 = .ok (.invokevirtual 110, 3) := by decide +kernel
theorem dX8_finishes_104 : decode cX8_finishes 104 = .ok (.aload_n 0, 1) := by decide +kernel
theorem dX8_finishes_105 : decode cX8_finishes 105 = .ok (.getfield 7, 3) := by decide +kernel
theorem dX8_finishes_108 : decode cX8_finishes 108 = .ok (.iload_n 2, 1) := by decide +kernel
theorem dX8_finishes_109 : decode cX8_finishes 109 = .ok (.iconst 3, 1) := by decide +kernel
theorem dX8_finishes_110 : decode cX8_finishes 110 = .ok (.invokestatic 107, 3) := by decide +kernel
theorem dX8_finishes_113 : decode cX8_finishes 113 = .ok (.iaload, 1) := by decide +kernel
theorem dX8_finishes_114 : decode cX8_finishes 114 = .ok (.invokevirtual 65, 3) := by decide +kernel
theorem dX8_finishes_117 : decode cX8_finishes 117 = .ok (.istore 4, 2) := by decide +kernel
theorem dX8_finishes_119 : decode cX8_finishes 119 = .ok (.iload 4, 2) := by decide +kernel
theorem dX8_finishes_121 : decode cX8_finishes 121 = .ok (.ifCond .lt 12, 3) := by decide +kernel
theorem dX8_finishes_124 : decode cX8_finishes 124 = .ok (.aload_n 0, 1) := by decide +kernel
theorem dX8_finishes_125 : decode cX8_finishes 125 = .ok (.getfield 7, 3) := by decide +kernel
theorem dX8_finishes_128 : decode cX8_finishes 128 = .ok (.iload 4, 2) := by decide +kernel
theorem dX8_finishes_130 : decode cX8_finishes 130 = .ok (.bipush 9, 2) := by decide +kernel
theorem dX8_finishes_132 : decode cX8_finishes 132 = .ok (.iastore, 1) := by decide +kernel
theorem dX8_finishes_133 : decode cX8_finishes 133 = .ok (.return_, 1) := by decide +kernel
set_option maxRecDepth 20000 in
theorem ggX8_works_X8_finishes : GoodIn wsX8_works wsX8_finishes := goodIn_r _ [6, 1, 7, 8, 5, 9, 10, 11, 12, 13, 14, 15, 16, 17, 18, 19, 20, 21, 22, 23, 24, 25, 26, 27, 28, 29, 30, 31, 32, 37, 38, 39, 40, 41, 42, 43, 44, 45, 46, 47, 48, 49, 50, 51] (by decide +kernel) (by decide +kernel)
set_option maxRecDepth 20000 in
theorem gX8_works_X8_finishes : GoodIn wsX8_works (wsV RX8 123 RX8 yX8_finishes wsX8_finishes) := goodIn_app (goodIn_of _ (by decide +kernel)) ggX8_works_X8_finishes
set_option maxRecDepth 20000 in
theorem ggX8_works_X8_ticksFor : GoodIn wsX8_works wsX8_ticksFor := goodIn_r _ [36, 1, 14, 15, 16, 5, 17, 18, 19, 20, 21, 7, 8, 9, 22, 23, 24, 37, 38, 39, 40, 41, 42, 43, 44, 45, 46, 47, 48, 49, 50, 51] (by decide +kernel) (by decide +kernel)
set_option maxRecDepth 20000 in
theorem gX8_works_X8_ticksFor : GoodIn wsX8_works (wsV RX8 126 RX8 yX8_ticksFor wsX8_ticksFor) := goodIn_app (goodIn_of _ (by decide +kernel)) ggX8_works_X8_ticksFor
theorem dX8_works_0 : decode cX8_works 0 = .ok (.aload_n 0, 1) := by decide +kernel
theorem dX8_works_1 : decode cX8_works 1 = .ok (.getfield 7, 3) := by decide +kernel
theorem dX8_works_4 : decode cX8_works 4 = .ok (.sipush 172, 3) := by decide +kernel
theorem dX8_works_7 : decode cX8_works 7 = .ok (.iaload, 1) := by decide +kernel
theorem dX8_works_8 : decode cX8_works 8 = .ok (.ifCond .lt 50, 3) := by decide +kernel
theorem dX8_works_11 : decode cX8_works 11 = .ok (.aload_n 0, 1) := by decide +kernel
theorem dX8_works_12 : decode cX8_works 12 = .ok (.getfield 7, 3) := by decide +kernel
theorem dX8_works_15 : decode cX8_works 15 = .ok (.sipush 173, 3) := by decide +kernel
theorem dX8_works_18 : decode cX8_works 18 = .ok (.dup2, 1) := by decide +kernel
theorem dX8_works_19 : decode cX8_works 19 = .ok (.iaload, 1) := by decide +kernel
theorem dX8_works_20 : decode cX8_works 20 = .ok (.iconst 1, 1) := by decide +kernel
theorem dX8_works_21 : decode cX8_works 21 = .ok (.isub, 1) := by decide +kernel
theorem dX8_works_22 : decode cX8_works 22 = .ok (.iastore, 1) := by decide +kernel
theorem dX8_works_23 : decode cX8_works 23 = .ok (.aload_n 0, 1) := by decide +kernel
theorem dX8_works_24 : decode cX8_works 24 = .ok (.getfield 7, 3) := by decide +kernel
theorem dX8_works_27 : decode cX8_works 27 = .ok (.sipush 173, 3) := by decide +kernel
theorem dX8_works_30 : decode cX8_works 30 = .ok (.iaload, 1) := by decide +kernel
theorem dX8_works_31 : decode cX8_works 31 = .ok (.ifCond .ne 128, 3) := by decide +kernel
theorem dX8_works_34 : decode cX8_works 34 = .ok (.aload_n 0, 1) := by decide +kernel
theorem dX8_works_35 : decode cX8_works 35 = .ok (.aload_n 0, 1) := by decide +kernel
theorem dX8_works_36 : decode cX8_works 36 = .ok (.getfield 7, 3) := by decide +kernel
theorem dX8_works_39 : decode cX8_works 39 = .ok (.sipush 172, 3) := by decide +kernel
theorem dX8_works_42 : decode cX8_works 42 = .ok (.iaload, 1) := by decide +kernel
theorem dX8_works_43 : decode cX8_works 43 = .ok (.invokevirtual 123, 3) := by decide +kernel
theorem dX8_works_46 : decode cX8_works 46 = .ok (.aload_n 0, 1) := by decide +kernel
theorem dX8_works_47 : decode cX8_works 47 = .ok (.getfield 7, 3) := by decide +kernel
theorem dX8_works_50 : decode cX8_works 50 = .ok (.sipush 172, 3) := by decide +kernel
theorem dX8_works_53 : decode cX8_works 53 = .ok (.iconst (-1), 1) := by decide +kernel
theorem dX8_works_54 : decode cX8_works 54 = .ok (.iastore, 1) := by decide +kernel
theorem dX8_works_55 : decode cX8_works 55 = .ok (.goto 104, 3) := by decide +kernel
theorem dX8_works_58 : decode cX8_works 58 = .ok (.aload_n 0, 1) := by decide +kernel
theorem dX8_works_59 : decode cX8_works 59 = .ok (.getfield 7, 3) := by decide +kernel
theorem dX8_works_62 : decode cX8_works 62 = .ok (.sipush 174, 3) := by decide +kernel
theorem dX8_works_65 : decode cX8_works 65 = .ok (.iaload, 1) := by decide +kernel
theorem dX8_works_66 : decode cX8_works 66 = .ok (.ifCond .le 93, 3) := by decide +kernel
theorem dX8_works_69 : decode cX8_works 69 = .ok (.aload_n 0, 1) := by decide +kernel
theorem dX8_works_70 : decode cX8_works 70 = .ok (.getfield 7, 3) := by decide +kernel
theorem dX8_works_73 : decode cX8_works 73 = .ok (.sipush 172, 3) := by decide +kernel
theorem dX8_works_76 : decode cX8_works 76 = .ok (.aload_n 0, 1) := by decide +kernel
theorem dX8_works_77 : decode cX8_works 77 = .ok (.getfield 7, 3) := by decide +kernel
theorem dX8_works_80 : decode cX8_works 80 = .ok (.sipush 175, 3) := by decide +kernel
theorem dX8_works_83 : decode cX8_works 83 = .ok (.iaload, 1) := by decide +kernel
theorem dX8_works_84 : decode cX8_works 84 = .ok (.iastore, 1) := by decide +kernel
theorem dX8_works_85 : decode cX8_works 85 = .ok (.aload_n 0, 1) := by decide +kernel
theorem dX8_works_86 : decode cX8_works 86 = .ok (.getfield 7, 3) := by decide +kernel
theorem dX8_works_89 : decode cX8_works 89 = .ok (.sipush 174, 3) := by decide +kernel
theorem dX8_works_92 : decode cX8_works 92 = .ok (.dup2, 1) := by decide +kernel
theorem dX8_works_93 : decode cX8_works 93 = .ok (.iaload, 1) := by decide +kernel
theorem dX8_works_94 : decode cX8_works 94 = .ok (.iconst 1, 1) := by decide +kernel
theorem dX8_works_95 : decode cX8_works 95 = .ok (.isub, 1) := by decide +kernel
theorem dX8_works_96 : decode cX8_works 96 = .ok (.iastore, 1) := by decide +kernel
theorem dX8_works_97 : decode cX8_works 97 = .ok (.iconst 0, 1) := by decide +kernel
theorem dX8_works_98 : decode cX8_works 98 = .ok (.istore_n 1, 1) := by decide +kernel
theorem dX8_works_99 : decode cX8_works 99 = .ok (.iload_n 1, 1) := by decide +kernel
theorem dX8_works_100 : decode cX8_works 100 = .ok (.aload_n 0, 1) := by decide +kernel
theorem dX8_works_101 : decode cX8_works 101 = .ok (.getfield 7, 3) := by decide +kernel
theorem dX8_works_104 : decode cX8_works 104 = .ok (.sipush 174, 3) := by decide +kernel
theorem dX8_works_107 : decode cX8_works 107 = .ok (.iaload, 1) := by decide +kernel
theorem dX8_works_108 : decode cX8_works 108 = .ok (.if_icmp .ge 31, 3) := by decide +kernel
theorem dX8_works_111 : decode cX8_works 111 = .ok (.aload_n 0, 1) := by decide +kernel
theorem dX8_works_112 : decode cX8_works 112 = .ok (.getfield 7, 3) := by decide +kernel
theorem dX8_works_115 : decode cX8_works 115 = .ok (.sipush 175, 3) := by decide +kernel
theorem dX8_works_118 : decode cX8_works 118 = .ok (.iload_n 1, 1) := by decide +kernel
theorem dX8_works_119 : decode cX8_works 119 = .ok (.iadd, 1) := by decide +kernel
theorem dX8_works_120 : decode cX8_works 120 = .ok (.aload_n 0, 1) := by decide +kernel
theorem dX8_works_121 : decode cX8_works 121 = .ok (.getfield 7, 3) := by decide +kernel
theorem dX8_works_124 : decode cX8_works 124 = .ok (.sipush 175, 3) := by decide +kernel
theorem dX8_works_127 : decode cX8_works 127 = .ok (.iload_n 1, 1) := by decide +kernel
theorem dX8_works_128 : decode cX8_works 128 = .ok (.iadd, 1) := by decide +kernel
theorem dX8_works_129 : decode cX8_works 129 = .ok (.iconst 1, 1) := by decide +kernel
theorem dX8_works_130 : decode cX8_works 130 = .ok (.iadd, 1) := by decide +kernel
theorem dX8_works_131 : decode cX8_works 131 = .ok (.iaload, 1) := by decide +kernel
theorem dX8_works_132 : decode cX8_works 132 = .ok (.iastore, 1) := by decide +kernel
theorem dX8_works_133 : decode cX8_works 133 = .ok (.iinc 1 1, 3) := by decide +kernel
theorem dX8_works_136 : decode cX8_works 136 = .ok (.goto (-37), 3) := by decide +kernel
theorem dX8_works_139 : decode cX8_works 139 = .ok (.aload_n 0, 1) := by decide +kernel
theorem dX8_works_140 : decode cX8_works 140 = .ok (.getfield 7, 3) := by decide +kernel
theorem dX8_works_143 : decode cX8_works 143 = .ok (.sipush 173, 3) := by decide +kernel
theorem dX8_works_146 : decode cX8_works 146 = .ok (.aload_n 0, 1) := by decide +kernel
theorem dX8_works_147 : decode cX8_works 147 = .ok (.aload_n 0, 1) := by decide +kernel
theorem dX8_works_148 : decode cX8_works 148 = .ok (.getfield 7, 3) := by decide +kernel
theorem dX8_works_151 : decode cX8_works 151 = .ok (.sipush 172, 3) := by decide +kernel
theorem dX8_works_154 : decode cX8_works 154 = .ok (.iaload, 1) := by decide +kernel
theorem dX8_works_155 : decode cX8_works 155 = .ok (.invokevirtual 126, 3) := by decide +kernel
theorem dX8_works_158 : decode cX8_works 158 = .ok (.iastore, 1) := by decide +kernel
theorem dX8_works_159 : decode cX8_works 159 = .ok (.return_, 1) := by decide +kernel
theorem dX8_adds_0 : decode cX8_adds 0 = .ok (.aload_n 0, 1) := by decide +kernel
theorem dX8_adds_1 : decode cX8_adds 1 = .ok (.getfield 7, 3) := by decide +kernel
theorem dX8_adds_4 : decode cX8_adds 4 = .ok (.sipush 175, 3) := by decide +kernel
theorem dX8_adds_7 : decode cX8_adds 7 = .ok (.aload_n 0, 1) := by decide +kernel
theorem dX8_adds_8 : decode cX8_adds 8 = .ok (.getfield 7, 3) := by decide +kernel
theorem dX8_adds_11 : decode cX8_adds 11 = .ok (.sipush 174, 3) := by decide +kernel
theorem dX8_adds_14 : decode cX8_adds 14 = .ok (.iaload, 1) := by decide +kernel
theorem dX8_adds_15 : decode cX8_adds 15 = .ok (.iadd, 1) := by decide +kernel
theorem dX8_adds_16 : decode cX8_adds 16 = .ok (.iload_n 1, 1) := by decide +kernel
theorem dX8_adds_17 : decode cX8_adds 17 = .ok (.iastore, 1) := by decide +kernel
theorem dX8_adds_18 : decode cX8_adds 18 = .ok (.aload_n 0, 1) := by decide +kernel
theorem dX8_adds_19 : decode cX8_adds 19 = .ok (.getfield 7, 3) := by decide +kernel
theorem dX8_adds_22 : decode cX8_adds 22 = .ok (.sipush 174, 3) := by decide +kernel
theorem dX8_adds_25 : decode cX8_adds 25 = .ok (.dup2, 1) := by decide +kernel
theorem dX8_adds_26 : decode cX8_adds 26 = .ok (.iaload, 1) := by decide +kernel
theorem dX8_adds_27 : decode cX8_adds 27 = .ok (.iconst 1, 1) := by decide +kernel
theorem dX8_adds_28 : decode cX8_adds 28 = .ok (.iadd, 1) := by decide +kernel
theorem dX8_adds_29 : decode cX8_adds 29 = .ok (.iastore, 1) := by decide +kernel
theorem dX8_adds_30 : decode cX8_adds 30 = .ok (.return_, 1) := by decide +kernel
set_option maxRecDepth 20000 in
theorem ggX8_starts_X8_on : GoodIn wsX8_starts wsX8_on := goodIn_r _ [5] (by decide +kernel) (by decide +kernel)
set_option maxRecDepth 20000 in
theorem gX8_starts_X8_on : GoodIn wsX8_starts (va_wsS RX8 107 yX8_on wsX8_on) := goodIn_app (goodIn_of _ (by decide +kernel)) ggX8_starts_X8_on
set_option maxRecDepth 20000 in
theorem ggX8_starts_X8_lengthOn : GoodIn wsX8_starts wsX8_lengthOn := goodIn_r _ [9, 1, 10, 11, 12, 4, 13, 2, 3, 5, 14, 15, 16, 17, 18, 19, 20, 21, 22, 23, 24, 25, 26, 27, 28, 29, 30, 31] (by decide +kernel) (by decide +kernel)
set_option maxRecDepth 20000 in
theorem gX8_starts_X8_lengthOn : GoodIn wsX8_starts (wsV RX8 120 RX8 yX8_lengthOn wsX8_lengthOn) := goodIn_app (goodIn_of _ (by decide +kernel)) ggX8_starts_X8_lengthOn
theorem dX8_starts_0 : decode cX8_starts 0 = .ok (.aload_n 0, 1) := by decide +kernel
theorem dX8_starts_1 : decode cX8_starts 1 = .ok (.getfield 7, 3) := by decide +kernel
theorem dX8_starts_4 : decode cX8_starts 4 = .ok (.sipush 165, 3) := by decide +kernel
theorem dX8_starts_7 : decode cX8_starts 7 = .ok (.iaload, 1) := by decide +kernel
theorem dX8_starts_8 : decode cX8_starts 8 = .ok (.istore_n 1, 1) := by decide +kernel
theorem dX8_starts_9 : decode cX8_starts 9 = .ok (.iconst 1, 1) := by decide +kernel
theorem dX8_starts_10 : decode cX8_starts 10 = .ok (.iload_n 1, 1) := by decide +kernel
theorem dX8_starts_11 : decode cX8_starts 11 = .ok (.isub, 1) := by decide +kernel
theorem dX8_starts_12 : decode cX8_starts 12 = .ok (.istore_n 2, 1) := by decide +kernel
theorem dX8_starts_13 : decode cX8_starts 13 = .ok (.aload_n 0, 1) := by decide +kernel
theorem dX8_starts_14 : decode cX8_starts 14 = .ok (.getfield 7, 3) := by decide +kernel
theorem dX8_starts_17 : decode cX8_starts 17 = .ok (.iload_n 1, 1) := by decide +kernel
theorem dX8_starts_18 : decode cX8_starts 18 = .ok (.iconst 0, 1) := by decide +kernel
theorem dX8_starts_19 : decode cX8_starts 19 = .ok (.invokestatic 107, 3) := by decide +kernel
theorem dX8_starts_22 : decode cX8_starts 22 = .ok (.iaload, 1) := by decide +kernel
theorem dX8_starts_23 : decode cX8_starts 23 = .ok (.iconst 3, 1) := by decide +kernel
theorem dX8_starts_24 : decode cX8_starts 24 = .ok (.if_icmp .ne 18, 3) := by decide +kernel
theorem dX8_starts_27 : decode cX8_starts 27 = .ok (.aload_n 0, 1) := by decide +kernel
theorem dX8_starts_28 : decode cX8_starts 28 = .ok (.getfield 7, 3) := by decide +kernel
theorem dX8_starts_31 : decode cX8_starts 31 = .ok (.sipush 171, 3) := by decide +kernel
theorem dX8_starts_34 : decode cX8_starts 34 = .ok (.iaload, 1) := by decide +kernel
theorem dX8_starts_35 : decode cX8_starts 35 = .ok (.ifCond .ne 7, 3) := by decide +kernel
theorem dX8_starts_38 : decode cX8_starts 38 = .ok (.iconst 1, 1) := by decide +kernel
theorem dX8_starts_39 : decode cX8_starts 39 = .ok (.goto 4, 3) := by decide +kernel
theorem dX8_starts_42 : decode cX8_starts 42 = .ok (.iconst 0, 1) := by decide +kernel
theorem dX8_starts_43 : decode cX8_starts 43 = .ok (.istore_n 3, 1) := by decide +kernel
theorem dX8_starts_44 : decode cX8_starts 44 = .ok (.iload_n 3, 1) := by decide +kernel
theorem dX8_starts_45 : decode cX8_starts 45 = .ok (.ifCond .eq 20, 3) := by decide +kernel
theorem dX8_starts_48 : decode cX8_starts 48 = .ok (.aload_n 0, 1) := by decide +kernel
theorem dX8_starts_49 : decode cX8_starts 49 = .ok (.iload_n 1, 1) := by decide +kernel
theorem dX8_starts_50 : decode cX8_starts 50 = .ok (.invokevirtual 120, 3) := by decide +kernel
theorem dX8_starts_53 : decode cX8_starts 53 = .ok (.aload_n 0, 1) := by decide +kernel
theorem dX8_starts_54 : decode cX8_starts 54 = .ok (.getfield 7, 3) := by decide +kernel
theorem dX8_starts_57 : decode cX8_starts 57 = .ok (.sipush 142, 3) := by decide +kernel
theorem dX8_starts_60 : decode cX8_starts 60 = .ok (.iaload, 1) := by decide +kernel
theorem dX8_starts_61 : decode cX8_starts 61 = .ok (.isub, 1) := by decide +kernel
theorem dX8_starts_62 : decode cX8_starts 62 = .ok (.goto 4, 3) := by decide +kernel
theorem dX8_starts_65 : decode cX8_starts 65 = .ok (.iconst 0, 1) := by decide +kernel
theorem dX8_starts_66 : decode cX8_starts 66 = .ok (.istore 4, 2) := by decide +kernel
theorem dX8_starts_68 : decode cX8_starts 68 = .ok (.aload_n 0, 1) := by decide +kernel
theorem dX8_starts_69 : decode cX8_starts 69 = .ok (.getfield 7, 3) := by decide +kernel
theorem dX8_starts_72 : decode cX8_starts 72 = .ok (.sipush 171, 3) := by decide +kernel
theorem dX8_starts_75 : decode cX8_starts 75 = .ok (.iaload, 1) := by decide +kernel
theorem dX8_starts_76 : decode cX8_starts 76 = .ok (.iconst 1, 1) := by decide +kernel
theorem dX8_starts_77 : decode cX8_starts 77 = .ok (.if_icmp .eq 22, 3) := by decide +kernel
theorem dX8_starts_80 : decode cX8_starts 80 = .ok (.iload_n 3, 1) := by decide +kernel
theorem dX8_starts_81 : decode cX8_starts 81 = .ok (.ifCond .eq 22, 3) := by decide +kernel
theorem dX8_starts_84 : decode cX8_starts 84 = .ok (.aload_n 0, 1) := by decide +kernel
theorem dX8_starts_85 : decode cX8_starts 85 = .ok (.getfield 7, 3) := by decide +kernel
theorem dX8_starts_88 : decode cX8_starts 88 = .ok (.iload_n 1, 1) := by decide +kernel
theorem dX8_starts_89 : decode cX8_starts 89 = .ok (.iconst 2, 1) := by decide +kernel
theorem dX8_starts_90 : decode cX8_starts 90 = .ok (.invokestatic 107, 3) := by decide +kernel
theorem dX8_starts_93 : decode cX8_starts 93 = .ok (.iaload, 1) := by decide +kernel
theorem dX8_starts_94 : decode cX8_starts 94 = .ok (.iload 4, 2) := by decide +kernel
theorem dX8_starts_96 : decode cX8_starts 96 = .ok (.if_icmp .lt 7, 3) := by decide +kernel
theorem dX8_starts_99 : decode cX8_starts 99 = .ok (.iconst 1, 1) := by decide +kernel
theorem dX8_starts_100 : decode cX8_starts 100 = .ok (.goto 4, 3) := by decide +kernel
theorem dX8_starts_103 : decode cX8_starts 103 = .ok (.iconst 0, 1) := by decide +kernel
theorem dX8_starts_104 : decode cX8_starts 104 = .ok (.istore 5, 2) := by decide +kernel
theorem dX8_starts_106 : decode cX8_starts 106 = .ok (.aload_n 0, 1) := by decide +kernel
theorem dX8_starts_107 : decode cX8_starts 107 = .ok (.getfield 7, 3) := by decide +kernel
theorem dX8_starts_110 : decode cX8_starts 110 = .ok (.iload_n 2, 1) := by decide +kernel
theorem dX8_starts_111 : decode cX8_starts 111 = .ok (.iconst 0, 1) := by decide +kernel
theorem dX8_starts_112 : decode cX8_starts 112 = .ok (.invokestatic 107, 3) := by decide +kernel
theorem dX8_starts_115 : decode cX8_starts 115 = .ok (.iaload, 1) := by decide +kernel
theorem dX8_starts_116 : decode cX8_starts 116 = .ok (.iconst 1, 1) := by decide +kernel
theorem dX8_starts_117 : decode cX8_starts 117 = .ok (.if_icmp .ne 81, 3) := by decide +kernel
theorem dX8_starts_120 : decode cX8_starts 120 = .ok (.iload 5, 2) := by decide +kernel
theorem dX8_starts_122 : decode cX8_starts 122 = .ok (.ifCond .eq 76, 3) := by decide +kernel
theorem dX8_starts_125 : decode cX8_starts 125 = .ok (.aload_n 0, 1) := by decide +kernel
theorem dX8_starts_126 : decode cX8_starts 126 = .ok (.getfield 7, 3) := by decide +kernel
theorem dX8_starts_129 : decode cX8_starts 129 = .ok (.iload_n 2, 1) := by decide +kernel
theorem dX8_starts_130 : decode cX8_starts 130 = .ok (.iconst 0, 1) := by decide +kernel
theorem dX8_starts_131 : decode cX8_starts 131 = .ok (.invokestatic 107, 3) := by decide +kernel
theorem dX8_starts_134 : decode cX8_starts 134 = .ok (.iconst 2, 1) := by decide +kernel
theorem dX8_starts_135 : decode cX8_starts 135 = .ok (.iastore, 1) := by decide +kernel
theorem dX8_starts_136 : decode cX8_starts 136 = .ok (.aload_n 0, 1) := by decide +kernel
theorem dX8_starts_137 : decode cX8_starts 137 = .ok (.getfield 7, 3) := by decide +kernel
theorem dX8_starts_140 : decode cX8_starts 140 = .ok (.iload_n 2, 1) := by decide +kernel
theorem dX8_starts_141 : decode cX8_starts 141 = .ok (.iconst 2, 1) := by decide +kernel
theorem dX8_starts_142 : decode cX8_starts 142 = .ok (.invokestatic 107, 3) := by decide +kernel
theorem dX8_starts_145 : decode cX8_starts 145 = .ok (.aload_n 0, 1) := by decide +kernel
theorem dX8_starts_146 : decode cX8_starts 146 = .ok (.getfield 7, 3) := by decide +kernel
theorem dX8_starts_149 : decode cX8_starts 149 = .ok (.sipush 141, 3) := by decide +kernel
theorem dX8_starts_152 : decode cX8_starts 152 = .ok (.iaload, 1) := by decide +kernel
theorem dX8_starts_153 : decode cX8_starts 153 = .ok (.ineg, 1) := by decide +kernel
theorem dX8_starts_154 : decode cX8_starts 154 = .ok (.iastore, 1) := by decide +kernel
theorem dX8_starts_155 : decode cX8_starts 155 = .ok (.aload_n 0, 1) := by decide +kernel
theorem dX8_starts_156 : decode cX8_starts 156 = .ok (.getfield 7, 3) := by decide +kernel
theorem dX8_starts_159 : decode cX8_starts 159 = .ok (.sipush 168, 3) := by decide +kernel
theorem dX8_starts_162 : decode cX8_starts 162 = .ok (.dup2, 1) := by decide +kernel
theorem dX8_starts_163 : decode cX8_starts 163 = .ok (.iaload, 1) := by decide +kernel
theorem dX8_starts_164 : decode cX8_starts 164 = .ok (.aload_n 0, 1) := by decide +kernel
theorem dX8_starts_165 : decode cX8_starts 165 = .ok (.getfield 7, 3) := by decide +kernel
theorem dX8_starts_168 : decode cX8_starts 168 = .ok (.sipush 171, 3) := by decide +kernel
theorem dX8_starts_171 : decode cX8_starts 171 = .ok (.iaload, 1) := by decide +kernel
theorem dX8_starts_172 : decode cX8_starts 172 = .ok (.iconst 1, 1) := by decide +kernel
theorem dX8_starts_173 : decode cX8_starts 173 = .ok (.if_icmp .eq 18, 3) := by decide +kernel
theorem dX8_starts_176 : decode cX8_starts 176 = .ok (.aload_n 0, 1) := by decide +kernel
theorem dX8_starts_177 : decode cX8_starts 177 = .ok (.getfield 7, 3) := by decide +kernel
theorem dX8_starts_180 : decode cX8_starts 180 = .ok (.iload_n 1, 1) := by decide +kernel
theorem dX8_starts_181 : decode cX8_starts 181 = .ok (.iconst 2, 1) := by decide +kernel
theorem dX8_starts_182 : decode cX8_starts 182 = .ok (.invokestatic 107, 3) := by decide +kernel
theorem dX8_starts_185 : decode cX8_starts 185 = .ok (.iaload, 1) := by decide +kernel
theorem dX8_starts_186 : decode cX8_starts 186 = .ok (.iload 4, 2) := by decide +kernel
theorem dX8_starts_188 : decode cX8_starts 188 = .ok (.if_icmp .le 7, 3) := by decide +kernel
theorem dX8_starts_191 : decode cX8_starts 191 = .ok (.iconst 1, 1) := by decide +kernel
theorem dX8_starts_192 : decode cX8_starts 192 = .ok (.goto 4, 3) := by decide +kernel
theorem dX8_starts_195 : decode cX8_starts 195 = .ok (.iconst 0, 1) := by decide +kernel
theorem dX8_starts_196 : decode cX8_starts 196 = .ok (.iadd, 1) := by decide +kernel
theorem dX8_starts_197 : decode cX8_starts 197 = .ok (.iastore, 1) := by decide +kernel
theorem dX8_starts_198 : decode cX8_starts 198 = .ok (.return_, 1) := by decide +kernel
set_option maxRecDepth 20000 in
theorem ggX8_goes_X8_on : GoodIn wsX8_goes wsX8_on := goodIn_r _ [5] (by decide +kernel) (by decide +kernel)
set_option maxRecDepth 20000 in
theorem gX8_goes_X8_on : GoodIn wsX8_goes (va_wsS RX8 107 yX8_on wsX8_on) := goodIn_app (goodIn_of _ (by decide +kernel)) ggX8_goes_X8_on
theorem dX8_goes_0 : decode cX8_goes 0 = .ok (.iconst 0, 1) := by decide +kernel
theorem dX8_goes_1 : decode cX8_goes 1 = .ok (.istore_n 1, 1) := by decide +kernel
theorem dX8_goes_2 : decode cX8_goes 2 = .ok (.iload_n 1, 1) := by decide +kernel
theorem dX8_goes_3 : decode cX8_goes 3 = .ok (.iconst 2, 1) := by decide +kernel
theorem dX8_goes_4 : decode cX8_goes 4 = .ok (.if_icmp .ge 55, 3) := by decide +kernel
theorem dX8_goes_7 : decode cX8_goes 7 = .ok (.aload_n 0, 1) := by decide +kernel
theorem dX8_goes_8 : decode cX8_goes 8 = .ok (.getfield 7, 3) := by decide +kernel
theorem dX8_goes_11 : decode cX8_goes 11 = .ok (.iload_n 1, 1) := by decide +kernel
theorem dX8_goes_12 : decode cX8_goes 12 = .ok (.iconst 2, 1) := by decide +kernel
theorem dX8_goes_13 : decode cX8_goes 13 = .ok (.invokestatic 107, 3) := by decide +kernel
theorem dX8_goes_16 : decode cX8_goes 16 = .ok (.dup2, 1) := by decide +kernel
theorem dX8_goes_17 : decode cX8_goes 17 = .ok (.iaload, 1) := by decide +kernel
theorem dX8_goes_18 : decode cX8_goes 18 = .ok (.aload_n 0, 1) := by decide +kernel
theorem dX8_goes_19 : decode cX8_goes 19 = .ok (.getfield 7, 3) := by decide +kernel
theorem dX8_goes_22 : decode cX8_goes 22 = .ok (.iload_n 1, 1) := by decide +kernel
theorem dX8_goes_23 : decode cX8_goes 23 = .ok (.iconst 0, 1) := by decide +kernel
theorem dX8_goes_24 : decode cX8_goes 24 = .ok (.invokestatic 107, 3) := by decide +kernel
theorem dX8_goes_27 : decode cX8_goes 27 = .ok (.iaload, 1) := by decide +kernel
theorem dX8_goes_28 : decode cX8_goes 28 = .ok (.iconst 2, 1) := by decide +kernel
theorem dX8_goes_29 : decode cX8_goes 29 = .ok (.if_icmp .eq 17, 3) := by decide +kernel
theorem dX8_goes_32 : decode cX8_goes 32 = .ok (.aload_n 0, 1) := by decide +kernel
theorem dX8_goes_33 : decode cX8_goes 33 = .ok (.getfield 7, 3) := by decide +kernel
theorem dX8_goes_36 : decode cX8_goes 36 = .ok (.iload_n 1, 1) := by decide +kernel
theorem dX8_goes_37 : decode cX8_goes 37 = .ok (.iconst 0, 1) := by decide +kernel
theorem dX8_goes_38 : decode cX8_goes 38 = .ok (.invokestatic 107, 3) := by decide +kernel
theorem dX8_goes_41 : decode cX8_goes 41 = .ok (.iaload, 1) := by decide +kernel
theorem dX8_goes_42 : decode cX8_goes 42 = .ok (.iconst 3, 1) := by decide +kernel
theorem dX8_goes_43 : decode cX8_goes 43 = .ok (.if_icmp .ne 7, 3) := by decide +kernel
theorem dX8_goes_46 : decode cX8_goes 46 = .ok (.iconst 1, 1) := by decide +kernel
theorem dX8_goes_47 : decode cX8_goes 47 = .ok (.goto 4, 3) := by decide +kernel
theorem dX8_goes_50 : decode cX8_goes 50 = .ok (.iconst 0, 1) := by decide +kernel
theorem dX8_goes_51 : decode cX8_goes 51 = .ok (.iadd, 1) := by decide +kernel
theorem dX8_goes_52 : decode cX8_goes 52 = .ok (.iastore, 1) := by decide +kernel
theorem dX8_goes_53 : decode cX8_goes 53 = .ok (.iinc 1 1, 3) := by decide +kernel
theorem dX8_goes_56 : decode cX8_goes 56 = .ok (.goto (-54), 3) := by decide +kernel
theorem dX8_goes_59 : decode cX8_goes 59 = .ok (.return_, 1) := by decide +kernel
set_option maxRecDepth 20000 in
theorem ggX8_wears_X8_on : GoodIn wsX8_wears wsX8_on := goodIn_r _ [5] (by decide +kernel) (by decide +kernel)
set_option maxRecDepth 20000 in
theorem gX8_wears_X8_on : GoodIn wsX8_wears (va_wsS RX8 107 yX8_on wsX8_on) := goodIn_app (goodIn_of _ (by decide +kernel)) ggX8_wears_X8_on
set_option maxRecDepth 20000 in
theorem ggX8_wears_X8_reelOn : GoodIn wsX8_wears wsX8_reelOn := goodIn_r _ [9, 1, 2, 3, 4, 5, 21, 22, 23, 24, 25, 26, 27, 28, 29, 30, 31, 32, 33, 34, 35] (by decide +kernel) (by decide +kernel)
set_option maxRecDepth 20000 in
theorem gX8_wears_X8_reelOn : GoodIn wsX8_wears (wsV RX8 110 RX8 yX8_reelOn wsX8_reelOn) := goodIn_app (goodIn_of _ (by decide +kernel)) ggX8_wears_X8_reelOn
set_option maxRecDepth 20000 in
theorem ggX8_wears_X8_strengthAt : GoodIn wsX8_wears wsX8_strengthAt := goodIn_r _ [13, 1, 14, 15, 16, 4, 17, 18, 19, 20, 21, 22, 23, 24, 25, 26, 27, 28, 29, 30, 31, 32, 33, 34, 35] (by decide +kernel) (by decide +kernel)
set_option maxRecDepth 20000 in
theorem gX8_wears_X8_strengthAt : GoodIn wsX8_wears (wsV RX8 65 RX8 yX8_strengthAt wsX8_strengthAt) := goodIn_app (goodIn_of _ (by decide +kernel)) ggX8_wears_X8_strengthAt
theorem dX8_wears_0 : decode cX8_wears 0 = .ok (.aload_n 0, 1) := by decide +kernel
theorem dX8_wears_1 : decode cX8_wears 1 = .ok (.getfield 7, 3) := by decide +kernel
theorem dX8_wears_4 : decode cX8_wears 4 = .ok (.sipush 165, 3) := by decide +kernel
theorem dX8_wears_7 : decode cX8_wears 7 = .ok (.iaload, 1) := by decide +kernel
theorem dX8_wears_8 : decode cX8_wears 8 = .ok (.istore_n 1, 1) := by decide +kernel
theorem dX8_wears_9 : decode cX8_wears 9 = .ok (.aload_n 0, 1) := by decide +kernel
theorem dX8_wears_10 : decode cX8_wears 10 = .ok (.getfield 7, 3) := by decide +kernel
theorem dX8_wears_13 : decode cX8_wears 13 = .ok (.iload_n 1, 1) := by decide +kernel
theorem dX8_wears_14 : decode cX8_wears 14 = .ok (.iconst 0, 1) := by decide +kernel
theorem dX8_wears_15 : decode cX8_wears 15 = .ok (.invokestatic 107, 3) := by decide +kernel
theorem dX8_wears_18 : decode cX8_wears 18 = .ok (.iaload, 1) := by decide +kernel
theorem dX8_wears_19 : decode cX8_wears 19 = .ok (.iconst 3, 1) := by decide +kernel
theorem dX8_wears_20 : decode cX8_wears 20 = .ok (.if_icmp .eq 4, 3) := by decide +kernel
theorem dX8_wears_23 : decode cX8_wears 23 = .ok (.return_, 1) := by decide +kernel
theorem dX8_wears_24 : decode cX8_wears 24 = .ok (.aload_n 0, 1) := by decide +kernel
theorem dX8_wears_25 : decode cX8_wears 25 = .ok (.aload_n 0, 1) := by decide +kernel
theorem dX8_wears_26 : decode cX8_wears 26 = .ok (.iload_n 1, 1) := by decide +kernel
theorem dX8_wears_27 : decode cX8_wears 27 = .ok (.invokevirtual 110, 3) := by decide +kernel
theorem dX8_wears_30 : decode cX8_wears 30 = .ok (.aload_n 0, 1) := by decide +kernel
theorem dX8_wears_31 : decode cX8_wears 31 = .ok (.getfield 7, 3) := by decide +kernel
theorem dX8_wears_34 : decode cX8_wears 34 = .ok (.iload_n 1, 1) := by decide +kernel
theorem dX8_wears_35 : decode cX8_wears 35 = .ok (.iconst 2, 1) := by decide +kernel
theorem dX8_wears_36 : decode cX8_wears 36 = .ok (.invokestatic 107, 3) := by decide +kernel
theorem dX8_wears_39 : decode cX8_wears 39 = .ok (.iaload, 1) := by decide +kernel
theorem dX8_wears_40 : decode cX8_wears 40 = .ok (.invokevirtual 65, 3) := by decide +kernel
theorem dX8_wears_43 : decode cX8_wears 43 = .ok (.istore_n 2, 1) := by decide +kernel
theorem dX8_wears_44 : decode cX8_wears 44 = .ok (.iload_n 2, 1) := by decide +kernel
theorem dX8_wears_45 : decode cX8_wears 45 = .ok (.ifCond .ge 4, 3) := by decide +kernel
theorem dX8_wears_48 : decode cX8_wears 48 = .ok (.return_, 1) := by decide +kernel
theorem dX8_wears_49 : decode cX8_wears 49 = .ok (.aload_n 0, 1) := by decide +kernel
theorem dX8_wears_50 : decode cX8_wears 50 = .ok (.getfield 7, 3) := by decide +kernel
theorem dX8_wears_53 : decode cX8_wears 53 = .ok (.iload_n 2, 1) := by decide +kernel
theorem dX8_wears_54 : decode cX8_wears 54 = .ok (.dup2, 1) := by decide +kernel
theorem dX8_wears_55 : decode cX8_wears 55 = .ok (.iaload, 1) := by decide +kernel
theorem dX8_wears_56 : decode cX8_wears 56 = .ok (.aload_n 0, 1) := by decide +kernel
theorem dX8_wears_57 : decode cX8_wears 57 = .ok (.getfield 7, 3) := by decide +kernel
theorem dX8_wears_60 : decode cX8_wears 60 = .ok (.iload_n 2, 1) := by decide +kernel
theorem dX8_wears_61 : decode cX8_wears 61 = .ok (.iaload, 1) := by decide +kernel
theorem dX8_wears_62 : decode cX8_wears 62 = .ok (.ifCond .le 7, 3) := by decide +kernel
theorem dX8_wears_65 : decode cX8_wears 65 = .ok (.iconst 1, 1) := by decide +kernel
theorem dX8_wears_66 : decode cX8_wears 66 = .ok (.goto 4, 3) := by decide +kernel
theorem dX8_wears_69 : decode cX8_wears 69 = .ok (.iconst 0, 1) := by decide +kernel
theorem dX8_wears_70 : decode cX8_wears 70 = .ok (.isub, 1) := by decide +kernel
theorem dX8_wears_71 : decode cX8_wears 71 = .ok (.iastore, 1) := by decide +kernel
theorem dX8_wears_72 : decode cX8_wears 72 = .ok (.aload_n 0, 1) := by decide +kernel
theorem dX8_wears_73 : decode cX8_wears 73 = .ok (.getfield 7, 3) := by decide +kernel
theorem dX8_wears_76 : decode cX8_wears 76 = .ok (.iload_n 2, 1) := by decide +kernel
theorem dX8_wears_77 : decode cX8_wears 77 = .ok (.iaload, 1) := by decide +kernel
theorem dX8_wears_78 : decode cX8_wears 78 = .ok (.ifCond .ne 156, 3) := by decide +kernel
theorem dX8_wears_81 : decode cX8_wears 81 = .ok (.aload_n 0, 1) := by decide +kernel
theorem dX8_wears_82 : decode cX8_wears 82 = .ok (.getfield 7, 3) := by decide +kernel
theorem dX8_wears_85 : decode cX8_wears 85 = .ok (.iload_n 1, 1) := by decide +kernel
theorem dX8_wears_86 : decode cX8_wears 86 = .ok (.iconst 0, 1) := by decide +kernel
theorem dX8_wears_87 : decode cX8_wears 87 = .ok (.invokestatic 107, 3) := by decide +kernel
theorem dX8_wears_90 : decode cX8_wears 90 = .ok (.iconst 5, 1) := by decide +kernel
theorem dX8_wears_91 : decode cX8_wears 91 = .ok (.iastore, 1) := by decide +kernel
theorem dX8_wears_92 : decode cX8_wears 92 = .ok (.aload_n 0, 1) := by decide +kernel
theorem dX8_wears_93 : decode cX8_wears 93 = .ok (.getfield 7, 3) := by decide +kernel
theorem dX8_wears_96 : decode cX8_wears 96 = .ok (.iload_n 1, 1) := by decide +kernel
theorem dX8_wears_97 : decode cX8_wears 97 = .ok (.iconst 3, 1) := by decide +kernel
theorem dX8_wears_98 : decode cX8_wears 98 = .ok (.invokestatic 107, 3) := by decide +kernel
theorem dX8_wears_101 : decode cX8_wears 101 = .ok (.aload_n 0, 1) := by decide +kernel
theorem dX8_wears_102 : decode cX8_wears 102 = .ok (.getfield 7, 3) := by decide +kernel
theorem dX8_wears_105 : decode cX8_wears 105 = .ok (.iload_n 1, 1) := by decide +kernel
theorem dX8_wears_106 : decode cX8_wears 106 = .ok (.iconst 2, 1) := by decide +kernel
theorem dX8_wears_107 : decode cX8_wears 107 = .ok (.invokestatic 107, 3) := by decide +kernel
theorem dX8_wears_110 : decode cX8_wears 110 = .ok (.iaload, 1) := by decide +kernel
theorem dX8_wears_111 : decode cX8_wears 111 = .ok (.iastore, 1) := by decide +kernel
theorem dX8_wears_112 : decode cX8_wears 112 = .ok (.aload_n 0, 1) := by decide +kernel
theorem dX8_wears_113 : decode cX8_wears 113 = .ok (.getfield 7, 3) := by decide +kernel
theorem dX8_wears_116 : decode cX8_wears 116 = .ok (.sipush 169, 3) := by decide +kernel
theorem dX8_wears_119 : decode cX8_wears 119 = .ok (.dup2, 1) := by decide +kernel
theorem dX8_wears_120 : decode cX8_wears 120 = .ok (.iaload, 1) := by decide +kernel
theorem dX8_wears_121 : decode cX8_wears 121 = .ok (.iconst 1, 1) := by decide +kernel
theorem dX8_wears_122 : decode cX8_wears 122 = .ok (.iadd, 1) := by decide +kernel
theorem dX8_wears_123 : decode cX8_wears 123 = .ok (.iastore, 1) := by decide +kernel
theorem dX8_wears_124 : decode cX8_wears 124 = .ok (.aload_n 0, 1) := by decide +kernel
theorem dX8_wears_125 : decode cX8_wears 125 = .ok (.getfield 7, 3) := by decide +kernel
theorem dX8_wears_128 : decode cX8_wears 128 = .ok (.sipush 174, 3) := by decide +kernel
theorem dX8_wears_131 : decode cX8_wears 131 = .ok (.iaload, 1) := by decide +kernel
theorem dX8_wears_132 : decode cX8_wears 132 = .ok (.istore_n 3, 1) := by decide +kernel
theorem dX8_wears_133 : decode cX8_wears 133 = .ok (.iload_n 3, 1) := by decide +kernel
theorem dX8_wears_134 : decode cX8_wears 134 = .ok (.ifCond .le 31, 3) := by decide +kernel
theorem dX8_wears_137 : decode cX8_wears 137 = .ok (.aload_n 0, 1) := by decide +kernel
theorem dX8_wears_138 : decode cX8_wears 138 = .ok (.getfield 7, 3) := by decide +kernel
theorem dX8_wears_141 : decode cX8_wears 141 = .ok (.sipush 175, 3) := by decide +kernel
theorem dX8_wears_144 : decode cX8_wears 144 = .ok (.iload_n 3, 1) := by decide +kernel
theorem dX8_wears_145 : decode cX8_wears 145 = .ok (.iadd, 1) := by decide +kernel
theorem dX8_wears_146 : decode cX8_wears 146 = .ok (.aload_n 0, 1) := by decide +kernel
theorem dX8_wears_147 : decode cX8_wears 147 = .ok (.getfield 7, 3) := by decide +kernel
theorem dX8_wears_150 : decode cX8_wears 150 = .ok (.sipush 175, 3) := by decide +kernel
theorem dX8_wears_153 : decode cX8_wears 153 = .ok (.iload_n 3, 1) := by decide +kernel
theorem dX8_wears_154 : decode cX8_wears 154 = .ok (.iadd, 1) := by decide +kernel
theorem dX8_wears_155 : decode cX8_wears 155 = .ok (.iconst 1, 1) := by decide +kernel
theorem dX8_wears_156 : decode cX8_wears 156 = .ok (.isub, 1) := by decide +kernel
theorem dX8_wears_157 : decode cX8_wears 157 = .ok (.iaload, 1) := by decide +kernel
theorem dX8_wears_158 : decode cX8_wears 158 = .ok (.iastore, 1) := by decide +kernel
theorem dX8_wears_159 : decode cX8_wears 159 = .ok (.iinc 3 (-1), 3) := by decide +kernel
theorem dX8_wears_162 : decode cX8_wears 162 = .ok (.goto (-29), 3) := by decide +kernel
theorem dX8_wears_165 : decode cX8_wears 165 = .ok (.aload_n 0, 1) := by decide +kernel
theorem dX8_wears_166 : decode cX8_wears 166 = .ok (.getfield 7, 3) := by decide +kernel
theorem dX8_wears_169 : decode cX8_wears 169 = .ok (.sipush 175, 3) := by decide +kernel
theorem dX8_wears_172 : decode cX8_wears 172 = .ok (.iconst 3, 1) := by decide +kernel
theorem dX8_wears_173 : decode cX8_wears 173 = .ok (.iload_n 1, 1) := by decide +kernel
theorem dX8_wears_174 : decode cX8_wears 174 = .ok (.imul, 1) := by decide +kernel
theorem dX8_wears_175 : decode cX8_wears 175 = .ok (.iconst 2, 1) := by decide +kernel
theorem dX8_wears_176 : decode cX8_wears 176 = .ok (.iadd, 1) := by decide +kernel
theorem dX8_wears_177 : decode cX8_wears 177 = .ok (.iastore, 1) := by decide +kernel
theorem dX8_wears_178 : decode cX8_wears 178 = .ok (.aload_n 0, 1) := by decide +kernel
theorem dX8_wears_179 : decode cX8_wears 179 = .ok (.getfield 7, 3) := by decide +kernel
theorem dX8_wears_182 : decode cX8_wears 182 = .ok (.sipush 174, 3) := by decide +kernel
theorem dX8_wears_185 : decode cX8_wears 185 = .ok (.dup2, 1) := by decide +kernel
theorem dX8_wears_186 : decode cX8_wears 186 = .ok (.iaload, 1) := by decide +kernel
theorem dX8_wears_187 : decode cX8_wears 187 = .ok (.iconst 1, 1) := by decide +kernel
theorem dX8_wears_188 : decode cX8_wears 188 = .ok (.iadd, 1) := by decide +kernel
theorem dX8_wears_189 : decode cX8_wears 189 = .ok (.iastore, 1) := by decide +kernel
theorem dX8_wears_190 : decode cX8_wears 190 = .ok (.aload_n 0, 1) := by decide +kernel
theorem dX8_wears_191 : decode cX8_wears 191 = .ok (.getfield 7, 3) := by decide +kernel
theorem dX8_wears_194 : decode cX8_wears 194 = .ok (.iconst 1, 1) := by decide +kernel
theorem dX8_wears_195 : decode cX8_wears 195 = .ok (.iload_n 1, 1) := by decide +kernel
theorem dX8_wears_196 : decode cX8_wears 196 = .ok (.isub, 1) := by decide +kernel
theorem dX8_wears_197 : decode cX8_wears 197 = .ok (.iconst 0, 1) := by decide +kernel
theorem dX8_wears_198 : decode cX8_wears 198 = .ok (.invokestatic 107, 3) := by decide +kernel
theorem dX8_wears_201 : decode cX8_wears 201 = .ok (.aload_n 0, 1) := by decide +kernel
theorem dX8_wears_202 : decode cX8_wears 202 = .ok (.getfield 7, 3) := by decide +kernel
theorem dX8_wears_205 : decode cX8_wears 205 = .ok (.iconst 1, 1) := by decide +kernel
theorem dX8_wears_206 : decode cX8_wears 206 = .ok (.iload_n 1, 1) := by decide +kernel
theorem dX8_wears_207 : decode cX8_wears 207 = .ok (.isub, 1) := by decide +kernel
theorem dX8_wears_208 : decode cX8_wears 208 = .ok (.iconst 0, 1) := by decide +kernel
theorem dX8_wears_209 : decode cX8_wears 209 = .ok (.invokestatic 107, 3) := by decide +kernel
theorem dX8_wears_212 : decode cX8_wears 212 = .ok (.iaload, 1) := by decide +kernel
theorem dX8_wears_213 : decode cX8_wears 213 = .ok (.iconst 2, 1) := by decide +kernel
theorem dX8_wears_214 : decode cX8_wears 214 = .ok (.if_icmp .ne 7, 3) := by decide +kernel
theorem dX8_wears_217 : decode cX8_wears 217 = .ok (.iconst 1, 1) := by decide +kernel
theorem dX8_wears_218 : decode cX8_wears 218 = .ok (.goto 15, 3) := by decide +kernel
theorem dX8_wears_221 : decode cX8_wears 221 = .ok (.aload_n 0, 1) := by decide +kernel
theorem dX8_wears_222 : decode cX8_wears 222 = .ok (.getfield 7, 3) := by decide +kernel
theorem dX8_wears_225 : decode cX8_wears 225 = .ok (.iconst 1, 1) := by decide +kernel
theorem dX8_wears_226 : decode cX8_wears 226 = .ok (.iload_n 1, 1) := by decide +kernel
theorem dX8_wears_227 : decode cX8_wears 227 = .ok (.isub, 1) := by decide +kernel
theorem dX8_wears_228 : decode cX8_wears 228 = .ok (.iconst 0, 1) := by decide +kernel
theorem dX8_wears_229 : decode cX8_wears 229 = .ok (.invokestatic 107, 3) := by decide +kernel
theorem dX8_wears_232 : decode cX8_wears 232 = .ok (.iaload, 1) := by decide +kernel
theorem dX8_wears_233 : decode cX8_wears 233 = .ok (.iastore, 1) := by decide +kernel
theorem dX8_wears_234 : decode cX8_wears 234 = .ok (.return_, 1) := by decide +kernel
theorem dX8_threads_0 : decode cX8_threads 0 = .ok (.aload_n 0, 1) := by decide +kernel
theorem dX8_threads_1 : decode cX8_threads 1 = .ok (.getfield 7, 3) := by decide +kernel
theorem dX8_threads_4 : decode cX8_threads 4 = .ok (.sipush 172, 3) := by decide +kernel
theorem dX8_threads_7 : decode cX8_threads 7 = .ok (.iaload, 1) := by decide +kernel
theorem dX8_threads_8 : decode cX8_threads 8 = .ok (.ifCond .lt 21, 3) := by decide +kernel
theorem dX8_threads_11 : decode cX8_threads 11 = .ok (.aload_n 0, 1) := by decide +kernel
theorem dX8_threads_12 : decode cX8_threads 12 = .ok (.getfield 7, 3) := by decide +kernel
theorem dX8_threads_15 : decode cX8_threads 15 = .ok (.sipush 172, 3) := by decide +kernel
theorem dX8_threads_18 : decode cX8_threads 18 = .ok (.iaload, 1) := by decide +kernel
theorem dX8_threads_19 : decode cX8_threads 19 = .ok (.iconst 3, 1) := by decide +kernel
theorem dX8_threads_20 : decode cX8_threads 20 = .ok (.irem, 1) := by decide +kernel
theorem dX8_threads_21 : decode cX8_threads 21 = .ok (.iconst 1, 1) := by decide +kernel
theorem dX8_threads_22 : decode cX8_threads 22 = .ok (.if_icmp .ne 7, 3) := by decide +kernel
theorem dX8_threads_25 : decode cX8_threads 25 = .ok (.iconst 1, 1) := by decide +kernel
theorem dX8_threads_26 : decode cX8_threads 26 = .ok (.goto 4, 3) := by decide +kernel
theorem dX8_threads_29 : decode cX8_threads 29 = .ok (.iconst 0, 1) := by decide +kernel
theorem dX8_threads_30 : decode cX8_threads 30 = .ok (.istore_n 1, 1) := by decide +kernel
theorem dX8_threads_31 : decode cX8_threads 31 = .ok (.iconst 0, 1) := by decide +kernel
theorem dX8_threads_32 : decode cX8_threads 32 = .ok (.istore_n 2, 1) := by decide +kernel
theorem dX8_threads_33 : decode cX8_threads 33 = .ok (.iload_n 2, 1) := by decide +kernel
theorem dX8_threads_34 : decode cX8_threads 34 = .ok (.aload_n 0, 1) := by decide +kernel
theorem dX8_threads_35 : decode cX8_threads 35 = .ok (.getfield 7, 3) := by decide +kernel
theorem dX8_threads_38 : decode cX8_threads 38 = .ok (.sipush 174, 3) := by decide +kernel
theorem dX8_threads_41 : decode cX8_threads 41 = .ok (.iaload, 1) := by decide +kernel
theorem dX8_threads_42 : decode cX8_threads 42 = .ok (.if_icmp .ge 33, 3) := by decide +kernel
theorem dX8_threads_45 : decode cX8_threads 45 = .ok (.iload_n 1, 1) := by decide +kernel
theorem dX8_threads_46 : decode cX8_threads 46 = .ok (.aload_n 0, 1) := by decide +kernel
theorem dX8_threads_47 : decode cX8_threads 47 = .ok (.getfield 7, 3) := by decide +kernel
theorem dX8_threads_50 : decode cX8_threads 50 = .ok (.sipush 175, 3) := by decide +kernel
theorem dX8_threads_53 : decode cX8_threads 53 = .ok (.iload_n 2, 1) := by decide +kernel
theorem dX8_threads_54 : decode cX8_threads 54 = .ok (.iadd, 1) := by decide +kernel
theorem dX8_threads_55 : decode cX8_threads 55 = .ok (.iaload, 1) := by decide +kernel
theorem dX8_threads_56 : decode cX8_threads 56 = .ok (.iconst 3, 1) := by decide +kernel
theorem dX8_threads_57 : decode cX8_threads 57 = .ok (.irem, 1) := by decide +kernel
theorem dX8_threads_58 : decode cX8_threads 58 = .ok (.iconst 1, 1) := by decide +kernel
theorem dX8_threads_59 : decode cX8_threads 59 = .ok (.if_icmp .ne 7, 3) := by decide +kernel
theorem dX8_threads_62 : decode cX8_threads 62 = .ok (.iconst 1, 1) := by decide +kernel
theorem dX8_threads_63 : decode cX8_threads 63 = .ok (.goto 4, 3) := by decide +kernel
theorem dX8_threads_66 : decode cX8_threads 66 = .ok (.iconst 0, 1) := by decide +kernel
theorem dX8_threads_67 : decode cX8_threads 67 = .ok (.iadd, 1) := by decide +kernel
theorem dX8_threads_68 : decode cX8_threads 68 = .ok (.istore_n 1, 1) := by decide +kernel
theorem dX8_threads_69 : decode cX8_threads 69 = .ok (.iinc 2 1, 3) := by decide +kernel
theorem dX8_threads_72 : decode cX8_threads 72 = .ok (.goto (-39), 3) := by decide +kernel
theorem dX8_threads_75 : decode cX8_threads 75 = .ok (.iload_n 1, 1) := by decide +kernel
theorem dX8_threads_76 : decode cX8_threads 76 = .ok (.ireturn, 1) := by decide +kernel
set_option maxRecDepth 20000 in
theorem ggX8_runsOut_X8_on : GoodIn wsX8_runsOut wsX8_on := goodIn_r _ [5] (by decide +kernel) (by decide +kernel)
set_option maxRecDepth 20000 in
theorem gX8_runsOut_X8_on : GoodIn wsX8_runsOut (va_wsS RX8 107 yX8_on wsX8_on) := goodIn_app (goodIn_of _ (by decide +kernel)) ggX8_runsOut_X8_on
set_option maxRecDepth 20000 in
theorem ggX8_runsOut_X8_lengthOn : GoodIn wsX8_runsOut wsX8_lengthOn := goodIn_r _ [9, 1, 10, 11, 12, 4, 13, 2, 3, 5, 14, 15, 16, 25, 26, 27, 28, 29, 30, 31, 32, 33, 34, 35, 36, 37, 38, 39] (by decide +kernel) (by decide +kernel)
set_option maxRecDepth 20000 in
theorem gX8_runsOut_X8_lengthOn : GoodIn wsX8_runsOut (wsV RX8 120 RX8 yX8_lengthOn wsX8_lengthOn) := goodIn_app (goodIn_of _ (by decide +kernel)) ggX8_runsOut_X8_lengthOn
set_option maxRecDepth 20000 in
theorem ggX8_runsOut_X8_adds : GoodIn wsX8_runsOut wsX8_adds := goodIn_r _ [20, 1, 25, 26, 27, 28, 29, 30, 31, 32, 33, 34, 35, 36, 37, 38, 39] (by decide +kernel) (by decide +kernel)
set_option maxRecDepth 20000 in
theorem gX8_runsOut_X8_adds : GoodIn wsX8_runsOut (wsV RX8 129 RX8 yX8_adds wsX8_adds) := goodIn_app (goodIn_of _ (by decide +kernel)) ggX8_runsOut_X8_adds
set_option maxRecDepth 20000 in
theorem ggX8_runsOut_X8_threads : GoodIn wsX8_runsOut wsX8_threads := goodIn_r _ [24, 1, 25, 26, 27, 28, 29, 30, 31, 32, 33, 34, 35, 36, 37, 38, 39] (by decide +kernel) (by decide +kernel)
set_option maxRecDepth 20000 in
theorem gX8_runsOut_X8_threads : GoodIn wsX8_runsOut (wsV RX8 132 RX8 yX8_threads wsX8_threads) := goodIn_app (goodIn_of _ (by decide +kernel)) ggX8_runsOut_X8_threads
theorem dX8_runsOut_0 : decode cX8_runsOut 0 = .ok (.aload_n 0, 1) := by decide +kernel
theorem dX8_runsOut_1 : decode cX8_runsOut 1 = .ok (.getfield 7, 3) := by decide +kernel
theorem dX8_runsOut_4 : decode cX8_runsOut 4 = .ok (.sipush 165, 3) := by decide +kernel
theorem dX8_runsOut_7 : decode cX8_runsOut 7 = .ok (.iaload, 1) := by decide +kernel
theorem dX8_runsOut_8 : decode cX8_runsOut 8 = .ok (.istore_n 1, 1) := by decide +kernel
theorem dX8_runsOut_9 : decode cX8_runsOut 9 = .ok (.aload_n 0, 1) := by decide +kernel
theorem dX8_runsOut_10 : decode cX8_runsOut 10 = .ok (.getfield 7, 3) := by decide +kernel
theorem dX8_runsOut_13 : decode cX8_runsOut 13 = .ok (.iload_n 1, 1) := by decide +kernel
theorem dX8_runsOut_14 : decode cX8_runsOut 14 = .ok (.iconst 0, 1) := by decide +kernel
theorem dX8_runsOut_15 : decode cX8_runsOut 15 = .ok (.invokestatic 107, 3) := by decide +kernel
theorem dX8_runsOut_18 : decode cX8_runsOut 18 = .ok (.iaload, 1) := by decide +kernel
theorem dX8_runsOut_19 : decode cX8_runsOut 19 = .ok (.iconst 3, 1) := by decide +kernel
theorem dX8_runsOut_20 : decode cX8_runsOut 20 = .ok (.if_icmp .ne 15, 3) := by decide +kernel
theorem dX8_runsOut_23 : decode cX8_runsOut 23 = .ok (.aload_n 0, 1) := by decide +kernel
theorem dX8_runsOut_24 : decode cX8_runsOut 24 = .ok (.getfield 7, 3) := by decide +kernel
theorem dX8_runsOut_27 : decode cX8_runsOut 27 = .ok (.sipush 171, 3) := by decide +kernel
theorem dX8_runsOut_30 : decode cX8_runsOut 30 = .ok (.iaload, 1) := by decide +kernel
theorem dX8_runsOut_31 : decode cX8_runsOut 31 = .ok (.iconst 1, 1) := by decide +kernel
theorem dX8_runsOut_32 : decode cX8_runsOut 32 = .ok (.if_icmp .ne 4, 3) := by decide +kernel
theorem dX8_runsOut_35 : decode cX8_runsOut 35 = .ok (.return_, 1) := by decide +kernel
theorem dX8_runsOut_36 : decode cX8_runsOut 36 = .ok (.aload_n 0, 1) := by decide +kernel
theorem dX8_runsOut_37 : decode cX8_runsOut 37 = .ok (.getfield 7, 3) := by decide +kernel
theorem dX8_runsOut_40 : decode cX8_runsOut 40 = .ok (.iload_n 1, 1) := by decide +kernel
theorem dX8_runsOut_41 : decode cX8_runsOut 41 = .ok (.iconst 1, 1) := by decide +kernel
theorem dX8_runsOut_42 : decode cX8_runsOut 42 = .ok (.invokestatic 107, 3) := by decide +kernel
theorem dX8_runsOut_45 : decode cX8_runsOut 45 = .ok (.iaload, 1) := by decide +kernel
theorem dX8_runsOut_46 : decode cX8_runsOut 46 = .ok (.aload_n 0, 1) := by decide +kernel
theorem dX8_runsOut_47 : decode cX8_runsOut 47 = .ok (.getfield 7, 3) := by decide +kernel
theorem dX8_runsOut_50 : decode cX8_runsOut 50 = .ok (.sipush 149, 3) := by decide +kernel
theorem dX8_runsOut_53 : decode cX8_runsOut 53 = .ok (.iaload, 1) := by decide +kernel
theorem dX8_runsOut_54 : decode cX8_runsOut 54 = .ok (.iconst 1, 1) := by decide +kernel
theorem dX8_runsOut_55 : decode cX8_runsOut 55 = .ok (.isub, 1) := by decide +kernel
theorem dX8_runsOut_56 : decode cX8_runsOut 56 = .ok (.if_icmp .ne 7, 3) := by decide +kernel
theorem dX8_runsOut_59 : decode cX8_runsOut 59 = .ok (.iconst 1, 1) := by decide +kernel
theorem dX8_runsOut_60 : decode cX8_runsOut 60 = .ok (.goto 4, 3) := by decide +kernel
theorem dX8_runsOut_63 : decode cX8_runsOut 63 = .ok (.iconst 0, 1) := by decide +kernel
theorem dX8_runsOut_64 : decode cX8_runsOut 64 = .ok (.istore_n 2, 1) := by decide +kernel
theorem dX8_runsOut_65 : decode cX8_runsOut 65 = .ok (.aload_n 0, 1) := by decide +kernel
theorem dX8_runsOut_66 : decode cX8_runsOut 66 = .ok (.iload_n 1, 1) := by decide +kernel
theorem dX8_runsOut_67 : decode cX8_runsOut 67 = .ok (.invokevirtual 120, 3) := by decide +kernel
theorem dX8_runsOut_70 : decode cX8_runsOut 70 = .ok (.iload_n 2, 1) := by decide +kernel
theorem dX8_runsOut_71 : decode cX8_runsOut 71 = .ok (.ifCond .eq 7, 3) := by decide +kernel
theorem dX8_runsOut_74 : decode cX8_runsOut 74 = .ok (.iconst 0, 1) := by decide +kernel
theorem dX8_runsOut_75 : decode cX8_runsOut 75 = .ok (.goto 11, 3) := by decide +kernel
theorem dX8_runsOut_78 : decode cX8_runsOut 78 = .ok (.aload_n 0, 1) := by decide +kernel
theorem dX8_runsOut_79 : decode cX8_runsOut 79 = .ok (.getfield 7, 3) := by decide +kernel
theorem dX8_runsOut_82 : decode cX8_runsOut 82 = .ok (.sipush 143, 3) := by decide +kernel
theorem dX8_runsOut_85 : decode cX8_runsOut 85 = .ok (.iaload, 1) := by decide +kernel
theorem dX8_runsOut_86 : decode cX8_runsOut 86 = .ok (.isub, 1) := by decide +kernel
theorem dX8_runsOut_87 : decode cX8_runsOut 87 = .ok (.istore_n 3, 1) := by decide +kernel
theorem dX8_runsOut_88 : decode cX8_runsOut 88 = .ok (.aload_n 0, 1) := by decide +kernel
theorem dX8_runsOut_89 : decode cX8_runsOut 89 = .ok (.getfield 7, 3) := by decide +kernel
theorem dX8_runsOut_92 : decode cX8_runsOut 92 = .ok (.iload_n 1, 1) := by decide +kernel
theorem dX8_runsOut_93 : decode cX8_runsOut 93 = .ok (.iconst 2, 1) := by decide +kernel
theorem dX8_runsOut_94 : decode cX8_runsOut 94 = .ok (.invokestatic 107, 3) := by decide +kernel
theorem dX8_runsOut_97 : decode cX8_runsOut 97 = .ok (.iaload, 1) := by decide +kernel
theorem dX8_runsOut_98 : decode cX8_runsOut 98 = .ok (.iload_n 3, 1) := by decide +kernel
theorem dX8_runsOut_99 : decode cX8_runsOut 99 = .ok (.if_icmp .ge 4, 3) := by decide +kernel
theorem dX8_runsOut_102 : decode cX8_runsOut 102 = .ok (.return_, 1) := by decide +kernel
theorem dX8_runsOut_103 : decode cX8_runsOut 103 = .ok (.aload_n 0, 1) := by decide +kernel
theorem dX8_runsOut_104 : decode cX8_runsOut 104 = .ok (.getfield 7, 3) := by decide +kernel
theorem dX8_runsOut_107 : decode cX8_runsOut 107 = .ok (.iload_n 1, 1) := by decide +kernel
theorem dX8_runsOut_108 : decode cX8_runsOut 108 = .ok (.iconst 0, 1) := by decide +kernel
theorem dX8_runsOut_109 : decode cX8_runsOut 109 = .ok (.invokestatic 107, 3) := by decide +kernel
theorem dX8_runsOut_112 : decode cX8_runsOut 112 = .ok (.iconst 4, 1) := by decide +kernel
theorem dX8_runsOut_113 : decode cX8_runsOut 113 = .ok (.iastore, 1) := by decide +kernel
theorem dX8_runsOut_114 : decode cX8_runsOut 114 = .ok (.aload_n 0, 1) := by decide +kernel
theorem dX8_runsOut_115 : decode cX8_runsOut 115 = .ok (.getfield 7, 3) := by decide +kernel
theorem dX8_runsOut_118 : decode cX8_runsOut 118 = .ok (.sipush 171, 3) := by decide +kernel
theorem dX8_runsOut_121 : decode cX8_runsOut 121 = .ok (.iconst 1, 1) := by decide +kernel
theorem dX8_runsOut_122 : decode cX8_runsOut 122 = .ok (.iastore, 1) := by decide +kernel
theorem dX8_runsOut_123 : decode cX8_runsOut 123 = .ok (.iload_n 2, 1) := by decide +kernel
theorem dX8_runsOut_124 : decode cX8_runsOut 124 = .ok (.ifCond .eq 13, 3) := by decide +kernel
theorem dX8_runsOut_127 : decode cX8_runsOut 127 = .ok (.aload_n 0, 1) := by decide +kernel
theorem dX8_runsOut_128 : decode cX8_runsOut 128 = .ok (.getfield 7, 3) := by decide +kernel
theorem dX8_runsOut_131 : decode cX8_runsOut 131 = .ok (.sipush 163, 3) := by decide +kernel
theorem dX8_runsOut_134 : decode cX8_runsOut 134 = .ok (.iconst 1, 1) := by decide +kernel
theorem dX8_runsOut_135 : decode cX8_runsOut 135 = .ok (.iastore, 1) := by decide +kernel
theorem dX8_runsOut_136 : decode cX8_runsOut 136 = .ok (.return_, 1) := by decide +kernel
theorem dX8_runsOut_137 : decode cX8_runsOut 137 = .ok (.aload_n 0, 1) := by decide +kernel
theorem dX8_runsOut_138 : decode cX8_runsOut 138 = .ok (.iconst 3, 1) := by decide +kernel
theorem dX8_runsOut_139 : decode cX8_runsOut 139 = .ok (.iload_n 1, 1) := by decide +kernel
theorem dX8_runsOut_140 : decode cX8_runsOut 140 = .ok (.imul, 1) := by decide +kernel
theorem dX8_runsOut_141 : decode cX8_runsOut 141 = .ok (.iconst 0, 1) := by decide +kernel
theorem dX8_runsOut_142 : decode cX8_runsOut 142 = .ok (.iadd, 1) := by decide +kernel
theorem dX8_runsOut_143 : decode cX8_runsOut 143 = .ok (.invokevirtual 129, 3) := by decide +kernel
theorem dX8_runsOut_146 : decode cX8_runsOut 146 = .ok (.aload_n 0, 1) := by decide +kernel
theorem dX8_runsOut_147 : decode cX8_runsOut 147 = .ok (.getfield 7, 3) := by decide +kernel
theorem dX8_runsOut_150 : decode cX8_runsOut 150 = .ok (.sipush 149, 3) := by decide +kernel
theorem dX8_runsOut_153 : decode cX8_runsOut 153 = .ok (.iaload, 1) := by decide +kernel
theorem dX8_runsOut_154 : decode cX8_runsOut 154 = .ok (.aload_n 0, 1) := by decide +kernel
theorem dX8_runsOut_155 : decode cX8_runsOut 155 = .ok (.getfield 7, 3) := by decide +kernel
theorem dX8_runsOut_158 : decode cX8_runsOut 158 = .ok (.sipush 170, 3) := by decide +kernel
theorem dX8_runsOut_161 : decode cX8_runsOut 161 = .ok (.iaload, 1) := by decide +kernel
theorem dX8_runsOut_162 : decode cX8_runsOut 162 = .ok (.isub, 1) := by decide +kernel
theorem dX8_runsOut_163 : decode cX8_runsOut 163 = .ok (.aload_n 0, 1) := by decide +kernel
theorem dX8_runsOut_164 : decode cX8_runsOut 164 = .ok (.invokevirtual 132, 3) := by decide +kernel
theorem dX8_runsOut_167 : decode cX8_runsOut 167 = .ok (.if_icmp .le 12, 3) := by decide +kernel
theorem dX8_runsOut_170 : decode cX8_runsOut 170 = .ok (.aload_n 0, 1) := by decide +kernel
theorem dX8_runsOut_171 : decode cX8_runsOut 171 = .ok (.iconst 3, 1) := by decide +kernel
theorem dX8_runsOut_172 : decode cX8_runsOut 172 = .ok (.iload_n 1, 1) := by decide +kernel
theorem dX8_runsOut_173 : decode cX8_runsOut 173 = .ok (.imul, 1) := by decide +kernel
theorem dX8_runsOut_174 : decode cX8_runsOut 174 = .ok (.iconst 1, 1) := by decide +kernel
theorem dX8_runsOut_175 : decode cX8_runsOut 175 = .ok (.iadd, 1) := by decide +kernel
theorem dX8_runsOut_176 : decode cX8_runsOut 176 = .ok (.invokevirtual 129, 3) := by decide +kernel
theorem dX8_runsOut_179 : decode cX8_runsOut 179 = .ok (.return_, 1) := by decide +kernel
set_option maxRecDepth 20000 in
theorem ggX8_changes_X8_on : GoodIn wsX8_changes wsX8_on := goodIn_r _ [5] (by decide +kernel) (by decide +kernel)
set_option maxRecDepth 20000 in
theorem gX8_changes_X8_on : GoodIn wsX8_changes (va_wsS RX8 107 yX8_on wsX8_on) := goodIn_app (goodIn_of _ (by decide +kernel)) ggX8_changes_X8_on
theorem dX8_changes_0 : decode cX8_changes 0 = .ok (.iconst 1, 1) := by decide +kernel
theorem dX8_changes_1 : decode cX8_changes 1 = .ok (.aload_n 0, 1) := by decide +kernel
theorem dX8_changes_2 : decode cX8_changes 2 = .ok (.getfield 7, 3) := by decide +kernel
theorem dX8_changes_5 : decode cX8_changes 5 = .ok (.sipush 165, 3) := by decide +kernel
theorem dX8_changes_8 : decode cX8_changes 8 = .ok (.iaload, 1) := by decide +kernel
theorem dX8_changes_9 : decode cX8_changes 9 = .ok (.isub, 1) := by decide +kernel
theorem dX8_changes_10 : decode cX8_changes 10 = .ok (.istore_n 1, 1) := by decide +kernel
theorem dX8_changes_11 : decode cX8_changes 11 = .ok (.aload_n 0, 1) := by decide +kernel
theorem dX8_changes_12 : decode cX8_changes 12 = .ok (.getfield 7, 3) := by decide +kernel
theorem dX8_changes_15 : decode cX8_changes 15 = .ok (.sipush 171, 3) := by decide +kernel
theorem dX8_changes_18 : decode cX8_changes 18 = .ok (.iaload, 1) := by decide +kernel
theorem dX8_changes_19 : decode cX8_changes 19 = .ok (.iconst 1, 1) := by decide +kernel
theorem dX8_changes_20 : decode cX8_changes 20 = .ok (.if_icmp .ne 91, 3) := by decide +kernel
theorem dX8_changes_23 : decode cX8_changes 23 = .ok (.aload_n 0, 1) := by decide +kernel
theorem dX8_changes_24 : decode cX8_changes 24 = .ok (.getfield 7, 3) := by decide +kernel
theorem dX8_changes_27 : decode cX8_changes 27 = .ok (.sipush 163, 3) := by decide +kernel
theorem dX8_changes_30 : decode cX8_changes 30 = .ok (.iaload, 1) := by decide +kernel
theorem dX8_changes_31 : decode cX8_changes 31 = .ok (.ifCond .ne 80, 3) := by decide +kernel
theorem dX8_changes_34 : decode cX8_changes 34 = .ok (.aload_n 0, 1) := by decide +kernel
theorem dX8_changes_35 : decode cX8_changes 35 = .ok (.getfield 7, 3) := by decide +kernel
theorem dX8_changes_38 : decode cX8_changes 38 = .ok (.iload_n 1, 1) := by decide +kernel
theorem dX8_changes_39 : decode cX8_changes 39 = .ok (.iconst 0, 1) := by decide +kernel
theorem dX8_changes_40 : decode cX8_changes 40 = .ok (.invokestatic 107, 3) := by decide +kernel
theorem dX8_changes_43 : decode cX8_changes 43 = .ok (.iaload, 1) := by decide +kernel
theorem dX8_changes_44 : decode cX8_changes 44 = .ok (.iconst 2, 1) := by decide +kernel
theorem dX8_changes_45 : decode cX8_changes 45 = .ok (.if_icmp .ne 66, 3) := by decide +kernel
theorem dX8_changes_48 : decode cX8_changes 48 = .ok (.aload_n 0, 1) := by decide +kernel
theorem dX8_changes_49 : decode cX8_changes 49 = .ok (.getfield 7, 3) := by decide +kernel
theorem dX8_changes_52 : decode cX8_changes 52 = .ok (.iload_n 1, 1) := by decide +kernel
theorem dX8_changes_53 : decode cX8_changes 53 = .ok (.iconst 2, 1) := by decide +kernel
theorem dX8_changes_54 : decode cX8_changes 54 = .ok (.invokestatic 107, 3) := by decide +kernel
theorem dX8_changes_57 : decode cX8_changes 57 = .ok (.iaload, 1) := by decide +kernel
theorem dX8_changes_58 : decode cX8_changes 58 = .ok (.ifCond .lt 53, 3) := by decide +kernel
theorem dX8_changes_61 : decode cX8_changes 61 = .ok (.aload_n 0, 1) := by decide +kernel
theorem dX8_changes_62 : decode cX8_changes 62 = .ok (.getfield 7, 3) := by decide +kernel
theorem dX8_changes_65 : decode cX8_changes 65 = .ok (.iload_n 1, 1) := by decide +kernel
theorem dX8_changes_66 : decode cX8_changes 66 = .ok (.iconst 0, 1) := by decide +kernel
theorem dX8_changes_67 : decode cX8_changes 67 = .ok (.invokestatic 107, 3) := by decide +kernel
theorem dX8_changes_70 : decode cX8_changes 70 = .ok (.iconst 3, 1) := by decide +kernel
theorem dX8_changes_71 : decode cX8_changes 71 = .ok (.iastore, 1) := by decide +kernel
theorem dX8_changes_72 : decode cX8_changes 72 = .ok (.aload_n 0, 1) := by decide +kernel
theorem dX8_changes_73 : decode cX8_changes 73 = .ok (.getfield 7, 3) := by decide +kernel
theorem dX8_changes_76 : decode cX8_changes 76 = .ok (.sipush 165, 3) := by decide +kernel
theorem dX8_changes_79 : decode cX8_changes 79 = .ok (.iload_n 1, 1) := by decide +kernel
theorem dX8_changes_80 : decode cX8_changes 80 = .ok (.iastore, 1) := by decide +kernel
theorem dX8_changes_81 : decode cX8_changes 81 = .ok (.aload_n 0, 1) := by decide +kernel
theorem dX8_changes_82 : decode cX8_changes 82 = .ok (.getfield 7, 3) := by decide +kernel
theorem dX8_changes_85 : decode cX8_changes 85 = .ok (.sipush 171, 3) := by decide +kernel
theorem dX8_changes_88 : decode cX8_changes 88 = .ok (.iconst 0, 1) := by decide +kernel
theorem dX8_changes_89 : decode cX8_changes 89 = .ok (.iastore, 1) := by decide +kernel
theorem dX8_changes_90 : decode cX8_changes 90 = .ok (.aload_n 0, 1) := by decide +kernel
theorem dX8_changes_91 : decode cX8_changes 91 = .ok (.getfield 7, 3) := by decide +kernel
theorem dX8_changes_94 : decode cX8_changes 94 = .ok (.sipush 167, 3) := by decide +kernel
theorem dX8_changes_97 : decode cX8_changes 97 = .ok (.dup2, 1) := by decide +kernel
theorem dX8_changes_98 : decode cX8_changes 98 = .ok (.iaload, 1) := by decide +kernel
theorem dX8_changes_99 : decode cX8_changes 99 = .ok (.aload_n 0, 1) := by decide +kernel
theorem dX8_changes_100 : decode cX8_changes 100 = .ok (.getfield 7, 3) := by decide +kernel
theorem dX8_changes_103 : decode cX8_changes 103 = .ok (.iload_n 1, 1) := by decide +kernel
theorem dX8_changes_104 : decode cX8_changes 104 = .ok (.iconst 2, 1) := by decide +kernel
theorem dX8_changes_105 : decode cX8_changes 105 = .ok (.invokestatic 107, 3) := by decide +kernel
theorem dX8_changes_108 : decode cX8_changes 108 = .ok (.iaload, 1) := by decide +kernel
theorem dX8_changes_109 : decode cX8_changes 109 = .ok (.iadd, 1) := by decide +kernel
theorem dX8_changes_110 : decode cX8_changes 110 = .ok (.iastore, 1) := by decide +kernel
theorem dX8_changes_111 : decode cX8_changes 111 = .ok (.return_, 1) := by decide +kernel
set_option maxRecDepth 20000 in
theorem ggX8_ticks_X8_works : GoodIn wsX8_ticks wsX8_works := goodIn_r _ [6, 1, 7, 8, 9, 5, 10, 11, 12, 13, 14, 15, 16, 17, 18, 19, 20, 21, 22, 23, 24, 25, 26, 27, 28, 29, 30, 31, 32, 33, 34, 35, 36, 37, 38, 39, 40, 69, 70, 71, 72, 73, 74, 75, 76, 77, 78, 79, 80, 81, 82, 83] (by decide +kernel) (by decide +kernel)
set_option maxRecDepth 20000 in
theorem gX8_ticks_X8_works : GoodIn wsX8_ticks (wsV RX8 135 RX8 yX8_works wsX8_works) := goodIn_app (goodIn_of _ (by decide +kernel)) ggX8_ticks_X8_works
set_option maxRecDepth 20000 in
theorem ggX8_ticks_X8_starts : GoodIn wsX8_ticks wsX8_starts := goodIn_r _ [44, 1, 11, 12, 5, 13, 18, 19, 20, 21, 22, 23, 24, 25, 26, 27, 28, 69, 70, 71, 72, 73, 74, 75, 76, 77, 78, 79, 80, 81, 82, 83] (by decide +kernel) (by decide +kernel)
set_option maxRecDepth 20000 in
theorem gX8_ticks_X8_starts : GoodIn wsX8_ticks (wsV RX8 138 RX8 yX8_starts wsX8_starts) := goodIn_app (goodIn_of _ (by decide +kernel)) ggX8_ticks_X8_starts
set_option maxRecDepth 20000 in
theorem ggX8_ticks_X8_goes : GoodIn wsX8_ticks wsX8_goes := goodIn_r _ [48, 1, 11, 12, 5, 13, 69, 70, 71, 72, 73, 74, 75, 76, 77, 78, 79, 80, 81, 82, 83] (by decide +kernel) (by decide +kernel)
set_option maxRecDepth 20000 in
theorem gX8_ticks_X8_goes : GoodIn wsX8_ticks (wsV RX8 141 RX8 yX8_goes wsX8_goes) := goodIn_app (goodIn_of _ (by decide +kernel)) ggX8_ticks_X8_goes
set_option maxRecDepth 20000 in
theorem ggX8_ticks_X8_wears : GoodIn wsX8_ticks wsX8_wears := goodIn_r _ [52, 1, 11, 12, 5, 13, 22, 23, 24, 25, 29, 30, 31, 32, 33, 34, 35, 36, 26, 27, 28, 69, 70, 71, 72, 73, 74, 75, 76, 77, 78, 79, 80, 81, 82, 83] (by decide +kernel) (by decide +kernel)
set_option maxRecDepth 20000 in
theorem gX8_ticks_X8_wears : GoodIn wsX8_ticks (wsV RX8 144 RX8 yX8_wears wsX8_wears) := goodIn_app (goodIn_of _ (by decide +kernel)) ggX8_ticks_X8_wears
set_option maxRecDepth 20000 in
theorem ggX8_ticks_X8_runsOut : GoodIn wsX8_ticks wsX8_runsOut := goodIn_r _ [56, 1, 11, 12, 5, 13, 18, 19, 20, 21, 22, 23, 24, 25, 26, 27, 28, 57, 58, 59, 60, 61, 62, 63, 64, 69, 70, 71, 72, 73, 74, 75, 76, 77, 78, 79, 80, 81, 82, 83] (by decide +kernel) (by decide +kernel)
set_option maxRecDepth 20000 in
theorem gX8_ticks_X8_runsOut : GoodIn wsX8_ticks (wsV RX8 147 RX8 yX8_runsOut wsX8_runsOut) := goodIn_app (goodIn_of _ (by decide +kernel)) ggX8_ticks_X8_runsOut
set_option maxRecDepth 20000 in
theorem ggX8_ticks_X8_changes : GoodIn wsX8_ticks wsX8_changes := goodIn_r _ [68, 1, 11, 12, 5, 13, 69, 70, 71, 72, 73, 74, 75, 76, 77, 78, 79, 80, 81, 82, 83] (by decide +kernel) (by decide +kernel)
set_option maxRecDepth 20000 in
theorem gX8_ticks_X8_changes : GoodIn wsX8_ticks (wsV RX8 150 RX8 yX8_changes wsX8_changes) := goodIn_app (goodIn_of _ (by decide +kernel)) ggX8_ticks_X8_changes
set_option maxRecDepth 20000 in
theorem ggX8_ticks_X8_on : GoodIn wsX8_ticks wsX8_on := goodIn_r _ [13] (by decide +kernel) (by decide +kernel)
set_option maxRecDepth 20000 in
theorem gX8_ticks_X8_on : GoodIn wsX8_ticks (va_wsS RX8 107 yX8_on wsX8_on) := goodIn_app (goodIn_of _ (by decide +kernel)) ggX8_ticks_X8_on
theorem dX8_ticks_0 : decode cX8_ticks 0 = .ok (.aload_n 0, 1) := by decide +kernel
theorem dX8_ticks_1 : decode cX8_ticks 1 = .ok (.invokevirtual 135, 3) := by decide +kernel
theorem dX8_ticks_4 : decode cX8_ticks 4 = .ok (.aload_n 0, 1) := by decide +kernel
theorem dX8_ticks_5 : decode cX8_ticks 5 = .ok (.invokevirtual 138, 3) := by decide +kernel
theorem dX8_ticks_8 : decode cX8_ticks 8 = .ok (.aload_n 0, 1) := by decide +kernel
theorem dX8_ticks_9 : decode cX8_ticks 9 = .ok (.invokevirtual 141, 3) := by decide +kernel
theorem dX8_ticks_12 : decode cX8_ticks 12 = .ok (.aload_n 0, 1) := by decide +kernel
theorem dX8_ticks_13 : decode cX8_ticks 13 = .ok (.invokevirtual 144, 3) := by decide +kernel
theorem dX8_ticks_16 : decode cX8_ticks 16 = .ok (.aload_n 0, 1) := by decide +kernel
theorem dX8_ticks_17 : decode cX8_ticks 17 = .ok (.invokevirtual 147, 3) := by decide +kernel
theorem dX8_ticks_20 : decode cX8_ticks 20 = .ok (.aload_n 0, 1) := by decide +kernel
theorem dX8_ticks_21 : decode cX8_ticks 21 = .ok (.invokevirtual 150, 3) := by decide +kernel
theorem dX8_ticks_24 : decode cX8_ticks 24 = .ok (.aload_n 0, 1) := by decide +kernel
theorem dX8_ticks_25 : decode cX8_ticks 25 = .ok (.getfield 7, 3) := by decide +kernel
theorem dX8_ticks_28 : decode cX8_ticks 28 = .ok (.sipush 164, 3) := by decide +kernel
theorem dX8_ticks_31 : decode cX8_ticks 31 = .ok (.dup2, 1) := by decide +kernel
theorem dX8_ticks_32 : decode cX8_ticks 32 = .ok (.iaload, 1) := by decide +kernel
theorem dX8_ticks_33 : decode cX8_ticks 33 = .ok (.iconst 1, 1) := by decide +kernel
theorem dX8_ticks_34 : decode cX8_ticks 34 = .ok (.iadd, 1) := by decide +kernel
theorem dX8_ticks_35 : decode cX8_ticks 35 = .ok (.iastore, 1) := by decide +kernel
theorem dX8_ticks_36 : decode cX8_ticks 36 = .ok (.aload_n 0, 1) := by decide +kernel
theorem dX8_ticks_37 : decode cX8_ticks 37 = .ok (.getfield 7, 3) := by decide +kernel
theorem dX8_ticks_40 : decode cX8_ticks 40 = .ok (.sipush 166, 3) := by decide +kernel
theorem dX8_ticks_43 : decode cX8_ticks 43 = .ok (.dup2, 1) := by decide +kernel
theorem dX8_ticks_44 : decode cX8_ticks 44 = .ok (.iaload, 1) := by decide +kernel
theorem dX8_ticks_45 : decode cX8_ticks 45 = .ok (.aload_n 0, 1) := by decide +kernel
theorem dX8_ticks_46 : decode cX8_ticks 46 = .ok (.getfield 7, 3) := by decide +kernel
theorem dX8_ticks_49 : decode cX8_ticks 49 = .ok (.sipush 163, 3) := by decide +kernel
theorem dX8_ticks_52 : decode cX8_ticks 52 = .ok (.iaload, 1) := by decide +kernel
theorem dX8_ticks_53 : decode cX8_ticks 53 = .ok (.ifCond .ne 40, 3) := by decide +kernel
theorem dX8_ticks_56 : decode cX8_ticks 56 = .ok (.aload_n 0, 1) := by decide +kernel
theorem dX8_ticks_57 : decode cX8_ticks 57 = .ok (.getfield 7, 3) := by decide +kernel
theorem dX8_ticks_60 : decode cX8_ticks 60 = .ok (.aload_n 0, 1) := by decide +kernel
theorem dX8_ticks_61 : decode cX8_ticks 61 = .ok (.getfield 7, 3) := by decide +kernel
theorem dX8_ticks_64 : decode cX8_ticks 64 = .ok (.sipush 165, 3) := by decide +kernel
theorem dX8_ticks_67 : decode cX8_ticks 67 = .ok (.iaload, 1) := by decide +kernel
theorem dX8_ticks_68 : decode cX8_ticks 68 = .ok (.iconst 0, 1) := by decide +kernel
theorem dX8_ticks_69 : decode cX8_ticks 69 = .ok (.invokestatic 107, 3) := by decide +kernel
theorem dX8_ticks_72 : decode cX8_ticks 72 = .ok (.iaload, 1) := by decide +kernel
theorem dX8_ticks_73 : decode cX8_ticks 73 = .ok (.iconst 3, 1) := by decide +kernel
theorem dX8_ticks_74 : decode cX8_ticks 74 = .ok (.if_icmp .ne 15, 3) := by decide +kernel
theorem dX8_ticks_77 : decode cX8_ticks 77 = .ok (.aload_n 0, 1) := by decide +kernel
theorem dX8_ticks_78 : decode cX8_ticks 78 = .ok (.getfield 7, 3) := by decide +kernel
theorem dX8_ticks_81 : decode cX8_ticks 81 = .ok (.sipush 171, 3) := by decide +kernel
theorem dX8_ticks_84 : decode cX8_ticks 84 = .ok (.iaload, 1) := by decide +kernel
theorem dX8_ticks_85 : decode cX8_ticks 85 = .ok (.iconst 1, 1) := by decide +kernel
theorem dX8_ticks_86 : decode cX8_ticks 86 = .ok (.if_icmp .ne 7, 3) := by decide +kernel
theorem dX8_ticks_89 : decode cX8_ticks 89 = .ok (.iconst 1, 1) := by decide +kernel
theorem dX8_ticks_90 : decode cX8_ticks 90 = .ok (.goto 4, 3) := by decide +kernel
theorem dX8_ticks_93 : decode cX8_ticks 93 = .ok (.iconst 0, 1) := by decide +kernel
theorem dX8_ticks_94 : decode cX8_ticks 94 = .ok (.iadd, 1) := by decide +kernel
theorem dX8_ticks_95 : decode cX8_ticks 95 = .ok (.iastore, 1) := by decide +kernel
theorem dX8_ticks_96 : decode cX8_ticks 96 = .ok (.return_, 1) := by decide +kernel
set_option maxRecDepth 20000 in
theorem ggX8_passes_X8_ticks : GoodIn wsX8_passes wsX8_ticks := goodIn_r _ [6, 1, 7, 8, 9, 5, 10, 11, 12, 13, 14, 15, 16, 17, 18, 19, 20, 21, 22, 23, 24, 25, 26, 27, 28, 29, 30, 31, 32, 33, 34, 35, 36, 37, 38, 39, 40, 41, 42, 43, 44, 45, 46, 47, 48, 49, 50, 51, 52, 53, 54, 55, 56, 57, 58, 59, 60, 61, 62, 63, 64, 65, 66, 67, 68, 69, 70, 71, 72, 73, 74, 75, 76, 77, 78, 79, 80, 81, 82, 83, 84, 85, 86, 87] (by decide +kernel) (by decide +kernel)
set_option maxRecDepth 20000 in
theorem gX8_passes_X8_ticks : GoodIn wsX8_passes (wsV RX8 153 RX8 yX8_ticks wsX8_ticks) := goodIn_app (goodIn_of _ (by decide +kernel)) ggX8_passes_X8_ticks
theorem dX8_passes_0 : decode cX8_passes 0 = .ok (.iconst 0, 1) := by decide +kernel
theorem dX8_passes_1 : decode cX8_passes 1 = .ok (.istore_n 2, 1) := by decide +kernel
theorem dX8_passes_2 : decode cX8_passes 2 = .ok (.iload_n 2, 1) := by decide +kernel
theorem dX8_passes_3 : decode cX8_passes 3 = .ok (.iload_n 1, 1) := by decide +kernel
theorem dX8_passes_4 : decode cX8_passes 4 = .ok (.if_icmp .ge 24, 3) := by decide +kernel
theorem dX8_passes_7 : decode cX8_passes 7 = .ok (.aload_n 0, 1) := by decide +kernel
theorem dX8_passes_8 : decode cX8_passes 8 = .ok (.getfield 7, 3) := by decide +kernel
theorem dX8_passes_11 : decode cX8_passes 11 = .ok (.sipush 163, 3) := by decide +kernel
theorem dX8_passes_14 : decode cX8_passes 14 = .ok (.iaload, 1) := by decide +kernel
theorem dX8_passes_15 : decode cX8_passes 15 = .ok (.ifCond .ne 13, 3) := by decide +kernel
theorem dX8_passes_18 : decode cX8_passes 18 = .ok (.aload_n 0, 1) := by decide +kernel
theorem dX8_passes_19 : decode cX8_passes 19 = .ok (.invokevirtual 153, 3) := by decide +kernel
theorem dX8_passes_22 : decode cX8_passes 22 = .ok (.iinc 2 1, 3) := by decide +kernel
theorem dX8_passes_25 : decode cX8_passes 25 = .ok (.goto (-23), 3) := by decide +kernel
theorem dX8_passes_28 : decode cX8_passes 28 = .ok (.iload_n 2, 1) := by decide +kernel
theorem dX8_passes_29 : decode cX8_passes 29 = .ok (.ireturn, 1) := by decide +kernel
set_option maxRecDepth 20000 in
theorem ggX8_pass_X8_in : GoodIn wsX8_pass wsX8_in := goodIn_r _ [6] (by decide +kernel) (by decide +kernel)
set_option maxRecDepth 20000 in
theorem gX8_pass_X8_in : GoodIn wsX8_pass (va_wsS RX8 47 yX8_in wsX8_in) := goodIn_app (goodIn_of _ (by decide +kernel)) ggX8_pass_X8_in
set_option maxRecDepth 20000 in
theorem ggX8_pass_X8_isRunning : GoodIn wsX8_pass wsX8_isRunning := goodIn_r _ [10, 11, 86, 87, 88, 89, 90, 91, 92, 93, 94, 95, 96, 97, 98, 99, 100] (by decide +kernel) (by decide +kernel)
set_option maxRecDepth 20000 in
theorem gX8_pass_X8_isRunning : GoodIn wsX8_pass (wsV RX8 100 RX8 yX8_isRunning wsX8_isRunning) := goodIn_app (goodIn_of _ (by decide +kernel)) ggX8_pass_X8_isRunning
set_option maxRecDepth 20000 in
theorem ggX8_pass_X8_passes : GoodIn wsX8_pass wsX8_passes := goodIn_r _ [15, 11, 16, 17, 18, 5, 19, 20, 21, 22, 23, 24, 25, 26, 27, 28, 29, 30, 31, 32, 33, 34, 35, 36, 37, 38, 39, 40, 41, 42, 43, 44, 45, 46, 47, 48, 49, 50, 51, 52, 53, 54, 55, 56, 57, 58, 59, 60, 61, 62, 63, 64, 65, 66, 67, 68, 69, 70, 71, 72, 73, 74, 75, 76, 77, 78, 79, 80, 81, 82, 83, 84, 85, 86, 87, 88, 89, 90, 91, 92, 93, 94, 95, 96, 97, 98, 99, 100] (by decide +kernel) (by decide +kernel)
set_option maxRecDepth 20000 in
theorem gX8_pass_X8_passes : GoodIn wsX8_pass (wsV RX8 156 RX8 yX8_passes wsX8_passes) := goodIn_app (goodIn_of _ (by decide +kernel)) ggX8_pass_X8_passes
theorem dX8_pass_0 : decode cX8_pass 0 = .ok (.iload_n 1, 1) := by decide +kernel
theorem dX8_pass_1 : decode cX8_pass 1 = .ok (.iconst 1, 1) := by decide +kernel
theorem dX8_pass_2 : decode cX8_pass 2 = .ok (.sipush 2000, 3) := by decide +kernel
theorem dX8_pass_5 : decode cX8_pass 5 = .ok (.invokestatic 47, 3) := by decide +kernel
theorem dX8_pass_8 : decode cX8_pass 8 = .ok (.ifCond .ne 6, 3) := by decide +kernel
theorem dX8_pass_11 : decode cX8_pass 11 = .ok (.ldc 51, 2) := by decide +kernel
theorem dX8_pass_13 : decode cX8_pass 13 = .ok (.ireturn, 1) := by decide +kernel
theorem dX8_pass_14 : decode cX8_pass 14 = .ok (.aload_n 0, 1) := by decide +kernel
theorem dX8_pass_15 : decode cX8_pass 15 = .ok (.invokevirtual 100, 3) := by decide +kernel
theorem dX8_pass_18 : decode cX8_pass 18 = .ok (.ifCond .eq 11, 3) := by decide +kernel
theorem dX8_pass_21 : decode cX8_pass 21 = .ok (.aload_n 0, 1) := by decide +kernel
theorem dX8_pass_22 : decode cX8_pass 22 = .ok (.iload_n 1, 1) := by decide +kernel
theorem dX8_pass_23 : decode cX8_pass 23 = .ok (.invokevirtual 156, 3) := by decide +kernel
theorem dX8_pass_26 : decode cX8_pass 26 = .ok (.goto 5, 3) := by decide +kernel
theorem dX8_pass_29 : decode cX8_pass 29 = .ok (.ldc 103, 2) := by decide +kernel
theorem dX8_pass_31 : decode cX8_pass 31 = .ok (.ireturn, 1) := by decide +kernel
set_option maxRecDepth 20000 in
theorem ggX8_showTells_X8_isRunning : GoodIn wsX8_showTells wsX8_isRunning := goodIn_r _ [6, 1, 7, 8, 9, 10, 11, 12, 13, 14, 15, 16, 17, 18, 19, 20, 21] (by decide +kernel) (by decide +kernel)
set_option maxRecDepth 20000 in
theorem gX8_showTells_X8_isRunning : GoodIn wsX8_showTells (wsV RX8 100 RX8 yX8_isRunning wsX8_isRunning) := goodIn_app (goodIn_of _ (by decide +kernel)) ggX8_showTells_X8_isRunning
theorem dX8_showTells_0 : decode cX8_showTells 0 = .ok (.iload_n 1, 1) := by decide +kernel
theorem dX8_showTells_1 : decode cX8_showTells 1 = .ok (.tableswitch 136 0 8 #[51, 64, 73, 82, 91, 100, 109, 118, 127], 51) := by decide +kernel
theorem dX8_showTells_52 : decode cX8_showTells 52 = .ok (.aload_n 0, 1) := by decide +kernel
theorem dX8_showTells_53 : decode cX8_showTells 53 = .ok (.invokevirtual 100, 3) := by decide +kernel
theorem dX8_showTells_56 : decode cX8_showTells 56 = .ok (.ifCond .eq 7, 3) := by decide +kernel
theorem dX8_showTells_59 : decode cX8_showTells 59 = .ok (.iconst 1, 1) := by decide +kernel
theorem dX8_showTells_60 : decode cX8_showTells 60 = .ok (.goto 4, 3) := by decide +kernel
theorem dX8_showTells_63 : decode cX8_showTells 63 = .ok (.iconst 0, 1) := by decide +kernel
theorem dX8_showTells_64 : decode cX8_showTells 64 = .ok (.ireturn, 1) := by decide +kernel
theorem dX8_showTells_65 : decode cX8_showTells 65 = .ok (.aload_n 0, 1) := by decide +kernel
theorem dX8_showTells_66 : decode cX8_showTells 66 = .ok (.getfield 7, 3) := by decide +kernel
theorem dX8_showTells_69 : decode cX8_showTells 69 = .ok (.sipush 164, 3) := by decide +kernel
theorem dX8_showTells_72 : decode cX8_showTells 72 = .ok (.iaload, 1) := by decide +kernel
theorem dX8_showTells_73 : decode cX8_showTells 73 = .ok (.ireturn, 1) := by decide +kernel
theorem dX8_showTells_74 : decode cX8_showTells 74 = .ok (.aload_n 0, 1) := by decide +kernel
theorem dX8_showTells_75 : decode cX8_showTells 75 = .ok (.getfield 7, 3) := by decide +kernel
theorem dX8_showTells_78 : decode cX8_showTells 78 = .ok (.sipush 165, 3) := by decide +kernel
theorem dX8_showTells_81 : decode cX8_showTells 81 = .ok (.iaload, 1) := by decide +kernel
theorem dX8_showTells_82 : decode cX8_showTells 82 = .ok (.ireturn, 1) := by decide +kernel
theorem dX8_showTells_83 : decode cX8_showTells 83 = .ok (.aload_n 0, 1) := by decide +kernel
theorem dX8_showTells_84 : decode cX8_showTells 84 = .ok (.getfield 7, 3) := by decide +kernel
theorem dX8_showTells_87 : decode cX8_showTells 87 = .ok (.sipush 166, 3) := by decide +kernel
theorem dX8_showTells_90 : decode cX8_showTells 90 = .ok (.iaload, 1) := by decide +kernel
theorem dX8_showTells_91 : decode cX8_showTells 91 = .ok (.ireturn, 1) := by decide +kernel
theorem dX8_showTells_92 : decode cX8_showTells 92 = .ok (.aload_n 0, 1) := by decide +kernel
theorem dX8_showTells_93 : decode cX8_showTells 93 = .ok (.getfield 7, 3) := by decide +kernel
theorem dX8_showTells_96 : decode cX8_showTells 96 = .ok (.sipush 167, 3) := by decide +kernel
theorem dX8_showTells_99 : decode cX8_showTells 99 = .ok (.iaload, 1) := by decide +kernel
theorem dX8_showTells_100 : decode cX8_showTells 100 = .ok (.ireturn, 1) := by decide +kernel
theorem dX8_showTells_101 : decode cX8_showTells 101 = .ok (.aload_n 0, 1) := by decide +kernel
theorem dX8_showTells_102 : decode cX8_showTells 102 = .ok (.getfield 7, 3) := by decide +kernel
theorem dX8_showTells_105 : decode cX8_showTells 105 = .ok (.sipush 168, 3) := by decide +kernel
theorem dX8_showTells_108 : decode cX8_showTells 108 = .ok (.iaload, 1) := by decide +kernel
theorem dX8_showTells_109 : decode cX8_showTells 109 = .ok (.ireturn, 1) := by decide +kernel
theorem dX8_showTells_110 : decode cX8_showTells 110 = .ok (.aload_n 0, 1) := by decide +kernel
theorem dX8_showTells_111 : decode cX8_showTells 111 = .ok (.getfield 7, 3) := by decide +kernel
theorem dX8_showTells_114 : decode cX8_showTells 114 = .ok (.sipush 169, 3) := by decide +kernel
theorem dX8_showTells_117 : decode cX8_showTells 117 = .ok (.iaload, 1) := by decide +kernel
theorem dX8_showTells_118 : decode cX8_showTells 118 = .ok (.ireturn, 1) := by decide +kernel
theorem dX8_showTells_119 : decode cX8_showTells 119 = .ok (.aload_n 0, 1) := by decide +kernel
theorem dX8_showTells_120 : decode cX8_showTells 120 = .ok (.getfield 7, 3) := by decide +kernel
theorem dX8_showTells_123 : decode cX8_showTells 123 = .ok (.sipush 170, 3) := by decide +kernel
theorem dX8_showTells_126 : decode cX8_showTells 126 = .ok (.iaload, 1) := by decide +kernel
theorem dX8_showTells_127 : decode cX8_showTells 127 = .ok (.ireturn, 1) := by decide +kernel
theorem dX8_showTells_128 : decode cX8_showTells 128 = .ok (.aload_n 0, 1) := by decide +kernel
theorem dX8_showTells_129 : decode cX8_showTells 129 = .ok (.getfield 7, 3) := by decide +kernel
theorem dX8_showTells_132 : decode cX8_showTells 132 = .ok (.sipush 174, 3) := by decide +kernel
theorem dX8_showTells_135 : decode cX8_showTells 135 = .ok (.iaload, 1) := by decide +kernel
theorem dX8_showTells_136 : decode cX8_showTells 136 = .ok (.ireturn, 1) := by decide +kernel
theorem dX8_showTells_137 : decode cX8_showTells 137 = .ok (.aload_n 0, 1) := by decide +kernel
theorem dX8_showTells_138 : decode cX8_showTells 138 = .ok (.getfield 7, 3) := by decide +kernel
theorem dX8_showTells_141 : decode cX8_showTells 141 = .ok (.sipush 172, 3) := by decide +kernel
theorem dX8_showTells_144 : decode cX8_showTells 144 = .ok (.iaload, 1) := by decide +kernel
theorem dX8_showTells_145 : decode cX8_showTells 145 = .ok (.ifCond .ge 7, 3) := by decide +kernel
theorem dX8_showTells_148 : decode cX8_showTells 148 = .ok (.iconst 0, 1) := by decide +kernel
theorem dX8_showTells_149 : decode cX8_showTells 149 = .ok (.goto 11, 3) := by decide +kernel
theorem dX8_showTells_152 : decode cX8_showTells 152 = .ok (.aload_n 0, 1) := by decide +kernel
theorem dX8_showTells_153 : decode cX8_showTells 153 = .ok (.getfield 7, 3) := by decide +kernel
theorem dX8_showTells_156 : decode cX8_showTells 156 = .ok (.sipush 173, 3) := by decide +kernel
theorem dX8_showTells_159 : decode cX8_showTells 159 = .ok (.iaload, 1) := by decide +kernel
theorem dX8_showTells_160 : decode cX8_showTells 160 = .ok (.ireturn, 1) := by decide +kernel
set_option maxRecDepth 20000 in
theorem ggX8_tell_X8_in : GoodIn wsX8_tell wsX8_in := goodIn_r _ [5] (by decide +kernel) (by decide +kernel)
set_option maxRecDepth 20000 in
theorem gX8_tell_X8_in : GoodIn wsX8_tell (va_wsS RX8 47 yX8_in wsX8_in) := goodIn_app (goodIn_of _ (by decide +kernel)) ggX8_tell_X8_in
set_option maxRecDepth 20000 in
theorem ggX8_tell_X8_showTells : GoodIn wsX8_tell wsX8_showTells := goodIn_r _ [9, 10, 11, 12, 13, 4, 14, 15, 16, 17, 18, 19, 20, 21, 22, 23, 24, 25, 26, 27, 28, 29] (by decide +kernel) (by decide +kernel)
set_option maxRecDepth 20000 in
theorem gX8_tell_X8_showTells : GoodIn wsX8_tell (wsV RX8 159 RX8 yX8_showTells wsX8_showTells) := goodIn_app (goodIn_of _ (by decide +kernel)) ggX8_tell_X8_showTells
theorem dX8_tell_0 : decode cX8_tell 0 = .ok (.iload_n 1, 1) := by decide +kernel
theorem dX8_tell_1 : decode cX8_tell 1 = .ok (.iconst 0, 1) := by decide +kernel
theorem dX8_tell_2 : decode cX8_tell 2 = .ok (.bipush 9, 2) := by decide +kernel
theorem dX8_tell_4 : decode cX8_tell 4 = .ok (.invokestatic 47, 3) := by decide +kernel
theorem dX8_tell_7 : decode cX8_tell 7 = .ok (.ifCond .eq 11, 3) := by decide +kernel
theorem dX8_tell_10 : decode cX8_tell 10 = .ok (.aload_n 0, 1) := by decide +kernel
theorem dX8_tell_11 : decode cX8_tell 11 = .ok (.iload_n 1, 1) := by decide +kernel
theorem dX8_tell_12 : decode cX8_tell 12 = .ok (.invokevirtual 159, 3) := by decide +kernel
theorem dX8_tell_15 : decode cX8_tell 15 = .ok (.goto 5, 3) := by decide +kernel
theorem dX8_tell_18 : decode cX8_tell 18 = .ok (.ldc 64, 2) := by decide +kernel
theorem dX8_tell_20 : decode cX8_tell 20 = .ok (.ireturn, 1) := by decide +kernel
set_option maxRecDepth 20000 in
theorem ggX8_projectorTells_X8_on : GoodIn wsX8_projectorTells wsX8_on := goodIn_r _ [6] (by decide +kernel) (by decide +kernel)
set_option maxRecDepth 20000 in
theorem gX8_projectorTells_X8_on : GoodIn wsX8_projectorTells (va_wsS RX8 107 yX8_on wsX8_on) := goodIn_app (goodIn_of _ (by decide +kernel)) ggX8_projectorTells_X8_on
theorem dX8_projectorTells_0 : decode cX8_projectorTells 0 = .ok (.aload_n 0, 1) := by decide +kernel
theorem dX8_projectorTells_1 : decode cX8_projectorTells 1 = .ok (.getfield 7, 3) := by decide +kernel
theorem dX8_projectorTells_4 : decode cX8_projectorTells 4 = .ok (.iload_n 1, 1) := by decide +kernel
theorem dX8_projectorTells_5 : decode cX8_projectorTells 5 = .ok (.iconst 0, 1) := by decide +kernel
theorem dX8_projectorTells_6 : decode cX8_projectorTells 6 = .ok (.invokestatic 107, 3) := by decide +kernel
theorem dX8_projectorTells_9 : decode cX8_projectorTells 9 = .ok (.iaload, 1) := by decide +kernel
theorem dX8_projectorTells_10 : decode cX8_projectorTells 10 = .ok (.istore_n 3, 1) := by decide +kernel
theorem dX8_projectorTells_11 : decode cX8_projectorTells 11 = .ok (.iload_n 3, 1) := by decide +kernel
theorem dX8_projectorTells_12 : decode cX8_projectorTells 12 = .ok (.iconst 2, 1) := by decide +kernel
theorem dX8_projectorTells_13 : decode cX8_projectorTells 13 = .ok (.if_icmp .eq 13, 3) := by decide +kernel
theorem dX8_projectorTells_16 : decode cX8_projectorTells 16 = .ok (.iload_n 3, 1) := by decide +kernel
theorem dX8_projectorTells_17 : decode cX8_projectorTells 17 = .ok (.iconst 3, 1) := by decide +kernel
theorem dX8_projectorTells_18 : decode cX8_projectorTells 18 = .ok (.if_icmp .eq 8, 3) := by decide +kernel
theorem dX8_projectorTells_21 : decode cX8_projectorTells 21 = .ok (.iload_n 3, 1) := by decide +kernel
theorem dX8_projectorTells_22 : decode cX8_projectorTells 22 = .ok (.iconst 5, 1) := by decide +kernel
theorem dX8_projectorTells_23 : decode cX8_projectorTells 23 = .ok (.if_icmp .ne 7, 3) := by decide +kernel
theorem dX8_projectorTells_26 : decode cX8_projectorTells 26 = .ok (.iconst 1, 1) := by decide +kernel
theorem dX8_projectorTells_27 : decode cX8_projectorTells 27 = .ok (.goto 4, 3) := by decide +kernel
theorem dX8_projectorTells_30 : decode cX8_projectorTells 30 = .ok (.iconst 0, 1) := by decide +kernel
theorem dX8_projectorTells_31 : decode cX8_projectorTells 31 = .ok (.istore 4, 2) := by decide +kernel
theorem dX8_projectorTells_33 : decode cX8_projectorTells 33 = .ok (.iload_n 2, 1) := by decide +kernel
theorem dX8_projectorTells_34 : decode cX8_projectorTells 34 = .ok (.ifCond .ne 7, 3) := by decide +kernel
theorem dX8_projectorTells_37 : decode cX8_projectorTells 37 = .ok (.iload_n 3, 1) := by decide +kernel
theorem dX8_projectorTells_38 : decode cX8_projectorTells 38 = .ok (.goto 50, 3) := by decide +kernel
theorem dX8_projectorTells_41 : decode cX8_projectorTells 41 = .ok (.iload_n 2, 1) := by decide +kernel
theorem dX8_projectorTells_42 : decode cX8_projectorTells 42 = .ok (.iconst 1, 1) := by decide +kernel
theorem dX8_projectorTells_43 : decode cX8_projectorTells 43 = .ok (.if_icmp .ne 25, 3) := by decide +kernel
theorem dX8_projectorTells_46 : decode cX8_projectorTells 46 = .ok (.iload_n 3, 1) := by decide +kernel
theorem dX8_projectorTells_47 : decode cX8_projectorTells 47 = .ok (.ifCond .ne 8, 3) := by decide +kernel
theorem dX8_projectorTells_50 : decode cX8_projectorTells 50 = .ok (.ldc 68, 2) := by decide +kernel
theorem dX8_projectorTells_52 : decode cX8_projectorTells 52 = .ok (.goto 36, 3) := by decide +kernel
theorem dX8_projectorTells_55 : decode cX8_projectorTells 55 = .ok (.aload_n 0, 1) := by decide +kernel
theorem dX8_projectorTells_56 : decode cX8_projectorTells 56 = .ok (.getfield 7, 3) := by decide +kernel
theorem dX8_projectorTells_59 : decode cX8_projectorTells 59 = .ok (.iload_n 1, 1) := by decide +kernel
theorem dX8_projectorTells_60 : decode cX8_projectorTells 60 = .ok (.iconst 1, 1) := by decide +kernel
theorem dX8_projectorTells_61 : decode cX8_projectorTells 61 = .ok (.invokestatic 107, 3) := by decide +kernel
theorem dX8_projectorTells_64 : decode cX8_projectorTells 64 = .ok (.iaload, 1) := by decide +kernel
theorem dX8_projectorTells_65 : decode cX8_projectorTells 65 = .ok (.goto 23, 3) := by decide +kernel
theorem dX8_projectorTells_68 : decode cX8_projectorTells 68 = .ok (.iload 4, 2) := by decide +kernel
theorem dX8_projectorTells_70 : decode cX8_projectorTells 70 = .ok (.ifCond .eq 16, 3) := by decide +kernel
theorem dX8_projectorTells_73 : decode cX8_projectorTells 73 = .ok (.aload_n 0, 1) := by decide +kernel
theorem dX8_projectorTells_74 : decode cX8_projectorTells 74 = .ok (.getfield 7, 3) := by decide +kernel
theorem dX8_projectorTells_77 : decode cX8_projectorTells 77 = .ok (.iload_n 1, 1) := by decide +kernel
theorem dX8_projectorTells_78 : decode cX8_projectorTells 78 = .ok (.iconst 2, 1) := by decide +kernel
theorem dX8_projectorTells_79 : decode cX8_projectorTells 79 = .ok (.invokestatic 107, 3) := by decide +kernel
theorem dX8_projectorTells_82 : decode cX8_projectorTells 82 = .ok (.iaload, 1) := by decide +kernel
theorem dX8_projectorTells_83 : decode cX8_projectorTells 83 = .ok (.goto 5, 3) := by decide +kernel
theorem dX8_projectorTells_86 : decode cX8_projectorTells 86 = .ok (.ldc 68, 2) := by decide +kernel
theorem dX8_projectorTells_88 : decode cX8_projectorTells 88 = .ok (.ireturn, 1) := by decide +kernel
set_option maxRecDepth 20000 in
theorem ggX8_projector_X8_in : GoodIn wsX8_projector wsX8_in := goodIn_r _ [6] (by decide +kernel) (by decide +kernel)
set_option maxRecDepth 20000 in
theorem gX8_projector_X8_in : GoodIn wsX8_projector (va_wsS RX8 47 yX8_in wsX8_in) := goodIn_app (goodIn_of _ (by decide +kernel)) ggX8_projector_X8_in
set_option maxRecDepth 20000 in
theorem ggX8_projector_X8_projectorTells : GoodIn wsX8_projector wsX8_projectorTells := goodIn_r _ [10, 11, 12, 13, 14, 5, 15, 16, 17, 18, 19, 20, 21, 22, 23, 24, 25, 26, 27, 28, 29, 30] (by decide +kernel) (by decide +kernel)
set_option maxRecDepth 20000 in
theorem gX8_projector_X8_projectorTells : GoodIn wsX8_projector (wsV RX8 162 RX8 yX8_projectorTells wsX8_projectorTells) := goodIn_app (goodIn_of _ (by decide +kernel)) ggX8_projector_X8_projectorTells
theorem dX8_projector_0 : decode cX8_projector 0 = .ok (.iload_n 1, 1) := by decide +kernel
theorem dX8_projector_1 : decode cX8_projector 1 = .ok (.iconst 0, 1) := by decide +kernel
theorem dX8_projector_2 : decode cX8_projector 2 = .ok (.iconst 1, 1) := by decide +kernel
theorem dX8_projector_3 : decode cX8_projector 3 = .ok (.invokestatic 47, 3) := by decide +kernel
theorem dX8_projector_6 : decode cX8_projector 6 = .ok (.ifCond .ne 6, 3) := by decide +kernel
theorem dX8_projector_9 : decode cX8_projector 9 = .ok (.ldc 64, 2) := by decide +kernel
theorem dX8_projector_11 : decode cX8_projector 11 = .ok (.ireturn, 1) := by decide +kernel
theorem dX8_projector_12 : decode cX8_projector 12 = .ok (.iload_n 2, 1) := by decide +kernel
theorem dX8_projector_13 : decode cX8_projector 13 = .ok (.iconst 0, 1) := by decide +kernel
theorem dX8_projector_14 : decode cX8_projector 14 = .ok (.iconst 2, 1) := by decide +kernel
theorem dX8_projector_15 : decode cX8_projector 15 = .ok (.invokestatic 47, 3) := by decide +kernel
theorem dX8_projector_18 : decode cX8_projector 18 = .ok (.ifCond .eq 12, 3) := by decide +kernel
theorem dX8_projector_21 : decode cX8_projector 21 = .ok (.aload_n 0, 1) := by decide +kernel
theorem dX8_projector_22 : decode cX8_projector 22 = .ok (.iload_n 1, 1) := by decide +kernel
theorem dX8_projector_23 : decode cX8_projector 23 = .ok (.iload_n 2, 1) := by decide +kernel
theorem dX8_projector_24 : decode cX8_projector 24 = .ok (.invokevirtual 162, 3) := by decide +kernel
theorem dX8_projector_27 : decode cX8_projector 27 = .ok (.goto 5, 3) := by decide +kernel
theorem dX8_projector_30 : decode cX8_projector 30 = .ok (.ldc 51, 2) := by decide +kernel
theorem dX8_projector_32 : decode cX8_projector 32 = .ok (.ireturn, 1) := by decide +kernel
set_option maxRecDepth 20000 in
theorem ggX8_taskAt_X8_in : GoodIn wsX8_taskAt wsX8_in := goodIn_r _ [5] (by decide +kernel) (by decide +kernel)
set_option maxRecDepth 20000 in
theorem gX8_taskAt_X8_in : GoodIn wsX8_taskAt (va_wsS RX8 47 yX8_in wsX8_in) := goodIn_app (goodIn_of _ (by decide +kernel)) ggX8_taskAt_X8_in
theorem dX8_taskAt_0 : decode cX8_taskAt 0 = .ok (.iload_n 1, 1) := by decide +kernel
theorem dX8_taskAt_1 : decode cX8_taskAt 1 = .ok (.ifCond .ne 14, 3) := by decide +kernel
theorem dX8_taskAt_4 : decode cX8_taskAt 4 = .ok (.aload_n 0, 1) := by decide +kernel
theorem dX8_taskAt_5 : decode cX8_taskAt 5 = .ok (.getfield 7, 3) := by decide +kernel
theorem dX8_taskAt_8 : decode cX8_taskAt 8 = .ok (.sipush 172, 3) := by decide +kernel
theorem dX8_taskAt_11 : decode cX8_taskAt 11 = .ok (.iaload, 1) := by decide +kernel
theorem dX8_taskAt_12 : decode cX8_taskAt 12 = .ok (.goto 35, 3) := by decide +kernel
theorem dX8_taskAt_15 : decode cX8_taskAt 15 = .ok (.iload_n 1, 1) := by decide +kernel
theorem dX8_taskAt_16 : decode cX8_taskAt 16 = .ok (.iconst 1, 1) := by decide +kernel
theorem dX8_taskAt_17 : decode cX8_taskAt 17 = .ok (.aload_n 0, 1) := by decide +kernel
theorem dX8_taskAt_18 : decode cX8_taskAt 18 = .ok (.getfield 7, 3) := by decide +kernel
theorem dX8_taskAt_21 : decode cX8_taskAt 21 = .ok (.sipush 174, 3) := by decide +kernel
theorem dX8_taskAt_24 : decode cX8_taskAt 24 = .ok (.iaload, 1) := by decide +kernel
theorem dX8_taskAt_25 : decode cX8_taskAt 25 = .ok (.invokestatic 47, 3) := by decide +kernel
theorem dX8_taskAt_28 : decode cX8_taskAt 28 = .ok (.ifCond .eq 18, 3) := by decide +kernel
theorem dX8_taskAt_31 : decode cX8_taskAt 31 = .ok (.aload_n 0, 1) := by decide +kernel
theorem dX8_taskAt_32 : decode cX8_taskAt 32 = .ok (.getfield 7, 3) := by decide +kernel
theorem dX8_taskAt_35 : decode cX8_taskAt 35 = .ok (.sipush 175, 3) := by decide +kernel
theorem dX8_taskAt_38 : decode cX8_taskAt 38 = .ok (.iload_n 1, 1) := by decide +kernel
theorem dX8_taskAt_39 : decode cX8_taskAt 39 = .ok (.iadd, 1) := by decide +kernel
theorem dX8_taskAt_40 : decode cX8_taskAt 40 = .ok (.iconst 1, 1) := by decide +kernel
theorem dX8_taskAt_41 : decode cX8_taskAt 41 = .ok (.isub, 1) := by decide +kernel
theorem dX8_taskAt_42 : decode cX8_taskAt 42 = .ok (.iaload, 1) := by decide +kernel
theorem dX8_taskAt_43 : decode cX8_taskAt 43 = .ok (.goto 4, 3) := by decide +kernel
theorem dX8_taskAt_46 : decode cX8_taskAt 46 = .ok (.iconst (-1), 1) := by decide +kernel
theorem dX8_taskAt_47 : decode cX8_taskAt 47 = .ok (.ireturn, 1) := by decide +kernel
set_option maxRecDepth 20000 in
theorem ggX8_task_X8_taskAt : GoodIn wsX8_task wsX8_taskAt := goodIn_r _ [7, 8, 9, 10, 6, 11, 12, 13, 14, 15, 16, 17, 18, 19, 20, 21, 22, 23, 24, 25, 26] (by decide +kernel) (by decide +kernel)
set_option maxRecDepth 20000 in
theorem gX8_task_X8_taskAt : GoodIn wsX8_task (wsV RX8 165 RX8 yX8_taskAt wsX8_taskAt) := goodIn_app (goodIn_of _ (by decide +kernel)) ggX8_task_X8_taskAt
theorem dX8_task_0 : decode cX8_task 0 = .ok (.aload_n 0, 1) := by decide +kernel
theorem dX8_task_1 : decode cX8_task 1 = .ok (.iload_n 1, 1) := by decide +kernel
theorem dX8_task_2 : decode cX8_task 2 = .ok (.invokevirtual 165, 3) := by decide +kernel
theorem dX8_task_5 : decode cX8_task 5 = .ok (.istore_n 3, 1) := by decide +kernel
theorem dX8_task_6 : decode cX8_task 6 = .ok (.iload_n 3, 1) := by decide +kernel
theorem dX8_task_7 : decode cX8_task 7 = .ok (.ifCond .ge 6, 3) := by decide +kernel
theorem dX8_task_10 : decode cX8_task 10 = .ok (.ldc 64, 2) := by decide +kernel
theorem dX8_task_12 : decode cX8_task 12 = .ok (.ireturn, 1) := by decide +kernel
theorem dX8_task_13 : decode cX8_task 13 = .ok (.iload_n 2, 1) := by decide +kernel
theorem dX8_task_14 : decode cX8_task 14 = .ok (.ifCond .ne 9, 3) := by decide +kernel
theorem dX8_task_17 : decode cX8_task 17 = .ok (.iload_n 3, 1) := by decide +kernel
theorem dX8_task_18 : decode cX8_task 18 = .ok (.iconst 3, 1) := by decide +kernel
theorem dX8_task_19 : decode cX8_task 19 = .ok (.irem, 1) := by decide +kernel
theorem dX8_task_20 : decode cX8_task 20 = .ok (.goto 16, 3) := by decide +kernel
theorem dX8_task_23 : decode cX8_task 23 = .ok (.iload_n 2, 1) := by decide +kernel
theorem dX8_task_24 : decode cX8_task 24 = .ok (.iconst 1, 1) := by decide +kernel
theorem dX8_task_25 : decode cX8_task 25 = .ok (.if_icmp .ne 9, 3) := by decide +kernel
theorem dX8_task_28 : decode cX8_task 28 = .ok (.iload_n 3, 1) := by decide +kernel
theorem dX8_task_29 : decode cX8_task 29 = .ok (.iconst 3, 1) := by decide +kernel
theorem dX8_task_30 : decode cX8_task 30 = .ok (.idiv, 1) := by decide +kernel
theorem dX8_task_31 : decode cX8_task 31 = .ok (.goto 5, 3) := by decide +kernel
theorem dX8_task_34 : decode cX8_task 34 = .ok (.ldc 51, 2) := by decide +kernel
theorem dX8_task_36 : decode cX8_task 36 = .ok (.ireturn, 1) := by decide +kernel
theorem dX8_keeps_0 : decode cX8_keeps 0 = .ok (.iconst 0, 1) := by decide +kernel
theorem dX8_keeps_1 : decode cX8_keeps 1 = .ok (.istore_n 1, 1) := by decide +kernel
theorem dX8_keeps_2 : decode cX8_keeps 2 = .ok (.iload_n 1, 1) := by decide +kernel
theorem dX8_keeps_3 : decode cX8_keeps 3 = .ok (.sipush 199, 3) := by decide +kernel
theorem dX8_keeps_6 : decode cX8_keeps 6 = .ok (.if_icmp .ge 21, 3) := by decide +kernel
theorem dX8_keeps_9 : decode cX8_keeps 9 = .ok (.aload_n 0, 1) := by decide +kernel
theorem dX8_keeps_10 : decode cX8_keeps 10 = .ok (.getfield 13, 3) := by decide +kernel
theorem dX8_keeps_13 : decode cX8_keeps 13 = .ok (.iload_n 1, 1) := by decide +kernel
theorem dX8_keeps_14 : decode cX8_keeps 14 = .ok (.aload_n 0, 1) := by decide +kernel
theorem dX8_keeps_15 : decode cX8_keeps 15 = .ok (.getfield 7, 3) := by decide +kernel
theorem dX8_keeps_18 : decode cX8_keeps 18 = .ok (.iload_n 1, 1) := by decide +kernel
theorem dX8_keeps_19 : decode cX8_keeps 19 = .ok (.iaload, 1) := by decide +kernel
theorem dX8_keeps_20 : decode cX8_keeps 20 = .ok (.iastore, 1) := by decide +kernel
theorem dX8_keeps_21 : decode cX8_keeps 21 = .ok (.iinc 1 1, 3) := by decide +kernel
theorem dX8_keeps_24 : decode cX8_keeps 24 = .ok (.goto (-22), 3) := by decide +kernel
theorem dX8_keeps_27 : decode cX8_keeps 27 = .ok (.return_, 1) := by decide +kernel
theorem dX8_comesBack_0 : decode cX8_comesBack 0 = .ok (.iconst 0, 1) := by decide +kernel
theorem dX8_comesBack_1 : decode cX8_comesBack 1 = .ok (.istore_n 1, 1) := by decide +kernel
theorem dX8_comesBack_2 : decode cX8_comesBack 2 = .ok (.iload_n 1, 1) := by decide +kernel
theorem dX8_comesBack_3 : decode cX8_comesBack 3 = .ok (.sipush 199, 3) := by decide +kernel
theorem dX8_comesBack_6 : decode cX8_comesBack 6 = .ok (.if_icmp .ge 21, 3) := by decide +kernel
theorem dX8_comesBack_9 : decode cX8_comesBack 9 = .ok (.aload_n 0, 1) := by decide +kernel
theorem dX8_comesBack_10 : decode cX8_comesBack 10 = .ok (.getfield 7, 3) := by decide +kernel
theorem dX8_comesBack_13 : decode cX8_comesBack 13 = .ok (.iload_n 1, 1) := by decide +kernel
theorem dX8_comesBack_14 : decode cX8_comesBack 14 = .ok (.aload_n 0, 1) := by decide +kernel
theorem dX8_comesBack_15 : decode cX8_comesBack 15 = .ok (.getfield 13, 3) := by decide +kernel
theorem dX8_comesBack_18 : decode cX8_comesBack 18 = .ok (.iload_n 1, 1) := by decide +kernel
theorem dX8_comesBack_19 : decode cX8_comesBack 19 = .ok (.iaload, 1) := by decide +kernel
theorem dX8_comesBack_20 : decode cX8_comesBack 20 = .ok (.iastore, 1) := by decide +kernel
theorem dX8_comesBack_21 : decode cX8_comesBack 21 = .ok (.iinc 1 1, 3) := by decide +kernel
theorem dX8_comesBack_24 : decode cX8_comesBack 24 = .ok (.goto (-22), 3) := by decide +kernel
theorem dX8_comesBack_27 : decode cX8_comesBack 27 = .ok (.return_, 1) := by decide +kernel
set_option maxRecDepth 20000 in
theorem ggX8_forecastNow_X8_keeps : GoodIn wsX8_forecastNow wsX8_keeps := goodIn_r _ [7, 8, 1, 87, 88, 89, 90, 91, 92, 93, 94, 95, 96, 97, 98, 99, 100, 101] (by decide +kernel) (by decide +kernel)
set_option maxRecDepth 20000 in
theorem gX8_forecastNow_X8_keeps : GoodIn wsX8_forecastNow (wsV RX8 168 RX8 yX8_keeps wsX8_keeps) := goodIn_app (goodIn_of _ (by decide +kernel)) ggX8_forecastNow_X8_keeps
set_option maxRecDepth 20000 in
theorem ggX8_forecastNow_X8_passes : GoodIn wsX8_forecastNow wsX8_passes := goodIn_r _ [12, 1, 13, 14, 15, 6, 16, 17, 18, 19, 20, 21, 22, 23, 24, 25, 26, 27, 28, 29, 30, 31, 32, 33, 34, 35, 36, 37, 38, 39, 40, 41, 42, 43, 44, 45, 46, 47, 48, 49, 50, 51, 52, 53, 54, 55, 56, 57, 58, 59, 60, 61, 62, 63, 64, 65, 66, 67, 68, 69, 70, 71, 72, 73, 74, 75, 76, 77, 78, 79, 80, 81, 82, 87, 88, 89, 90, 91, 92, 93, 94, 95, 96, 97, 98, 99, 100, 101] (by decide +kernel) (by decide +kernel)
set_option maxRecDepth 20000 in
theorem gX8_forecastNow_X8_passes : GoodIn wsX8_forecastNow (wsV RX8 156 RX8 yX8_passes wsX8_passes) := goodIn_app (goodIn_of _ (by decide +kernel)) ggX8_forecastNow_X8_passes
set_option maxRecDepth 20000 in
theorem ggX8_forecastNow_X8_comesBack : GoodIn wsX8_forecastNow wsX8_comesBack := goodIn_r _ [86, 1, 8, 87, 88, 89, 90, 91, 92, 93, 94, 95, 96, 97, 98, 99, 100, 101] (by decide +kernel) (by decide +kernel)
set_option maxRecDepth 20000 in
theorem gX8_forecastNow_X8_comesBack : GoodIn wsX8_forecastNow (wsV RX8 171 RX8 yX8_comesBack wsX8_comesBack) := goodIn_app (goodIn_of _ (by decide +kernel)) ggX8_forecastNow_X8_comesBack
theorem dX8_forecastNow_0 : decode cX8_forecastNow 0 = .ok (.aload_n 0, 1) := by decide +kernel
theorem dX8_forecastNow_1 : decode cX8_forecastNow 1 = .ok (.invokevirtual 168, 3) := by decide +kernel
theorem dX8_forecastNow_4 : decode cX8_forecastNow 4 = .ok (.aload_n 0, 1) := by decide +kernel
theorem dX8_forecastNow_5 : decode cX8_forecastNow 5 = .ok (.sipush 20000, 3) := by decide +kernel
theorem dX8_forecastNow_8 : decode cX8_forecastNow 8 = .ok (.invokevirtual 156, 3) := by decide +kernel
theorem dX8_forecastNow_11 : decode cX8_forecastNow 11 = .ok (.istore_n 2, 1) := by decide +kernel
theorem dX8_forecastNow_12 : decode cX8_forecastNow 12 = .ok (.aload_n 0, 1) := by decide +kernel
theorem dX8_forecastNow_13 : decode cX8_forecastNow 13 = .ok (.getfield 7, 3) := by decide +kernel
theorem dX8_forecastNow_16 : decode cX8_forecastNow 16 = .ok (.sipush 163, 3) := by decide +kernel
theorem dX8_forecastNow_19 : decode cX8_forecastNow 19 = .ok (.iaload, 1) := by decide +kernel
theorem dX8_forecastNow_20 : decode cX8_forecastNow 20 = .ok (.ifCond .ne 8, 3) := by decide +kernel
theorem dX8_forecastNow_23 : decode cX8_forecastNow 23 = .ok (.ldc 68, 2) := by decide +kernel
theorem dX8_forecastNow_25 : decode cX8_forecastNow 25 = .ok (.goto 30, 3) := by decide +kernel
theorem dX8_forecastNow_28 : decode cX8_forecastNow 28 = .ok (.iload_n 1, 1) := by decide +kernel
theorem dX8_forecastNow_29 : decode cX8_forecastNow 29 = .ok (.ifCond .ne 14, 3) := by decide +kernel
theorem dX8_forecastNow_32 : decode cX8_forecastNow 32 = .ok (.aload_n 0, 1) := by decide +kernel
theorem dX8_forecastNow_33 : decode cX8_forecastNow 33 = .ok (.getfield 7, 3) := by decide +kernel
theorem dX8_forecastNow_36 : decode cX8_forecastNow 36 = .ok (.sipush 164, 3) := by decide +kernel
theorem dX8_forecastNow_39 : decode cX8_forecastNow 39 = .ok (.iaload, 1) := by decide +kernel
theorem dX8_forecastNow_40 : decode cX8_forecastNow 40 = .ok (.goto 15, 3) := by decide +kernel
theorem dX8_forecastNow_43 : decode cX8_forecastNow 43 = .ok (.aload_n 0, 1) := by decide +kernel
theorem dX8_forecastNow_44 : decode cX8_forecastNow 44 = .ok (.getfield 7, 3) := by decide +kernel
theorem dX8_forecastNow_47 : decode cX8_forecastNow 47 = .ok (.sipush 166, 3) := by decide +kernel
theorem dX8_forecastNow_50 : decode cX8_forecastNow 50 = .ok (.iload_n 1, 1) := by decide +kernel
theorem dX8_forecastNow_51 : decode cX8_forecastNow 51 = .ok (.iadd, 1) := by decide +kernel
theorem dX8_forecastNow_52 : decode cX8_forecastNow 52 = .ok (.iconst 1, 1) := by decide +kernel
theorem dX8_forecastNow_53 : decode cX8_forecastNow 53 = .ok (.isub, 1) := by decide +kernel
theorem dX8_forecastNow_54 : decode cX8_forecastNow 54 = .ok (.iaload, 1) := by decide +kernel
theorem dX8_forecastNow_55 : decode cX8_forecastNow 55 = .ok (.istore_n 3, 1) := by decide +kernel
theorem dX8_forecastNow_56 : decode cX8_forecastNow 56 = .ok (.aload_n 0, 1) := by decide +kernel
theorem dX8_forecastNow_57 : decode cX8_forecastNow 57 = .ok (.invokevirtual 171, 3) := by decide +kernel
theorem dX8_forecastNow_60 : decode cX8_forecastNow 60 = .ok (.iload_n 3, 1) := by decide +kernel
theorem dX8_forecastNow_61 : decode cX8_forecastNow 61 = .ok (.ireturn, 1) := by decide +kernel
set_option maxRecDepth 20000 in
theorem ggX8_forecast_X8_in : GoodIn wsX8_forecast wsX8_in := goodIn_r _ [6] (by decide +kernel) (by decide +kernel)
set_option maxRecDepth 20000 in
theorem gX8_forecast_X8_in : GoodIn wsX8_forecast (va_wsS RX8 47 yX8_in wsX8_in) := goodIn_app (goodIn_of _ (by decide +kernel)) ggX8_forecast_X8_in
set_option maxRecDepth 20000 in
theorem ggX8_forecast_X8_isRunning : GoodIn wsX8_forecast wsX8_isRunning := goodIn_r _ [10, 11, 100, 101, 102, 103, 104, 105, 106, 107, 108, 109, 110, 111, 112, 113, 114] (by decide +kernel) (by decide +kernel)
set_option maxRecDepth 20000 in
theorem gX8_forecast_X8_isRunning : GoodIn wsX8_forecast (wsV RX8 100 RX8 yX8_isRunning wsX8_isRunning) := goodIn_app (goodIn_of _ (by decide +kernel)) ggX8_forecast_X8_isRunning
set_option maxRecDepth 20000 in
theorem ggX8_forecast_X8_forecastNow : GoodIn wsX8_forecast wsX8_forecastNow := goodIn_r _ [15, 11, 16, 17, 18, 19, 5, 20, 21, 22, 23, 24, 25, 26, 27, 28, 29, 30, 31, 32, 33, 34, 35, 36, 37, 38, 39, 40, 41, 42, 43, 44, 45, 46, 47, 48, 49, 50, 51, 52, 53, 54, 55, 56, 57, 58, 59, 60, 61, 62, 63, 64, 65, 66, 67, 68, 69, 70, 71, 72, 73, 74, 75, 76, 77, 78, 79, 80, 81, 82, 83, 84, 85, 86, 87, 88, 89, 90, 91, 92, 93, 94, 95, 96, 97, 98, 99, 100, 101, 102, 103, 104, 105, 106, 107, 108, 109, 110, 111, 112, 113, 114] (by decide +kernel) (by decide +kernel)
set_option maxRecDepth 20000 in
theorem gX8_forecast_X8_forecastNow : GoodIn wsX8_forecast (wsV RX8 174 RX8 yX8_forecastNow wsX8_forecastNow) := goodIn_app (goodIn_of _ (by decide +kernel)) ggX8_forecast_X8_forecastNow
theorem dX8_forecast_0 : decode cX8_forecast 0 = .ok (.iload_n 1, 1) := by decide +kernel
theorem dX8_forecast_1 : decode cX8_forecast 1 = .ok (.iconst 0, 1) := by decide +kernel
theorem dX8_forecast_2 : decode cX8_forecast 2 = .ok (.iconst 4, 1) := by decide +kernel
theorem dX8_forecast_3 : decode cX8_forecast 3 = .ok (.invokestatic 47, 3) := by decide +kernel
theorem dX8_forecast_6 : decode cX8_forecast 6 = .ok (.ifCond .ne 6, 3) := by decide +kernel
theorem dX8_forecast_9 : decode cX8_forecast 9 = .ok (.ldc 64, 2) := by decide +kernel
theorem dX8_forecast_11 : decode cX8_forecast 11 = .ok (.ireturn, 1) := by decide +kernel
theorem dX8_forecast_12 : decode cX8_forecast 12 = .ok (.aload_n 0, 1) := by decide +kernel
theorem dX8_forecast_13 : decode cX8_forecast 13 = .ok (.invokevirtual 100, 3) := by decide +kernel
theorem dX8_forecast_16 : decode cX8_forecast 16 = .ok (.ifCond .eq 11, 3) := by decide +kernel
theorem dX8_forecast_19 : decode cX8_forecast 19 = .ok (.aload_n 0, 1) := by decide +kernel
theorem dX8_forecast_20 : decode cX8_forecast 20 = .ok (.iload_n 1, 1) := by decide +kernel
theorem dX8_forecast_21 : decode cX8_forecast 21 = .ok (.invokevirtual 174, 3) := by decide +kernel
theorem dX8_forecast_24 : decode cX8_forecast 24 = .ok (.goto 5, 3) := by decide +kernel
theorem dX8_forecast_27 : decode cX8_forecast 27 = .ok (.ldc 103, 2) := by decide +kernel
theorem dX8_forecast_29 : decode cX8_forecast 29 = .ok (.ireturn, 1) := by decide +kernel
set_option maxRecDepth 20000 in
theorem ggX8_darkWith_X8_in : GoodIn wsX8_darkWith wsX8_in := goodIn_r _ [11] (by decide +kernel) (by decide +kernel)
set_option maxRecDepth 20000 in
theorem gX8_darkWith_X8_in : GoodIn wsX8_darkWith (va_wsS RX8 47 yX8_in wsX8_in) := goodIn_app (goodIn_of _ (by decide +kernel)) ggX8_darkWith_X8_in
set_option maxRecDepth 20000 in
theorem ggX8_darkWith_X8_keeps : GoodIn wsX8_darkWith wsX8_keeps := goodIn_r _ [15, 16, 5, 99, 100, 101, 102, 103, 104, 105, 106, 107, 108, 109, 110, 111, 112, 113] (by decide +kernel) (by decide +kernel)
set_option maxRecDepth 20000 in
theorem gX8_darkWith_X8_keeps : GoodIn wsX8_darkWith (wsV RX8 168 RX8 yX8_keeps wsX8_keeps) := goodIn_app (goodIn_of _ (by decide +kernel)) ggX8_darkWith_X8_keeps
set_option maxRecDepth 20000 in
theorem ggX8_darkWith_X8_opens : GoodIn wsX8_darkWith wsX8_opens := goodIn_r _ [20, 5, 21, 22, 23, 10, 24, 25, 26, 27, 99, 100, 101, 102, 103, 104, 105, 106, 107, 108, 109, 110, 111, 112, 113] (by decide +kernel) (by decide +kernel)
set_option maxRecDepth 20000 in
theorem gX8_darkWith_X8_opens : GoodIn wsX8_darkWith (wsV RX8 117 RX8 yX8_opens wsX8_opens) := goodIn_app (goodIn_of _ (by decide +kernel)) ggX8_darkWith_X8_opens
set_option maxRecDepth 20000 in
theorem ggX8_darkWith_X8_passes : GoodIn wsX8_darkWith wsX8_passes := goodIn_r _ [31, 5, 32, 33, 34, 10, 35, 36, 37, 38, 39, 40, 41, 42, 43, 25, 26, 27, 21, 22, 23, 24, 44, 45, 46, 47, 48, 49, 50, 51, 52, 53, 54, 55, 56, 57, 58, 59, 60, 61, 62, 63, 64, 65, 66, 67, 68, 69, 70, 71, 72, 73, 74, 75, 76, 77, 78, 79, 80, 81, 82, 83, 84, 85, 86, 87, 88, 89, 90, 91, 92, 93, 94, 99, 100, 101, 102, 103, 104, 105, 106, 107, 108, 109, 110, 111, 112, 113] (by decide +kernel) (by decide +kernel)
set_option maxRecDepth 20000 in
theorem gX8_darkWith_X8_passes : GoodIn wsX8_darkWith (wsV RX8 156 RX8 yX8_passes wsX8_passes) := goodIn_app (goodIn_of _ (by decide +kernel)) ggX8_darkWith_X8_passes
set_option maxRecDepth 20000 in
theorem ggX8_darkWith_X8_comesBack : GoodIn wsX8_darkWith wsX8_comesBack := goodIn_r _ [98, 5, 16, 99, 100, 101, 102, 103, 104, 105, 106, 107, 108, 109, 110, 111, 112, 113] (by decide +kernel) (by decide +kernel)
set_option maxRecDepth 20000 in
theorem gX8_darkWith_X8_comesBack : GoodIn wsX8_darkWith (wsV RX8 171 RX8 yX8_comesBack wsX8_comesBack) := goodIn_app (goodIn_of _ (by decide +kernel)) ggX8_darkWith_X8_comesBack
theorem dX8_darkWith_0 : decode cX8_darkWith 0 = .ok (.iload_n 1, 1) := by decide +kernel
theorem dX8_darkWith_1 : decode cX8_darkWith 1 = .ok (.iconst 0, 1) := by decide +kernel
theorem dX8_darkWith_2 : decode cX8_darkWith 2 = .ok (.bipush 7, 2) := by decide +kernel
theorem dX8_darkWith_4 : decode cX8_darkWith 4 = .ok (.invokestatic 47, 3) := by decide +kernel
theorem dX8_darkWith_7 : decode cX8_darkWith 7 = .ok (.ifCond .ne 6, 3) := by decide +kernel
theorem dX8_darkWith_10 : decode cX8_darkWith 10 = .ok (.ldc 64, 2) := by decide +kernel
theorem dX8_darkWith_12 : decode cX8_darkWith 12 = .ok (.ireturn, 1) := by decide +kernel
theorem dX8_darkWith_13 : decode cX8_darkWith 13 = .ok (.iload_n 2, 1) := by decide +kernel
theorem dX8_darkWith_14 : decode cX8_darkWith 14 = .ok (.aload_n 0, 1) := by decide +kernel
theorem dX8_darkWith_15 : decode cX8_darkWith 15 = .ok (.getfield 23, 3) := by decide +kernel
theorem dX8_darkWith_18 : decode cX8_darkWith 18 = .ok (.iload_n 1, 1) := by decide +kernel
theorem dX8_darkWith_19 : decode cX8_darkWith 19 = .ok (.iaload, 1) := by decide +kernel
theorem dX8_darkWith_20 : decode cX8_darkWith 20 = .ok (.aload_n 0, 1) := by decide +kernel
theorem dX8_darkWith_21 : decode cX8_darkWith 21 = .ok (.getfield 26, 3) := by decide +kernel
theorem dX8_darkWith_24 : decode cX8_darkWith 24 = .ok (.iload_n 1, 1) := by decide +kernel
theorem dX8_darkWith_25 : decode cX8_darkWith 25 = .ok (.iaload, 1) := by decide +kernel
theorem dX8_darkWith_26 : decode cX8_darkWith 26 = .ok (.invokestatic 47, 3) := by decide +kernel
theorem dX8_darkWith_29 : decode cX8_darkWith 29 = .ok (.ifCond .ne 6, 3) := by decide +kernel
theorem dX8_darkWith_32 : decode cX8_darkWith 32 = .ok (.ldc 51, 2) := by decide +kernel
theorem dX8_darkWith_34 : decode cX8_darkWith 34 = .ok (.ireturn, 1) := by decide +kernel
theorem dX8_darkWith_35 : decode cX8_darkWith 35 = .ok (.aload_n 0, 1) := by decide +kernel
theorem dX8_darkWith_36 : decode cX8_darkWith 36 = .ok (.getfield 7, 3) := by decide +kernel
theorem dX8_darkWith_39 : decode cX8_darkWith 39 = .ok (.sipush 149, 3) := by decide +kernel
theorem dX8_darkWith_42 : decode cX8_darkWith 42 = .ok (.iaload, 1) := by decide +kernel
theorem dX8_darkWith_43 : decode cX8_darkWith 43 = .ok (.ifCond .ne 6, 3) := by decide +kernel
theorem dX8_darkWith_46 : decode cX8_darkWith 46 = .ok (.ldc 103, 2) := by decide +kernel
theorem dX8_darkWith_48 : decode cX8_darkWith 48 = .ok (.ireturn, 1) := by decide +kernel
theorem dX8_darkWith_49 : decode cX8_darkWith 49 = .ok (.aload_n 0, 1) := by decide +kernel
theorem dX8_darkWith_50 : decode cX8_darkWith 50 = .ok (.invokevirtual 168, 3) := by decide +kernel
theorem dX8_darkWith_53 : decode cX8_darkWith 53 = .ok (.aload_n 0, 1) := by decide +kernel
theorem dX8_darkWith_54 : decode cX8_darkWith 54 = .ok (.getfield 7, 3) := by decide +kernel
theorem dX8_darkWith_57 : decode cX8_darkWith 57 = .ok (.sipush 141, 3) := by decide +kernel
theorem dX8_darkWith_60 : decode cX8_darkWith 60 = .ok (.iload_n 1, 1) := by decide +kernel
theorem dX8_darkWith_61 : decode cX8_darkWith 61 = .ok (.iadd, 1) := by decide +kernel
theorem dX8_darkWith_62 : decode cX8_darkWith 62 = .ok (.iload_n 2, 1) := by decide +kernel
theorem dX8_darkWith_63 : decode cX8_darkWith 63 = .ok (.iastore, 1) := by decide +kernel
theorem dX8_darkWith_64 : decode cX8_darkWith 64 = .ok (.aload_n 0, 1) := by decide +kernel
theorem dX8_darkWith_65 : decode cX8_darkWith 65 = .ok (.invokevirtual 117, 3) := by decide +kernel
theorem dX8_darkWith_68 : decode cX8_darkWith 68 = .ok (.aload_n 0, 1) := by decide +kernel
theorem dX8_darkWith_69 : decode cX8_darkWith 69 = .ok (.sipush 20000, 3) := by decide +kernel
theorem dX8_darkWith_72 : decode cX8_darkWith 72 = .ok (.invokevirtual 156, 3) := by decide +kernel
theorem dX8_darkWith_75 : decode cX8_darkWith 75 = .ok (.istore_n 3, 1) := by decide +kernel
theorem dX8_darkWith_76 : decode cX8_darkWith 76 = .ok (.aload_n 0, 1) := by decide +kernel
theorem dX8_darkWith_77 : decode cX8_darkWith 77 = .ok (.getfield 7, 3) := by decide +kernel
theorem dX8_darkWith_80 : decode cX8_darkWith 80 = .ok (.sipush 163, 3) := by decide +kernel
theorem dX8_darkWith_83 : decode cX8_darkWith 83 = .ok (.iaload, 1) := by decide +kernel
theorem dX8_darkWith_84 : decode cX8_darkWith 84 = .ok (.ifCond .ne 8, 3) := by decide +kernel
theorem dX8_darkWith_87 : decode cX8_darkWith 87 = .ok (.ldc 68, 2) := by decide +kernel
theorem dX8_darkWith_89 : decode cX8_darkWith 89 = .ok (.goto 11, 3) := by decide +kernel
theorem dX8_darkWith_92 : decode cX8_darkWith 92 = .ok (.aload_n 0, 1) := by decide +kernel
theorem dX8_darkWith_93 : decode cX8_darkWith 93 = .ok (.getfield 7, 3) := by decide +kernel
theorem dX8_darkWith_96 : decode cX8_darkWith 96 = .ok (.sipush 166, 3) := by decide +kernel
theorem dX8_darkWith_99 : decode cX8_darkWith 99 = .ok (.iaload, 1) := by decide +kernel
theorem dX8_darkWith_100 : decode cX8_darkWith 100 = .ok (.istore 4, 2) := by decide +kernel
theorem dX8_darkWith_102 : decode cX8_darkWith 102 = .ok (.aload_n 0, 1) := by decide +kernel
theorem dX8_darkWith_103 : decode cX8_darkWith 103 = .ok (.invokevirtual 171, 3) := by decide +kernel
theorem dX8_darkWith_106 : decode cX8_darkWith 106 = .ok (.iload 4, 2) := by decide +kernel
theorem dX8_darkWith_108 : decode cX8_darkWith 108 = .ok (.ireturn, 1) := by decide +kernel
set_option maxRecDepth 20000 in
theorem ggX8_save_X8_in : GoodIn wsX8_save wsX8_in := goodIn_r _ [8] (by decide +kernel) (by decide +kernel)
set_option maxRecDepth 20000 in
theorem gX8_save_X8_in : GoodIn wsX8_save (va_wsS RX8 47 yX8_in wsX8_in) := goodIn_app (goodIn_of _ (by decide +kernel)) ggX8_save_X8_in
theorem dX8_save_0 : decode cX8_save 0 = .ok (.iload_n 1, 1) := by decide +kernel
theorem dX8_save_1 : decode cX8_save 1 = .ok (.iconst 0, 1) := by decide +kernel
theorem dX8_save_2 : decode cX8_save 2 = .ok (.iconst 1, 1) := by decide +kernel
theorem dX8_save_3 : decode cX8_save 3 = .ok (.invokestatic 47, 3) := by decide +kernel
theorem dX8_save_6 : decode cX8_save 6 = .ok (.ifCond .ne 6, 3) := by decide +kernel
theorem dX8_save_9 : decode cX8_save 9 = .ok (.ldc 64, 2) := by decide +kernel
theorem dX8_save_11 : decode cX8_save 11 = .ok (.ireturn, 1) := by decide +kernel
theorem dX8_save_12 : decode cX8_save 12 = .ok (.iconst 0, 1) := by decide +kernel
theorem dX8_save_13 : decode cX8_save 13 = .ok (.istore_n 2, 1) := by decide +kernel
theorem dX8_save_14 : decode cX8_save 14 = .ok (.iload_n 2, 1) := by decide +kernel
theorem dX8_save_15 : decode cX8_save 15 = .ok (.sipush 199, 3) := by decide +kernel
theorem dX8_save_18 : decode cX8_save 18 = .ok (.if_icmp .ge 27, 3) := by decide +kernel
theorem dX8_save_21 : decode cX8_save 21 = .ok (.aload_n 0, 1) := by decide +kernel
theorem dX8_save_22 : decode cX8_save 22 = .ok (.getfield 16, 3) := by decide +kernel
theorem dX8_save_25 : decode cX8_save 25 = .ok (.sipush 199, 3) := by decide +kernel
theorem dX8_save_28 : decode cX8_save 28 = .ok (.iload_n 1, 1) := by decide +kernel
theorem dX8_save_29 : decode cX8_save 29 = .ok (.imul, 1) := by decide +kernel
theorem dX8_save_30 : decode cX8_save 30 = .ok (.iload_n 2, 1) := by decide +kernel
theorem dX8_save_31 : decode cX8_save 31 = .ok (.iadd, 1) := by decide +kernel
theorem dX8_save_32 : decode cX8_save 32 = .ok (.aload_n 0, 1) := by decide +kernel
theorem dX8_save_33 : decode cX8_save 33 = .ok (.getfield 7, 3) := by decide +kernel
theorem dX8_save_36 : decode cX8_save 36 = .ok (.iload_n 2, 1) := by decide +kernel
theorem dX8_save_37 : decode cX8_save 37 = .ok (.iaload, 1) := by decide +kernel
theorem dX8_save_38 : decode cX8_save 38 = .ok (.iastore, 1) := by decide +kernel
theorem dX8_save_39 : decode cX8_save 39 = .ok (.iinc 2 1, 3) := by decide +kernel
theorem dX8_save_42 : decode cX8_save 42 = .ok (.goto (-28), 3) := by decide +kernel
theorem dX8_save_45 : decode cX8_save 45 = .ok (.aload_n 0, 1) := by decide +kernel
theorem dX8_save_46 : decode cX8_save 46 = .ok (.getfield 19, 3) := by decide +kernel
theorem dX8_save_49 : decode cX8_save 49 = .ok (.iload_n 1, 1) := by decide +kernel
theorem dX8_save_50 : decode cX8_save 50 = .ok (.iconst 1, 1) := by decide +kernel
theorem dX8_save_51 : decode cX8_save 51 = .ok (.bastore, 1) := by decide +kernel
theorem dX8_save_52 : decode cX8_save 52 = .ok (.aload_n 0, 1) := by decide +kernel
theorem dX8_save_53 : decode cX8_save 53 = .ok (.getfield 7, 3) := by decide +kernel
theorem dX8_save_56 : decode cX8_save 56 = .ok (.iconst 0, 1) := by decide +kernel
theorem dX8_save_57 : decode cX8_save 57 = .ok (.iaload, 1) := by decide +kernel
theorem dX8_save_58 : decode cX8_save 58 = .ok (.ireturn, 1) := by decide +kernel
set_option maxRecDepth 20000 in
theorem ggX8_restore_X8_in : GoodIn wsX8_restore wsX8_in := goodIn_r _ [9] (by decide +kernel) (by decide +kernel)
set_option maxRecDepth 20000 in
theorem gX8_restore_X8_in : GoodIn wsX8_restore (va_wsS RX8 47 yX8_in wsX8_in) := goodIn_app (goodIn_of _ (by decide +kernel)) ggX8_restore_X8_in
theorem dX8_restore_0 : decode cX8_restore 0 = .ok (.iload_n 1, 1) := by decide +kernel
theorem dX8_restore_1 : decode cX8_restore 1 = .ok (.iconst 0, 1) := by decide +kernel
theorem dX8_restore_2 : decode cX8_restore 2 = .ok (.iconst 1, 1) := by decide +kernel
theorem dX8_restore_3 : decode cX8_restore 3 = .ok (.invokestatic 47, 3) := by decide +kernel
theorem dX8_restore_6 : decode cX8_restore 6 = .ok (.ifCond .ne 6, 3) := by decide +kernel
theorem dX8_restore_9 : decode cX8_restore 9 = .ok (.ldc 64, 2) := by decide +kernel
theorem dX8_restore_11 : decode cX8_restore 11 = .ok (.ireturn, 1) := by decide +kernel
theorem dX8_restore_12 : decode cX8_restore 12 = .ok (.aload_n 0, 1) := by decide +kernel
theorem dX8_restore_13 : decode cX8_restore 13 = .ok (.getfield 19, 3) := by decide +kernel
theorem dX8_restore_16 : decode cX8_restore 16 = .ok (.iload_n 1, 1) := by decide +kernel
theorem dX8_restore_17 : decode cX8_restore 17 = .ok (.baload, 1) := by decide +kernel
theorem dX8_restore_18 : decode cX8_restore 18 = .ok (.ifCond .ne 6, 3) := by decide +kernel
theorem dX8_restore_21 : decode cX8_restore 21 = .ok (.ldc 103, 2) := by decide +kernel
theorem dX8_restore_23 : decode cX8_restore 23 = .ok (.ireturn, 1) := by decide +kernel
theorem dX8_restore_24 : decode cX8_restore 24 = .ok (.iconst 0, 1) := by decide +kernel
theorem dX8_restore_25 : decode cX8_restore 25 = .ok (.istore_n 2, 1) := by decide +kernel
theorem dX8_restore_26 : decode cX8_restore 26 = .ok (.iload_n 2, 1) := by decide +kernel
theorem dX8_restore_27 : decode cX8_restore 27 = .ok (.sipush 199, 3) := by decide +kernel
theorem dX8_restore_30 : decode cX8_restore 30 = .ok (.if_icmp .ge 27, 3) := by decide +kernel
theorem dX8_restore_33 : decode cX8_restore 33 = .ok (.aload_n 0, 1) := by decide +kernel
theorem dX8_restore_34 : decode cX8_restore 34 = .ok (.getfield 7, 3) := by decide +kernel
theorem dX8_restore_37 : decode cX8_restore 37 = .ok (.iload_n 2, 1) := by decide +kernel
theorem dX8_restore_38 : decode cX8_restore 38 = .ok (.aload_n 0, 1) := by decide +kernel
theorem dX8_restore_39 : decode cX8_restore 39 = .ok (.getfield 16, 3) := by decide +kernel
theorem dX8_restore_42 : decode cX8_restore 42 = .ok (.sipush 199, 3) := by decide +kernel
theorem dX8_restore_45 : decode cX8_restore 45 = .ok (.iload_n 1, 1) := by decide +kernel
theorem dX8_restore_46 : decode cX8_restore 46 = .ok (.imul, 1) := by decide +kernel
theorem dX8_restore_47 : decode cX8_restore 47 = .ok (.iload_n 2, 1) := by decide +kernel
theorem dX8_restore_48 : decode cX8_restore 48 = .ok (.iadd, 1) := by decide +kernel
theorem dX8_restore_49 : decode cX8_restore 49 = .ok (.iaload, 1) := by decide +kernel
theorem dX8_restore_50 : decode cX8_restore 50 = .ok (.iastore, 1) := by decide +kernel
theorem dX8_restore_51 : decode cX8_restore 51 = .ok (.iinc 2 1, 3) := by decide +kernel
theorem dX8_restore_54 : decode cX8_restore 54 = .ok (.goto (-28), 3) := by decide +kernel
theorem dX8_restore_57 : decode cX8_restore 57 = .ok (.aload_n 0, 1) := by decide +kernel
theorem dX8_restore_58 : decode cX8_restore 58 = .ok (.getfield 7, 3) := by decide +kernel
theorem dX8_restore_61 : decode cX8_restore 61 = .ok (.iconst 0, 1) := by decide +kernel
theorem dX8_restore_62 : decode cX8_restore 62 = .ok (.iaload, 1) := by decide +kernel
theorem dX8_restore_63 : decode cX8_restore 63 = .ok (.ireturn, 1) := by decide +kernel
theorem dX8_more_0 : decode cX8_more 0 = .ok (.ldc2_w 177, 3) := by decide +kernel
theorem dX8_more_3 : decode cX8_more 3 = .ok (.lload_n 0, 1) := by decide +kernel
theorem dX8_more_4 : decode cX8_more 4 = .ok (.lmul, 1) := by decide +kernel
theorem dX8_more_5 : decode cX8_more 5 = .ok (.iload_n 2, 1) := by decide +kernel
theorem dX8_more_6 : decode cX8_more 6 = .ok (.i2l, 1) := by decide +kernel
theorem dX8_more_7 : decode cX8_more 7 = .ok (.ladd, 1) := by decide +kernel
theorem dX8_more_8 : decode cX8_more 8 = .ok (.lreturn, 1) := by decide +kernel
set_option maxRecDepth 20000 in
theorem ggX8_checksum_X8_more : GoodIn wsX8_checksum wsX8_more := goodIn_r _ [6, 7] (by decide +kernel) (by decide +kernel)
set_option maxRecDepth 20000 in
theorem gX8_checksum_X8_more : GoodIn wsX8_checksum (va_wsS RX8 181 yX8_more wsX8_more) := goodIn_app (goodIn_of _ (by decide +kernel)) ggX8_checksum_X8_more
set_option maxRecDepth 20000 in
theorem ggX8_checksum_X8_at : GoodIn wsX8_checksum wsX8_at := goodIn_r _ [10] (by decide +kernel) (by decide +kernel)
set_option maxRecDepth 20000 in
theorem gX8_checksum_X8_at : GoodIn wsX8_checksum (va_wsS RX8 53 yX8_at wsX8_at) := goodIn_app (goodIn_of _ (by decide +kernel)) ggX8_checksum_X8_at
set_option maxRecDepth 20000 in
theorem ggX8_checksum_X8_weakest : GoodIn wsX8_checksum wsX8_weakest := goodIn_r _ [14, 15, 2, 8, 9, 5, 10, 119, 120, 121, 122, 123, 124, 125, 126, 127, 128, 129, 130, 131, 132, 133] (by decide +kernel) (by decide +kernel)
set_option maxRecDepth 20000 in
theorem gX8_checksum_X8_weakest : GoodIn wsX8_checksum (wsV RX8 69 RX8 yX8_weakest wsX8_weakest) := goodIn_app (goodIn_of _ (by decide +kernel)) ggX8_checksum_X8_weakest
set_option maxRecDepth 20000 in
theorem ggX8_checksum_X8_showTells : GoodIn wsX8_checksum wsX8_showTells := goodIn_r _ [19, 2, 20, 21, 22, 5, 23, 119, 120, 121, 122, 123, 124, 125, 126, 127, 128, 129, 130, 131, 132, 133] (by decide +kernel) (by decide +kernel)
set_option maxRecDepth 20000 in
theorem gX8_checksum_X8_showTells : GoodIn wsX8_checksum (wsV RX8 159 RX8 yX8_showTells wsX8_showTells) := goodIn_app (goodIn_of _ (by decide +kernel)) ggX8_checksum_X8_showTells
set_option maxRecDepth 20000 in
theorem ggX8_checksum_X8_projectorTells : GoodIn wsX8_checksum wsX8_projectorTells := goodIn_r _ [27, 2, 15, 28, 29, 5, 30, 119, 120, 121, 122, 123, 124, 125, 126, 127, 128, 129, 130, 131, 132, 133] (by decide +kernel) (by decide +kernel)
set_option maxRecDepth 20000 in
theorem gX8_checksum_X8_projectorTells : GoodIn wsX8_checksum (wsV RX8 162 RX8 yX8_projectorTells wsX8_projectorTells) := goodIn_app (goodIn_of _ (by decide +kernel)) ggX8_checksum_X8_projectorTells
set_option maxRecDepth 20000 in
theorem ggX8_checksum_X8_taskAt : GoodIn wsX8_checksum wsX8_taskAt := goodIn_r _ [34, 2, 35, 36, 5, 37, 119, 120, 121, 122, 123, 124, 125, 126, 127, 128, 129, 130, 131, 132, 133] (by decide +kernel) (by decide +kernel)
set_option maxRecDepth 20000 in
theorem gX8_checksum_X8_taskAt : GoodIn wsX8_checksum (wsV RX8 165 RX8 yX8_taskAt wsX8_taskAt) := goodIn_app (goodIn_of _ (by decide +kernel)) ggX8_checksum_X8_taskAt
set_option maxRecDepth 20000 in
theorem ggX8_checksum_X8_isRunning : GoodIn wsX8_checksum wsX8_isRunning := goodIn_r _ [23, 2, 119, 120, 121, 122, 123, 124, 125, 126, 127, 128, 129, 130, 131, 132, 133] (by decide +kernel) (by decide +kernel)
set_option maxRecDepth 20000 in
theorem gX8_checksum_X8_isRunning : GoodIn wsX8_checksum (wsV RX8 100 RX8 yX8_isRunning wsX8_isRunning) := goodIn_app (goodIn_of _ (by decide +kernel)) ggX8_checksum_X8_isRunning
set_option maxRecDepth 20000 in
theorem ggX8_checksum_X8_forecastNow : GoodIn wsX8_checksum wsX8_forecastNow := goodIn_r _ [41, 2, 15, 42, 43, 44, 5, 45, 46, 47, 48, 49, 50, 51, 52, 53, 54, 55, 56, 57, 58, 59, 60, 61, 62, 28, 29, 30, 63, 64, 65, 66, 67, 68, 69, 70, 71, 72, 73, 74, 8, 9, 10, 75, 76, 77, 78, 79, 80, 81, 82, 83, 84, 85, 86, 87, 88, 89, 90, 91, 92, 93, 94, 95, 96, 97, 98, 99, 100, 101, 102, 103, 104, 105, 106, 107, 108, 109, 110, 111, 112, 113, 114, 115, 116, 117, 118, 119, 120, 121, 122, 123, 124, 125, 126, 127, 128, 129, 130, 131, 132, 133] (by decide +kernel) (by decide +kernel)
set_option maxRecDepth 20000 in
theorem gX8_checksum_X8_forecastNow : GoodIn wsX8_checksum (wsV RX8 174 RX8 yX8_forecastNow wsX8_forecastNow) := goodIn_app (goodIn_of _ (by decide +kernel)) ggX8_checksum_X8_forecastNow
theorem dX8_checksum_0 : decode cX8_checksum 0 = .ok (.ldc2_w 179, 3) := by decide +kernel
theorem dX8_checksum_3 : decode cX8_checksum 3 = .ok (.aload_n 0, 1) := by decide +kernel
theorem dX8_checksum_4 : decode cX8_checksum 4 = .ok (.getfield 7, 3) := by decide +kernel
theorem dX8_checksum_7 : decode cX8_checksum 7 = .ok (.iconst 0, 1) := by decide +kernel
theorem dX8_checksum_8 : decode cX8_checksum 8 = .ok (.iaload, 1) := by decide +kernel
theorem dX8_checksum_9 : decode cX8_checksum 9 = .ok (.invokestatic 181, 3) := by decide +kernel
theorem dX8_checksum_12 : decode cX8_checksum 12 = .ok (.lstore_n 1, 1) := by decide +kernel
theorem dX8_checksum_13 : decode cX8_checksum 13 = .ok (.iconst 0, 1) := by decide +kernel
theorem dX8_checksum_14 : decode cX8_checksum 14 = .ok (.istore_n 3, 1) := by decide +kernel
theorem dX8_checksum_15 : decode cX8_checksum 15 = .ok (.iload_n 3, 1) := by decide +kernel
theorem dX8_checksum_16 : decode cX8_checksum 16 = .ok (.aload_n 0, 1) := by decide +kernel
theorem dX8_checksum_17 : decode cX8_checksum 17 = .ok (.getfield 7, 3) := by decide +kernel
theorem dX8_checksum_20 : decode cX8_checksum 20 = .ok (.iconst 0, 1) := by decide +kernel
theorem dX8_checksum_21 : decode cX8_checksum 21 = .ok (.iaload, 1) := by decide +kernel
theorem dX8_checksum_22 : decode cX8_checksum 22 = .ok (.if_icmp .ge 89, 3) := by decide +kernel
theorem dX8_checksum_25 : decode cX8_checksum 25 = .ok (.lload_n 1, 1) := by decide +kernel
theorem dX8_checksum_26 : decode cX8_checksum 26 = .ok (.aload_n 0, 1) := by decide +kernel
theorem dX8_checksum_27 : decode cX8_checksum 27 = .ok (.getfield 7, 3) := by decide +kernel
theorem dX8_checksum_30 : decode cX8_checksum 30 = .ok (.iload_n 3, 1) := by decide +kernel
theorem dX8_checksum_31 : decode cX8_checksum 31 = .ok (.iconst 0, 1) := by decide +kernel
theorem dX8_checksum_32 : decode cX8_checksum 32 = .ok (.invokestatic 53, 3) := by decide +kernel
theorem dX8_checksum_35 : decode cX8_checksum 35 = .ok (.iaload, 1) := by decide +kernel
theorem dX8_checksum_36 : decode cX8_checksum 36 = .ok (.invokestatic 181, 3) := by decide +kernel
theorem dX8_checksum_39 : decode cX8_checksum 39 = .ok (.aload_n 0, 1) := by decide +kernel
theorem dX8_checksum_40 : decode cX8_checksum 40 = .ok (.getfield 7, 3) := by decide +kernel
theorem dX8_checksum_43 : decode cX8_checksum 43 = .ok (.iload_n 3, 1) := by decide +kernel
theorem dX8_checksum_44 : decode cX8_checksum 44 = .ok (.iconst 1, 1) := by decide +kernel
theorem dX8_checksum_45 : decode cX8_checksum 45 = .ok (.invokestatic 53, 3) := by decide +kernel
theorem dX8_checksum_48 : decode cX8_checksum 48 = .ok (.iaload, 1) := by decide +kernel
theorem dX8_checksum_49 : decode cX8_checksum 49 = .ok (.invokestatic 181, 3) := by decide +kernel
theorem dX8_checksum_52 : decode cX8_checksum 52 = .ok (.aload_n 0, 1) := by decide +kernel
theorem dX8_checksum_53 : decode cX8_checksum 53 = .ok (.iload_n 3, 1) := by decide +kernel
theorem dX8_checksum_54 : decode cX8_checksum 54 = .ok (.invokevirtual 69, 3) := by decide +kernel
theorem dX8_checksum_57 : decode cX8_checksum 57 = .ok (.invokestatic 181, 3) := by decide +kernel
theorem dX8_checksum_60 : decode cX8_checksum 60 = .ok (.lstore_n 1, 1) := by decide +kernel
theorem dX8_checksum_61 : decode cX8_checksum 61 = .ok (.iconst 0, 1) := by decide +kernel
theorem dX8_checksum_62 : decode cX8_checksum 62 = .ok (.istore 4, 2) := by decide +kernel
theorem dX8_checksum_64 : decode cX8_checksum 64 = .ok (.iload 4, 2) := by decide +kernel
theorem dX8_checksum_66 : decode cX8_checksum 66 = .ok (.iconst 2, 1) := by decide +kernel
theorem dX8_checksum_67 : decode cX8_checksum 67 = .ok (.aload_n 0, 1) := by decide +kernel
theorem dX8_checksum_68 : decode cX8_checksum 68 = .ok (.getfield 7, 3) := by decide +kernel
theorem dX8_checksum_71 : decode cX8_checksum 71 = .ok (.iload_n 3, 1) := by decide +kernel
theorem dX8_checksum_72 : decode cX8_checksum 72 = .ok (.iconst 1, 1) := by decide +kernel
theorem dX8_checksum_73 : decode cX8_checksum 73 = .ok (.invokestatic 53, 3) := by decide +kernel
theorem dX8_checksum_76 : decode cX8_checksum 76 = .ok (.iaload, 1) := by decide +kernel
theorem dX8_checksum_77 : decode cX8_checksum 77 = .ok (.imul, 1) := by decide +kernel
theorem dX8_checksum_78 : decode cX8_checksum 78 = .ok (.if_icmp .ge 27, 3) := by decide +kernel
theorem dX8_checksum_81 : decode cX8_checksum 81 = .ok (.lload_n 1, 1) := by decide +kernel
theorem dX8_checksum_82 : decode cX8_checksum 82 = .ok (.aload_n 0, 1) := by decide +kernel
theorem dX8_checksum_83 : decode cX8_checksum 83 = .ok (.getfield 7, 3) := by decide +kernel
theorem dX8_checksum_86 : decode cX8_checksum 86 = .ok (.iload_n 3, 1) := by decide +kernel
theorem dX8_checksum_87 : decode cX8_checksum 87 = .ok (.iconst 2, 1) := by decide +kernel
theorem dX8_checksum_88 : decode cX8_checksum 88 = .ok (.iload 4, 2) := by decide +kernel
theorem dX8_checksum_90 : decode cX8_checksum 90 = .ok (.iadd, 1) := by decide +kernel
theorem dX8_checksum_91 : decode cX8_checksum 91 = .ok (.invokestatic 53, 3) := by decide +kernel
theorem dX8_checksum_94 : decode cX8_checksum 94 = .ok (.iaload, 1) := by decide +kernel
theorem dX8_checksum_95 : decode cX8_checksum 95 = .ok (.invokestatic 181, 3) := by decide +kernel
theorem dX8_checksum_98 : decode cX8_checksum 98 = .ok (.lstore_n 1, 1) := by decide +kernel
theorem dX8_checksum_99 : decode cX8_checksum 99 = .ok (.iinc 4 1, 3) := by decide +kernel
theorem dX8_checksum_102 : decode cX8_checksum 102 = .ok (.goto (-38), 3) := by decide +kernel
theorem dX8_checksum_105 : decode cX8_checksum 105 = .ok (.iinc 3 1, 3) := by decide +kernel
theorem dX8_checksum_108 : decode cX8_checksum 108 = .ok (.goto (-93), 3) := by decide +kernel
theorem dX8_checksum_111 : decode cX8_checksum 111 = .ok (.iconst 0, 1) := by decide +kernel
theorem dX8_checksum_112 : decode cX8_checksum 112 = .ok (.istore_n 3, 1) := by decide +kernel
theorem dX8_checksum_113 : decode cX8_checksum 113 = .ok (.iload_n 3, 1) := by decide +kernel
theorem dX8_checksum_114 : decode cX8_checksum 114 = .ok (.bipush 8, 2) := by decide +kernel
theorem dX8_checksum_116 : decode cX8_checksum 116 = .ok (.if_icmp .ge 24, 3) := by decide +kernel
theorem dX8_checksum_119 : decode cX8_checksum 119 = .ok (.lload_n 1, 1) := by decide +kernel
theorem dX8_checksum_120 : decode cX8_checksum 120 = .ok (.aload_n 0, 1) := by decide +kernel
theorem dX8_checksum_121 : decode cX8_checksum 121 = .ok (.getfield 7, 3) := by decide +kernel
theorem dX8_checksum_124 : decode cX8_checksum 124 = .ok (.sipush 141, 3) := by decide +kernel
theorem dX8_checksum_127 : decode cX8_checksum 127 = .ok (.iload_n 3, 1) := by decide +kernel
theorem dX8_checksum_128 : decode cX8_checksum 128 = .ok (.iadd, 1) := by decide +kernel
theorem dX8_checksum_129 : decode cX8_checksum 129 = .ok (.iaload, 1) := by decide +kernel
theorem dX8_checksum_130 : decode cX8_checksum 130 = .ok (.invokestatic 181, 3) := by decide +kernel
theorem dX8_checksum_133 : decode cX8_checksum 133 = .ok (.lstore_n 1, 1) := by decide +kernel
theorem dX8_checksum_134 : decode cX8_checksum 134 = .ok (.iinc 3 1, 3) := by decide +kernel
theorem dX8_checksum_137 : decode cX8_checksum 137 = .ok (.goto (-24), 3) := by decide +kernel
theorem dX8_checksum_140 : decode cX8_checksum 140 = .ok (.lload_n 1, 1) := by decide +kernel
theorem dX8_checksum_141 : decode cX8_checksum 141 = .ok (.aload_n 0, 1) := by decide +kernel
theorem dX8_checksum_142 : decode cX8_checksum 142 = .ok (.getfield 7, 3) := by decide +kernel
theorem dX8_checksum_145 : decode cX8_checksum 145 = .ok (.sipush 149, 3) := by decide +kernel
theorem dX8_checksum_148 : decode cX8_checksum 148 = .ok (.iaload, 1) := by decide +kernel
theorem dX8_checksum_149 : decode cX8_checksum 149 = .ok (.invokestatic 181, 3) := by decide +kernel
theorem dX8_checksum_152 : decode cX8_checksum 152 = .ok (.lstore_n 1, 1) := by decide +kernel
theorem dX8_checksum_153 : decode cX8_checksum 153 = .ok (.iconst 0, 1) := by decide +kernel
theorem dX8_checksum_154 : decode cX8_checksum 154 = .ok (.istore_n 3, 1) := by decide +kernel
theorem dX8_checksum_155 : decode cX8_checksum 155 = .ok (.iload_n 3, 1) := by decide +kernel
theorem dX8_checksum_156 : decode cX8_checksum 156 = .ok (.aload_n 0, 1) := by decide +kernel
theorem dX8_checksum_157 : decode cX8_checksum 157 = .ok (.getfield 7, 3) := by decide +kernel
theorem dX8_checksum_160 : decode cX8_checksum 160 = .ok (.sipush 149, 3) := by decide +kernel
theorem dX8_checksum_163 : decode cX8_checksum 163 = .ok (.iaload, 1) := by decide +kernel
theorem dX8_checksum_164 : decode cX8_checksum 164 = .ok (.if_icmp .ge 24, 3) := by decide +kernel
theorem dX8_checksum_167 : decode cX8_checksum 167 = .ok (.lload_n 1, 1) := by decide +kernel
theorem dX8_checksum_168 : decode cX8_checksum 168 = .ok (.aload_n 0, 1) := by decide +kernel
theorem dX8_checksum_169 : decode cX8_checksum 169 = .ok (.getfield 7, 3) := by decide +kernel
theorem dX8_checksum_172 : decode cX8_checksum 172 = .ok (.sipush 150, 3) := by decide +kernel
theorem dX8_checksum_175 : decode cX8_checksum 175 = .ok (.iload_n 3, 1) := by decide +kernel
theorem dX8_checksum_176 : decode cX8_checksum 176 = .ok (.iadd, 1) := by decide +kernel
theorem dX8_checksum_177 : decode cX8_checksum 177 = .ok (.iaload, 1) := by decide +kernel
theorem dX8_checksum_178 : decode cX8_checksum 178 = .ok (.invokestatic 181, 3) := by decide +kernel
theorem dX8_checksum_181 : decode cX8_checksum 181 = .ok (.lstore_n 1, 1) := by decide +kernel
theorem dX8_checksum_182 : decode cX8_checksum 182 = .ok (.iinc 3 1, 3) := by decide +kernel
theorem dX8_checksum_185 : decode cX8_checksum 185 = .ok (.goto (-30), 3) := by decide +kernel
theorem dX8_checksum_188 : decode cX8_checksum 188 = .ok (.iconst 0, 1) := by decide +kernel
theorem dX8_checksum_189 : decode cX8_checksum 189 = .ok (.istore_n 3, 1) := by decide +kernel
theorem dX8_checksum_190 : decode cX8_checksum 190 = .ok (.iload_n 3, 1) := by decide +kernel
theorem dX8_checksum_191 : decode cX8_checksum 191 = .ok (.bipush 10, 2) := by decide +kernel
theorem dX8_checksum_193 : decode cX8_checksum 193 = .ok (.if_icmp .ge 19, 3) := by decide +kernel
theorem dX8_checksum_196 : decode cX8_checksum 196 = .ok (.lload_n 1, 1) := by decide +kernel
theorem dX8_checksum_197 : decode cX8_checksum 197 = .ok (.aload_n 0, 1) := by decide +kernel
theorem dX8_checksum_198 : decode cX8_checksum 198 = .ok (.iload_n 3, 1) := by decide +kernel
theorem dX8_checksum_199 : decode cX8_checksum 199 = .ok (.invokevirtual 159, 3) := by decide +kernel
theorem dX8_checksum_202 : decode cX8_checksum 202 = .ok (.invokestatic 181, 3) := by decide +kernel
theorem dX8_checksum_205 : decode cX8_checksum 205 = .ok (.lstore_n 1, 1) := by decide +kernel
theorem dX8_checksum_206 : decode cX8_checksum 206 = .ok (.iinc 3 1, 3) := by decide +kernel
theorem dX8_checksum_209 : decode cX8_checksum 209 = .ok (.goto (-19), 3) := by decide +kernel
theorem dX8_checksum_212 : decode cX8_checksum 212 = .ok (.iconst 0, 1) := by decide +kernel
theorem dX8_checksum_213 : decode cX8_checksum 213 = .ok (.istore_n 3, 1) := by decide +kernel
theorem dX8_checksum_214 : decode cX8_checksum 214 = .ok (.iload_n 3, 1) := by decide +kernel
theorem dX8_checksum_215 : decode cX8_checksum 215 = .ok (.iconst 2, 1) := by decide +kernel
theorem dX8_checksum_216 : decode cX8_checksum 216 = .ok (.if_icmp .ge 36, 3) := by decide +kernel
theorem dX8_checksum_219 : decode cX8_checksum 219 = .ok (.iconst 0, 1) := by decide +kernel
theorem dX8_checksum_220 : decode cX8_checksum 220 = .ok (.istore 4, 2) := by decide +kernel
theorem dX8_checksum_222 : decode cX8_checksum 222 = .ok (.iload 4, 2) := by decide +kernel
theorem dX8_checksum_224 : decode cX8_checksum 224 = .ok (.iconst 3, 1) := by decide +kernel
theorem dX8_checksum_225 : decode cX8_checksum 225 = .ok (.if_icmp .ge 21, 3) := by decide +kernel
theorem dX8_checksum_228 : decode cX8_checksum 228 = .ok (.lload_n 1, 1) := by decide +kernel
theorem dX8_checksum_229 : decode cX8_checksum 229 = .ok (.aload_n 0, 1) := by decide +kernel
theorem dX8_checksum_230 : decode cX8_checksum 230 = .ok (.iload_n 3, 1) := by decide +kernel
theorem dX8_checksum_231 : decode cX8_checksum 231 = .ok (.iload 4, 2) := by decide +kernel
theorem dX8_checksum_233 : decode cX8_checksum 233 = .ok (.invokevirtual 162, 3) := by decide +kernel
theorem dX8_checksum_236 : decode cX8_checksum 236 = .ok (.invokestatic 181, 3) := by decide +kernel
theorem dX8_checksum_239 : decode cX8_checksum 239 = .ok (.lstore_n 1, 1) := by decide +kernel
theorem dX8_checksum_240 : decode cX8_checksum 240 = .ok (.iinc 4 1, 3) := by decide +kernel
theorem dX8_checksum_243 : decode cX8_checksum 243 = .ok (.goto (-21), 3) := by decide +kernel
theorem dX8_checksum_246 : decode cX8_checksum 246 = .ok (.iinc 3 1, 3) := by decide +kernel
theorem dX8_checksum_249 : decode cX8_checksum 249 = .ok (.goto (-35), 3) := by decide +kernel
theorem dX8_checksum_252 : decode cX8_checksum 252 = .ok (.iconst 0, 1) := by decide +kernel
theorem dX8_checksum_253 : decode cX8_checksum 253 = .ok (.istore_n 3, 1) := by decide +kernel
theorem dX8_checksum_254 : decode cX8_checksum 254 = .ok (.iload_n 3, 1) := by decide +kernel
theorem dX8_checksum_255 : decode cX8_checksum 255 = .ok (.bipush 9, 2) := by decide +kernel
theorem dX8_checksum_257 : decode cX8_checksum 257 = .ok (.if_icmp .ge 41, 3) := by decide +kernel
theorem dX8_checksum_260 : decode cX8_checksum 260 = .ok (.aload_n 0, 1) := by decide +kernel
theorem dX8_checksum_261 : decode cX8_checksum 261 = .ok (.iload_n 3, 1) := by decide +kernel
theorem dX8_checksum_262 : decode cX8_checksum 262 = .ok (.invokevirtual 165, 3) := by decide +kernel
theorem dX8_checksum_265 : decode cX8_checksum 265 = .ok (.istore 4, 2) := by decide +kernel
theorem dX8_checksum_267 : decode cX8_checksum 267 = .ok (.iload 4, 2) := by decide +kernel
theorem dX8_checksum_269 : decode cX8_checksum 269 = .ok (.ifCond .ge 7, 3) := by decide +kernel
theorem dX8_checksum_272 : decode cX8_checksum 272 = .ok (.lload_n 1, 1) := by decide +kernel
theorem dX8_checksum_273 : decode cX8_checksum 273 = .ok (.goto 18, 3) := by decide +kernel
theorem dX8_checksum_276 : decode cX8_checksum 276 = .ok (.lload_n 1, 1) := by decide +kernel
theorem dX8_checksum_277 : decode cX8_checksum 277 = .ok (.iload 4, 2) := by decide +kernel
theorem dX8_checksum_279 : decode cX8_checksum 279 = .ok (.iconst 3, 1) := by decide +kernel
theorem dX8_checksum_280 : decode cX8_checksum 280 = .ok (.irem, 1) := by decide +kernel
theorem dX8_checksum_281 : decode cX8_checksum 281 = .ok (.invokestatic 181, 3) := by decide +kernel
theorem dX8_checksum_284 : decode cX8_checksum 284 = .ok (.iload 4, 2) := by decide +kernel
theorem dX8_checksum_286 : decode cX8_checksum 286 = .ok (.iconst 3, 1) := by decide +kernel
theorem dX8_checksum_287 : decode cX8_checksum 287 = .ok (.idiv, 1) := by decide +kernel
theorem dX8_checksum_288 : decode cX8_checksum 288 = .ok (.invokestatic 181, 3) := by decide +kernel
theorem dX8_checksum_291 : decode cX8_checksum 291 = .ok (.lstore_n 1, 1) := by decide +kernel
theorem dX8_checksum_292 : decode cX8_checksum 292 = .ok (.iinc 3 1, 3) := by decide +kernel
theorem dX8_checksum_295 : decode cX8_checksum 295 = .ok (.goto (-41), 3) := by decide +kernel
theorem dX8_checksum_298 : decode cX8_checksum 298 = .ok (.aload_n 0, 1) := by decide +kernel
theorem dX8_checksum_299 : decode cX8_checksum 299 = .ok (.invokevirtual 100, 3) := by decide +kernel
theorem dX8_checksum_302 : decode cX8_checksum 302 = .ok (.ifCond .eq 23, 3) := by decide +kernel
theorem dX8_checksum_305 : decode cX8_checksum 305 = .ok (.lload_n 1, 1) := by decide +kernel
theorem dX8_checksum_306 : decode cX8_checksum 306 = .ok (.aload_n 0, 1) := by decide +kernel
theorem dX8_checksum_307 : decode cX8_checksum 307 = .ok (.iconst 0, 1) := by decide +kernel
theorem dX8_checksum_308 : decode cX8_checksum 308 = .ok (.invokevirtual 174, 3) := by decide +kernel
theorem dX8_checksum_311 : decode cX8_checksum 311 = .ok (.invokestatic 181, 3) := by decide +kernel
theorem dX8_checksum_314 : decode cX8_checksum 314 = .ok (.aload_n 0, 1) := by decide +kernel
theorem dX8_checksum_315 : decode cX8_checksum 315 = .ok (.iconst 1, 1) := by decide +kernel
theorem dX8_checksum_316 : decode cX8_checksum 316 = .ok (.invokevirtual 174, 3) := by decide +kernel
theorem dX8_checksum_319 : decode cX8_checksum 319 = .ok (.invokestatic 181, 3) := by decide +kernel
theorem dX8_checksum_322 : decode cX8_checksum 322 = .ok (.goto 4, 3) := by decide +kernel
theorem dX8_checksum_325 : decode cX8_checksum 325 = .ok (.lload_n 1, 1) := by decide +kernel
theorem dX8_checksum_326 : decode cX8_checksum 326 = .ok (.lreturn, 1) := by decide +kernel
