theorem dX7_isBlockButExit_0 : decode cX7_isBlockButExit 0 = .ok (.iload_n 1, 1) := by decide +kernel
theorem dX7_isBlockButExit_1 : decode cX7_isBlockButExit 1 = .ok (.iconst 0, 1) := by decide +kernel
theorem dX7_isBlockButExit_2 : decode cX7_isBlockButExit 2 = .ok (.aload_n 0, 1) := by decide +kernel
theorem dX7_isBlockButExit_3 : decode cX7_isBlockButExit 3 = .ok (.getfield 40, 3) := by decide +kernel
theorem dX7_isBlockButExit_6 : decode cX7_isBlockButExit 6 = .ok (.iconst 2, 1) := by decide +kernel
theorem dX7_isBlockButExit_7 : decode cX7_isBlockButExit 7 = .ok (.isub, 1) := by decide +kernel
theorem dX7_isBlockButExit_8 : decode cX7_isBlockButExit 8 = .ok (.invokestatic 60, 3) := by decide +kernel
theorem dX7_isBlockButExit_11 : decode cX7_isBlockButExit 11 = .ok (.ireturn, 1) := by decide +kernel
set_option maxRecDepth 20000 in
theorem ggX7_readStatement_X7_readNumbers : GoodIn wsX7_readStatement wsX7_readNumbers := goodIn_r _ [11, 2, 1, 12, 3, 13, 14, 15, 10, 16, 17, 18, 19, 34, 35, 36, 37, 38, 39, 40, 41, 42, 43, 44, 45, 46, 47, 48, 49, 50, 51, 52] (by decide +kernel) (by decide +kernel)
set_option maxRecDepth 20000 in
theorem gX7_readStatement_X7_readNumbers : GoodIn wsX7_readStatement (wsV RX7 68 RX7 yX7_readNumbers wsX7_readNumbers) := goodIn_app (goodIn_of _ (by decide +kernel)) ggX7_readStatement_X7_readNumbers
set_option maxRecDepth 20000 in
theorem ggX7_readStatement_X7_in : GoodIn wsX7_readStatement wsX7_in := goodIn_r _ [19] (by decide +kernel) (by decide +kernel)
set_option maxRecDepth 20000 in
theorem gX7_readStatement_X7_in : GoodIn wsX7_readStatement (va_wsS RX7 60 yX7_in wsX7_in) := goodIn_app (goodIn_of _ (by decide +kernel)) ggX7_readStatement_X7_in
set_option maxRecDepth 20000 in
theorem ggX7_readStatement_X7_isBlockButExit : GoodIn wsX7_readStatement wsX7_isBlockButExit := goodIn_r _ [23, 4, 17, 18, 10, 19, 34, 35, 36, 37, 38, 39, 40, 41, 42, 43, 44, 45, 46, 47, 48, 49, 50, 51, 52] (by decide +kernel) (by decide +kernel)
set_option maxRecDepth 20000 in
theorem gX7_readStatement_X7_isBlockButExit : GoodIn wsX7_readStatement (wsV RX7 72 RX7 yX7_isBlockButExit wsX7_isBlockButExit) := goodIn_app (goodIn_of _ (by decide +kernel)) ggX7_readStatement_X7_isBlockButExit
set_option maxRecDepth 20000 in
theorem ggX7_readStatement_X7_has : GoodIn wsX7_readStatement wsX7_has := goodIn_r _ [26] (by decide +kernel) (by decide +kernel)
set_option maxRecDepth 20000 in
theorem gX7_readStatement_X7_has : GoodIn wsX7_readStatement (va_wsS RX7 78 yX7_has wsX7_has) := goodIn_app (goodIn_of _ (by decide +kernel)) ggX7_readStatement_X7_has
set_option maxRecDepth 20000 in
theorem ggX7_readStatement_X7_putEdge : GoodIn wsX7_readStatement wsX7_putEdge := goodIn_r _ [30, 31, 6, 32, 33, 34, 35, 36, 37, 38, 39, 40, 41, 42, 43, 44, 45, 46, 47, 48, 49, 50, 51, 52] (by decide +kernel) (by decide +kernel)
set_option maxRecDepth 20000 in
theorem gX7_readStatement_X7_putEdge : GoodIn wsX7_readStatement (wsV RX7 44 RX7 yX7_putEdge wsX7_putEdge) := goodIn_app (goodIn_of _ (by decide +kernel)) ggX7_readStatement_X7_putEdge
theorem dX7_readStatement_0 : decode cX7_readStatement 0 = .ok (.aload_n 0, 1) := by decide +kernel
theorem dX7_readStatement_1 : decode cX7_readStatement 1 = .ok (.getfield 7, 3) := by decide +kernel
theorem dX7_readStatement_4 : decode cX7_readStatement 4 = .ok (.aload_n 0, 1) := by decide +kernel
theorem dX7_readStatement_5 : decode cX7_readStatement 5 = .ok (.getfield 54, 3) := by decide +kernel
theorem dX7_readStatement_8 : decode cX7_readStatement 8 = .ok (.iaload, 1) := by decide +kernel
theorem dX7_readStatement_9 : decode cX7_readStatement 9 = .ok (.istore_n 1, 1) := by decide +kernel
theorem dX7_readStatement_10 : decode cX7_readStatement 10 = .ok (.aload_n 0, 1) := by decide +kernel
theorem dX7_readStatement_11 : decode cX7_readStatement 11 = .ok (.getfield 54, 3) := by decide +kernel
theorem dX7_readStatement_14 : decode cX7_readStatement 14 = .ok (.ifCond .ne 7, 3) := by decide +kernel
theorem dX7_readStatement_17 : decode cX7_readStatement 17 = .ok (.iconst 1, 1) := by decide +kernel
theorem dX7_readStatement_18 : decode cX7_readStatement 18 = .ok (.goto 4, 3) := by decide +kernel
theorem dX7_readStatement_21 : decode cX7_readStatement 21 = .ok (.iconst 0, 1) := by decide +kernel
theorem dX7_readStatement_22 : decode cX7_readStatement 22 = .ok (.istore_n 2, 1) := by decide +kernel
theorem dX7_readStatement_23 : decode cX7_readStatement 23 = .ok (.iload_n 1, 1) := by decide +kernel
theorem dX7_readStatement_24 : decode cX7_readStatement 24 = .ok (.bipush 98, 2) := by decide +kernel
theorem dX7_readStatement_26 : decode cX7_readStatement 26 = .ok (.if_icmp .eq 15, 3) := by decide +kernel
theorem dX7_readStatement_29 : decode cX7_readStatement 29 = .ok (.iload_n 1, 1) := by decide +kernel
theorem dX7_readStatement_30 : decode cX7_readStatement 30 = .ok (.bipush 101, 2) := by decide +kernel
theorem dX7_readStatement_32 : decode cX7_readStatement 32 = .ok (.if_icmp .eq 9, 3) := by decide +kernel
theorem dX7_readStatement_35 : decode cX7_readStatement 35 = .ok (.iload_n 1, 1) := by decide +kernel
theorem dX7_readStatement_36 : decode cX7_readStatement 36 = .ok (.bipush 97, 2) := by decide +kernel
theorem dX7_readStatement_38 : decode cX7_readStatement 38 = .ok (.if_icmp .ne 18, 3) := by decide +kernel
theorem dX7_readStatement_41 : decode cX7_readStatement 41 = .ok (.iload_n 2, 1) := by decide +kernel
theorem dX7_readStatement_42 : decode cX7_readStatement 42 = .ok (.iload_n 1, 1) := by decide +kernel
theorem dX7_readStatement_43 : decode cX7_readStatement 43 = .ok (.bipush 98, 2) := by decide +kernel
theorem dX7_readStatement_45 : decode cX7_readStatement 45 = .ok (.if_icmp .ne 7, 3) := by decide +kernel
theorem dX7_readStatement_48 : decode cX7_readStatement 48 = .ok (.iconst 1, 1) := by decide +kernel
theorem dX7_readStatement_49 : decode cX7_readStatement 49 = .ok (.goto 4, 3) := by decide +kernel
theorem dX7_readStatement_52 : decode cX7_readStatement 52 = .ok (.iconst 0, 1) := by decide +kernel
theorem dX7_readStatement_53 : decode cX7_readStatement 53 = .ok (.if_icmp .eq 5, 3) := by decide +kernel
theorem dX7_readStatement_56 : decode cX7_readStatement 56 = .ok (.iconst 1, 1) := by decide +kernel
theorem dX7_readStatement_57 : decode cX7_readStatement 57 = .ok (.ireturn, 1) := by decide +kernel
theorem dX7_readStatement_58 : decode cX7_readStatement 58 = .ok (.aload_n 0, 1) := by decide +kernel
theorem dX7_readStatement_59 : decode cX7_readStatement 59 = .ok (.dup, 1) := by decide +kernel
theorem dX7_readStatement_60 : decode cX7_readStatement 60 = .ok (.getfield 54, 3) := by decide +kernel
theorem dX7_readStatement_63 : decode cX7_readStatement 63 = .ok (.iconst 1, 1) := by decide +kernel
theorem dX7_readStatement_64 : decode cX7_readStatement 64 = .ok (.iadd, 1) := by decide +kernel
theorem dX7_readStatement_65 : decode cX7_readStatement 65 = .ok (.putfield 54, 3) := by decide +kernel
theorem dX7_readStatement_68 : decode cX7_readStatement 68 = .ok (.aload_n 0, 1) := by decide +kernel
theorem dX7_readStatement_69 : decode cX7_readStatement 69 = .ok (.iload_n 1, 1) := by decide +kernel
theorem dX7_readStatement_70 : decode cX7_readStatement 70 = .ok (.bipush 101, 2) := by decide +kernel
theorem dX7_readStatement_72 : decode cX7_readStatement 72 = .ok (.if_icmp .ne 7, 3) := by decide +kernel
theorem dX7_readStatement_75 : decode cX7_readStatement 75 = .ok (.iconst 3, 1) := by decide +kernel
theorem dX7_readStatement_76 : decode cX7_readStatement 76 = .ok (.goto 4, 3) := by decide +kernel
theorem dX7_readStatement_79 : decode cX7_readStatement 79 = .ok (.iconst 1, 1) := by decide +kernel
theorem dX7_readStatement_80 : decode cX7_readStatement 80 = .ok (.invokevirtual 68, 3) := by decide +kernel
theorem dX7_readStatement_83 : decode cX7_readStatement 83 = .ok (.ifCond .ne 5, 3) := by decide +kernel
theorem dX7_readStatement_86 : decode cX7_readStatement 86 = .ok (.iconst 2, 1) := by decide +kernel
theorem dX7_readStatement_87 : decode cX7_readStatement 87 = .ok (.ireturn, 1) := by decide +kernel
theorem dX7_readStatement_88 : decode cX7_readStatement 88 = .ok (.iload_n 1, 1) := by decide +kernel
theorem dX7_readStatement_89 : decode cX7_readStatement 89 = .ok (.bipush 98, 2) := by decide +kernel
theorem dX7_readStatement_91 : decode cX7_readStatement 91 = .ok (.if_icmp .ne 32, 3) := by decide +kernel
theorem dX7_readStatement_94 : decode cX7_readStatement 94 = .ok (.aload_n 0, 1) := by decide +kernel
theorem dX7_readStatement_95 : decode cX7_readStatement 95 = .ok (.aload_n 0, 1) := by decide +kernel
theorem dX7_readStatement_96 : decode cX7_readStatement 96 = .ok (.getfield 34, 3) := by decide +kernel
theorem dX7_readStatement_99 : decode cX7_readStatement 99 = .ok (.iconst 0, 1) := by decide +kernel
theorem dX7_readStatement_100 : decode cX7_readStatement 100 = .ok (.iaload, 1) := by decide +kernel
theorem dX7_readStatement_101 : decode cX7_readStatement 101 = .ok (.putfield 40, 3) := by decide +kernel
theorem dX7_readStatement_104 : decode cX7_readStatement 104 = .ok (.aload_n 0, 1) := by decide +kernel
theorem dX7_readStatement_105 : decode cX7_readStatement 105 = .ok (.getfield 40, 3) := by decide +kernel
theorem dX7_readStatement_108 : decode cX7_readStatement 108 = .ok (.iconst 2, 1) := by decide +kernel
theorem dX7_readStatement_109 : decode cX7_readStatement 109 = .ok (.bipush 10, 2) := by decide +kernel
theorem dX7_readStatement_111 : decode cX7_readStatement 111 = .ok (.invokestatic 60, 3) := by decide +kernel
theorem dX7_readStatement_114 : decode cX7_readStatement 114 = .ok (.ifCond .eq 7, 3) := by decide +kernel
theorem dX7_readStatement_117 : decode cX7_readStatement 117 = .ok (.iconst 0, 1) := by decide +kernel
theorem dX7_readStatement_118 : decode cX7_readStatement 118 = .ok (.goto 4, 3) := by decide +kernel
theorem dX7_readStatement_121 : decode cX7_readStatement 121 = .ok (.iconst 3, 1) := by decide +kernel
theorem dX7_readStatement_122 : decode cX7_readStatement 122 = .ok (.ireturn, 1) := by decide +kernel
theorem dX7_readStatement_123 : decode cX7_readStatement 123 = .ok (.iload_n 1, 1) := by decide +kernel
theorem dX7_readStatement_124 : decode cX7_readStatement 124 = .ok (.bipush 97, 2) := by decide +kernel
theorem dX7_readStatement_126 : decode cX7_readStatement 126 = .ok (.if_icmp .ne 7, 3) := by decide +kernel
theorem dX7_readStatement_129 : decode cX7_readStatement 129 = .ok (.iconst 1, 1) := by decide +kernel
theorem dX7_readStatement_130 : decode cX7_readStatement 130 = .ok (.goto 4, 3) := by decide +kernel
theorem dX7_readStatement_133 : decode cX7_readStatement 133 = .ok (.iconst 0, 1) := by decide +kernel
theorem dX7_readStatement_134 : decode cX7_readStatement 134 = .ok (.istore_n 3, 1) := by decide +kernel
theorem dX7_readStatement_135 : decode cX7_readStatement 135 = .ok (.aload_n 0, 1) := by decide +kernel
theorem dX7_readStatement_136 : decode cX7_readStatement 136 = .ok (.getfield 34, 3) := by decide +kernel
theorem dX7_readStatement_139 : decode cX7_readStatement 139 = .ok (.iconst 0, 1) := by decide +kernel
theorem dX7_readStatement_140 : decode cX7_readStatement 140 = .ok (.iaload, 1) := by decide +kernel
theorem dX7_readStatement_141 : decode cX7_readStatement 141 = .ok (.istore 4, 2) := by decide +kernel
theorem dX7_readStatement_143 : decode cX7_readStatement 143 = .ok (.iload_n 3, 1) := by decide +kernel
theorem dX7_readStatement_144 : decode cX7_readStatement 144 = .ok (.ifCond .eq 12, 3) := by decide +kernel
theorem dX7_readStatement_147 : decode cX7_readStatement 147 = .ok (.aload_n 0, 1) := by decide +kernel
theorem dX7_readStatement_148 : decode cX7_readStatement 148 = .ok (.getfield 40, 3) := by decide +kernel
theorem dX7_readStatement_151 : decode cX7_readStatement 151 = .ok (.iconst 1, 1) := by decide +kernel
theorem dX7_readStatement_152 : decode cX7_readStatement 152 = .ok (.isub, 1) := by decide +kernel
theorem dX7_readStatement_153 : decode cX7_readStatement 153 = .ok (.goto 9, 3) := by decide +kernel
theorem dX7_readStatement_156 : decode cX7_readStatement 156 = .ok (.aload_n 0, 1) := by decide +kernel
theorem dX7_readStatement_157 : decode cX7_readStatement 157 = .ok (.getfield 34, 3) := by decide +kernel
theorem dX7_readStatement_160 : decode cX7_readStatement 160 = .ok (.iconst 1, 1) := by decide +kernel
theorem dX7_readStatement_161 : decode cX7_readStatement 161 = .ok (.iaload, 1) := by decide +kernel
theorem dX7_readStatement_162 : decode cX7_readStatement 162 = .ok (.istore 5, 2) := by decide +kernel
theorem dX7_readStatement_164 : decode cX7_readStatement 164 = .ok (.aload_n 0, 1) := by decide +kernel
theorem dX7_readStatement_165 : decode cX7_readStatement 165 = .ok (.iload 4, 2) := by decide +kernel
theorem dX7_readStatement_167 : decode cX7_readStatement 167 = .ok (.invokevirtual 72, 3) := by decide +kernel
theorem dX7_readStatement_170 : decode cX7_readStatement 170 = .ok (.ifCond .eq 25, 3) := by decide +kernel
theorem dX7_readStatement_173 : decode cX7_readStatement 173 = .ok (.iload 5, 2) := by decide +kernel
theorem dX7_readStatement_175 : decode cX7_readStatement 175 = .ok (.iconst 1, 1) := by decide +kernel
theorem dX7_readStatement_176 : decode cX7_readStatement 176 = .ok (.aload_n 0, 1) := by decide +kernel
theorem dX7_readStatement_177 : decode cX7_readStatement 177 = .ok (.getfield 40, 3) := by decide +kernel
theorem dX7_readStatement_180 : decode cX7_readStatement 180 = .ok (.iconst 1, 1) := by decide +kernel
theorem dX7_readStatement_181 : decode cX7_readStatement 181 = .ok (.isub, 1) := by decide +kernel
theorem dX7_readStatement_182 : decode cX7_readStatement 182 = .ok (.invokestatic 60, 3) := by decide +kernel
theorem dX7_readStatement_185 : decode cX7_readStatement 185 = .ok (.ifCond .eq 10, 3) := by decide +kernel
theorem dX7_readStatement_188 : decode cX7_readStatement 188 = .ok (.iload 4, 2) := by decide +kernel
theorem dX7_readStatement_190 : decode cX7_readStatement 190 = .ok (.iload 5, 2) := by decide +kernel
theorem dX7_readStatement_192 : decode cX7_readStatement 192 = .ok (.if_icmp .ne 5, 3) := by decide +kernel
theorem dX7_readStatement_195 : decode cX7_readStatement 195 = .ok (.iconst 3, 1) := by decide +kernel
theorem dX7_readStatement_196 : decode cX7_readStatement 196 = .ok (.ireturn, 1) := by decide +kernel
theorem dX7_readStatement_197 : decode cX7_readStatement 197 = .ok (.iload_n 3, 1) := by decide +kernel
theorem dX7_readStatement_198 : decode cX7_readStatement 198 = .ok (.ifCond .eq 17, 3) := by decide +kernel
theorem dX7_readStatement_201 : decode cX7_readStatement 201 = .ok (.aload_n 0, 1) := by decide +kernel
theorem dX7_readStatement_202 : decode cX7_readStatement 202 = .ok (.getfield 75, 3) := by decide +kernel
theorem dX7_readStatement_205 : decode cX7_readStatement 205 = .ok (.iload 4, 2) := by decide +kernel
theorem dX7_readStatement_207 : decode cX7_readStatement 207 = .ok (.invokestatic 78, 3) := by decide +kernel
theorem dX7_readStatement_210 : decode cX7_readStatement 210 = .ok (.ifCond .eq 5, 3) := by decide +kernel
theorem dX7_readStatement_213 : decode cX7_readStatement 213 = .ok (.iconst 4, 1) := by decide +kernel
theorem dX7_readStatement_214 : decode cX7_readStatement 214 = .ok (.ireturn, 1) := by decide +kernel
theorem dX7_readStatement_215 : decode cX7_readStatement 215 = .ok (.aload_n 0, 1) := by decide +kernel
theorem dX7_readStatement_216 : decode cX7_readStatement 216 = .ok (.getfield 51, 3) := by decide +kernel
theorem dX7_readStatement_219 : decode cX7_readStatement 219 = .ok (.bipush 20, 2) := by decide +kernel
theorem dX7_readStatement_221 : decode cX7_readStatement 221 = .ok (.if_icmp .ne 5, 3) := by decide +kernel
theorem dX7_readStatement_224 : decode cX7_readStatement 224 = .ok (.iconst 5, 1) := by decide +kernel
theorem dX7_readStatement_225 : decode cX7_readStatement 225 = .ok (.ireturn, 1) := by decide +kernel
theorem dX7_readStatement_226 : decode cX7_readStatement 226 = .ok (.aload_n 0, 1) := by decide +kernel
theorem dX7_readStatement_227 : decode cX7_readStatement 227 = .ok (.dup, 1) := by decide +kernel
theorem dX7_readStatement_228 : decode cX7_readStatement 228 = .ok (.getfield 75, 3) := by decide +kernel
theorem dX7_readStatement_231 : decode cX7_readStatement 231 = .ok (.iload_n 3, 1) := by decide +kernel
theorem dX7_readStatement_232 : decode cX7_readStatement 232 = .ok (.ifCond .eq 10, 3) := by decide +kernel
theorem dX7_readStatement_235 : decode cX7_readStatement 235 = .ok (.iconst 1, 1) := by decide +kernel
theorem dX7_readStatement_236 : decode cX7_readStatement 236 = .ok (.iload 4, 2) := by decide +kernel
theorem dX7_readStatement_238 : decode cX7_readStatement 238 = .ok (.ishl, 1) := by decide +kernel
theorem dX7_readStatement_239 : decode cX7_readStatement 239 = .ok (.goto 4, 3) := by decide +kernel
theorem dX7_readStatement_242 : decode cX7_readStatement 242 = .ok (.iconst 0, 1) := by decide +kernel
theorem dX7_readStatement_243 : decode cX7_readStatement 243 = .ok (.ior, 1) := by decide +kernel
theorem dX7_readStatement_244 : decode cX7_readStatement 244 = .ok (.putfield 75, 3) := by decide +kernel
theorem dX7_readStatement_247 : decode cX7_readStatement 247 = .ok (.aload_n 0, 1) := by decide +kernel
theorem dX7_readStatement_248 : decode cX7_readStatement 248 = .ok (.iload 4, 2) := by decide +kernel
theorem dX7_readStatement_250 : decode cX7_readStatement 250 = .ok (.iload 5, 2) := by decide +kernel
theorem dX7_readStatement_252 : decode cX7_readStatement 252 = .ok (.iload_n 3, 1) := by decide +kernel
theorem dX7_readStatement_253 : decode cX7_readStatement 253 = .ok (.ifCond .eq 7, 3) := by decide +kernel
theorem dX7_readStatement_256 : decode cX7_readStatement 256 = .ok (.iconst 0, 1) := by decide +kernel
theorem dX7_readStatement_257 : decode cX7_readStatement 257 = .ok (.goto 9, 3) := by decide +kernel
theorem dX7_readStatement_260 : decode cX7_readStatement 260 = .ok (.aload_n 0, 1) := by decide +kernel
theorem dX7_readStatement_261 : decode cX7_readStatement 261 = .ok (.getfield 34, 3) := by decide +kernel
theorem dX7_readStatement_264 : decode cX7_readStatement 264 = .ok (.iconst 2, 1) := by decide +kernel
theorem dX7_readStatement_265 : decode cX7_readStatement 265 = .ok (.iaload, 1) := by decide +kernel
theorem dX7_readStatement_266 : decode cX7_readStatement 266 = .ok (.invokevirtual 44, 3) := by decide +kernel
theorem dX7_readStatement_269 : decode cX7_readStatement 269 = .ok (.iconst 0, 1) := by decide +kernel
theorem dX7_readStatement_270 : decode cX7_readStatement 270 = .ok (.ireturn, 1) := by decide +kernel
set_option maxRecDepth 20000 in
theorem ggX7_readText_X7_readStatement : GoodIn wsX7_readText wsX7_readStatement := goodIn_r _ [11, 12, 5, 13, 1, 3, 2, 14, 15, 16, 10, 17, 6, 18, 19, 20, 21, 22, 23, 24, 25, 26, 27, 28, 29, 30, 31, 32, 33, 34, 35, 36, 37, 38, 39, 40, 41, 42, 43, 44, 45, 46, 47, 48, 49, 50, 51, 52, 53, 54, 55, 56, 57] (by decide +kernel) (by decide +kernel)
set_option maxRecDepth 20000 in
theorem gX7_readText_X7_readStatement : GoodIn wsX7_readText (wsV RX7 85 RX7 yX7_readStatement wsX7_readStatement) := goodIn_app (goodIn_of _ (by decide +kernel)) ggX7_readText_X7_readStatement
theorem dX7_readText_0 : decode cX7_readText 0 = .ok (.aload_n 0, 1) := by decide +kernel
theorem dX7_readText_1 : decode cX7_readText 1 = .ok (.iconst 0, 1) := by decide +kernel
theorem dX7_readText_2 : decode cX7_readText 2 = .ok (.putfield 40, 3) := by decide +kernel
theorem dX7_readText_5 : decode cX7_readText 5 = .ok (.aload_n 0, 1) := by decide +kernel
theorem dX7_readText_6 : decode cX7_readText 6 = .ok (.iconst 0, 1) := by decide +kernel
theorem dX7_readText_7 : decode cX7_readText 7 = .ok (.putfield 51, 3) := by decide +kernel
theorem dX7_readText_10 : decode cX7_readText 10 = .ok (.aload_n 0, 1) := by decide +kernel
theorem dX7_readText_11 : decode cX7_readText 11 = .ok (.iconst 0, 1) := by decide +kernel
theorem dX7_readText_12 : decode cX7_readText 12 = .ok (.putfield 75, 3) := by decide +kernel
theorem dX7_readText_15 : decode cX7_readText 15 = .ok (.aload_n 0, 1) := by decide +kernel
theorem dX7_readText_16 : decode cX7_readText 16 = .ok (.iconst 0, 1) := by decide +kernel
theorem dX7_readText_17 : decode cX7_readText 17 = .ok (.putfield 82, 3) := by decide +kernel
theorem dX7_readText_20 : decode cX7_readText 20 = .ok (.aload_n 0, 1) := by decide +kernel
theorem dX7_readText_21 : decode cX7_readText 21 = .ok (.iconst 0, 1) := by decide +kernel
theorem dX7_readText_22 : decode cX7_readText 22 = .ok (.putfield 54, 3) := by decide +kernel
theorem dX7_readText_25 : decode cX7_readText 25 = .ok (.aload_n 0, 1) := by decide +kernel
theorem dX7_readText_26 : decode cX7_readText 26 = .ok (.getfield 54, 3) := by decide +kernel
theorem dX7_readText_29 : decode cX7_readText 29 = .ok (.aload_n 0, 1) := by decide +kernel
theorem dX7_readText_30 : decode cX7_readText 30 = .ok (.getfield 57, 3) := by decide +kernel
theorem dX7_readText_33 : decode cX7_readText 33 = .ok (.if_icmp .ge 28, 3) := by decide +kernel
theorem dX7_readText_36 : decode cX7_readText 36 = .ok (.aload_n 0, 1) := by decide +kernel
theorem dX7_readText_37 : decode cX7_readText 37 = .ok (.getfield 54, 3) := by decide +kernel
theorem dX7_readText_40 : decode cX7_readText 40 = .ok (.istore_n 1, 1) := by decide +kernel
theorem dX7_readText_41 : decode cX7_readText 41 = .ok (.aload_n 0, 1) := by decide +kernel
theorem dX7_readText_42 : decode cX7_readText 42 = .ok (.aload_n 0, 1) := by decide +kernel
theorem dX7_readText_43 : decode cX7_readText 43 = .ok (.invokevirtual 85, 3) := by decide +kernel
theorem dX7_readText_46 : decode cX7_readText 46 = .ok (.putfield 82, 3) := by decide +kernel
theorem dX7_readText_49 : decode cX7_readText 49 = .ok (.aload_n 0, 1) := by decide +kernel
theorem dX7_readText_50 : decode cX7_readText 50 = .ok (.getfield 82, 3) := by decide +kernel
theorem dX7_readText_53 : decode cX7_readText 53 = .ok (.ifCond .eq 5, 3) := by decide +kernel
theorem dX7_readText_56 : decode cX7_readText 56 = .ok (.iload_n 1, 1) := by decide +kernel
theorem dX7_readText_57 : decode cX7_readText 57 = .ok (.ireturn, 1) := by decide +kernel
theorem dX7_readText_58 : decode cX7_readText 58 = .ok (.goto (-33), 3) := by decide +kernel
theorem dX7_readText_61 : decode cX7_readText 61 = .ok (.bipush (-104), 2) := by decide +kernel
theorem dX7_readText_63 : decode cX7_readText 63 = .ok (.ireturn, 1) := by decide +kernel
set_option maxRecDepth 20000 in
theorem ggX7_append_X7_in : GoodIn wsX7_append wsX7_in := goodIn_r _ [6] (by decide +kernel) (by decide +kernel)
set_option maxRecDepth 20000 in
theorem gX7_append_X7_in : GoodIn wsX7_append (va_wsS RX7 60 yX7_in wsX7_in) := goodIn_app (goodIn_of _ (by decide +kernel)) ggX7_append_X7_in
theorem dX7_append_0 : decode cX7_append 0 = .ok (.iload_n 1, 1) := by decide +kernel
theorem dX7_append_1 : decode cX7_append 1 = .ok (.bipush 32, 2) := by decide +kernel
theorem dX7_append_3 : decode cX7_append 3 = .ok (.bipush 126, 2) := by decide +kernel
theorem dX7_append_5 : decode cX7_append 5 = .ok (.invokestatic 60, 3) := by decide +kernel
theorem dX7_append_8 : decode cX7_append 8 = .ok (.ifCond .ne 6, 3) := by decide +kernel
theorem dX7_append_11 : decode cX7_append 11 = .ok (.bipush (-101), 2) := by decide +kernel
theorem dX7_append_13 : decode cX7_append 13 = .ok (.ireturn, 1) := by decide +kernel
theorem dX7_append_14 : decode cX7_append 14 = .ok (.aload_n 0, 1) := by decide +kernel
theorem dX7_append_15 : decode cX7_append 15 = .ok (.getfield 57, 3) := by decide +kernel
theorem dX7_append_18 : decode cX7_append 18 = .ok (.sipush 200, 3) := by decide +kernel
theorem dX7_append_21 : decode cX7_append 21 = .ok (.if_icmp .ne 6, 3) := by decide +kernel
theorem dX7_append_24 : decode cX7_append 24 = .ok (.bipush (-103), 2) := by decide +kernel
theorem dX7_append_26 : decode cX7_append 26 = .ok (.ireturn, 1) := by decide +kernel
theorem dX7_append_27 : decode cX7_append 27 = .ok (.aload_n 0, 1) := by decide +kernel
theorem dX7_append_28 : decode cX7_append 28 = .ok (.getfield 7, 3) := by decide +kernel
theorem dX7_append_31 : decode cX7_append 31 = .ok (.aload_n 0, 1) := by decide +kernel
theorem dX7_append_32 : decode cX7_append 32 = .ok (.getfield 57, 3) := by decide +kernel
theorem dX7_append_35 : decode cX7_append 35 = .ok (.iload_n 1, 1) := by decide +kernel
theorem dX7_append_36 : decode cX7_append 36 = .ok (.iastore, 1) := by decide +kernel
theorem dX7_append_37 : decode cX7_append 37 = .ok (.aload_n 0, 1) := by decide +kernel
theorem dX7_append_38 : decode cX7_append 38 = .ok (.dup, 1) := by decide +kernel
theorem dX7_append_39 : decode cX7_append 39 = .ok (.getfield 57, 3) := by decide +kernel
theorem dX7_append_42 : decode cX7_append 42 = .ok (.iconst 1, 1) := by decide +kernel
theorem dX7_append_43 : decode cX7_append 43 = .ok (.iadd, 1) := by decide +kernel
theorem dX7_append_44 : decode cX7_append 44 = .ok (.putfield 57, 3) := by decide +kernel
theorem dX7_append_47 : decode cX7_append 47 = .ok (.aload_n 0, 1) := by decide +kernel
theorem dX7_append_48 : decode cX7_append 48 = .ok (.getfield 57, 3) := by decide +kernel
theorem dX7_append_51 : decode cX7_append 51 = .ok (.ireturn, 1) := by decide +kernel
theorem dX7_clearText_0 : decode cX7_clearText 0 = .ok (.aload_n 0, 1) := by decide +kernel
theorem dX7_clearText_1 : decode cX7_clearText 1 = .ok (.getfield 57, 3) := by decide +kernel
theorem dX7_clearText_4 : decode cX7_clearText 4 = .ok (.istore_n 1, 1) := by decide +kernel
theorem dX7_clearText_5 : decode cX7_clearText 5 = .ok (.aload_n 0, 1) := by decide +kernel
theorem dX7_clearText_6 : decode cX7_clearText 6 = .ok (.iconst 0, 1) := by decide +kernel
theorem dX7_clearText_7 : decode cX7_clearText 7 = .ok (.putfield 57, 3) := by decide +kernel
theorem dX7_clearText_10 : decode cX7_clearText 10 = .ok (.iload_n 1, 1) := by decide +kernel
theorem dX7_clearText_11 : decode cX7_clearText 11 = .ok (.ireturn, 1) := by decide +kernel
set_option maxRecDepth 20000 in
theorem ggX7_firstError_X7_readText : GoodIn wsX7_firstError wsX7_readText := goodIn_r _ [5, 6, 7, 8, 9, 10, 11, 12, 13, 14, 4, 15, 16, 17, 18, 19, 20, 21, 22, 23, 24, 25, 26, 27, 28, 29, 30, 31, 32, 33, 34, 35, 36, 37, 38, 39, 40, 41, 42, 43, 44, 45, 46, 47, 48, 49, 50, 51, 52, 53, 54, 55, 56, 57, 58, 59, 60, 61] (by decide +kernel) (by decide +kernel)
set_option maxRecDepth 20000 in
theorem gX7_firstError_X7_readText : GoodIn wsX7_firstError (wsV RX7 89 RX7 yX7_readText wsX7_readText) := goodIn_app (goodIn_of _ (by decide +kernel)) ggX7_firstError_X7_readText
theorem dX7_firstError_0 : decode cX7_firstError 0 = .ok (.aload_n 0, 1) := by decide +kernel
theorem dX7_firstError_1 : decode cX7_firstError 1 = .ok (.invokevirtual 89, 3) := by decide +kernel
theorem dX7_firstError_4 : decode cX7_firstError 4 = .ok (.ireturn, 1) := by decide +kernel
set_option maxRecDepth 20000 in
theorem ggX7_errorReason_X7_readText : GoodIn wsX7_errorReason wsX7_readText := goodIn_r _ [6, 7, 8, 9, 1, 10, 11, 12, 13, 14, 5, 15, 16, 17, 18, 19, 20, 21, 22, 23, 24, 25, 26, 27, 28, 29, 30, 31, 32, 33, 34, 35, 36, 37, 38, 39, 40, 41, 42, 43, 44, 45, 46, 47, 48, 49, 50, 51, 52, 53, 54, 55, 56, 57, 58, 59, 60, 61] (by decide +kernel) (by decide +kernel)
set_option maxRecDepth 20000 in
theorem gX7_errorReason_X7_readText : GoodIn wsX7_errorReason (wsV RX7 89 RX7 yX7_readText wsX7_readText) := goodIn_app (goodIn_of _ (by decide +kernel)) ggX7_errorReason_X7_readText
theorem dX7_errorReason_0 : decode cX7_errorReason 0 = .ok (.aload_n 0, 1) := by decide +kernel
theorem dX7_errorReason_1 : decode cX7_errorReason 1 = .ok (.invokevirtual 89, 3) := by decide +kernel
theorem dX7_errorReason_4 : decode cX7_errorReason 4 = .ok (.istore_n 1, 1) := by decide +kernel
theorem dX7_errorReason_5 : decode cX7_errorReason 5 = .ok (.iload_n 1, 1) := by decide +kernel
theorem dX7_errorReason_6 : decode cX7_errorReason 6 = .ok (.bipush (-104), 2) := by decide +kernel
theorem dX7_errorReason_8 : decode cX7_errorReason 8 = .ok (.if_icmp .ne 8, 3) := by decide +kernel
theorem dX7_errorReason_11 : decode cX7_errorReason 11 = .ok (.bipush (-104), 2) := by decide +kernel
theorem dX7_errorReason_13 : decode cX7_errorReason 13 = .ok (.goto 7, 3) := by decide +kernel
theorem dX7_errorReason_16 : decode cX7_errorReason 16 = .ok (.aload_n 0, 1) := by decide +kernel
theorem dX7_errorReason_17 : decode cX7_errorReason 17 = .ok (.getfield 82, 3) := by decide +kernel
theorem dX7_errorReason_20 : decode cX7_errorReason 20 = .ok (.ireturn, 1) := by decide +kernel
theorem dX7_isComplete_0 : decode cX7_isComplete 0 = .ok (.iconst 0, 1) := by decide +kernel
theorem dX7_isComplete_1 : decode cX7_isComplete 1 = .ok (.istore_n 1, 1) := by decide +kernel
theorem dX7_isComplete_2 : decode cX7_isComplete 2 = .ok (.iconst 1, 1) := by decide +kernel
theorem dX7_isComplete_3 : decode cX7_isComplete 3 = .ok (.iconst 1, 1) := by decide +kernel
theorem dX7_isComplete_4 : decode cX7_isComplete 4 = .ok (.aload_n 0, 1) := by decide +kernel
theorem dX7_isComplete_5 : decode cX7_isComplete 5 = .ok (.getfield 40, 3) := by decide +kernel
theorem dX7_isComplete_8 : decode cX7_isComplete 8 = .ok (.iconst 1, 1) := by decide +kernel
theorem dX7_isComplete_9 : decode cX7_isComplete 9 = .ok (.isub, 1) := by decide +kernel
theorem dX7_isComplete_10 : decode cX7_isComplete 10 = .ok (.ishl, 1) := by decide +kernel
theorem dX7_isComplete_11 : decode cX7_isComplete 11 = .ok (.ior, 1) := by decide +kernel
theorem dX7_isComplete_12 : decode cX7_isComplete 12 = .ok (.istore_n 2, 1) := by decide +kernel
theorem dX7_isComplete_13 : decode cX7_isComplete 13 = .ok (.iconst 0, 1) := by decide +kernel
theorem dX7_isComplete_14 : decode cX7_isComplete 14 = .ok (.istore_n 3, 1) := by decide +kernel
theorem dX7_isComplete_15 : decode cX7_isComplete 15 = .ok (.iload_n 3, 1) := by decide +kernel
theorem dX7_isComplete_16 : decode cX7_isComplete 16 = .ok (.bipush 10, 2) := by decide +kernel
theorem dX7_isComplete_18 : decode cX7_isComplete 18 = .ok (.if_icmp .ge 76, 3) := by decide +kernel
theorem dX7_isComplete_21 : decode cX7_isComplete 21 = .ok (.iconst 0, 1) := by decide +kernel
theorem dX7_isComplete_22 : decode cX7_isComplete 22 = .ok (.istore 4, 2) := by decide +kernel
theorem dX7_isComplete_24 : decode cX7_isComplete 24 = .ok (.iload 4, 2) := by decide +kernel
theorem dX7_isComplete_26 : decode cX7_isComplete 26 = .ok (.aload_n 0, 1) := by decide +kernel
theorem dX7_isComplete_27 : decode cX7_isComplete 27 = .ok (.getfield 51, 3) := by decide +kernel
theorem dX7_isComplete_30 : decode cX7_isComplete 30 = .ok (.if_icmp .ge 58, 3) := by decide +kernel
theorem dX7_isComplete_33 : decode cX7_isComplete 33 = .ok (.iconst 1, 1) := by decide +kernel
theorem dX7_isComplete_34 : decode cX7_isComplete 34 = .ok (.aload_n 0, 1) := by decide +kernel
theorem dX7_isComplete_35 : decode cX7_isComplete 35 = .ok (.getfield 25, 3) := by decide +kernel
theorem dX7_isComplete_38 : decode cX7_isComplete 38 = .ok (.iload 4, 2) := by decide +kernel
theorem dX7_isComplete_40 : decode cX7_isComplete 40 = .ok (.iaload, 1) := by decide +kernel
theorem dX7_isComplete_41 : decode cX7_isComplete 41 = .ok (.ishl, 1) := by decide +kernel
theorem dX7_isComplete_42 : decode cX7_isComplete 42 = .ok (.iconst 1, 1) := by decide +kernel
theorem dX7_isComplete_43 : decode cX7_isComplete 43 = .ok (.aload_n 0, 1) := by decide +kernel
theorem dX7_isComplete_44 : decode cX7_isComplete 44 = .ok (.getfield 28, 3) := by decide +kernel
theorem dX7_isComplete_47 : decode cX7_isComplete 47 = .ok (.iload 4, 2) := by decide +kernel
theorem dX7_isComplete_49 : decode cX7_isComplete 49 = .ok (.iaload, 1) := by decide +kernel
theorem dX7_isComplete_50 : decode cX7_isComplete 50 = .ok (.ishl, 1) := by decide +kernel
theorem dX7_isComplete_51 : decode cX7_isComplete 51 = .ok (.ior, 1) := by decide +kernel
theorem dX7_isComplete_52 : decode cX7_isComplete 52 = .ok (.istore 5, 2) := by decide +kernel
theorem dX7_isComplete_54 : decode cX7_isComplete 54 = .ok (.iload_n 1, 1) := by decide +kernel
theorem dX7_isComplete_55 : decode cX7_isComplete 55 = .ok (.iconst 1, 1) := by decide +kernel
theorem dX7_isComplete_56 : decode cX7_isComplete 56 = .ok (.aload_n 0, 1) := by decide +kernel
theorem dX7_isComplete_57 : decode cX7_isComplete 57 = .ok (.getfield 25, 3) := by decide +kernel
theorem dX7_isComplete_60 : decode cX7_isComplete 60 = .ok (.iload 4, 2) := by decide +kernel
theorem dX7_isComplete_62 : decode cX7_isComplete 62 = .ok (.iaload, 1) := by decide +kernel
theorem dX7_isComplete_63 : decode cX7_isComplete 63 = .ok (.ishl, 1) := by decide +kernel
theorem dX7_isComplete_64 : decode cX7_isComplete 64 = .ok (.ior, 1) := by decide +kernel
theorem dX7_isComplete_65 : decode cX7_isComplete 65 = .ok (.istore_n 1, 1) := by decide +kernel
theorem dX7_isComplete_66 : decode cX7_isComplete 66 = .ok (.iload_n 2, 1) := by decide +kernel
theorem dX7_isComplete_67 : decode cX7_isComplete 67 = .ok (.iload_n 2, 1) := by decide +kernel
theorem dX7_isComplete_68 : decode cX7_isComplete 68 = .ok (.iload 5, 2) := by decide +kernel
theorem dX7_isComplete_70 : decode cX7_isComplete 70 = .ok (.iand, 1) := by decide +kernel
theorem dX7_isComplete_71 : decode cX7_isComplete 71 = .ok (.ifCond .eq 8, 3) := by decide +kernel
theorem dX7_isComplete_74 : decode cX7_isComplete 74 = .ok (.iload 5, 2) := by decide +kernel
theorem dX7_isComplete_76 : decode cX7_isComplete 76 = .ok (.goto 4, 3) := by decide +kernel
theorem dX7_isComplete_79 : decode cX7_isComplete 79 = .ok (.iconst 0, 1) := by decide +kernel
theorem dX7_isComplete_80 : decode cX7_isComplete 80 = .ok (.ior, 1) := by decide +kernel
theorem dX7_isComplete_81 : decode cX7_isComplete 81 = .ok (.istore_n 2, 1) := by decide +kernel
theorem dX7_isComplete_82 : decode cX7_isComplete 82 = .ok (.iinc 4 1, 3) := by decide +kernel
theorem dX7_isComplete_85 : decode cX7_isComplete 85 = .ok (.goto (-61), 3) := by decide +kernel
theorem dX7_isComplete_88 : decode cX7_isComplete 88 = .ok (.iinc 3 1, 3) := by decide +kernel
theorem dX7_isComplete_91 : decode cX7_isComplete 91 = .ok (.goto (-76), 3) := by decide +kernel
theorem dX7_isComplete_94 : decode cX7_isComplete 94 = .ok (.iload_n 1, 1) := by decide +kernel
theorem dX7_isComplete_95 : decode cX7_isComplete 95 = .ok (.iconst 1, 1) := by decide +kernel
theorem dX7_isComplete_96 : decode cX7_isComplete 96 = .ok (.aload_n 0, 1) := by decide +kernel
theorem dX7_isComplete_97 : decode cX7_isComplete 97 = .ok (.getfield 40, 3) := by decide +kernel
theorem dX7_isComplete_100 : decode cX7_isComplete 100 = .ok (.iconst 1, 1) := by decide +kernel
theorem dX7_isComplete_101 : decode cX7_isComplete 101 = .ok (.isub, 1) := by decide +kernel
theorem dX7_isComplete_102 : decode cX7_isComplete 102 = .ok (.ishl, 1) := by decide +kernel
theorem dX7_isComplete_103 : decode cX7_isComplete 103 = .ok (.iconst 1, 1) := by decide +kernel
theorem dX7_isComplete_104 : decode cX7_isComplete 104 = .ok (.isub, 1) := by decide +kernel
theorem dX7_isComplete_105 : decode cX7_isComplete 105 = .ok (.if_icmp .ne 19, 3) := by decide +kernel
theorem dX7_isComplete_108 : decode cX7_isComplete 108 = .ok (.iload_n 2, 1) := by decide +kernel
theorem dX7_isComplete_109 : decode cX7_isComplete 109 = .ok (.iconst 1, 1) := by decide +kernel
theorem dX7_isComplete_110 : decode cX7_isComplete 110 = .ok (.aload_n 0, 1) := by decide +kernel
theorem dX7_isComplete_111 : decode cX7_isComplete 111 = .ok (.getfield 40, 3) := by decide +kernel
theorem dX7_isComplete_114 : decode cX7_isComplete 114 = .ok (.ishl, 1) := by decide +kernel
theorem dX7_isComplete_115 : decode cX7_isComplete 115 = .ok (.iconst 1, 1) := by decide +kernel
theorem dX7_isComplete_116 : decode cX7_isComplete 116 = .ok (.isub, 1) := by decide +kernel
theorem dX7_isComplete_117 : decode cX7_isComplete 117 = .ok (.if_icmp .ne 7, 3) := by decide +kernel
theorem dX7_isComplete_120 : decode cX7_isComplete 120 = .ok (.iconst 1, 1) := by decide +kernel
theorem dX7_isComplete_121 : decode cX7_isComplete 121 = .ok (.goto 4, 3) := by decide +kernel
theorem dX7_isComplete_124 : decode cX7_isComplete 124 = .ok (.iconst 0, 1) := by decide +kernel
theorem dX7_isComplete_125 : decode cX7_isComplete 125 = .ok (.ireturn, 1) := by decide +kernel
set_option maxRecDepth 20000 in
theorem ggX7_takeGraph_X7_findTree : GoodIn wsX7_takeGraph wsX7_findTree := goodIn_r _ [17, 9, 4, 5, 7, 18, 19, 20, 16, 21, 2, 22, 23, 24, 29, 30, 31, 32, 33, 34, 35, 36, 37, 38, 39, 40, 41, 42, 43, 44, 45, 46, 47] (by decide +kernel) (by decide +kernel)
set_option maxRecDepth 20000 in
theorem gX7_takeGraph_X7_findTree : GoodIn wsX7_takeGraph (wsV RX7 102 RX7 yX7_findTree wsX7_findTree) := goodIn_app (goodIn_of _ (by decide +kernel)) ggX7_takeGraph_X7_findTree
set_option maxRecDepth 20000 in
theorem ggX7_takeGraph_X7_resetCounts : GoodIn wsX7_takeGraph wsX7_resetCounts := goodIn_r _ [28, 9, 29, 30, 31, 32, 33, 34, 35, 36, 37, 38, 39, 40, 41, 42, 43, 44, 45, 46, 47] (by decide +kernel) (by decide +kernel)
set_option maxRecDepth 20000 in
theorem gX7_takeGraph_X7_resetCounts : GoodIn wsX7_takeGraph (wsV RX7 105 RX7 yX7_resetCounts wsX7_resetCounts) := goodIn_app (goodIn_of _ (by decide +kernel)) ggX7_takeGraph_X7_resetCounts
theorem dX7_takeGraph_0 : decode cX7_takeGraph 0 = .ok (.aload_n 0, 1) := by decide +kernel
theorem dX7_takeGraph_1 : decode cX7_takeGraph 1 = .ok (.aload_n 0, 1) := by decide +kernel
theorem dX7_takeGraph_2 : decode cX7_takeGraph 2 = .ok (.getfield 40, 3) := by decide +kernel
theorem dX7_takeGraph_5 : decode cX7_takeGraph 5 = .ok (.putfield 92, 3) := by decide +kernel
theorem dX7_takeGraph_8 : decode cX7_takeGraph 8 = .ok (.aload_n 0, 1) := by decide +kernel
theorem dX7_takeGraph_9 : decode cX7_takeGraph 9 = .ok (.aload_n 0, 1) := by decide +kernel
theorem dX7_takeGraph_10 : decode cX7_takeGraph 10 = .ok (.getfield 51, 3) := by decide +kernel
theorem dX7_takeGraph_13 : decode cX7_takeGraph 13 = .ok (.putfield 95, 3) := by decide +kernel
theorem dX7_takeGraph_16 : decode cX7_takeGraph 16 = .ok (.iconst 0, 1) := by decide +kernel
theorem dX7_takeGraph_17 : decode cX7_takeGraph 17 = .ok (.istore_n 1, 1) := by decide +kernel
theorem dX7_takeGraph_18 : decode cX7_takeGraph 18 = .ok (.iload_n 1, 1) := by decide +kernel
theorem dX7_takeGraph_19 : decode cX7_takeGraph 19 = .ok (.aload_n 0, 1) := by decide +kernel
theorem dX7_takeGraph_20 : decode cX7_takeGraph 20 = .ok (.getfield 51, 3) := by decide +kernel
theorem dX7_takeGraph_23 : decode cX7_takeGraph 23 = .ok (.if_icmp .ge 47, 3) := by decide +kernel
theorem dX7_takeGraph_26 : decode cX7_takeGraph 26 = .ok (.aload_n 0, 1) := by decide +kernel
theorem dX7_takeGraph_27 : decode cX7_takeGraph 27 = .ok (.getfield 13, 3) := by decide +kernel
theorem dX7_takeGraph_30 : decode cX7_takeGraph 30 = .ok (.iload_n 1, 1) := by decide +kernel
theorem dX7_takeGraph_31 : decode cX7_takeGraph 31 = .ok (.aload_n 0, 1) := by decide +kernel
theorem dX7_takeGraph_32 : decode cX7_takeGraph 32 = .ok (.getfield 25, 3) := by decide +kernel
theorem dX7_takeGraph_35 : decode cX7_takeGraph 35 = .ok (.iload_n 1, 1) := by decide +kernel
theorem dX7_takeGraph_36 : decode cX7_takeGraph 36 = .ok (.iaload, 1) := by decide +kernel
theorem dX7_takeGraph_37 : decode cX7_takeGraph 37 = .ok (.iastore, 1) := by decide +kernel
theorem dX7_takeGraph_38 : decode cX7_takeGraph 38 = .ok (.aload_n 0, 1) := by decide +kernel
theorem dX7_takeGraph_39 : decode cX7_takeGraph 39 = .ok (.getfield 16, 3) := by decide +kernel
theorem dX7_takeGraph_42 : decode cX7_takeGraph 42 = .ok (.iload_n 1, 1) := by decide +kernel
theorem dX7_takeGraph_43 : decode cX7_takeGraph 43 = .ok (.aload_n 0, 1) := by decide +kernel
theorem dX7_takeGraph_44 : decode cX7_takeGraph 44 = .ok (.getfield 28, 3) := by decide +kernel
theorem dX7_takeGraph_47 : decode cX7_takeGraph 47 = .ok (.iload_n 1, 1) := by decide +kernel
theorem dX7_takeGraph_48 : decode cX7_takeGraph 48 = .ok (.iaload, 1) := by decide +kernel
theorem dX7_takeGraph_49 : decode cX7_takeGraph 49 = .ok (.iastore, 1) := by decide +kernel
theorem dX7_takeGraph_50 : decode cX7_takeGraph 50 = .ok (.aload_n 0, 1) := by decide +kernel
theorem dX7_takeGraph_51 : decode cX7_takeGraph 51 = .ok (.getfield 19, 3) := by decide +kernel
theorem dX7_takeGraph_54 : decode cX7_takeGraph 54 = .ok (.iconst 0, 1) := by decide +kernel
theorem dX7_takeGraph_55 : decode cX7_takeGraph 55 = .ok (.iload_n 1, 1) := by decide +kernel
theorem dX7_takeGraph_56 : decode cX7_takeGraph 56 = .ok (.iadd, 1) := by decide +kernel
theorem dX7_takeGraph_57 : decode cX7_takeGraph 57 = .ok (.aload_n 0, 1) := by decide +kernel
theorem dX7_takeGraph_58 : decode cX7_takeGraph 58 = .ok (.getfield 31, 3) := by decide +kernel
theorem dX7_takeGraph_61 : decode cX7_takeGraph 61 = .ok (.iload_n 1, 1) := by decide +kernel
theorem dX7_takeGraph_62 : decode cX7_takeGraph 62 = .ok (.iaload, 1) := by decide +kernel
theorem dX7_takeGraph_63 : decode cX7_takeGraph 63 = .ok (.iastore, 1) := by decide +kernel
theorem dX7_takeGraph_64 : decode cX7_takeGraph 64 = .ok (.iinc 1 1, 3) := by decide +kernel
theorem dX7_takeGraph_67 : decode cX7_takeGraph 67 = .ok (.goto (-49), 3) := by decide +kernel
theorem dX7_takeGraph_70 : decode cX7_takeGraph 70 = .ok (.aload_n 0, 1) := by decide +kernel
theorem dX7_takeGraph_71 : decode cX7_takeGraph 71 = .ok (.getfield 19, 3) := by decide +kernel
theorem dX7_takeGraph_74 : decode cX7_takeGraph 74 = .ok (.bipush 80, 2) := by decide +kernel
theorem dX7_takeGraph_76 : decode cX7_takeGraph 76 = .ok (.ldc 98, 2) := by decide +kernel
theorem dX7_takeGraph_78 : decode cX7_takeGraph 78 = .ok (.iastore, 1) := by decide +kernel
theorem dX7_takeGraph_79 : decode cX7_takeGraph 79 = .ok (.aload_n 0, 1) := by decide +kernel
theorem dX7_takeGraph_80 : decode cX7_takeGraph 80 = .ok (.iconst 0, 1) := by decide +kernel
theorem dX7_takeGraph_81 : decode cX7_takeGraph 81 = .ok (.putfield 99, 3) := by decide +kernel
theorem dX7_takeGraph_84 : decode cX7_takeGraph 84 = .ok (.aload_n 0, 1) := by decide +kernel
theorem dX7_takeGraph_85 : decode cX7_takeGraph 85 = .ok (.invokevirtual 102, 3) := by decide +kernel
theorem dX7_takeGraph_88 : decode cX7_takeGraph 88 = .ok (.aload_n 0, 1) := by decide +kernel
theorem dX7_takeGraph_89 : decode cX7_takeGraph 89 = .ok (.invokevirtual 105, 3) := by decide +kernel
theorem dX7_takeGraph_92 : decode cX7_takeGraph 92 = .ok (.return_, 1) := by decide +kernel
set_option maxRecDepth 20000 in
theorem ggX7_configure_X7_readText : GoodIn wsX7_configure wsX7_readText := goodIn_r _ [7, 8, 9, 10, 11, 12, 1, 13, 14, 15, 6, 16, 17, 18, 19, 20, 21, 22, 23, 24, 25, 26, 27, 28, 29, 30, 31, 32, 33, 34, 35, 36, 37, 38, 39, 40, 41, 42, 43, 70, 71, 72, 73, 74, 75, 76, 77, 78, 79, 80, 81, 82, 83, 84, 85, 86, 87, 88] (by decide +kernel) (by decide +kernel)
set_option maxRecDepth 20000 in
theorem gX7_configure_X7_readText : GoodIn wsX7_configure (wsV RX7 89 RX7 yX7_readText wsX7_readText) := goodIn_app (goodIn_of _ (by decide +kernel)) ggX7_configure_X7_readText
set_option maxRecDepth 20000 in
theorem ggX7_configure_X7_isComplete : GoodIn wsX7_configure wsX7_isComplete := goodIn_r _ [47, 8, 9, 41, 42, 70, 71, 72, 73, 74, 75, 76, 77, 78, 79, 80, 81, 82, 83, 84, 85, 86, 87, 88] (by decide +kernel) (by decide +kernel)
set_option maxRecDepth 20000 in
theorem gX7_configure_X7_isComplete : GoodIn wsX7_configure (wsV RX7 108 RX7 yX7_isComplete wsX7_isComplete) := goodIn_app (goodIn_of _ (by decide +kernel)) ggX7_configure_X7_isComplete
set_option maxRecDepth 20000 in
theorem ggX7_configure_X7_takeGraph : GoodIn wsX7_configure wsX7_takeGraph := goodIn_r _ [51, 8, 52, 9, 2, 53, 41, 54, 42, 55, 43, 56, 57, 58, 59, 60, 6, 61, 62, 63, 64, 65, 34, 35, 36, 66, 67, 68, 69, 70, 71, 72, 73, 74, 75, 76, 77, 78, 79, 80, 81, 82, 83, 84, 85, 86, 87, 88] (by decide +kernel) (by decide +kernel)
set_option maxRecDepth 20000 in
theorem gX7_configure_X7_takeGraph : GoodIn wsX7_configure (wsV RX7 48 RX7 yX7_takeGraph wsX7_takeGraph) := goodIn_app (goodIn_of _ (by decide +kernel)) ggX7_configure_X7_takeGraph
theorem dX7_configure_0 : decode cX7_configure 0 = .ok (.aload_n 0, 1) := by decide +kernel
theorem dX7_configure_1 : decode cX7_configure 1 = .ok (.invokevirtual 89, 3) := by decide +kernel
theorem dX7_configure_4 : decode cX7_configure 4 = .ok (.bipush (-104), 2) := by decide +kernel
theorem dX7_configure_6 : decode cX7_configure 6 = .ok (.if_icmp .ne 17, 3) := by decide +kernel
theorem dX7_configure_9 : decode cX7_configure 9 = .ok (.aload_n 0, 1) := by decide +kernel
theorem dX7_configure_10 : decode cX7_configure 10 = .ok (.getfield 57, 3) := by decide +kernel
theorem dX7_configure_13 : decode cX7_configure 13 = .ok (.ifCond .eq 10, 3) := by decide +kernel
theorem dX7_configure_16 : decode cX7_configure 16 = .ok (.aload_n 0, 1) := by decide +kernel
theorem dX7_configure_17 : decode cX7_configure 17 = .ok (.invokevirtual 108, 3) := by decide +kernel
theorem dX7_configure_20 : decode cX7_configure 20 = .ok (.ifCond .ne 6, 3) := by decide +kernel
theorem dX7_configure_23 : decode cX7_configure 23 = .ok (.bipush (-102), 2) := by decide +kernel
theorem dX7_configure_25 : decode cX7_configure 25 = .ok (.ireturn, 1) := by decide +kernel
theorem dX7_configure_26 : decode cX7_configure 26 = .ok (.aload_n 0, 1) := by decide +kernel
theorem dX7_configure_27 : decode cX7_configure 27 = .ok (.invokevirtual 48, 3) := by decide +kernel
theorem dX7_configure_30 : decode cX7_configure 30 = .ok (.aload_n 0, 1) := by decide +kernel
theorem dX7_configure_31 : decode cX7_configure 31 = .ok (.getfield 95, 3) := by decide +kernel
theorem dX7_configure_34 : decode cX7_configure 34 = .ok (.ireturn, 1) := by decide +kernel
theorem dX7_sideOf_0 : decode cX7_sideOf 0 = .ok (.iconst 1, 1) := by decide +kernel
theorem dX7_sideOf_1 : decode cX7_sideOf 1 = .ok (.iload_n 1, 1) := by decide +kernel
theorem dX7_sideOf_2 : decode cX7_sideOf 2 = .ok (.ishl, 1) := by decide +kernel
theorem dX7_sideOf_3 : decode cX7_sideOf 3 = .ok (.istore_n 3, 1) := by decide +kernel
theorem dX7_sideOf_4 : decode cX7_sideOf 4 = .ok (.iconst 1, 1) := by decide +kernel
theorem dX7_sideOf_5 : decode cX7_sideOf 5 = .ok (.iconst 1, 1) := by decide +kernel
theorem dX7_sideOf_6 : decode cX7_sideOf 6 = .ok (.aload_n 0, 1) := by decide +kernel
theorem dX7_sideOf_7 : decode cX7_sideOf 7 = .ok (.getfield 92, 3) := by decide +kernel
theorem dX7_sideOf_10 : decode cX7_sideOf 10 = .ok (.iconst 1, 1) := by decide +kernel
theorem dX7_sideOf_11 : decode cX7_sideOf 11 = .ok (.isub, 1) := by decide +kernel
theorem dX7_sideOf_12 : decode cX7_sideOf 12 = .ok (.ishl, 1) := by decide +kernel
theorem dX7_sideOf_13 : decode cX7_sideOf 13 = .ok (.ior, 1) := by decide +kernel
theorem dX7_sideOf_14 : decode cX7_sideOf 14 = .ok (.istore 4, 2) := by decide +kernel
theorem dX7_sideOf_16 : decode cX7_sideOf 16 = .ok (.iconst 0, 1) := by decide +kernel
theorem dX7_sideOf_17 : decode cX7_sideOf 17 = .ok (.istore 5, 2) := by decide +kernel
theorem dX7_sideOf_19 : decode cX7_sideOf 19 = .ok (.iload 5, 2) := by decide +kernel
theorem dX7_sideOf_21 : decode cX7_sideOf 21 = .ok (.bipush 10, 2) := by decide +kernel
theorem dX7_sideOf_23 : decode cX7_sideOf 23 = .ok (.if_icmp .ge 112, 3) := by decide +kernel
theorem dX7_sideOf_26 : decode cX7_sideOf 26 = .ok (.iload_n 3, 1) := by decide +kernel
theorem dX7_sideOf_27 : decode cX7_sideOf 27 = .ok (.iload_n 3, 1) := by decide +kernel
theorem dX7_sideOf_28 : decode cX7_sideOf 28 = .ok (.iload 4, 2) := by decide +kernel
theorem dX7_sideOf_30 : decode cX7_sideOf 30 = .ok (.iand, 1) := by decide +kernel
theorem dX7_sideOf_31 : decode cX7_sideOf 31 = .ok (.ifCond .eq 8, 3) := by decide +kernel
theorem dX7_sideOf_34 : decode cX7_sideOf 34 = .ok (.iload 4, 2) := by decide +kernel
theorem dX7_sideOf_36 : decode cX7_sideOf 36 = .ok (.goto 4, 3) := by decide +kernel
theorem dX7_sideOf_39 : decode cX7_sideOf 39 = .ok (.iconst 0, 1) := by decide +kernel
theorem dX7_sideOf_40 : decode cX7_sideOf 40 = .ok (.ior, 1) := by decide +kernel
theorem dX7_sideOf_41 : decode cX7_sideOf 41 = .ok (.istore_n 3, 1) := by decide +kernel
theorem dX7_sideOf_42 : decode cX7_sideOf 42 = .ok (.iconst 0, 1) := by decide +kernel
theorem dX7_sideOf_43 : decode cX7_sideOf 43 = .ok (.istore 6, 2) := by decide +kernel
theorem dX7_sideOf_45 : decode cX7_sideOf 45 = .ok (.iload 6, 2) := by decide +kernel
theorem dX7_sideOf_47 : decode cX7_sideOf 47 = .ok (.aload_n 0, 1) := by decide +kernel
theorem dX7_sideOf_48 : decode cX7_sideOf 48 = .ok (.getfield 95, 3) := by decide +kernel
theorem dX7_sideOf_51 : decode cX7_sideOf 51 = .ok (.if_icmp .ge 78, 3) := by decide +kernel
theorem dX7_sideOf_54 : decode cX7_sideOf 54 = .ok (.iconst 1, 1) := by decide +kernel
theorem dX7_sideOf_55 : decode cX7_sideOf 55 = .ok (.aload_n 0, 1) := by decide +kernel
theorem dX7_sideOf_56 : decode cX7_sideOf 56 = .ok (.getfield 13, 3) := by decide +kernel
theorem dX7_sideOf_59 : decode cX7_sideOf 59 = .ok (.iload 6, 2) := by decide +kernel
theorem dX7_sideOf_61 : decode cX7_sideOf 61 = .ok (.iaload, 1) := by decide +kernel
theorem dX7_sideOf_62 : decode cX7_sideOf 62 = .ok (.ishl, 1) := by decide +kernel
theorem dX7_sideOf_63 : decode cX7_sideOf 63 = .ok (.iconst 1, 1) := by decide +kernel
theorem dX7_sideOf_64 : decode cX7_sideOf 64 = .ok (.aload_n 0, 1) := by decide +kernel
theorem dX7_sideOf_65 : decode cX7_sideOf 65 = .ok (.getfield 16, 3) := by decide +kernel
theorem dX7_sideOf_68 : decode cX7_sideOf 68 = .ok (.iload 6, 2) := by decide +kernel
theorem dX7_sideOf_70 : decode cX7_sideOf 70 = .ok (.iaload, 1) := by decide +kernel
theorem dX7_sideOf_71 : decode cX7_sideOf 71 = .ok (.ishl, 1) := by decide +kernel
theorem dX7_sideOf_72 : decode cX7_sideOf 72 = .ok (.ior, 1) := by decide +kernel
theorem dX7_sideOf_73 : decode cX7_sideOf 73 = .ok (.istore 7, 2) := by decide +kernel
theorem dX7_sideOf_75 : decode cX7_sideOf 75 = .ok (.aload_n 0, 1) := by decide +kernel
theorem dX7_sideOf_76 : decode cX7_sideOf 76 = .ok (.getfield 19, 3) := by decide +kernel
theorem dX7_sideOf_79 : decode cX7_sideOf 79 = .ok (.bipush 20, 2) := by decide +kernel
theorem dX7_sideOf_81 : decode cX7_sideOf 81 = .ok (.iload 6, 2) := by decide +kernel
theorem dX7_sideOf_83 : decode cX7_sideOf 83 = .ok (.iadd, 1) := by decide +kernel
theorem dX7_sideOf_84 : decode cX7_sideOf 84 = .ok (.iaload, 1) := by decide +kernel
theorem dX7_sideOf_85 : decode cX7_sideOf 85 = .ok (.iconst 1, 1) := by decide +kernel
theorem dX7_sideOf_86 : decode cX7_sideOf 86 = .ok (.if_icmp .ne 20, 3) := by decide +kernel
theorem dX7_sideOf_89 : decode cX7_sideOf 89 = .ok (.iload 6, 2) := by decide +kernel
theorem dX7_sideOf_91 : decode cX7_sideOf 91 = .ok (.iload_n 2, 1) := by decide +kernel
theorem dX7_sideOf_92 : decode cX7_sideOf 92 = .ok (.if_icmp .eq 14, 3) := by decide +kernel
theorem dX7_sideOf_95 : decode cX7_sideOf 95 = .ok (.iload_n 3, 1) := by decide +kernel
theorem dX7_sideOf_96 : decode cX7_sideOf 96 = .ok (.iload 7, 2) := by decide +kernel
theorem dX7_sideOf_98 : decode cX7_sideOf 98 = .ok (.iand, 1) := by decide +kernel
theorem dX7_sideOf_99 : decode cX7_sideOf 99 = .ok (.ifCond .eq 7, 3) := by decide +kernel
theorem dX7_sideOf_102 : decode cX7_sideOf 102 = .ok (.iconst 1, 1) := by decide +kernel
theorem dX7_sideOf_103 : decode cX7_sideOf 103 = .ok (.goto 4, 3) := by decide +kernel
theorem dX7_sideOf_106 : decode cX7_sideOf 106 = .ok (.iconst 0, 1) := by decide +kernel
theorem dX7_sideOf_107 : decode cX7_sideOf 107 = .ok (.istore 8, 2) := by decide +kernel
theorem dX7_sideOf_109 : decode cX7_sideOf 109 = .ok (.iload_n 3, 1) := by decide +kernel
theorem dX7_sideOf_110 : decode cX7_sideOf 110 = .ok (.iload 8, 2) := by decide +kernel
theorem dX7_sideOf_112 : decode cX7_sideOf 112 = .ok (.ifCond .eq 8, 3) := by decide +kernel
theorem dX7_sideOf_115 : decode cX7_sideOf 115 = .ok (.iload 7, 2) := by decide +kernel
theorem dX7_sideOf_117 : decode cX7_sideOf 117 = .ok (.goto 4, 3) := by decide +kernel
theorem dX7_sideOf_120 : decode cX7_sideOf 120 = .ok (.iconst 0, 1) := by decide +kernel
theorem dX7_sideOf_121 : decode cX7_sideOf 121 = .ok (.ior, 1) := by decide +kernel
theorem dX7_sideOf_122 : decode cX7_sideOf 122 = .ok (.istore_n 3, 1) := by decide +kernel
theorem dX7_sideOf_123 : decode cX7_sideOf 123 = .ok (.iinc 6 1, 3) := by decide +kernel
theorem dX7_sideOf_126 : decode cX7_sideOf 126 = .ok (.goto (-81), 3) := by decide +kernel
theorem dX7_sideOf_129 : decode cX7_sideOf 129 = .ok (.iinc 5 1, 3) := by decide +kernel
theorem dX7_sideOf_132 : decode cX7_sideOf 132 = .ok (.goto (-113), 3) := by decide +kernel
theorem dX7_sideOf_135 : decode cX7_sideOf 135 = .ok (.iload_n 3, 1) := by decide +kernel
theorem dX7_sideOf_136 : decode cX7_sideOf 136 = .ok (.ireturn, 1) := by decide +kernel
set_option maxRecDepth 20000 in
theorem ggX7_findTree_X7_sideOf : GoodIn wsX7_findTree wsX7_sideOf := goodIn_r _ [9, 10, 2, 3, 4, 1, 14, 15, 16, 17, 18, 19, 20, 21, 22, 23, 24, 25, 26, 27, 28, 29, 30, 31, 32] (by decide +kernel) (by decide +kernel)
set_option maxRecDepth 20000 in
theorem gX7_findTree_X7_sideOf : GoodIn wsX7_findTree (wsV RX7 111 RX7 yX7_sideOf wsX7_sideOf) := goodIn_app (goodIn_of _ (by decide +kernel)) ggX7_findTree_X7_sideOf
set_option maxRecDepth 20000 in
theorem ggX7_findTree_X7_has : GoodIn wsX7_findTree wsX7_has := goodIn_r _ [13] (by decide +kernel) (by decide +kernel)
set_option maxRecDepth 20000 in
theorem gX7_findTree_X7_has : GoodIn wsX7_findTree (va_wsS RX7 78 yX7_has wsX7_has) := goodIn_app (goodIn_of _ (by decide +kernel)) ggX7_findTree_X7_has
theorem dX7_findTree_0 : decode cX7_findTree 0 = .ok (.iconst 0, 1) := by decide +kernel
theorem dX7_findTree_1 : decode cX7_findTree 1 = .ok (.istore_n 1, 1) := by decide +kernel
theorem dX7_findTree_2 : decode cX7_findTree 2 = .ok (.iload_n 1, 1) := by decide +kernel
theorem dX7_findTree_3 : decode cX7_findTree 3 = .ok (.bipush 20, 2) := by decide +kernel
theorem dX7_findTree_5 : decode cX7_findTree 5 = .ok (.if_icmp .ge 19, 3) := by decide +kernel
theorem dX7_findTree_8 : decode cX7_findTree 8 = .ok (.aload_n 0, 1) := by decide +kernel
theorem dX7_findTree_9 : decode cX7_findTree 9 = .ok (.getfield 19, 3) := by decide +kernel
theorem dX7_findTree_12 : decode cX7_findTree 12 = .ok (.bipush 20, 2) := by decide +kernel
theorem dX7_findTree_14 : decode cX7_findTree 14 = .ok (.iload_n 1, 1) := by decide +kernel
theorem dX7_findTree_15 : decode cX7_findTree 15 = .ok (.iadd, 1) := by decide +kernel
theorem dX7_findTree_16 : decode cX7_findTree 16 = .ok (.iconst 0, 1) := by decide +kernel
theorem dX7_findTree_17 : decode cX7_findTree 17 = .ok (.iastore, 1) := by decide +kernel
theorem dX7_findTree_18 : decode cX7_findTree 18 = .ok (.iinc 1 1, 3) := by decide +kernel
theorem dX7_findTree_21 : decode cX7_findTree 21 = .ok (.goto (-19), 3) := by decide +kernel
theorem dX7_findTree_24 : decode cX7_findTree 24 = .ok (.sipush 999, 3) := by decide +kernel
theorem dX7_findTree_27 : decode cX7_findTree 27 = .ok (.istore_n 1, 1) := by decide +kernel
theorem dX7_findTree_28 : decode cX7_findTree 28 = .ok (.iload_n 1, 1) := by decide +kernel
theorem dX7_findTree_29 : decode cX7_findTree 29 = .ok (.ifCond .lt 93, 3) := by decide +kernel
theorem dX7_findTree_32 : decode cX7_findTree 32 = .ok (.iconst 0, 1) := by decide +kernel
theorem dX7_findTree_33 : decode cX7_findTree 33 = .ok (.istore_n 2, 1) := by decide +kernel
theorem dX7_findTree_34 : decode cX7_findTree 34 = .ok (.iload_n 2, 1) := by decide +kernel
theorem dX7_findTree_35 : decode cX7_findTree 35 = .ok (.aload_n 0, 1) := by decide +kernel
theorem dX7_findTree_36 : decode cX7_findTree 36 = .ok (.getfield 95, 3) := by decide +kernel
theorem dX7_findTree_39 : decode cX7_findTree 39 = .ok (.if_icmp .ge 77, 3) := by decide +kernel
theorem dX7_findTree_42 : decode cX7_findTree 42 = .ok (.aload_n 0, 1) := by decide +kernel
theorem dX7_findTree_43 : decode cX7_findTree 43 = .ok (.getfield 19, 3) := by decide +kernel
theorem dX7_findTree_46 : decode cX7_findTree 46 = .ok (.iconst 0, 1) := by decide +kernel
theorem dX7_findTree_47 : decode cX7_findTree 47 = .ok (.iload_n 2, 1) := by decide +kernel
theorem dX7_findTree_48 : decode cX7_findTree 48 = .ok (.iadd, 1) := by decide +kernel
theorem dX7_findTree_49 : decode cX7_findTree 49 = .ok (.iaload, 1) := by decide +kernel
theorem dX7_findTree_50 : decode cX7_findTree 50 = .ok (.iload_n 1, 1) := by decide +kernel
theorem dX7_findTree_51 : decode cX7_findTree 51 = .ok (.if_icmp .ne 31, 3) := by decide +kernel
theorem dX7_findTree_54 : decode cX7_findTree 54 = .ok (.aload_n 0, 1) := by decide +kernel
theorem dX7_findTree_55 : decode cX7_findTree 55 = .ok (.aload_n 0, 1) := by decide +kernel
theorem dX7_findTree_56 : decode cX7_findTree 56 = .ok (.getfield 13, 3) := by decide +kernel
theorem dX7_findTree_59 : decode cX7_findTree 59 = .ok (.iload_n 2, 1) := by decide +kernel
theorem dX7_findTree_60 : decode cX7_findTree 60 = .ok (.iaload, 1) := by decide +kernel
theorem dX7_findTree_61 : decode cX7_findTree 61 = .ok (.bipush (-104), 2) := by decide +kernel
theorem dX7_findTree_63 : decode cX7_findTree 63 = .ok (.invokevirtual 111, 3) := by decide +kernel
theorem dX7_findTree_66 : decode cX7_findTree 66 = .ok (.aload_n 0, 1) := by decide +kernel
theorem dX7_findTree_67 : decode cX7_findTree 67 = .ok (.getfield 16, 3) := by decide +kernel
theorem dX7_findTree_70 : decode cX7_findTree 70 = .ok (.iload_n 2, 1) := by decide +kernel
theorem dX7_findTree_71 : decode cX7_findTree 71 = .ok (.iaload, 1) := by decide +kernel
theorem dX7_findTree_72 : decode cX7_findTree 72 = .ok (.invokestatic 78, 3) := by decide +kernel
theorem dX7_findTree_75 : decode cX7_findTree 75 = .ok (.ifCond .ne 7, 3) := by decide +kernel
theorem dX7_findTree_78 : decode cX7_findTree 78 = .ok (.iconst 1, 1) := by decide +kernel
theorem dX7_findTree_79 : decode cX7_findTree 79 = .ok (.goto 4, 3) := by decide +kernel
theorem dX7_findTree_82 : decode cX7_findTree 82 = .ok (.iconst 0, 1) := by decide +kernel
theorem dX7_findTree_83 : decode cX7_findTree 83 = .ok (.istore_n 3, 1) := by decide +kernel
theorem dX7_findTree_84 : decode cX7_findTree 84 = .ok (.aload_n 0, 1) := by decide +kernel
theorem dX7_findTree_85 : decode cX7_findTree 85 = .ok (.getfield 19, 3) := by decide +kernel
theorem dX7_findTree_88 : decode cX7_findTree 88 = .ok (.bipush 20, 2) := by decide +kernel
theorem dX7_findTree_90 : decode cX7_findTree 90 = .ok (.iload_n 2, 1) := by decide +kernel
theorem dX7_findTree_91 : decode cX7_findTree 91 = .ok (.iadd, 1) := by decide +kernel
theorem dX7_findTree_92 : decode cX7_findTree 92 = .ok (.iload_n 3, 1) := by decide +kernel
theorem dX7_findTree_93 : decode cX7_findTree 93 = .ok (.ifCond .eq 7, 3) := by decide +kernel
theorem dX7_findTree_96 : decode cX7_findTree 96 = .ok (.iconst 1, 1) := by decide +kernel
theorem dX7_findTree_97 : decode cX7_findTree 97 = .ok (.goto 12, 3) := by decide +kernel
theorem dX7_findTree_100 : decode cX7_findTree 100 = .ok (.aload_n 0, 1) := by decide +kernel
theorem dX7_findTree_101 : decode cX7_findTree 101 = .ok (.getfield 19, 3) := by decide +kernel
theorem dX7_findTree_104 : decode cX7_findTree 104 = .ok (.bipush 20, 2) := by decide +kernel
theorem dX7_findTree_106 : decode cX7_findTree 106 = .ok (.iload_n 2, 1) := by decide +kernel
theorem dX7_findTree_107 : decode cX7_findTree 107 = .ok (.iadd, 1) := by decide +kernel
theorem dX7_findTree_108 : decode cX7_findTree 108 = .ok (.iaload, 1) := by decide +kernel
theorem dX7_findTree_109 : decode cX7_findTree 109 = .ok (.iastore, 1) := by decide +kernel
theorem dX7_findTree_110 : decode cX7_findTree 110 = .ok (.iinc 2 1, 3) := by decide +kernel
theorem dX7_findTree_113 : decode cX7_findTree 113 = .ok (.goto (-79), 3) := by decide +kernel
theorem dX7_findTree_116 : decode cX7_findTree 116 = .ok (.iinc 1 (-1), 3) := by decide +kernel
theorem dX7_findTree_119 : decode cX7_findTree 119 = .ok (.goto (-91), 3) := by decide +kernel
theorem dX7_findTree_122 : decode cX7_findTree 122 = .ok (.return_, 1) := by decide +kernel
theorem dX7_resetCounts_0 : decode cX7_resetCounts 0 = .ok (.iconst 0, 1) := by decide +kernel
theorem dX7_resetCounts_1 : decode cX7_resetCounts 1 = .ok (.istore_n 1, 1) := by decide +kernel
theorem dX7_resetCounts_2 : decode cX7_resetCounts 2 = .ok (.iload_n 1, 1) := by decide +kernel
theorem dX7_resetCounts_3 : decode cX7_resetCounts 3 = .ok (.bipush 20, 2) := by decide +kernel
theorem dX7_resetCounts_5 : decode cX7_resetCounts 5 = .ok (.if_icmp .ge 29, 3) := by decide +kernel
theorem dX7_resetCounts_8 : decode cX7_resetCounts 8 = .ok (.aload_n 0, 1) := by decide +kernel
theorem dX7_resetCounts_9 : decode cX7_resetCounts 9 = .ok (.getfield 19, 3) := by decide +kernel
theorem dX7_resetCounts_12 : decode cX7_resetCounts 12 = .ok (.bipush 40, 2) := by decide +kernel
theorem dX7_resetCounts_14 : decode cX7_resetCounts 14 = .ok (.iload_n 1, 1) := by decide +kernel
theorem dX7_resetCounts_15 : decode cX7_resetCounts 15 = .ok (.iadd, 1) := by decide +kernel
theorem dX7_resetCounts_16 : decode cX7_resetCounts 16 = .ok (.iconst 0, 1) := by decide +kernel
theorem dX7_resetCounts_17 : decode cX7_resetCounts 17 = .ok (.iastore, 1) := by decide +kernel
theorem dX7_resetCounts_18 : decode cX7_resetCounts 18 = .ok (.aload_n 0, 1) := by decide +kernel
theorem dX7_resetCounts_19 : decode cX7_resetCounts 19 = .ok (.getfield 19, 3) := by decide +kernel
theorem dX7_resetCounts_22 : decode cX7_resetCounts 22 = .ok (.bipush 60, 2) := by decide +kernel
theorem dX7_resetCounts_24 : decode cX7_resetCounts 24 = .ok (.iload_n 1, 1) := by decide +kernel
theorem dX7_resetCounts_25 : decode cX7_resetCounts 25 = .ok (.iadd, 1) := by decide +kernel
theorem dX7_resetCounts_26 : decode cX7_resetCounts 26 = .ok (.iconst 0, 1) := by decide +kernel
theorem dX7_resetCounts_27 : decode cX7_resetCounts 27 = .ok (.iastore, 1) := by decide +kernel
theorem dX7_resetCounts_28 : decode cX7_resetCounts 28 = .ok (.iinc 1 1, 3) := by decide +kernel
theorem dX7_resetCounts_31 : decode cX7_resetCounts 31 = .ok (.goto (-29), 3) := by decide +kernel
theorem dX7_resetCounts_34 : decode cX7_resetCounts 34 = .ok (.aload_n 0, 1) := by decide +kernel
theorem dX7_resetCounts_35 : decode cX7_resetCounts 35 = .ok (.getfield 19, 3) := by decide +kernel
theorem dX7_resetCounts_38 : decode cX7_resetCounts 38 = .ok (.bipush 81, 2) := by decide +kernel
theorem dX7_resetCounts_40 : decode cX7_resetCounts 40 = .ok (.iconst 0, 1) := by decide +kernel
theorem dX7_resetCounts_41 : decode cX7_resetCounts 41 = .ok (.iastore, 1) := by decide +kernel
theorem dX7_resetCounts_42 : decode cX7_resetCounts 42 = .ok (.aload_n 0, 1) := by decide +kernel
theorem dX7_resetCounts_43 : decode cX7_resetCounts 43 = .ok (.getfield 19, 3) := by decide +kernel
theorem dX7_resetCounts_46 : decode cX7_resetCounts 46 = .ok (.bipush 82, 2) := by decide +kernel
theorem dX7_resetCounts_48 : decode cX7_resetCounts 48 = .ok (.iconst 0, 1) := by decide +kernel
theorem dX7_resetCounts_49 : decode cX7_resetCounts 49 = .ok (.iastore, 1) := by decide +kernel
theorem dX7_resetCounts_50 : decode cX7_resetCounts 50 = .ok (.return_, 1) := by decide +kernel
theorem dX7_save_0 : decode cX7_save 0 = .ok (.aload_n 0, 1) := by decide +kernel
theorem dX7_save_1 : decode cX7_save 1 = .ok (.getfield 99, 3) := by decide +kernel
theorem dX7_save_4 : decode cX7_save 4 = .ok (.iconst 4, 1) := by decide +kernel
theorem dX7_save_5 : decode cX7_save 5 = .ok (.if_icmp .ne 43, 3) := by decide +kernel
theorem dX7_save_8 : decode cX7_save 8 = .ok (.iconst 0, 1) := by decide +kernel
theorem dX7_save_9 : decode cX7_save 9 = .ok (.istore_n 1, 1) := by decide +kernel
theorem dX7_save_10 : decode cX7_save 10 = .ok (.iload_n 1, 1) := by decide +kernel
theorem dX7_save_11 : decode cX7_save 11 = .ok (.sipush 249, 3) := by decide +kernel
theorem dX7_save_14 : decode cX7_save 14 = .ok (.if_icmp .ge 24, 3) := by decide +kernel
theorem dX7_save_17 : decode cX7_save 17 = .ok (.aload_n 0, 1) := by decide +kernel
theorem dX7_save_18 : decode cX7_save 18 = .ok (.getfield 22, 3) := by decide +kernel
theorem dX7_save_21 : decode cX7_save 21 = .ok (.iload_n 1, 1) := by decide +kernel
theorem dX7_save_22 : decode cX7_save 22 = .ok (.aload_n 0, 1) := by decide +kernel
theorem dX7_save_23 : decode cX7_save 23 = .ok (.getfield 22, 3) := by decide +kernel
theorem dX7_save_26 : decode cX7_save 26 = .ok (.iload_n 1, 1) := by decide +kernel
theorem dX7_save_27 : decode cX7_save 27 = .ok (.bipush 83, 2) := by decide +kernel
theorem dX7_save_29 : decode cX7_save 29 = .ok (.iadd, 1) := by decide +kernel
theorem dX7_save_30 : decode cX7_save 30 = .ok (.iaload, 1) := by decide +kernel
theorem dX7_save_31 : decode cX7_save 31 = .ok (.iastore, 1) := by decide +kernel
theorem dX7_save_32 : decode cX7_save 32 = .ok (.iinc 1 1, 3) := by decide +kernel
theorem dX7_save_35 : decode cX7_save 35 = .ok (.goto (-25), 3) := by decide +kernel
theorem dX7_save_38 : decode cX7_save 38 = .ok (.aload_n 0, 1) := by decide +kernel
theorem dX7_save_39 : decode cX7_save 39 = .ok (.dup, 1) := by decide +kernel
theorem dX7_save_40 : decode cX7_save 40 = .ok (.getfield 99, 3) := by decide +kernel
theorem dX7_save_43 : decode cX7_save 43 = .ok (.iconst 1, 1) := by decide +kernel
theorem dX7_save_44 : decode cX7_save 44 = .ok (.isub, 1) := by decide +kernel
theorem dX7_save_45 : decode cX7_save 45 = .ok (.putfield 99, 3) := by decide +kernel
theorem dX7_save_48 : decode cX7_save 48 = .ok (.iconst 0, 1) := by decide +kernel
theorem dX7_save_49 : decode cX7_save 49 = .ok (.istore_n 1, 1) := by decide +kernel
theorem dX7_save_50 : decode cX7_save 50 = .ok (.iload_n 1, 1) := by decide +kernel
theorem dX7_save_51 : decode cX7_save 51 = .ok (.bipush 83, 2) := by decide +kernel
theorem dX7_save_53 : decode cX7_save 53 = .ok (.if_icmp .ge 29, 3) := by decide +kernel
theorem dX7_save_56 : decode cX7_save 56 = .ok (.aload_n 0, 1) := by decide +kernel
theorem dX7_save_57 : decode cX7_save 57 = .ok (.getfield 22, 3) := by decide +kernel
theorem dX7_save_60 : decode cX7_save 60 = .ok (.bipush 83, 2) := by decide +kernel
theorem dX7_save_62 : decode cX7_save 62 = .ok (.aload_n 0, 1) := by decide +kernel
theorem dX7_save_63 : decode cX7_save 63 = .ok (.getfield 99, 3) := by decide +kernel
theorem dX7_save_66 : decode cX7_save 66 = .ok (.imul, 1) := by decide +kernel
theorem dX7_save_67 : decode cX7_save 67 = .ok (.iload_n 1, 1) := by decide +kernel
theorem dX7_save_68 : decode cX7_save 68 = .ok (.iadd, 1) := by decide +kernel
theorem dX7_save_69 : decode cX7_save 69 = .ok (.aload_n 0, 1) := by decide +kernel
theorem dX7_save_70 : decode cX7_save 70 = .ok (.getfield 19, 3) := by decide +kernel
theorem dX7_save_73 : decode cX7_save 73 = .ok (.iload_n 1, 1) := by decide +kernel
theorem dX7_save_74 : decode cX7_save 74 = .ok (.iaload, 1) := by decide +kernel
theorem dX7_save_75 : decode cX7_save 75 = .ok (.iastore, 1) := by decide +kernel
theorem dX7_save_76 : decode cX7_save 76 = .ok (.iinc 1 1, 3) := by decide +kernel
theorem dX7_save_79 : decode cX7_save 79 = .ok (.goto (-29), 3) := by decide +kernel
theorem dX7_save_82 : decode cX7_save 82 = .ok (.aload_n 0, 1) := by decide +kernel
theorem dX7_save_83 : decode cX7_save 83 = .ok (.dup, 1) := by decide +kernel
theorem dX7_save_84 : decode cX7_save 84 = .ok (.getfield 99, 3) := by decide +kernel
theorem dX7_save_87 : decode cX7_save 87 = .ok (.iconst 1, 1) := by decide +kernel
theorem dX7_save_88 : decode cX7_save 88 = .ok (.iadd, 1) := by decide +kernel
theorem dX7_save_89 : decode cX7_save 89 = .ok (.putfield 99, 3) := by decide +kernel
theorem dX7_save_92 : decode cX7_save 92 = .ok (.return_, 1) := by decide +kernel
theorem dX7_undo_0 : decode cX7_undo 0 = .ok (.aload_n 0, 1) := by decide +kernel
theorem dX7_undo_1 : decode cX7_undo 1 = .ok (.getfield 99, 3) := by decide +kernel
theorem dX7_undo_4 : decode cX7_undo 4 = .ok (.ifCond .ne 6, 3) := by decide +kernel
theorem dX7_undo_7 : decode cX7_undo 7 = .ok (.bipush (-102), 2) := by decide +kernel
theorem dX7_undo_9 : decode cX7_undo 9 = .ok (.ireturn, 1) := by decide +kernel
theorem dX7_undo_10 : decode cX7_undo 10 = .ok (.aload_n 0, 1) := by decide +kernel
theorem dX7_undo_11 : decode cX7_undo 11 = .ok (.dup, 1) := by decide +kernel
theorem dX7_undo_12 : decode cX7_undo 12 = .ok (.getfield 99, 3) := by decide +kernel
theorem dX7_undo_15 : decode cX7_undo 15 = .ok (.iconst 1, 1) := by decide +kernel
theorem dX7_undo_16 : decode cX7_undo 16 = .ok (.isub, 1) := by decide +kernel
theorem dX7_undo_17 : decode cX7_undo 17 = .ok (.putfield 99, 3) := by decide +kernel
theorem dX7_undo_20 : decode cX7_undo 20 = .ok (.iconst 0, 1) := by decide +kernel
theorem dX7_undo_21 : decode cX7_undo 21 = .ok (.istore_n 1, 1) := by decide +kernel
theorem dX7_undo_22 : decode cX7_undo 22 = .ok (.iload_n 1, 1) := by decide +kernel
theorem dX7_undo_23 : decode cX7_undo 23 = .ok (.bipush 83, 2) := by decide +kernel
theorem dX7_undo_25 : decode cX7_undo 25 = .ok (.if_icmp .ge 29, 3) := by decide +kernel
theorem dX7_undo_28 : decode cX7_undo 28 = .ok (.aload_n 0, 1) := by decide +kernel
theorem dX7_undo_29 : decode cX7_undo 29 = .ok (.getfield 19, 3) := by decide +kernel
theorem dX7_undo_32 : decode cX7_undo 32 = .ok (.iload_n 1, 1) := by decide +kernel
theorem dX7_undo_33 : decode cX7_undo 33 = .ok (.aload_n 0, 1) := by decide +kernel
theorem dX7_undo_34 : decode cX7_undo 34 = .ok (.getfield 22, 3) := by decide +kernel
theorem dX7_undo_37 : decode cX7_undo 37 = .ok (.bipush 83, 2) := by decide +kernel
theorem dX7_undo_39 : decode cX7_undo 39 = .ok (.aload_n 0, 1) := by decide +kernel
theorem dX7_undo_40 : decode cX7_undo 40 = .ok (.getfield 99, 3) := by decide +kernel
theorem dX7_undo_43 : decode cX7_undo 43 = .ok (.imul, 1) := by decide +kernel
theorem dX7_undo_44 : decode cX7_undo 44 = .ok (.iload_n 1, 1) := by decide +kernel
theorem dX7_undo_45 : decode cX7_undo 45 = .ok (.iadd, 1) := by decide +kernel
theorem dX7_undo_46 : decode cX7_undo 46 = .ok (.iaload, 1) := by decide +kernel
theorem dX7_undo_47 : decode cX7_undo 47 = .ok (.iastore, 1) := by decide +kernel
theorem dX7_undo_48 : decode cX7_undo 48 = .ok (.iinc 1 1, 3) := by decide +kernel
theorem dX7_undo_51 : decode cX7_undo 51 = .ok (.goto (-29), 3) := by decide +kernel
theorem dX7_undo_54 : decode cX7_undo 54 = .ok (.aload_n 0, 1) := by decide +kernel
theorem dX7_undo_55 : decode cX7_undo 55 = .ok (.getfield 99, 3) := by decide +kernel
theorem dX7_undo_58 : decode cX7_undo 58 = .ok (.ireturn, 1) := by decide +kernel
set_option maxRecDepth 20000 in
theorem ggX7_isEdge_X7_in : GoodIn wsX7_isEdge wsX7_in := goodIn_r _ [5] (by decide +kernel) (by decide +kernel)
set_option maxRecDepth 20000 in
theorem gX7_isEdge_X7_in : GoodIn wsX7_isEdge (va_wsS RX7 60 yX7_in wsX7_in) := goodIn_app (goodIn_of _ (by decide +kernel)) ggX7_isEdge_X7_in
theorem dX7_isEdge_0 : decode cX7_isEdge 0 = .ok (.iload_n 1, 1) := by decide +kernel
theorem dX7_isEdge_1 : decode cX7_isEdge 1 = .ok (.iconst 0, 1) := by decide +kernel
theorem dX7_isEdge_2 : decode cX7_isEdge 2 = .ok (.aload_n 0, 1) := by decide +kernel
theorem dX7_isEdge_3 : decode cX7_isEdge 3 = .ok (.getfield 95, 3) := by decide +kernel
theorem dX7_isEdge_6 : decode cX7_isEdge 6 = .ok (.iconst 1, 1) := by decide +kernel
theorem dX7_isEdge_7 : decode cX7_isEdge 7 = .ok (.isub, 1) := by decide +kernel
theorem dX7_isEdge_8 : decode cX7_isEdge 8 = .ok (.invokestatic 60, 3) := by decide +kernel
theorem dX7_isEdge_11 : decode cX7_isEdge 11 = .ok (.ireturn, 1) := by decide +kernel
theorem dX7_isTree_0 : decode cX7_isTree 0 = .ok (.aload_n 0, 1) := by decide +kernel
theorem dX7_isTree_1 : decode cX7_isTree 1 = .ok (.getfield 19, 3) := by decide +kernel
theorem dX7_isTree_4 : decode cX7_isTree 4 = .ok (.bipush 20, 2) := by decide +kernel
theorem dX7_isTree_6 : decode cX7_isTree 6 = .ok (.iload_n 1, 1) := by decide +kernel
theorem dX7_isTree_7 : decode cX7_isTree 7 = .ok (.iadd, 1) := by decide +kernel
theorem dX7_isTree_8 : decode cX7_isTree 8 = .ok (.iaload, 1) := by decide +kernel
theorem dX7_isTree_9 : decode cX7_isTree 9 = .ok (.iconst 1, 1) := by decide +kernel
theorem dX7_isTree_10 : decode cX7_isTree 10 = .ok (.if_icmp .ne 7, 3) := by decide +kernel
theorem dX7_isTree_13 : decode cX7_isTree 13 = .ok (.iconst 1, 1) := by decide +kernel
theorem dX7_isTree_14 : decode cX7_isTree 14 = .ok (.goto 4, 3) := by decide +kernel
theorem dX7_isTree_17 : decode cX7_isTree 17 = .ok (.iconst 0, 1) := by decide +kernel
theorem dX7_isTree_18 : decode cX7_isTree 18 = .ok (.ireturn, 1) := by decide +kernel
set_option maxRecDepth 20000 in
theorem ggX7_setWeight_X7_isEdge : GoodIn wsX7_setWeight wsX7_isEdge := goodIn_r _ [6, 7, 8, 9, 5, 10, 35, 36, 37, 38, 39, 40, 41, 42, 43, 44, 45, 46, 47, 48, 49, 50, 51, 52, 53] (by decide +kernel) (by decide +kernel)
set_option maxRecDepth 20000 in
theorem gX7_setWeight_X7_isEdge : GoodIn wsX7_setWeight (wsV RX7 115 RX7 yX7_isEdge wsX7_isEdge) := goodIn_app (goodIn_of _ (by decide +kernel)) ggX7_setWeight_X7_isEdge
set_option maxRecDepth 20000 in
theorem ggX7_setWeight_X7_in : GoodIn wsX7_setWeight wsX7_in := goodIn_r _ [10] (by decide +kernel) (by decide +kernel)
set_option maxRecDepth 20000 in
theorem gX7_setWeight_X7_in : GoodIn wsX7_setWeight (va_wsS RX7 60 yX7_in wsX7_in) := goodIn_app (goodIn_of _ (by decide +kernel)) ggX7_setWeight_X7_in
set_option maxRecDepth 20000 in
theorem ggX7_setWeight_X7_save : GoodIn wsX7_setWeight wsX7_save := goodIn_r _ [14, 15, 16, 1, 35, 36, 37, 38, 39, 40, 41, 42, 43, 44, 45, 46, 47, 48, 49, 50, 51, 52, 53] (by decide +kernel) (by decide +kernel)
set_option maxRecDepth 20000 in
theorem gX7_setWeight_X7_save : GoodIn wsX7_setWeight (wsV RX7 118 RX7 yX7_save wsX7_save) := goodIn_app (goodIn_of _ (by decide +kernel)) ggX7_setWeight_X7_save
set_option maxRecDepth 20000 in
theorem ggX7_setWeight_X7_findTree : GoodIn wsX7_setWeight wsX7_findTree := goodIn_r _ [20, 1, 7, 21, 22, 23, 24, 25, 5, 26, 27, 28, 29, 30, 35, 36, 37, 38, 39, 40, 41, 42, 43, 44, 45, 46, 47, 48, 49, 50, 51, 52, 53] (by decide +kernel) (by decide +kernel)
set_option maxRecDepth 20000 in
theorem gX7_setWeight_X7_findTree : GoodIn wsX7_setWeight (wsV RX7 102 RX7 yX7_findTree wsX7_findTree) := goodIn_app (goodIn_of _ (by decide +kernel)) ggX7_setWeight_X7_findTree
set_option maxRecDepth 20000 in
theorem ggX7_setWeight_X7_resetCounts : GoodIn wsX7_setWeight wsX7_resetCounts := goodIn_r _ [34, 1, 35, 36, 37, 38, 39, 40, 41, 42, 43, 44, 45, 46, 47, 48, 49, 50, 51, 52, 53] (by decide +kernel) (by decide +kernel)
set_option maxRecDepth 20000 in
theorem gX7_setWeight_X7_resetCounts : GoodIn wsX7_setWeight (wsV RX7 105 RX7 yX7_resetCounts wsX7_resetCounts) := goodIn_app (goodIn_of _ (by decide +kernel)) ggX7_setWeight_X7_resetCounts
theorem dX7_setWeight_0 : decode cX7_setWeight 0 = .ok (.aload_n 0, 1) := by decide +kernel
theorem dX7_setWeight_1 : decode cX7_setWeight 1 = .ok (.iload_n 1, 1) := by decide +kernel
theorem dX7_setWeight_2 : decode cX7_setWeight 2 = .ok (.invokevirtual 115, 3) := by decide +kernel
theorem dX7_setWeight_5 : decode cX7_setWeight 5 = .ok (.ifCond .eq 14, 3) := by decide +kernel
theorem dX7_setWeight_8 : decode cX7_setWeight 8 = .ok (.iload_n 2, 1) := by decide +kernel
theorem dX7_setWeight_9 : decode cX7_setWeight 9 = .ok (.iconst 0, 1) := by decide +kernel
theorem dX7_setWeight_10 : decode cX7_setWeight 10 = .ok (.sipush 999, 3) := by decide +kernel
theorem dX7_setWeight_13 : decode cX7_setWeight 13 = .ok (.invokestatic 60, 3) := by decide +kernel
theorem dX7_setWeight_16 : decode cX7_setWeight 16 = .ok (.ifCond .ne 6, 3) := by decide +kernel
theorem dX7_setWeight_19 : decode cX7_setWeight 19 = .ok (.bipush (-101), 2) := by decide +kernel
