theorem dX6_floored_7 : decode cX6_floored 7 = .ok (.lrem, 1) := by decide +kernel
theorem dX6_floored_8 : decode cX6_floored 8 = .ok (.lconst 0, 1) := by decide +kernel
theorem dX6_floored_9 : decode cX6_floored 9 = .ok (.lcmp, 1) := by decide +kernel
theorem dX6_floored_10 : decode cX6_floored 10 = .ok (.ifCond .eq 16, 3) := by decide +kernel
theorem dX6_floored_13 : decode cX6_floored 13 = .ok (.lload_n 0, 1) := by decide +kernel
theorem dX6_floored_14 : decode cX6_floored 14 = .ok (.lconst 0, 1) := by decide +kernel
theorem dX6_floored_15 : decode cX6_floored 15 = .ok (.lcmp, 1) := by decide +kernel
theorem dX6_floored_16 : decode cX6_floored 16 = .ok (.ifCond .ge 10, 3) := by decide +kernel
theorem dX6_floored_19 : decode cX6_floored 19 = .ok (.lload 4, 2) := by decide +kernel
theorem dX6_floored_21 : decode cX6_floored 21 = .ok (.lconst 1, 1) := by decide +kernel
theorem dX6_floored_22 : decode cX6_floored 22 = .ok (.lsub, 1) := by decide +kernel
theorem dX6_floored_23 : decode cX6_floored 23 = .ok (.goto 5, 3) := by decide +kernel
theorem dX6_floored_26 : decode cX6_floored 26 = .ok (.lload 4, 2) := by decide +kernel
theorem dX6_floored_28 : decode cX6_floored 28 = .ok (.lreturn, 1) := by decide +kernel
set_option maxRecDepth 20000 in
theorem ggX6_divideBy_X6_copy4 : GoodIn wsX6_divideBy wsX6_copy4 := goodIn_r _ [9] (by decide +kernel) (by decide +kernel)
set_option maxRecDepth 20000 in
theorem gX6_divideBy_X6_copy4 : GoodIn wsX6_divideBy (va_wsS RX6 152 yX6_copy4 wsX6_copy4) := goodIn_app (goodIn_of _ (by decide +kernel)) ggX6_divideBy_X6_copy4
set_option maxRecDepth 20000 in
theorem ggX6_divideBy_X6_mirror : GoodIn wsX6_divideBy wsX6_mirror := goodIn_r _ [12] (by decide +kernel) (by decide +kernel)
set_option maxRecDepth 20000 in
theorem gX6_divideBy_X6_mirror : GoodIn wsX6_divideBy (va_wsS RX6 139 yX6_mirror wsX6_mirror) := goodIn_app (goodIn_of _ (by decide +kernel)) ggX6_divideBy_X6_mirror
set_option maxRecDepth 20000 in
theorem ggX6_divideBy_X6_times : GoodIn wsX6_divideBy wsX6_times := goodIn_r _ [15, 3] (by decide +kernel) (by decide +kernel)
set_option maxRecDepth 20000 in
theorem gX6_divideBy_X6_times : GoodIn wsX6_divideBy (va_wsS RX6 143 yX6_times wsX6_times) := goodIn_app (goodIn_of _ (by decide +kernel)) ggX6_divideBy_X6_times
set_option maxRecDepth 20000 in
theorem ggX6_divideBy_X6_norm : GoodIn wsX6_divideBy wsX6_norm := goodIn_r _ [18, 19] (by decide +kernel) (by decide +kernel)
set_option maxRecDepth 20000 in
theorem gX6_divideBy_X6_norm : GoodIn wsX6_divideBy (va_wsS RX6 126 yX6_norm wsX6_norm) := goodIn_app (goodIn_of _ (by decide +kernel)) ggX6_divideBy_X6_norm
set_option maxRecDepth 20000 in
theorem ggX6_divideBy_X6_floored : GoodIn wsX6_divideBy wsX6_floored := goodIn_r _ [22] (by decide +kernel) (by decide +kernel)
set_option maxRecDepth 20000 in
theorem gX6_divideBy_X6_floored : GoodIn wsX6_divideBy (va_wsS RX6 156 yX6_floored wsX6_floored) := goodIn_app (goodIn_of _ (by decide +kernel)) ggX6_divideBy_X6_floored
theorem dX6_divideBy_0 : decode cX6_divideBy 0 = .ok (.aload_n 0, 1) := by decide +kernel
theorem dX6_divideBy_1 : decode cX6_divideBy 1 = .ok (.getfield 53, 3) := by decide +kernel
theorem dX6_divideBy_4 : decode cX6_divideBy 4 = .ok (.aload_n 2, 1) := by decide +kernel
theorem dX6_divideBy_5 : decode cX6_divideBy 5 = .ok (.invokestatic 152, 3) := by decide +kernel
theorem dX6_divideBy_8 : decode cX6_divideBy 8 = .ok (.aload_n 0, 1) := by decide +kernel
theorem dX6_divideBy_9 : decode cX6_divideBy 9 = .ok (.getfield 53, 3) := by decide +kernel
theorem dX6_divideBy_12 : decode cX6_divideBy 12 = .ok (.invokestatic 139, 3) := by decide +kernel
theorem dX6_divideBy_15 : decode cX6_divideBy 15 = .ok (.iload_n 3, 1) := by decide +kernel
theorem dX6_divideBy_16 : decode cX6_divideBy 16 = .ok (.ifCond .ne 18, 3) := by decide +kernel
theorem dX6_divideBy_19 : decode cX6_divideBy 19 = .ok (.aload_n 0, 1) := by decide +kernel
theorem dX6_divideBy_20 : decode cX6_divideBy 20 = .ok (.getfield 50, 3) := by decide +kernel
theorem dX6_divideBy_23 : decode cX6_divideBy 23 = .ok (.aload_n 1, 1) := by decide +kernel
theorem dX6_divideBy_24 : decode cX6_divideBy 24 = .ok (.aload_n 0, 1) := by decide +kernel
theorem dX6_divideBy_25 : decode cX6_divideBy 25 = .ok (.getfield 53, 3) := by decide +kernel
theorem dX6_divideBy_28 : decode cX6_divideBy 28 = .ok (.invokestatic 143, 3) := by decide +kernel
theorem dX6_divideBy_31 : decode cX6_divideBy 31 = .ok (.goto 15, 3) := by decide +kernel
theorem dX6_divideBy_34 : decode cX6_divideBy 34 = .ok (.aload_n 0, 1) := by decide +kernel
theorem dX6_divideBy_35 : decode cX6_divideBy 35 = .ok (.getfield 50, 3) := by decide +kernel
theorem dX6_divideBy_38 : decode cX6_divideBy 38 = .ok (.aload_n 0, 1) := by decide +kernel
theorem dX6_divideBy_39 : decode cX6_divideBy 39 = .ok (.getfield 53, 3) := by decide +kernel
theorem dX6_divideBy_42 : decode cX6_divideBy 42 = .ok (.aload_n 1, 1) := by decide +kernel
theorem dX6_divideBy_43 : decode cX6_divideBy 43 = .ok (.invokestatic 143, 3) := by decide +kernel
theorem dX6_divideBy_46 : decode cX6_divideBy 46 = .ok (.aload_n 2, 1) := by decide +kernel
theorem dX6_divideBy_47 : decode cX6_divideBy 47 = .ok (.invokestatic 126, 3) := by decide +kernel
theorem dX6_divideBy_50 : decode cX6_divideBy 50 = .ok (.lstore 4, 2) := by decide +kernel
theorem dX6_divideBy_52 : decode cX6_divideBy 52 = .ok (.lconst 0, 1) := by decide +kernel
theorem dX6_divideBy_53 : decode cX6_divideBy 53 = .ok (.lstore 6, 2) := by decide +kernel
theorem dX6_divideBy_55 : decode cX6_divideBy 55 = .ok (.lconst 0, 1) := by decide +kernel
theorem dX6_divideBy_56 : decode cX6_divideBy 56 = .ok (.lstore 8, 2) := by decide +kernel
theorem dX6_divideBy_58 : decode cX6_divideBy 58 = .ok (.iconst 0, 1) := by decide +kernel
theorem dX6_divideBy_59 : decode cX6_divideBy 59 = .ok (.istore 10, 2) := by decide +kernel
theorem dX6_divideBy_61 : decode cX6_divideBy 61 = .ok (.iload 10, 2) := by decide +kernel
theorem dX6_divideBy_63 : decode cX6_divideBy 63 = .ok (.iconst 4, 1) := by decide +kernel
theorem dX6_divideBy_64 : decode cX6_divideBy 64 = .ok (.if_icmp .ge 100, 3) := by decide +kernel
theorem dX6_divideBy_67 : decode cX6_divideBy 67 = .ok (.aload_n 0, 1) := by decide +kernel
theorem dX6_divideBy_68 : decode cX6_divideBy 68 = .ok (.getfield 50, 3) := by decide +kernel
theorem dX6_divideBy_71 : decode cX6_divideBy 71 = .ok (.iload 10, 2) := by decide +kernel
theorem dX6_divideBy_73 : decode cX6_divideBy 73 = .ok (.laload, 1) := by decide +kernel
theorem dX6_divideBy_74 : decode cX6_divideBy 74 = .ok (.ldc2_w 77, 3) := by decide +kernel
theorem dX6_divideBy_77 : decode cX6_divideBy 77 = .ok (.lload 4, 2) := by decide +kernel
theorem dX6_divideBy_79 : decode cX6_divideBy 79 = .ok (.lmul, 1) := by decide +kernel
theorem dX6_divideBy_80 : decode cX6_divideBy 80 = .ok (.aload_n 0, 1) := by decide +kernel
theorem dX6_divideBy_81 : decode cX6_divideBy 81 = .ok (.getfield 50, 3) := by decide +kernel
theorem dX6_divideBy_84 : decode cX6_divideBy 84 = .ok (.iload 10, 2) := by decide +kernel
theorem dX6_divideBy_86 : decode cX6_divideBy 86 = .ok (.laload, 1) := by decide +kernel
theorem dX6_divideBy_87 : decode cX6_divideBy 87 = .ok (.lload 4, 2) := by decide +kernel
theorem dX6_divideBy_89 : decode cX6_divideBy 89 = .ok (.ladd, 1) := by decide +kernel
theorem dX6_divideBy_90 : decode cX6_divideBy 90 = .ok (.ldc2_w 77, 3) := by decide +kernel
theorem dX6_divideBy_93 : decode cX6_divideBy 93 = .ok (.lload 4, 2) := by decide +kernel
theorem dX6_divideBy_95 : decode cX6_divideBy 95 = .ok (.lmul, 1) := by decide +kernel
theorem dX6_divideBy_96 : decode cX6_divideBy 96 = .ok (.invokestatic 156, 3) := by decide +kernel
theorem dX6_divideBy_99 : decode cX6_divideBy 99 = .ok (.lmul, 1) := by decide +kernel
theorem dX6_divideBy_100 : decode cX6_divideBy 100 = .ok (.lsub, 1) := by decide +kernel
theorem dX6_divideBy_101 : decode cX6_divideBy 101 = .ok (.lstore 11, 2) := by decide +kernel
theorem dX6_divideBy_103 : decode cX6_divideBy 103 = .ok (.aload_n 0, 1) := by decide +kernel
theorem dX6_divideBy_104 : decode cX6_divideBy 104 = .ok (.getfield 50, 3) := by decide +kernel
theorem dX6_divideBy_107 : decode cX6_divideBy 107 = .ok (.iload 10, 2) := by decide +kernel
theorem dX6_divideBy_109 : decode cX6_divideBy 109 = .ok (.laload, 1) := by decide +kernel
theorem dX6_divideBy_110 : decode cX6_divideBy 110 = .ok (.lload 4, 2) := by decide +kernel
theorem dX6_divideBy_112 : decode cX6_divideBy 112 = .ok (.ldc2_w 77, 3) := by decide +kernel
theorem dX6_divideBy_115 : decode cX6_divideBy 115 = .ok (.aload_n 0, 1) := by decide +kernel
theorem dX6_divideBy_116 : decode cX6_divideBy 116 = .ok (.getfield 50, 3) := by decide +kernel
theorem dX6_divideBy_119 : decode cX6_divideBy 119 = .ok (.iload 10, 2) := by decide +kernel
theorem dX6_divideBy_121 : decode cX6_divideBy 121 = .ok (.laload, 1) := by decide +kernel
theorem dX6_divideBy_122 : decode cX6_divideBy 122 = .ok (.ldc2_w 77, 3) := by decide +kernel
theorem dX6_divideBy_125 : decode cX6_divideBy 125 = .ok (.lload 4, 2) := by decide +kernel
theorem dX6_divideBy_127 : decode cX6_divideBy 127 = .ok (.lmul, 1) := by decide +kernel
theorem dX6_divideBy_128 : decode cX6_divideBy 128 = .ok (.invokestatic 156, 3) := by decide +kernel
theorem dX6_divideBy_131 : decode cX6_divideBy 131 = .ok (.lmul, 1) := by decide +kernel
theorem dX6_divideBy_132 : decode cX6_divideBy 132 = .ok (.lconst 1, 1) := by decide +kernel
theorem dX6_divideBy_133 : decode cX6_divideBy 133 = .ok (.ladd, 1) := by decide +kernel
theorem dX6_divideBy_134 : decode cX6_divideBy 134 = .ok (.lmul, 1) := by decide +kernel
theorem dX6_divideBy_135 : decode cX6_divideBy 135 = .ok (.lsub, 1) := by decide +kernel
theorem dX6_divideBy_136 : decode cX6_divideBy 136 = .ok (.lstore 13, 2) := by decide +kernel
theorem dX6_divideBy_138 : decode cX6_divideBy 138 = .ok (.lload 6, 2) := by decide +kernel
theorem dX6_divideBy_140 : decode cX6_divideBy 140 = .ok (.lload 11, 2) := by decide +kernel
theorem dX6_divideBy_142 : decode cX6_divideBy 142 = .ok (.lload 11, 2) := by decide +kernel
theorem dX6_divideBy_144 : decode cX6_divideBy 144 = .ok (.lmul, 1) := by decide +kernel
theorem dX6_divideBy_145 : decode cX6_divideBy 145 = .ok (.ladd, 1) := by decide +kernel
theorem dX6_divideBy_146 : decode cX6_divideBy 146 = .ok (.lstore 6, 2) := by decide +kernel
theorem dX6_divideBy_148 : decode cX6_divideBy 148 = .ok (.lload 8, 2) := by decide +kernel
theorem dX6_divideBy_150 : decode cX6_divideBy 150 = .ok (.lload 13, 2) := by decide +kernel
theorem dX6_divideBy_152 : decode cX6_divideBy 152 = .ok (.lload 13, 2) := by decide +kernel
theorem dX6_divideBy_154 : decode cX6_divideBy 154 = .ok (.lmul, 1) := by decide +kernel
theorem dX6_divideBy_155 : decode cX6_divideBy 155 = .ok (.ladd, 1) := by decide +kernel
theorem dX6_divideBy_156 : decode cX6_divideBy 156 = .ok (.lstore 8, 2) := by decide +kernel
theorem dX6_divideBy_158 : decode cX6_divideBy 158 = .ok (.iinc 10 1, 3) := by decide +kernel
theorem dX6_divideBy_161 : decode cX6_divideBy 161 = .ok (.goto (-100), 3) := by decide +kernel
theorem dX6_divideBy_164 : decode cX6_divideBy 164 = .ok (.iconst 0, 1) := by decide +kernel
theorem dX6_divideBy_165 : decode cX6_divideBy 165 = .ok (.istore 10, 2) := by decide +kernel
theorem dX6_divideBy_167 : decode cX6_divideBy 167 = .ok (.iload 10, 2) := by decide +kernel
theorem dX6_divideBy_169 : decode cX6_divideBy 169 = .ok (.iconst 4, 1) := by decide +kernel
theorem dX6_divideBy_170 : decode cX6_divideBy 170 = .ok (.if_icmp .ge 72, 3) := by decide +kernel
theorem dX6_divideBy_173 : decode cX6_divideBy 173 = .ok (.aload_n 0, 1) := by decide +kernel
theorem dX6_divideBy_174 : decode cX6_divideBy 174 = .ok (.getfield 47, 3) := by decide +kernel
theorem dX6_divideBy_177 : decode cX6_divideBy 177 = .ok (.iload 10, 2) := by decide +kernel
theorem dX6_divideBy_179 : decode cX6_divideBy 179 = .ok (.lload 6, 2) := by decide +kernel
theorem dX6_divideBy_181 : decode cX6_divideBy 181 = .ok (.lload 8, 2) := by decide +kernel
theorem dX6_divideBy_183 : decode cX6_divideBy 183 = .ok (.lcmp, 1) := by decide +kernel
theorem dX6_divideBy_184 : decode cX6_divideBy 184 = .ok (.ifCond .gt 29, 3) := by decide +kernel
theorem dX6_divideBy_187 : decode cX6_divideBy 187 = .ok (.ldc2_w 77, 3) := by decide +kernel
theorem dX6_divideBy_190 : decode cX6_divideBy 190 = .ok (.aload_n 0, 1) := by decide +kernel
theorem dX6_divideBy_191 : decode cX6_divideBy 191 = .ok (.getfield 50, 3) := by decide +kernel
theorem dX6_divideBy_194 : decode cX6_divideBy 194 = .ok (.iload 10, 2) := by decide +kernel
theorem dX6_divideBy_196 : decode cX6_divideBy 196 = .ok (.laload, 1) := by decide +kernel
theorem dX6_divideBy_197 : decode cX6_divideBy 197 = .ok (.lload 4, 2) := by decide +kernel
theorem dX6_divideBy_199 : decode cX6_divideBy 199 = .ok (.ladd, 1) := by decide +kernel
theorem dX6_divideBy_200 : decode cX6_divideBy 200 = .ok (.ldc2_w 77, 3) := by decide +kernel
theorem dX6_divideBy_203 : decode cX6_divideBy 203 = .ok (.lload 4, 2) := by decide +kernel
theorem dX6_divideBy_205 : decode cX6_divideBy 205 = .ok (.lmul, 1) := by decide +kernel
theorem dX6_divideBy_206 : decode cX6_divideBy 206 = .ok (.invokestatic 156, 3) := by decide +kernel
theorem dX6_divideBy_209 : decode cX6_divideBy 209 = .ok (.lmul, 1) := by decide +kernel
theorem dX6_divideBy_210 : decode cX6_divideBy 210 = .ok (.goto 25, 3) := by decide +kernel
theorem dX6_divideBy_213 : decode cX6_divideBy 213 = .ok (.ldc2_w 77, 3) := by decide +kernel
theorem dX6_divideBy_216 : decode cX6_divideBy 216 = .ok (.aload_n 0, 1) := by decide +kernel
theorem dX6_divideBy_217 : decode cX6_divideBy 217 = .ok (.getfield 50, 3) := by decide +kernel
theorem dX6_divideBy_220 : decode cX6_divideBy 220 = .ok (.iload 10, 2) := by decide +kernel
theorem dX6_divideBy_222 : decode cX6_divideBy 222 = .ok (.laload, 1) := by decide +kernel
theorem dX6_divideBy_223 : decode cX6_divideBy 223 = .ok (.ldc2_w 77, 3) := by decide +kernel
theorem dX6_divideBy_226 : decode cX6_divideBy 226 = .ok (.lload 4, 2) := by decide +kernel
theorem dX6_divideBy_228 : decode cX6_divideBy 228 = .ok (.lmul, 1) := by decide +kernel
theorem dX6_divideBy_229 : decode cX6_divideBy 229 = .ok (.invokestatic 156, 3) := by decide +kernel
theorem dX6_divideBy_232 : decode cX6_divideBy 232 = .ok (.lmul, 1) := by decide +kernel
theorem dX6_divideBy_233 : decode cX6_divideBy 233 = .ok (.lconst 1, 1) := by decide +kernel
theorem dX6_divideBy_234 : decode cX6_divideBy 234 = .ok (.ladd, 1) := by decide +kernel
theorem dX6_divideBy_235 : decode cX6_divideBy 235 = .ok (.lastore, 1) := by decide +kernel
theorem dX6_divideBy_236 : decode cX6_divideBy 236 = .ok (.iinc 10 1, 3) := by decide +kernel
theorem dX6_divideBy_239 : decode cX6_divideBy 239 = .ok (.goto (-72), 3) := by decide +kernel
theorem dX6_divideBy_242 : decode cX6_divideBy 242 = .ok (.iload_n 3, 1) := by decide +kernel
theorem dX6_divideBy_243 : decode cX6_divideBy 243 = .ok (.ifCond .ne 18, 3) := by decide +kernel
theorem dX6_divideBy_246 : decode cX6_divideBy 246 = .ok (.aload_n 0, 1) := by decide +kernel
theorem dX6_divideBy_247 : decode cX6_divideBy 247 = .ok (.getfield 50, 3) := by decide +kernel
theorem dX6_divideBy_250 : decode cX6_divideBy 250 = .ok (.aload_n 0, 1) := by decide +kernel
theorem dX6_divideBy_251 : decode cX6_divideBy 251 = .ok (.getfield 47, 3) := by decide +kernel
theorem dX6_divideBy_254 : decode cX6_divideBy 254 = .ok (.aload_n 2, 1) := by decide +kernel
theorem dX6_divideBy_255 : decode cX6_divideBy 255 = .ok (.invokestatic 143, 3) := by decide +kernel
theorem dX6_divideBy_258 : decode cX6_divideBy 258 = .ok (.goto 15, 3) := by decide +kernel
theorem dX6_divideBy_261 : decode cX6_divideBy 261 = .ok (.aload_n 0, 1) := by decide +kernel
theorem dX6_divideBy_262 : decode cX6_divideBy 262 = .ok (.getfield 50, 3) := by decide +kernel
theorem dX6_divideBy_265 : decode cX6_divideBy 265 = .ok (.aload_n 2, 1) := by decide +kernel
theorem dX6_divideBy_266 : decode cX6_divideBy 266 = .ok (.aload_n 0, 1) := by decide +kernel
theorem dX6_divideBy_267 : decode cX6_divideBy 267 = .ok (.getfield 47, 3) := by decide +kernel
theorem dX6_divideBy_270 : decode cX6_divideBy 270 = .ok (.invokestatic 143, 3) := by decide +kernel
theorem dX6_divideBy_273 : decode cX6_divideBy 273 = .ok (.iconst 0, 1) := by decide +kernel
theorem dX6_divideBy_274 : decode cX6_divideBy 274 = .ok (.istore 10, 2) := by decide +kernel
theorem dX6_divideBy_276 : decode cX6_divideBy 276 = .ok (.iload 10, 2) := by decide +kernel
theorem dX6_divideBy_278 : decode cX6_divideBy 278 = .ok (.iconst 4, 1) := by decide +kernel
theorem dX6_divideBy_279 : decode cX6_divideBy 279 = .ok (.if_icmp .ge 28, 3) := by decide +kernel
theorem dX6_divideBy_282 : decode cX6_divideBy 282 = .ok (.aload_n 0, 1) := by decide +kernel
theorem dX6_divideBy_283 : decode cX6_divideBy 283 = .ok (.getfield 41, 3) := by decide +kernel
theorem dX6_divideBy_286 : decode cX6_divideBy 286 = .ok (.iload 10, 2) := by decide +kernel
theorem dX6_divideBy_288 : decode cX6_divideBy 288 = .ok (.aload_n 1, 1) := by decide +kernel
theorem dX6_divideBy_289 : decode cX6_divideBy 289 = .ok (.iload 10, 2) := by decide +kernel
theorem dX6_divideBy_291 : decode cX6_divideBy 291 = .ok (.laload, 1) := by decide +kernel
theorem dX6_divideBy_292 : decode cX6_divideBy 292 = .ok (.aload_n 0, 1) := by decide +kernel
theorem dX6_divideBy_293 : decode cX6_divideBy 293 = .ok (.getfield 50, 3) := by decide +kernel
theorem dX6_divideBy_296 : decode cX6_divideBy 296 = .ok (.iload 10, 2) := by decide +kernel
theorem dX6_divideBy_298 : decode cX6_divideBy 298 = .ok (.laload, 1) := by decide +kernel
theorem dX6_divideBy_299 : decode cX6_divideBy 299 = .ok (.lsub, 1) := by decide +kernel
theorem dX6_divideBy_300 : decode cX6_divideBy 300 = .ok (.lastore, 1) := by decide +kernel
theorem dX6_divideBy_301 : decode cX6_divideBy 301 = .ok (.iinc 10 1, 3) := by decide +kernel
theorem dX6_divideBy_304 : decode cX6_divideBy 304 = .ok (.goto (-28), 3) := by decide +kernel
theorem dX6_divideBy_307 : decode cX6_divideBy 307 = .ok (.return_, 1) := by decide +kernel
set_option maxRecDepth 20000 in
theorem ggX6_divide_X6_isRegister : GoodIn wsX6_divide wsX6_isRegister := goodIn_r _ [8, 9, 10, 11, 7, 12] (by decide +kernel) (by decide +kernel)
set_option maxRecDepth 20000 in
theorem gX6_divide_X6_isRegister : GoodIn wsX6_divide (va_wsS RX6 91 yX6_isRegister wsX6_isRegister) := goodIn_app (goodIn_of _ (by decide +kernel)) ggX6_divide_X6_isRegister
set_option maxRecDepth 20000 in
theorem ggX6_divide_X6_in : GoodIn wsX6_divide wsX6_in := goodIn_r _ [12] (by decide +kernel) (by decide +kernel)
set_option maxRecDepth 20000 in
theorem gX6_divide_X6_in : GoodIn wsX6_divide (va_wsS RX6 65 yX6_in wsX6_in) := goodIn_app (goodIn_of _ (by decide +kernel)) ggX6_divide_X6_in
set_option maxRecDepth 20000 in
theorem ggX6_divide_X6_load : GoodIn wsX6_divide wsX6_load := goodIn_r _ [16, 17, 56, 57, 58, 59, 60, 61, 62, 63, 64, 65, 66, 67, 68, 69, 70, 71, 72, 73] (by decide +kernel) (by decide +kernel)
set_option maxRecDepth 20000 in
theorem gX6_divide_X6_load : GoodIn wsX6_divide (wsV RX6 122 RX6 yX6_load wsX6_load) := goodIn_app (goodIn_of _ (by decide +kernel)) ggX6_divide_X6_load
set_option maxRecDepth 20000 in
theorem ggX6_divide_X6_isNull : GoodIn wsX6_divide wsX6_isNull := goodIn_r _ [20] (by decide +kernel) (by decide +kernel)
set_option maxRecDepth 20000 in
theorem gX6_divide_X6_isNull : GoodIn wsX6_divide (va_wsS RX6 112 yX6_isNull wsX6_isNull) := goodIn_app (goodIn_of _ (by decide +kernel)) ggX6_divide_X6_isNull
set_option maxRecDepth 20000 in
theorem ggX6_divide_X6_divideBy : GoodIn wsX6_divide wsX6_divideBy := goodIn_r _ [24, 25, 26, 27, 3, 4, 28, 29, 7, 30, 31, 32, 33, 34, 35, 36, 37, 38, 39, 40, 41, 42, 43, 56, 57, 58, 59, 60, 61, 62, 63, 64, 65, 66, 67, 68, 69, 70, 71, 72, 73] (by decide +kernel) (by decide +kernel)
set_option maxRecDepth 20000 in
theorem gX6_divide_X6_divideBy : GoodIn wsX6_divide (wsV RX6 159 RX6 yX6_divideBy wsX6_divideBy) := goodIn_app (goodIn_of _ (by decide +kernel)) ggX6_divide_X6_divideBy
set_option maxRecDepth 20000 in
theorem ggX6_divide_X6_isLow : GoodIn wsX6_divide wsX6_isLow := goodIn_r _ [46, 47, 48, 7, 49, 50, 51, 10, 11, 12] (by decide +kernel) (by decide +kernel)
set_option maxRecDepth 20000 in
theorem gX6_divide_X6_isLow : GoodIn wsX6_divide (va_wsS RX6 98 yX6_isLow wsX6_isLow) := goodIn_app (goodIn_of _ (by decide +kernel)) ggX6_divide_X6_isLow
set_option maxRecDepth 20000 in
theorem ggX6_divide_X6_store : GoodIn wsX6_divide wsX6_store := goodIn_r _ [55, 17, 56, 57, 58, 59, 60, 61, 62, 63, 64, 65, 66, 67, 68, 69, 70, 71, 72, 73] (by decide +kernel) (by decide +kernel)
set_option maxRecDepth 20000 in
theorem gX6_divide_X6_store : GoodIn wsX6_divide (wsV RX6 102 RX6 yX6_store wsX6_store) := goodIn_app (goodIn_of _ (by decide +kernel)) ggX6_divide_X6_store
theorem dX6_divide_0 : decode cX6_divide 0 = .ok (.iload_n 1, 1) := by decide +kernel
theorem dX6_divide_1 : decode cX6_divide 1 = .ok (.invokestatic 91, 3) := by decide +kernel
theorem dX6_divide_4 : decode cX6_divide 4 = .ok (.ifCond .eq 41, 3) := by decide +kernel
theorem dX6_divide_7 : decode cX6_divide 7 = .ok (.iload_n 2, 1) := by decide +kernel
theorem dX6_divide_8 : decode cX6_divide 8 = .ok (.invokestatic 91, 3) := by decide +kernel
theorem dX6_divide_11 : decode cX6_divide 11 = .ok (.ifCond .eq 34, 3) := by decide +kernel
theorem dX6_divide_14 : decode cX6_divide 14 = .ok (.iload_n 3, 1) := by decide +kernel
theorem dX6_divide_15 : decode cX6_divide 15 = .ok (.invokestatic 91, 3) := by decide +kernel
theorem dX6_divide_18 : decode cX6_divide 18 = .ok (.ifCond .eq 27, 3) := by decide +kernel
theorem dX6_divide_21 : decode cX6_divide 21 = .ok (.iload 4, 2) := by decide +kernel
theorem dX6_divide_23 : decode cX6_divide 23 = .ok (.invokestatic 91, 3) := by decide +kernel
theorem dX6_divide_26 : decode cX6_divide 26 = .ok (.ifCond .eq 19, 3) := by decide +kernel
theorem dX6_divide_29 : decode cX6_divide 29 = .ok (.iload 5, 2) := by decide +kernel
theorem dX6_divide_31 : decode cX6_divide 31 = .ok (.i2l, 1) := by decide +kernel
theorem dX6_divide_32 : decode cX6_divide 32 = .ok (.lconst 0, 1) := by decide +kernel
theorem dX6_divide_33 : decode cX6_divide 33 = .ok (.lconst 1, 1) := by decide +kernel
theorem dX6_divide_34 : decode cX6_divide 34 = .ok (.invokestatic 65, 3) := by decide +kernel
theorem dX6_divide_37 : decode cX6_divide 37 = .ok (.ifCond .eq 8, 3) := by decide +kernel
theorem dX6_divide_40 : decode cX6_divide 40 = .ok (.iload_n 1, 1) := by decide +kernel
theorem dX6_divide_41 : decode cX6_divide 41 = .ok (.iload_n 2, 1) := by decide +kernel
theorem dX6_divide_42 : decode cX6_divide 42 = .ok (.if_icmp .ne 5, 3) := by decide +kernel
theorem dX6_divide_45 : decode cX6_divide 45 = .ok (.iconst (-1), 1) := by decide +kernel
theorem dX6_divide_46 : decode cX6_divide 46 = .ok (.ireturn, 1) := by decide +kernel
theorem dX6_divide_47 : decode cX6_divide 47 = .ok (.aload_n 0, 1) := by decide +kernel
theorem dX6_divide_48 : decode cX6_divide 48 = .ok (.aload_n 0, 1) := by decide +kernel
theorem dX6_divide_49 : decode cX6_divide 49 = .ok (.getfield 32, 3) := by decide +kernel
theorem dX6_divide_52 : decode cX6_divide 52 = .ok (.iload_n 3, 1) := by decide +kernel
theorem dX6_divide_53 : decode cX6_divide 53 = .ok (.invokevirtual 122, 3) := by decide +kernel
theorem dX6_divide_56 : decode cX6_divide 56 = .ok (.aload_n 0, 1) := by decide +kernel
theorem dX6_divide_57 : decode cX6_divide 57 = .ok (.aload_n 0, 1) := by decide +kernel
theorem dX6_divide_58 : decode cX6_divide 58 = .ok (.getfield 35, 3) := by decide +kernel
theorem dX6_divide_61 : decode cX6_divide 61 = .ok (.iload 4, 2) := by decide +kernel
theorem dX6_divide_63 : decode cX6_divide 63 = .ok (.invokevirtual 122, 3) := by decide +kernel
theorem dX6_divide_66 : decode cX6_divide 66 = .ok (.aload_n 0, 1) := by decide +kernel
theorem dX6_divide_67 : decode cX6_divide 67 = .ok (.getfield 35, 3) := by decide +kernel
theorem dX6_divide_70 : decode cX6_divide 70 = .ok (.invokestatic 112, 3) := by decide +kernel
theorem dX6_divide_73 : decode cX6_divide 73 = .ok (.ifCond .eq 6, 3) := by decide +kernel
theorem dX6_divide_76 : decode cX6_divide 76 = .ok (.bipush (-2), 2) := by decide +kernel
theorem dX6_divide_78 : decode cX6_divide 78 = .ok (.ireturn, 1) := by decide +kernel
theorem dX6_divide_79 : decode cX6_divide 79 = .ok (.aload_n 0, 1) := by decide +kernel
theorem dX6_divide_80 : decode cX6_divide 80 = .ok (.aload_n 0, 1) := by decide +kernel
theorem dX6_divide_81 : decode cX6_divide 81 = .ok (.getfield 32, 3) := by decide +kernel
theorem dX6_divide_84 : decode cX6_divide 84 = .ok (.aload_n 0, 1) := by decide +kernel
theorem dX6_divide_85 : decode cX6_divide 85 = .ok (.getfield 35, 3) := by decide +kernel
theorem dX6_divide_88 : decode cX6_divide 88 = .ok (.iload 5, 2) := by decide +kernel
theorem dX6_divide_90 : decode cX6_divide 90 = .ok (.invokevirtual 159, 3) := by decide +kernel
theorem dX6_divide_93 : decode cX6_divide 93 = .ok (.aload_n 0, 1) := by decide +kernel
theorem dX6_divide_94 : decode cX6_divide 94 = .ok (.getfield 47, 3) := by decide +kernel
theorem dX6_divide_97 : decode cX6_divide 97 = .ok (.invokestatic 98, 3) := by decide +kernel
theorem dX6_divide_100 : decode cX6_divide 100 = .ok (.ifCond .eq 13, 3) := by decide +kernel
theorem dX6_divide_103 : decode cX6_divide 103 = .ok (.aload_n 0, 1) := by decide +kernel
theorem dX6_divide_104 : decode cX6_divide 104 = .ok (.getfield 41, 3) := by decide +kernel
theorem dX6_divide_107 : decode cX6_divide 107 = .ok (.invokestatic 98, 3) := by decide +kernel
theorem dX6_divide_110 : decode cX6_divide 110 = .ok (.ifCond .ne 6, 3) := by decide +kernel
theorem dX6_divide_113 : decode cX6_divide 113 = .ok (.bipush (-3), 2) := by decide +kernel
theorem dX6_divide_115 : decode cX6_divide 115 = .ok (.ireturn, 1) := by decide +kernel
theorem dX6_divide_116 : decode cX6_divide 116 = .ok (.aload_n 0, 1) := by decide +kernel
theorem dX6_divide_117 : decode cX6_divide 117 = .ok (.iload_n 1, 1) := by decide +kernel
theorem dX6_divide_118 : decode cX6_divide 118 = .ok (.aload_n 0, 1) := by decide +kernel
theorem dX6_divide_119 : decode cX6_divide 119 = .ok (.getfield 47, 3) := by decide +kernel
theorem dX6_divide_122 : decode cX6_divide 122 = .ok (.invokevirtual 102, 3) := by decide +kernel
theorem dX6_divide_125 : decode cX6_divide 125 = .ok (.aload_n 0, 1) := by decide +kernel
theorem dX6_divide_126 : decode cX6_divide 126 = .ok (.iload_n 2, 1) := by decide +kernel
theorem dX6_divide_127 : decode cX6_divide 127 = .ok (.aload_n 0, 1) := by decide +kernel
theorem dX6_divide_128 : decode cX6_divide 128 = .ok (.getfield 41, 3) := by decide +kernel
theorem dX6_divide_131 : decode cX6_divide 131 = .ok (.invokevirtual 102, 3) := by decide +kernel
theorem dX6_divide_134 : decode cX6_divide 134 = .ok (.iconst 0, 1) := by decide +kernel
theorem dX6_divide_135 : decode cX6_divide 135 = .ok (.ireturn, 1) := by decide +kernel
set_option maxRecDepth 20000 in
theorem ggX6_findDivisor_X6_isNull : GoodIn wsX6_findDivisor wsX6_isNull := goodIn_r _ [9] (by decide +kernel) (by decide +kernel)
set_option maxRecDepth 20000 in
theorem gX6_findDivisor_X6_isNull : GoodIn wsX6_findDivisor (va_wsS RX6 112 yX6_isNull wsX6_isNull) := goodIn_app (goodIn_of _ (by decide +kernel)) ggX6_findDivisor_X6_isNull
set_option maxRecDepth 20000 in
theorem ggX6_findDivisor_X6_divideBy : GoodIn wsX6_findDivisor wsX6_divideBy := goodIn_r _ [13, 14, 15, 16, 17, 3, 18, 19, 8, 20, 21, 22, 23, 24, 25, 26, 27, 28, 29, 30, 31, 32, 33, 42, 43, 44, 45, 46, 47, 48, 49, 50, 51, 52, 53, 54, 55, 56, 57, 58, 59] (by decide +kernel) (by decide +kernel)
set_option maxRecDepth 20000 in
theorem gX6_findDivisor_X6_divideBy : GoodIn wsX6_findDivisor (wsV RX6 159 RX6 yX6_divideBy wsX6_divideBy) := goodIn_app (goodIn_of _ (by decide +kernel)) ggX6_findDivisor_X6_divideBy
set_option maxRecDepth 20000 in
theorem ggX6_findDivisor_X6_copy4 : GoodIn wsX6_findDivisor wsX6_copy4 := goodIn_r _ [20] (by decide +kernel) (by decide +kernel)
set_option maxRecDepth 20000 in
theorem gX6_findDivisor_X6_copy4 : GoodIn wsX6_findDivisor (va_wsS RX6 152 yX6_copy4 wsX6_copy4) := goodIn_app (goodIn_of _ (by decide +kernel)) ggX6_findDivisor_X6_copy4
set_option maxRecDepth 20000 in
theorem ggX6_findDivisor_X6_loadUnit : GoodIn wsX6_findDivisor wsX6_loadUnit := goodIn_r _ [37, 38, 42, 43, 44, 45, 46, 47, 48, 49, 50, 51, 52, 53, 54, 55, 56, 57, 58, 59] (by decide +kernel) (by decide +kernel)
set_option maxRecDepth 20000 in
theorem gX6_findDivisor_X6_loadUnit : GoodIn wsX6_findDivisor (wsV RX6 149 RX6 yX6_loadUnit wsX6_loadUnit) := goodIn_app (goodIn_of _ (by decide +kernel)) ggX6_findDivisor_X6_loadUnit
set_option maxRecDepth 20000 in
theorem ggX6_findDivisor_X6_times : GoodIn wsX6_findDivisor wsX6_times := goodIn_r _ [26, 16] (by decide +kernel) (by decide +kernel)
set_option maxRecDepth 20000 in
theorem gX6_findDivisor_X6_times : GoodIn wsX6_findDivisor (va_wsS RX6 143 yX6_times wsX6_times) := goodIn_app (goodIn_of _ (by decide +kernel)) ggX6_findDivisor_X6_times
set_option maxRecDepth 20000 in
theorem ggX6_findDivisor_X6_isGreater : GoodIn wsX6_findDivisor wsX6_isGreater := goodIn_r _ [41] (by decide +kernel) (by decide +kernel)
set_option maxRecDepth 20000 in
theorem gX6_findDivisor_X6_isGreater : GoodIn wsX6_findDivisor (va_wsS RX6 163 yX6_isGreater wsX6_isGreater) := goodIn_app (goodIn_of _ (by decide +kernel)) ggX6_findDivisor_X6_isGreater
theorem dX6_findDivisor_0 : decode cX6_findDivisor 0 = .ok (.aload_n 0, 1) := by decide +kernel
theorem dX6_findDivisor_1 : decode cX6_findDivisor 1 = .ok (.getfield 35, 3) := by decide +kernel
theorem dX6_findDivisor_4 : decode cX6_findDivisor 4 = .ok (.invokestatic 112, 3) := by decide +kernel
theorem dX6_findDivisor_7 : decode cX6_findDivisor 7 = .ok (.ifCond .ne 41, 3) := by decide +kernel
theorem dX6_findDivisor_10 : decode cX6_findDivisor 10 = .ok (.aload_n 0, 1) := by decide +kernel
theorem dX6_findDivisor_11 : decode cX6_findDivisor 11 = .ok (.aload_n 0, 1) := by decide +kernel
theorem dX6_findDivisor_12 : decode cX6_findDivisor 12 = .ok (.getfield 32, 3) := by decide +kernel
theorem dX6_findDivisor_15 : decode cX6_findDivisor 15 = .ok (.aload_n 0, 1) := by decide +kernel
theorem dX6_findDivisor_16 : decode cX6_findDivisor 16 = .ok (.getfield 35, 3) := by decide +kernel
theorem dX6_findDivisor_19 : decode cX6_findDivisor 19 = .ok (.iload_n 1, 1) := by decide +kernel
theorem dX6_findDivisor_20 : decode cX6_findDivisor 20 = .ok (.invokevirtual 159, 3) := by decide +kernel
theorem dX6_findDivisor_23 : decode cX6_findDivisor 23 = .ok (.aload_n 0, 1) := by decide +kernel
theorem dX6_findDivisor_24 : decode cX6_findDivisor 24 = .ok (.getfield 32, 3) := by decide +kernel
theorem dX6_findDivisor_27 : decode cX6_findDivisor 27 = .ok (.aload_n 0, 1) := by decide +kernel
theorem dX6_findDivisor_28 : decode cX6_findDivisor 28 = .ok (.getfield 35, 3) := by decide +kernel
theorem dX6_findDivisor_31 : decode cX6_findDivisor 31 = .ok (.invokestatic 152, 3) := by decide +kernel
theorem dX6_findDivisor_34 : decode cX6_findDivisor 34 = .ok (.aload_n 0, 1) := by decide +kernel
theorem dX6_findDivisor_35 : decode cX6_findDivisor 35 = .ok (.getfield 35, 3) := by decide +kernel
theorem dX6_findDivisor_38 : decode cX6_findDivisor 38 = .ok (.aload_n 0, 1) := by decide +kernel
theorem dX6_findDivisor_39 : decode cX6_findDivisor 39 = .ok (.getfield 41, 3) := by decide +kernel
theorem dX6_findDivisor_42 : decode cX6_findDivisor 42 = .ok (.invokestatic 152, 3) := by decide +kernel
theorem dX6_findDivisor_45 : decode cX6_findDivisor 45 = .ok (.goto (-45), 3) := by decide +kernel
theorem dX6_findDivisor_48 : decode cX6_findDivisor 48 = .ok (.aload_n 0, 1) := by decide +kernel
theorem dX6_findDivisor_49 : decode cX6_findDivisor 49 = .ok (.getfield 44, 3) := by decide +kernel
theorem dX6_findDivisor_52 : decode cX6_findDivisor 52 = .ok (.aload_n 0, 1) := by decide +kernel
theorem dX6_findDivisor_53 : decode cX6_findDivisor 53 = .ok (.getfield 32, 3) := by decide +kernel
theorem dX6_findDivisor_56 : decode cX6_findDivisor 56 = .ok (.invokestatic 152, 3) := by decide +kernel
theorem dX6_findDivisor_59 : decode cX6_findDivisor 59 = .ok (.iconst 0, 1) := by decide +kernel
theorem dX6_findDivisor_60 : decode cX6_findDivisor 60 = .ok (.istore_n 2, 1) := by decide +kernel
theorem dX6_findDivisor_61 : decode cX6_findDivisor 61 = .ok (.iload_n 2, 1) := by decide +kernel
theorem dX6_findDivisor_62 : decode cX6_findDivisor 62 = .ok (.bipush 24, 2) := by decide +kernel
theorem dX6_findDivisor_64 : decode cX6_findDivisor 64 = .ok (.if_icmp .ge 80, 3) := by decide +kernel
theorem dX6_findDivisor_67 : decode cX6_findDivisor 67 = .ok (.aload_n 0, 1) := by decide +kernel
theorem dX6_findDivisor_68 : decode cX6_findDivisor 68 = .ok (.aload_n 0, 1) := by decide +kernel
theorem dX6_findDivisor_69 : decode cX6_findDivisor 69 = .ok (.getfield 35, 3) := by decide +kernel
theorem dX6_findDivisor_72 : decode cX6_findDivisor 72 = .ok (.iload_n 2, 1) := by decide +kernel
theorem dX6_findDivisor_73 : decode cX6_findDivisor 73 = .ok (.invokevirtual 149, 3) := by decide +kernel
theorem dX6_findDivisor_76 : decode cX6_findDivisor 76 = .ok (.iload_n 1, 1) := by decide +kernel
theorem dX6_findDivisor_77 : decode cX6_findDivisor 77 = .ok (.ifCond .ne 21, 3) := by decide +kernel
theorem dX6_findDivisor_80 : decode cX6_findDivisor 80 = .ok (.aload_n 0, 1) := by decide +kernel
theorem dX6_findDivisor_81 : decode cX6_findDivisor 81 = .ok (.getfield 38, 3) := by decide +kernel
theorem dX6_findDivisor_84 : decode cX6_findDivisor 84 = .ok (.aload_n 0, 1) := by decide +kernel
theorem dX6_findDivisor_85 : decode cX6_findDivisor 85 = .ok (.getfield 35, 3) := by decide +kernel
theorem dX6_findDivisor_88 : decode cX6_findDivisor 88 = .ok (.aload_n 0, 1) := by decide +kernel
theorem dX6_findDivisor_89 : decode cX6_findDivisor 89 = .ok (.getfield 32, 3) := by decide +kernel
theorem dX6_findDivisor_92 : decode cX6_findDivisor 92 = .ok (.invokestatic 143, 3) := by decide +kernel
theorem dX6_findDivisor_95 : decode cX6_findDivisor 95 = .ok (.goto 18, 3) := by decide +kernel
theorem dX6_findDivisor_98 : decode cX6_findDivisor 98 = .ok (.aload_n 0, 1) := by decide +kernel
theorem dX6_findDivisor_99 : decode cX6_findDivisor 99 = .ok (.getfield 38, 3) := by decide +kernel
theorem dX6_findDivisor_102 : decode cX6_findDivisor 102 = .ok (.aload_n 0, 1) := by decide +kernel
theorem dX6_findDivisor_103 : decode cX6_findDivisor 103 = .ok (.getfield 32, 3) := by decide +kernel
theorem dX6_findDivisor_106 : decode cX6_findDivisor 106 = .ok (.aload_n 0, 1) := by decide +kernel
theorem dX6_findDivisor_107 : decode cX6_findDivisor 107 = .ok (.getfield 35, 3) := by decide +kernel
theorem dX6_findDivisor_110 : decode cX6_findDivisor 110 = .ok (.invokestatic 143, 3) := by decide +kernel
theorem dX6_findDivisor_113 : decode cX6_findDivisor 113 = .ok (.aload_n 0, 1) := by decide +kernel
theorem dX6_findDivisor_114 : decode cX6_findDivisor 114 = .ok (.getfield 38, 3) := by decide +kernel
theorem dX6_findDivisor_117 : decode cX6_findDivisor 117 = .ok (.aload_n 0, 1) := by decide +kernel
theorem dX6_findDivisor_118 : decode cX6_findDivisor 118 = .ok (.getfield 44, 3) := by decide +kernel
theorem dX6_findDivisor_121 : decode cX6_findDivisor 121 = .ok (.invokestatic 163, 3) := by decide +kernel
theorem dX6_findDivisor_124 : decode cX6_findDivisor 124 = .ok (.ifCond .eq 14, 3) := by decide +kernel
theorem dX6_findDivisor_127 : decode cX6_findDivisor 127 = .ok (.aload_n 0, 1) := by decide +kernel
theorem dX6_findDivisor_128 : decode cX6_findDivisor 128 = .ok (.getfield 44, 3) := by decide +kernel
theorem dX6_findDivisor_131 : decode cX6_findDivisor 131 = .ok (.aload_n 0, 1) := by decide +kernel
theorem dX6_findDivisor_132 : decode cX6_findDivisor 132 = .ok (.getfield 38, 3) := by decide +kernel
theorem dX6_findDivisor_135 : decode cX6_findDivisor 135 = .ok (.invokestatic 152, 3) := by decide +kernel
theorem dX6_findDivisor_138 : decode cX6_findDivisor 138 = .ok (.iinc 2 1, 3) := by decide +kernel
theorem dX6_findDivisor_141 : decode cX6_findDivisor 141 = .ok (.goto (-80), 3) := by decide +kernel
theorem dX6_findDivisor_144 : decode cX6_findDivisor 144 = .ok (.return_, 1) := by decide +kernel
set_option maxRecDepth 20000 in
theorem ggX6_divisor_X6_isRegister : GoodIn wsX6_divisor wsX6_isRegister := goodIn_r _ [7, 8, 9, 10, 6, 11] (by decide +kernel) (by decide +kernel)
set_option maxRecDepth 20000 in
theorem gX6_divisor_X6_isRegister : GoodIn wsX6_divisor (va_wsS RX6 91 yX6_isRegister wsX6_isRegister) := goodIn_app (goodIn_of _ (by decide +kernel)) ggX6_divisor_X6_isRegister
set_option maxRecDepth 20000 in
theorem ggX6_divisor_X6_in : GoodIn wsX6_divisor wsX6_in := goodIn_r _ [11] (by decide +kernel) (by decide +kernel)
set_option maxRecDepth 20000 in
theorem gX6_divisor_X6_in : GoodIn wsX6_divisor (va_wsS RX6 65 yX6_in wsX6_in) := goodIn_app (goodIn_of _ (by decide +kernel)) ggX6_divisor_X6_in
set_option maxRecDepth 20000 in
theorem ggX6_divisor_X6_load : GoodIn wsX6_divisor wsX6_load := goodIn_r _ [15, 16, 74, 75, 76, 77, 78, 79, 80, 81, 82, 83, 84, 85, 86, 87, 88, 89, 90, 91] (by decide +kernel) (by decide +kernel)
set_option maxRecDepth 20000 in
theorem gX6_divisor_X6_load : GoodIn wsX6_divisor (wsV RX6 122 RX6 yX6_load wsX6_load) := goodIn_app (goodIn_of _ (by decide +kernel)) ggX6_divisor_X6_load
set_option maxRecDepth 20000 in
theorem ggX6_divisor_X6_isNull : GoodIn wsX6_divisor wsX6_isNull := goodIn_r _ [19] (by decide +kernel) (by decide +kernel)
set_option maxRecDepth 20000 in
theorem gX6_divisor_X6_isNull : GoodIn wsX6_divisor (va_wsS RX6 112 yX6_isNull wsX6_isNull) := goodIn_app (goodIn_of _ (by decide +kernel)) ggX6_divisor_X6_isNull
set_option maxRecDepth 20000 in
theorem ggX6_divisor_X6_findDivisor : GoodIn wsX6_divisor wsX6_findDivisor := goodIn_r _ [23, 2, 1, 24, 3, 25, 17, 18, 6, 19, 26, 27, 28, 29, 30, 31, 32, 33, 34, 35, 36, 37, 38, 39, 40, 41, 42, 43, 44, 45, 46, 47, 48, 49, 50, 51, 52, 53, 54, 55, 56, 57, 74, 75, 76, 77, 78, 79, 80, 81, 82, 83, 84, 85, 86, 87, 88, 89, 90, 91] (by decide +kernel) (by decide +kernel)
set_option maxRecDepth 20000 in
theorem gX6_divisor_X6_findDivisor : GoodIn wsX6_divisor (wsV RX6 167 RX6 yX6_findDivisor wsX6_findDivisor) := goodIn_app (goodIn_of _ (by decide +kernel)) ggX6_divisor_X6_findDivisor
set_option maxRecDepth 20000 in
theorem ggX6_divisor_X6_holds : GoodIn wsX6_divisor wsX6_holds := goodIn_r _ [61, 62, 63, 6, 64, 65, 66, 67, 68, 69, 9, 10, 11, 70, 71, 72, 73, 16, 74, 75, 76, 77, 78, 79, 80, 81, 82, 83, 84, 85, 86, 87, 88, 89, 90, 91] (by decide +kernel) (by decide +kernel)
set_option maxRecDepth 20000 in
theorem gX6_divisor_X6_holds : GoodIn wsX6_divisor (wsV RX6 108 RX6 yX6_holds wsX6_holds) := goodIn_app (goodIn_of _ (by decide +kernel)) ggX6_divisor_X6_holds
set_option maxRecDepth 20000 in
theorem ggX6_divisor_X6_norm : GoodIn wsX6_divisor wsX6_norm := goodIn_r _ [45, 46] (by decide +kernel) (by decide +kernel)
set_option maxRecDepth 20000 in
theorem gX6_divisor_X6_norm : GoodIn wsX6_divisor (va_wsS RX6 126 yX6_norm wsX6_norm) := goodIn_app (goodIn_of _ (by decide +kernel)) ggX6_divisor_X6_norm
theorem dX6_divisor_0 : decode cX6_divisor 0 = .ok (.iload_n 1, 1) := by decide +kernel
theorem dX6_divisor_1 : decode cX6_divisor 1 = .ok (.invokestatic 91, 3) := by decide +kernel
theorem dX6_divisor_4 : decode cX6_divisor 4 = .ok (.ifCond .eq 28, 3) := by decide +kernel
theorem dX6_divisor_7 : decode cX6_divisor 7 = .ok (.iload_n 2, 1) := by decide +kernel
theorem dX6_divisor_8 : decode cX6_divisor 8 = .ok (.invokestatic 91, 3) := by decide +kernel
theorem dX6_divisor_11 : decode cX6_divisor 11 = .ok (.ifCond .eq 21, 3) := by decide +kernel
theorem dX6_divisor_14 : decode cX6_divisor 14 = .ok (.iload_n 3, 1) := by decide +kernel
theorem dX6_divisor_15 : decode cX6_divisor 15 = .ok (.invokestatic 91, 3) := by decide +kernel
theorem dX6_divisor_18 : decode cX6_divisor 18 = .ok (.ifCond .eq 14, 3) := by decide +kernel
theorem dX6_divisor_21 : decode cX6_divisor 21 = .ok (.iload 4, 2) := by decide +kernel
theorem dX6_divisor_23 : decode cX6_divisor 23 = .ok (.i2l, 1) := by decide +kernel
theorem dX6_divisor_24 : decode cX6_divisor 24 = .ok (.lconst 0, 1) := by decide +kernel
theorem dX6_divisor_25 : decode cX6_divisor 25 = .ok (.lconst 1, 1) := by decide +kernel
theorem dX6_divisor_26 : decode cX6_divisor 26 = .ok (.invokestatic 65, 3) := by decide +kernel
theorem dX6_divisor_29 : decode cX6_divisor 29 = .ok (.ifCond .ne 5, 3) := by decide +kernel
theorem dX6_divisor_32 : decode cX6_divisor 32 = .ok (.iconst (-1), 1) := by decide +kernel
theorem dX6_divisor_33 : decode cX6_divisor 33 = .ok (.ireturn, 1) := by decide +kernel
theorem dX6_divisor_34 : decode cX6_divisor 34 = .ok (.aload_n 0, 1) := by decide +kernel
theorem dX6_divisor_35 : decode cX6_divisor 35 = .ok (.aload_n 0, 1) := by decide +kernel
theorem dX6_divisor_36 : decode cX6_divisor 36 = .ok (.getfield 32, 3) := by decide +kernel
theorem dX6_divisor_39 : decode cX6_divisor 39 = .ok (.iload_n 2, 1) := by decide +kernel
theorem dX6_divisor_40 : decode cX6_divisor 40 = .ok (.invokevirtual 122, 3) := by decide +kernel
theorem dX6_divisor_43 : decode cX6_divisor 43 = .ok (.aload_n 0, 1) := by decide +kernel
theorem dX6_divisor_44 : decode cX6_divisor 44 = .ok (.aload_n 0, 1) := by decide +kernel
theorem dX6_divisor_45 : decode cX6_divisor 45 = .ok (.getfield 35, 3) := by decide +kernel
theorem dX6_divisor_48 : decode cX6_divisor 48 = .ok (.iload_n 3, 1) := by decide +kernel
theorem dX6_divisor_49 : decode cX6_divisor 49 = .ok (.invokevirtual 122, 3) := by decide +kernel
theorem dX6_divisor_52 : decode cX6_divisor 52 = .ok (.aload_n 0, 1) := by decide +kernel
theorem dX6_divisor_53 : decode cX6_divisor 53 = .ok (.getfield 32, 3) := by decide +kernel
theorem dX6_divisor_56 : decode cX6_divisor 56 = .ok (.invokestatic 112, 3) := by decide +kernel
theorem dX6_divisor_59 : decode cX6_divisor 59 = .ok (.ifCond .eq 16, 3) := by decide +kernel
theorem dX6_divisor_62 : decode cX6_divisor 62 = .ok (.aload_n 0, 1) := by decide +kernel
theorem dX6_divisor_63 : decode cX6_divisor 63 = .ok (.getfield 35, 3) := by decide +kernel
theorem dX6_divisor_66 : decode cX6_divisor 66 = .ok (.invokestatic 112, 3) := by decide +kernel
theorem dX6_divisor_69 : decode cX6_divisor 69 = .ok (.ifCond .eq 6, 3) := by decide +kernel
theorem dX6_divisor_72 : decode cX6_divisor 72 = .ok (.bipush (-2), 2) := by decide +kernel
theorem dX6_divisor_74 : decode cX6_divisor 74 = .ok (.ireturn, 1) := by decide +kernel
theorem dX6_divisor_75 : decode cX6_divisor 75 = .ok (.aload_n 0, 1) := by decide +kernel
theorem dX6_divisor_76 : decode cX6_divisor 76 = .ok (.iload 4, 2) := by decide +kernel
theorem dX6_divisor_78 : decode cX6_divisor 78 = .ok (.invokevirtual 167, 3) := by decide +kernel
theorem dX6_divisor_81 : decode cX6_divisor 81 = .ok (.aload_n 0, 1) := by decide +kernel
theorem dX6_divisor_82 : decode cX6_divisor 82 = .ok (.iload_n 1, 1) := by decide +kernel
theorem dX6_divisor_83 : decode cX6_divisor 83 = .ok (.aload_n 0, 1) := by decide +kernel
theorem dX6_divisor_84 : decode cX6_divisor 84 = .ok (.getfield 44, 3) := by decide +kernel
theorem dX6_divisor_87 : decode cX6_divisor 87 = .ok (.invokevirtual 108, 3) := by decide +kernel
theorem dX6_divisor_90 : decode cX6_divisor 90 = .ok (.ifCond .ne 14, 3) := by decide +kernel
theorem dX6_divisor_93 : decode cX6_divisor 93 = .ok (.aload_n 0, 1) := by decide +kernel
theorem dX6_divisor_94 : decode cX6_divisor 94 = .ok (.getfield 44, 3) := by decide +kernel
theorem dX6_divisor_97 : decode cX6_divisor 97 = .ok (.invokestatic 126, 3) := by decide +kernel
theorem dX6_divisor_100 : decode cX6_divisor 100 = .ok (.l2i, 1) := by decide +kernel
theorem dX6_divisor_101 : decode cX6_divisor 101 = .ok (.goto 5, 3) := by decide +kernel
theorem dX6_divisor_104 : decode cX6_divisor 104 = .ok (.bipush (-3), 2) := by decide +kernel
theorem dX6_divisor_106 : decode cX6_divisor 106 = .ok (.ireturn, 1) := by decide +kernel
set_option maxRecDepth 20000 in
theorem ggX6_like_X6_isRegister : GoodIn wsX6_like wsX6_isRegister := goodIn_r _ [8, 9, 10, 11, 7, 12] (by decide +kernel) (by decide +kernel)
set_option maxRecDepth 20000 in
theorem gX6_like_X6_isRegister : GoodIn wsX6_like (va_wsS RX6 91 yX6_isRegister wsX6_isRegister) := goodIn_app (goodIn_of _ (by decide +kernel)) ggX6_like_X6_isRegister
set_option maxRecDepth 20000 in
theorem ggX6_like_X6_in : GoodIn wsX6_like wsX6_in := goodIn_r _ [12] (by decide +kernel) (by decide +kernel)
set_option maxRecDepth 20000 in
theorem gX6_like_X6_in : GoodIn wsX6_like (va_wsS RX6 65 yX6_in wsX6_in) := goodIn_app (goodIn_of _ (by decide +kernel)) ggX6_like_X6_in
set_option maxRecDepth 20000 in
theorem ggX6_like_X6_load : GoodIn wsX6_like wsX6_load := goodIn_r _ [16, 17, 30, 31, 32, 33, 34, 35, 36, 37, 38, 39, 40, 41, 42, 43, 44, 45, 46, 47] (by decide +kernel) (by decide +kernel)
set_option maxRecDepth 20000 in
theorem gX6_like_X6_load : GoodIn wsX6_like (wsV RX6 122 RX6 yX6_load wsX6_load) := goodIn_app (goodIn_of _ (by decide +kernel)) ggX6_like_X6_load
set_option maxRecDepth 20000 in
theorem ggX6_like_X6_loadUnit : GoodIn wsX6_like wsX6_loadUnit := goodIn_r _ [21, 22, 30, 31, 32, 33, 34, 35, 36, 37, 38, 39, 40, 41, 42, 43, 44, 45, 46, 47] (by decide +kernel) (by decide +kernel)
set_option maxRecDepth 20000 in
theorem gX6_like_X6_loadUnit : GoodIn wsX6_like (wsV RX6 149 RX6 yX6_loadUnit wsX6_loadUnit) := goodIn_app (goodIn_of _ (by decide +kernel)) ggX6_like_X6_loadUnit
set_option maxRecDepth 20000 in
theorem ggX6_like_X6_times : GoodIn wsX6_like wsX6_times := goodIn_r _ [25, 26] (by decide +kernel) (by decide +kernel)
set_option maxRecDepth 20000 in
theorem gX6_like_X6_times : GoodIn wsX6_like (va_wsS RX6 143 yX6_times wsX6_times) := goodIn_app (goodIn_of _ (by decide +kernel)) ggX6_like_X6_times
set_option maxRecDepth 20000 in
theorem ggX6_like_X6_isSame : GoodIn wsX6_like wsX6_isSame := goodIn_r _ [29] (by decide +kernel) (by decide +kernel)
set_option maxRecDepth 20000 in
theorem gX6_like_X6_isSame : GoodIn wsX6_like (va_wsS RX6 171 yX6_isSame wsX6_isSame) := goodIn_app (goodIn_of _ (by decide +kernel)) ggX6_like_X6_isSame
theorem dX6_like_0 : decode cX6_like 0 = .ok (.iload_n 1, 1) := by decide +kernel
theorem dX6_like_1 : decode cX6_like 1 = .ok (.invokestatic 91, 3) := by decide +kernel
theorem dX6_like_4 : decode cX6_like 4 = .ok (.ifCond .eq 20, 3) := by decide +kernel
theorem dX6_like_7 : decode cX6_like 7 = .ok (.iload_n 2, 1) := by decide +kernel
theorem dX6_like_8 : decode cX6_like 8 = .ok (.invokestatic 91, 3) := by decide +kernel
theorem dX6_like_11 : decode cX6_like 11 = .ok (.ifCond .eq 13, 3) := by decide +kernel
theorem dX6_like_14 : decode cX6_like 14 = .ok (.iload_n 3, 1) := by decide +kernel
theorem dX6_like_15 : decode cX6_like 15 = .ok (.i2l, 1) := by decide +kernel
theorem dX6_like_16 : decode cX6_like 16 = .ok (.lconst 0, 1) := by decide +kernel
theorem dX6_like_17 : decode cX6_like 17 = .ok (.lconst 1, 1) := by decide +kernel
theorem dX6_like_18 : decode cX6_like 18 = .ok (.invokestatic 65, 3) := by decide +kernel
theorem dX6_like_21 : decode cX6_like 21 = .ok (.ifCond .ne 5, 3) := by decide +kernel
theorem dX6_like_24 : decode cX6_like 24 = .ok (.iconst (-1), 1) := by decide +kernel
theorem dX6_like_25 : decode cX6_like 25 = .ok (.ireturn, 1) := by decide +kernel
theorem dX6_like_26 : decode cX6_like 26 = .ok (.aload_n 0, 1) := by decide +kernel
theorem dX6_like_27 : decode cX6_like 27 = .ok (.aload_n 0, 1) := by decide +kernel
theorem dX6_like_28 : decode cX6_like 28 = .ok (.getfield 32, 3) := by decide +kernel
theorem dX6_like_31 : decode cX6_like 31 = .ok (.iload_n 1, 1) := by decide +kernel
theorem dX6_like_32 : decode cX6_like 32 = .ok (.invokevirtual 122, 3) := by decide +kernel
theorem dX6_like_35 : decode cX6_like 35 = .ok (.aload_n 0, 1) := by decide +kernel
theorem dX6_like_36 : decode cX6_like 36 = .ok (.aload_n 0, 1) := by decide +kernel
theorem dX6_like_37 : decode cX6_like 37 = .ok (.getfield 44, 3) := by decide +kernel
theorem dX6_like_40 : decode cX6_like 40 = .ok (.iload_n 2, 1) := by decide +kernel
theorem dX6_like_41 : decode cX6_like 41 = .ok (.invokevirtual 122, 3) := by decide +kernel
theorem dX6_like_44 : decode cX6_like 44 = .ok (.iconst 0, 1) := by decide +kernel
theorem dX6_like_45 : decode cX6_like 45 = .ok (.istore 4, 2) := by decide +kernel
theorem dX6_like_47 : decode cX6_like 47 = .ok (.iload 4, 2) := by decide +kernel
theorem dX6_like_49 : decode cX6_like 49 = .ok (.bipush 24, 2) := by decide +kernel
theorem dX6_like_51 : decode cX6_like 51 = .ok (.if_icmp .ge 74, 3) := by decide +kernel
theorem dX6_like_54 : decode cX6_like 54 = .ok (.aload_n 0, 1) := by decide +kernel
theorem dX6_like_55 : decode cX6_like 55 = .ok (.aload_n 0, 1) := by decide +kernel
theorem dX6_like_56 : decode cX6_like 56 = .ok (.getfield 35, 3) := by decide +kernel
theorem dX6_like_59 : decode cX6_like 59 = .ok (.iload 4, 2) := by decide +kernel
theorem dX6_like_61 : decode cX6_like 61 = .ok (.invokevirtual 149, 3) := by decide +kernel
theorem dX6_like_64 : decode cX6_like 64 = .ok (.iload_n 3, 1) := by decide +kernel
theorem dX6_like_65 : decode cX6_like 65 = .ok (.iconst 1, 1) := by decide +kernel
theorem dX6_like_66 : decode cX6_like 66 = .ok (.if_icmp .ne 21, 3) := by decide +kernel
theorem dX6_like_69 : decode cX6_like 69 = .ok (.aload_n 0, 1) := by decide +kernel
theorem dX6_like_70 : decode cX6_like 70 = .ok (.getfield 38, 3) := by decide +kernel
theorem dX6_like_73 : decode cX6_like 73 = .ok (.aload_n 0, 1) := by decide +kernel
theorem dX6_like_74 : decode cX6_like 74 = .ok (.getfield 35, 3) := by decide +kernel
theorem dX6_like_77 : decode cX6_like 77 = .ok (.aload_n 0, 1) := by decide +kernel
theorem dX6_like_78 : decode cX6_like 78 = .ok (.getfield 32, 3) := by decide +kernel
theorem dX6_like_81 : decode cX6_like 81 = .ok (.invokestatic 143, 3) := by decide +kernel
theorem dX6_like_84 : decode cX6_like 84 = .ok (.goto 18, 3) := by decide +kernel
theorem dX6_like_87 : decode cX6_like 87 = .ok (.aload_n 0, 1) := by decide +kernel
theorem dX6_like_88 : decode cX6_like 88 = .ok (.getfield 38, 3) := by decide +kernel
theorem dX6_like_91 : decode cX6_like 91 = .ok (.aload_n 0, 1) := by decide +kernel
theorem dX6_like_92 : decode cX6_like 92 = .ok (.getfield 32, 3) := by decide +kernel
theorem dX6_like_95 : decode cX6_like 95 = .ok (.aload_n 0, 1) := by decide +kernel
theorem dX6_like_96 : decode cX6_like 96 = .ok (.getfield 35, 3) := by decide +kernel
theorem dX6_like_99 : decode cX6_like 99 = .ok (.invokestatic 143, 3) := by decide +kernel
theorem dX6_like_102 : decode cX6_like 102 = .ok (.aload_n 0, 1) := by decide +kernel
theorem dX6_like_103 : decode cX6_like 103 = .ok (.getfield 38, 3) := by decide +kernel
theorem dX6_like_106 : decode cX6_like 106 = .ok (.aload_n 0, 1) := by decide +kernel
theorem dX6_like_107 : decode cX6_like 107 = .ok (.getfield 44, 3) := by decide +kernel
theorem dX6_like_110 : decode cX6_like 110 = .ok (.invokestatic 171, 3) := by decide +kernel
theorem dX6_like_113 : decode cX6_like 113 = .ok (.ifCond .eq 6, 3) := by decide +kernel
theorem dX6_like_116 : decode cX6_like 116 = .ok (.iload 4, 2) := by decide +kernel
theorem dX6_like_118 : decode cX6_like 118 = .ok (.ireturn, 1) := by decide +kernel
theorem dX6_like_119 : decode cX6_like 119 = .ok (.iinc 4 1, 3) := by decide +kernel
theorem dX6_like_122 : decode cX6_like 122 = .ok (.goto (-75), 3) := by decide +kernel
theorem dX6_like_125 : decode cX6_like 125 = .ok (.bipush (-4), 2) := by decide +kernel
theorem dX6_like_127 : decode cX6_like 127 = .ok (.ireturn, 1) := by decide +kernel
theorem dX6_isPrime_0 : decode cX6_isPrime 0 = .ok (.lload_n 0, 1) := by decide +kernel
theorem dX6_isPrime_1 : decode cX6_isPrime 1 = .ok (.lconst 1, 1) := by decide +kernel
theorem dX6_isPrime_2 : decode cX6_isPrime 2 = .ok (.lcmp, 1) := by decide +kernel
theorem dX6_isPrime_3 : decode cX6_isPrime 3 = .ok (.ifCond .le 7, 3) := by decide +kernel
theorem dX6_isPrime_6 : decode cX6_isPrime 6 = .ok (.iconst 1, 1) := by decide +kernel
theorem dX6_isPrime_7 : decode cX6_isPrime 7 = .ok (.goto 4, 3) := by decide +kernel
theorem dX6_isPrime_10 : decode cX6_isPrime 10 = .ok (.iconst 0, 1) := by decide +kernel
theorem dX6_isPrime_11 : decode cX6_isPrime 11 = .ok (.istore_n 2, 1) := by decide +kernel
theorem dX6_isPrime_12 : decode cX6_isPrime 12 = .ok (.ldc2_w 77, 3) := by decide +kernel
theorem dX6_isPrime_15 : decode cX6_isPrime 15 = .ok (.lstore_n 3, 1) := by decide +kernel
theorem dX6_isPrime_16 : decode cX6_isPrime 16 = .ok (.lload_n 3, 1) := by decide +kernel
theorem dX6_isPrime_17 : decode cX6_isPrime 17 = .ok (.lload_n 3, 1) := by decide +kernel
theorem dX6_isPrime_18 : decode cX6_isPrime 18 = .ok (.lmul, 1) := by decide +kernel
theorem dX6_isPrime_19 : decode cX6_isPrime 19 = .ok (.lload_n 0, 1) := by decide +kernel
theorem dX6_isPrime_20 : decode cX6_isPrime 20 = .ok (.lcmp, 1) := by decide +kernel
theorem dX6_isPrime_21 : decode cX6_isPrime 21 = .ok (.ifCond .gt 28, 3) := by decide +kernel
theorem dX6_isPrime_24 : decode cX6_isPrime 24 = .ok (.iload_n 2, 1) := by decide +kernel
theorem dX6_isPrime_25 : decode cX6_isPrime 25 = .ok (.ifCond .eq 24, 3) := by decide +kernel
theorem dX6_isPrime_28 : decode cX6_isPrime 28 = .ok (.lload_n 0, 1) := by decide +kernel
theorem dX6_isPrime_29 : decode cX6_isPrime 29 = .ok (.lload_n 3, 1) := by decide +kernel
theorem dX6_isPrime_30 : decode cX6_isPrime 30 = .ok (.lrem, 1) := by decide +kernel
theorem dX6_isPrime_31 : decode cX6_isPrime 31 = .ok (.lconst 0, 1) := by decide +kernel
theorem dX6_isPrime_32 : decode cX6_isPrime 32 = .ok (.lcmp, 1) := by decide +kernel
theorem dX6_isPrime_33 : decode cX6_isPrime 33 = .ok (.ifCond .eq 7, 3) := by decide +kernel
theorem dX6_isPrime_36 : decode cX6_isPrime 36 = .ok (.iconst 1, 1) := by decide +kernel
theorem dX6_isPrime_37 : decode cX6_isPrime 37 = .ok (.goto 4, 3) := by decide +kernel
theorem dX6_isPrime_40 : decode cX6_isPrime 40 = .ok (.iconst 0, 1) := by decide +kernel
theorem dX6_isPrime_41 : decode cX6_isPrime 41 = .ok (.istore_n 2, 1) := by decide +kernel
theorem dX6_isPrime_42 : decode cX6_isPrime 42 = .ok (.lload_n 3, 1) := by decide +kernel
theorem dX6_isPrime_43 : decode cX6_isPrime 43 = .ok (.lconst 1, 1) := by decide +kernel
theorem dX6_isPrime_44 : decode cX6_isPrime 44 = .ok (.ladd, 1) := by decide +kernel
theorem dX6_isPrime_45 : decode cX6_isPrime 45 = .ok (.lstore_n 3, 1) := by decide +kernel
theorem dX6_isPrime_46 : decode cX6_isPrime 46 = .ok (.goto (-30), 3) := by decide +kernel
theorem dX6_isPrime_49 : decode cX6_isPrime 49 = .ok (.iload_n 2, 1) := by decide +kernel
theorem dX6_isPrime_50 : decode cX6_isPrime 50 = .ok (.ireturn, 1) := by decide +kernel
set_option maxRecDepth 20000 in
theorem ggX6_way_X6_isRegister : GoodIn wsX6_way wsX6_isRegister := goodIn_r _ [14, 15, 16, 17, 13, 18] (by decide +kernel) (by decide +kernel)
set_option maxRecDepth 20000 in
theorem gX6_way_X6_isRegister : GoodIn wsX6_way (va_wsS RX6 91 yX6_isRegister wsX6_isRegister) := goodIn_app (goodIn_of _ (by decide +kernel)) ggX6_way_X6_isRegister
set_option maxRecDepth 20000 in
theorem ggX6_way_X6_isSheet : GoodIn wsX6_way wsX6_isSheet := goodIn_r _ [21, 22, 16, 17, 13, 18] (by decide +kernel) (by decide +kernel)
set_option maxRecDepth 20000 in
theorem gX6_way_X6_isSheet : GoodIn wsX6_way (va_wsS RX6 71 yX6_isSheet wsX6_isSheet) := goodIn_app (goodIn_of _ (by decide +kernel)) ggX6_way_X6_isSheet
set_option maxRecDepth 20000 in
theorem ggX6_way_X6_against : GoodIn wsX6_way wsX6_against := goodIn_r _ [26, 1, 27, 85, 86, 87, 88, 89, 90, 91, 92, 93, 94, 95, 96, 97, 98, 99, 100, 101, 102] (by decide +kernel) (by decide +kernel)
set_option maxRecDepth 20000 in
theorem gX6_way_X6_against : GoodIn wsX6_way (wsV RX6 79 RX6 yX6_against wsX6_against) := goodIn_app (goodIn_of _ (by decide +kernel)) ggX6_way_X6_against
set_option maxRecDepth 20000 in
theorem ggX6_way_X6_load : GoodIn wsX6_way wsX6_load := goodIn_r _ [31, 32, 85, 86, 87, 88, 89, 90, 91, 92, 93, 94, 95, 96, 97, 98, 99, 100, 101, 102] (by decide +kernel) (by decide +kernel)
set_option maxRecDepth 20000 in
theorem gX6_way_X6_load : GoodIn wsX6_way (wsV RX6 122 RX6 yX6_load wsX6_load) := goodIn_app (goodIn_of _ (by decide +kernel)) ggX6_way_X6_load
set_option maxRecDepth 20000 in
theorem ggX6_way_X6_norm : GoodIn wsX6_way wsX6_norm := goodIn_r _ [35, 36] (by decide +kernel) (by decide +kernel)
set_option maxRecDepth 20000 in
theorem gX6_way_X6_norm : GoodIn wsX6_way (va_wsS RX6 126 yX6_norm wsX6_norm) := goodIn_app (goodIn_of _ (by decide +kernel)) ggX6_way_X6_norm
set_option maxRecDepth 20000 in
theorem ggX6_way_X6_isPrimitive : GoodIn wsX6_way wsX6_isPrimitive := goodIn_r _ [40, 5, 41, 42, 13, 43, 44, 45, 46, 47, 48, 49] (by decide +kernel) (by decide +kernel)
set_option maxRecDepth 20000 in
theorem gX6_way_X6_isPrimitive : GoodIn wsX6_way (wsV RX6 130 RX6 yX6_isPrimitive wsX6_isPrimitive) := goodIn_app (goodIn_of _ (by decide +kernel)) ggX6_way_X6_isPrimitive
set_option maxRecDepth 20000 in
theorem ggX6_way_X6_isPrime : GoodIn wsX6_way wsX6_isPrime := goodIn_r _ [52, 5] (by decide +kernel) (by decide +kernel)
set_option maxRecDepth 20000 in
theorem gX6_way_X6_isPrime : GoodIn wsX6_way (va_wsS RX6 174 yX6_isPrime wsX6_isPrime) := goodIn_app (goodIn_of _ (by decide +kernel)) ggX6_way_X6_isPrime
set_option maxRecDepth 20000 in
theorem ggX6_way_X6_copy4 : GoodIn wsX6_way wsX6_copy4 := goodIn_r _ [55] (by decide +kernel) (by decide +kernel)
set_option maxRecDepth 20000 in
theorem gX6_way_X6_copy4 : GoodIn wsX6_way (va_wsS RX6 152 yX6_copy4 wsX6_copy4) := goodIn_app (goodIn_of _ (by decide +kernel)) ggX6_way_X6_copy4
set_option maxRecDepth 20000 in
theorem ggX6_way_X6_findDivisor : GoodIn wsX6_way wsX6_findDivisor := goodIn_r _ [59, 6, 4, 60, 8, 9, 41, 42, 13, 43, 61, 62, 63, 64, 65, 66, 5, 67, 53, 54, 55, 68, 69, 70, 71, 72, 73, 33, 34, 35, 36, 74, 75, 76, 77, 78, 79, 80, 81, 82, 83, 84, 85, 86, 87, 88, 89, 90, 91, 92, 93, 94, 95, 96, 97, 98, 99, 100, 101, 102] (by decide +kernel) (by decide +kernel)
set_option maxRecDepth 20000 in
theorem gX6_way_X6_findDivisor : GoodIn wsX6_way (wsV RX6 167 RX6 yX6_findDivisor wsX6_findDivisor) := goodIn_app (goodIn_of _ (by decide +kernel)) ggX6_way_X6_findDivisor
set_option maxRecDepth 20000 in
theorem ggX6_way_X6_mirror : GoodIn wsX6_way wsX6_mirror := goodIn_r _ [70] (by decide +kernel) (by decide +kernel)
set_option maxRecDepth 20000 in
theorem gX6_way_X6_mirror : GoodIn wsX6_way (va_wsS RX6 139 yX6_mirror wsX6_mirror) := goodIn_app (goodIn_of _ (by decide +kernel)) ggX6_way_X6_mirror
set_option maxRecDepth 20000 in
theorem ggX6_way_X6_times : GoodIn wsX6_way wsX6_times := goodIn_r _ [73, 5] (by decide +kernel) (by decide +kernel)
set_option maxRecDepth 20000 in
theorem gX6_way_X6_times : GoodIn wsX6_way (va_wsS RX6 143 yX6_times wsX6_times) := goodIn_app (goodIn_of _ (by decide +kernel)) ggX6_way_X6_times
theorem dX6_way_0 : decode cX6_way 0 = .ok (.iload_n 1, 1) := by decide +kernel
theorem dX6_way_1 : decode cX6_way 1 = .ok (.invokestatic 91, 3) := by decide +kernel
theorem dX6_way_4 : decode cX6_way 4 = .ok (.ifCond .eq 22, 3) := by decide +kernel
theorem dX6_way_7 : decode cX6_way 7 = .ok (.iload_n 2, 1) := by decide +kernel
theorem dX6_way_8 : decode cX6_way 8 = .ok (.invokestatic 71, 3) := by decide +kernel
theorem dX6_way_11 : decode cX6_way 11 = .ok (.ifCond .eq 15, 3) := by decide +kernel
theorem dX6_way_14 : decode cX6_way 14 = .ok (.iload 4, 2) := by decide +kernel
theorem dX6_way_16 : decode cX6_way 16 = .ok (.ifCond .eq 10, 3) := by decide +kernel
theorem dX6_way_19 : decode cX6_way 19 = .ok (.iload 4, 2) := by decide +kernel
theorem dX6_way_21 : decode cX6_way 21 = .ok (.bipush 12, 2) := by decide +kernel
theorem dX6_way_23 : decode cX6_way 23 = .ok (.if_icmp .le 5, 3) := by decide +kernel
theorem dX6_way_26 : decode cX6_way 26 = .ok (.iconst (-1), 1) := by decide +kernel
theorem dX6_way_27 : decode cX6_way 27 = .ok (.ireturn, 1) := by decide +kernel
theorem dX6_way_28 : decode cX6_way 28 = .ok (.aload_n 0, 1) := by decide +kernel
theorem dX6_way_29 : decode cX6_way 29 = .ok (.getfield 7, 3) := by decide +kernel
theorem dX6_way_32 : decode cX6_way 32 = .ok (.iload_n 2, 1) := by decide +kernel
theorem dX6_way_33 : decode cX6_way 33 = .ok (.iaload, 1) := by decide +kernel
theorem dX6_way_34 : decode cX6_way 34 = .ok (.ifCond .ge 6, 3) := by decide +kernel
theorem dX6_way_37 : decode cX6_way 37 = .ok (.bipush (-11), 2) := by decide +kernel
theorem dX6_way_39 : decode cX6_way 39 = .ok (.ireturn, 1) := by decide +kernel
theorem dX6_way_40 : decode cX6_way 40 = .ok (.iload 4, 2) := by decide +kernel
theorem dX6_way_42 : decode cX6_way 42 = .ok (.ifCond .ge 6, 3) := by decide +kernel
theorem dX6_way_45 : decode cX6_way 45 = .ok (.bipush (-13), 2) := by decide +kernel
theorem dX6_way_47 : decode cX6_way 47 = .ok (.ireturn, 1) := by decide +kernel
theorem dX6_way_48 : decode cX6_way 48 = .ok (.aload_n 0, 1) := by decide +kernel
theorem dX6_way_49 : decode cX6_way 49 = .ok (.iload_n 2, 1) := by decide +kernel
theorem dX6_way_50 : decode cX6_way 50 = .ok (.iload_n 3, 1) := by decide +kernel
theorem dX6_way_51 : decode cX6_way 51 = .ok (.iload 4, 2) := by decide +kernel
theorem dX6_way_53 : decode cX6_way 53 = .ok (.invokevirtual 79, 3) := by decide +kernel
theorem dX6_way_56 : decode cX6_way 56 = .ok (.ifCond .eq 6, 3) := by decide +kernel
theorem dX6_way_59 : decode cX6_way 59 = .ok (.bipush (-12), 2) := by decide +kernel
theorem dX6_way_61 : decode cX6_way 61 = .ok (.ireturn, 1) := by decide +kernel
theorem dX6_way_62 : decode cX6_way 62 = .ok (.aload_n 0, 1) := by decide +kernel
theorem dX6_way_63 : decode cX6_way 63 = .ok (.aload_n 0, 1) := by decide +kernel
theorem dX6_way_64 : decode cX6_way 64 = .ok (.getfield 56, 3) := by decide +kernel
theorem dX6_way_67 : decode cX6_way 67 = .ok (.iload_n 1, 1) := by decide +kernel
theorem dX6_way_68 : decode cX6_way 68 = .ok (.invokevirtual 122, 3) := by decide +kernel
theorem dX6_way_71 : decode cX6_way 71 = .ok (.aload_n 0, 1) := by decide +kernel
theorem dX6_way_72 : decode cX6_way 72 = .ok (.getfield 56, 3) := by decide +kernel
theorem dX6_way_75 : decode cX6_way 75 = .ok (.invokestatic 126, 3) := by decide +kernel
theorem dX6_way_78 : decode cX6_way 78 = .ok (.lstore 5, 2) := by decide +kernel
theorem dX6_way_80 : decode cX6_way 80 = .ok (.lconst 1, 1) := by decide +kernel
theorem dX6_way_81 : decode cX6_way 81 = .ok (.lstore 7, 2) := by decide +kernel
theorem dX6_way_83 : decode cX6_way 83 = .ok (.aload_n 0, 1) := by decide +kernel
theorem dX6_way_84 : decode cX6_way 84 = .ok (.aload_n 0, 1) := by decide +kernel
theorem dX6_way_85 : decode cX6_way 85 = .ok (.getfield 56, 3) := by decide +kernel
theorem dX6_way_88 : decode cX6_way 88 = .ok (.invokevirtual 130, 3) := by decide +kernel
theorem dX6_way_91 : decode cX6_way 91 = .ok (.istore 9, 2) := by decide +kernel
theorem dX6_way_93 : decode cX6_way 93 = .ok (.iconst 0, 1) := by decide +kernel
theorem dX6_way_94 : decode cX6_way 94 = .ok (.istore 10, 2) := by decide +kernel
theorem dX6_way_96 : decode cX6_way 96 = .ok (.iload 10, 2) := by decide +kernel
theorem dX6_way_98 : decode cX6_way 98 = .ok (.iload 4, 2) := by decide +kernel
theorem dX6_way_100 : decode cX6_way 100 = .ok (.if_icmp .ge 80, 3) := by decide +kernel
theorem dX6_way_103 : decode cX6_way 103 = .ok (.iload 9, 2) := by decide +kernel
theorem dX6_way_105 : decode cX6_way 105 = .ok (.ifCond .eq 75, 3) := by decide +kernel
theorem dX6_way_108 : decode cX6_way 108 = .ok (.aload_n 0, 1) := by decide +kernel
theorem dX6_way_109 : decode cX6_way 109 = .ok (.getfield 16, 3) := by decide +kernel
theorem dX6_way_112 : decode cX6_way 112 = .ok (.bipush 16, 2) := by decide +kernel
theorem dX6_way_114 : decode cX6_way 114 = .ok (.iload_n 2, 1) := by decide +kernel
theorem dX6_way_115 : decode cX6_way 115 = .ok (.imul, 1) := by decide +kernel
theorem dX6_way_116 : decode cX6_way 116 = .ok (.iload_n 3, 1) := by decide +kernel
theorem dX6_way_117 : decode cX6_way 117 = .ok (.iadd, 1) := by decide +kernel
theorem dX6_way_118 : decode cX6_way 118 = .ok (.iload 10, 2) := by decide +kernel
theorem dX6_way_120 : decode cX6_way 120 = .ok (.iadd, 1) := by decide +kernel
theorem dX6_way_121 : decode cX6_way 121 = .ok (.laload, 1) := by decide +kernel
theorem dX6_way_122 : decode cX6_way 122 = .ok (.lstore 11, 2) := by decide +kernel
theorem dX6_way_124 : decode cX6_way 124 = .ok (.lload 11, 2) := by decide +kernel
theorem dX6_way_126 : decode cX6_way 126 = .ok (.lload 5, 2) := by decide +kernel
theorem dX6_way_128 : decode cX6_way 128 = .ok (.lcmp, 1) := by decide +kernel
theorem dX6_way_129 : decode cX6_way 129 = .ok (.ifCond .gt 26, 3) := by decide +kernel
theorem dX6_way_132 : decode cX6_way 132 = .ok (.lload 11, 2) := by decide +kernel
theorem dX6_way_134 : decode cX6_way 134 = .ok (.invokestatic 174, 3) := by decide +kernel
theorem dX6_way_137 : decode cX6_way 137 = .ok (.ifCond .eq 18, 3) := by decide +kernel
theorem dX6_way_140 : decode cX6_way 140 = .ok (.lload 7, 2) := by decide +kernel
theorem dX6_way_142 : decode cX6_way 142 = .ok (.lload 11, 2) := by decide +kernel
theorem dX6_way_144 : decode cX6_way 144 = .ok (.lmul, 1) := by decide +kernel
theorem dX6_way_145 : decode cX6_way 145 = .ok (.lload 5, 2) := by decide +kernel
theorem dX6_way_147 : decode cX6_way 147 = .ok (.lcmp, 1) := by decide +kernel
theorem dX6_way_148 : decode cX6_way 148 = .ok (.ifCond .gt 7, 3) := by decide +kernel
theorem dX6_way_151 : decode cX6_way 151 = .ok (.iconst 1, 1) := by decide +kernel
theorem dX6_way_152 : decode cX6_way 152 = .ok (.goto 4, 3) := by decide +kernel
theorem dX6_way_155 : decode cX6_way 155 = .ok (.iconst 0, 1) := by decide +kernel
theorem dX6_way_156 : decode cX6_way 156 = .ok (.istore 9, 2) := by decide +kernel
theorem dX6_way_158 : decode cX6_way 158 = .ok (.lload 7, 2) := by decide +kernel
theorem dX6_way_160 : decode cX6_way 160 = .ok (.iload 9, 2) := by decide +kernel
theorem dX6_way_162 : decode cX6_way 162 = .ok (.ifCond .eq 8, 3) := by decide +kernel
theorem dX6_way_165 : decode cX6_way 165 = .ok (.lload 11, 2) := by decide +kernel
theorem dX6_way_167 : decode cX6_way 167 = .ok (.goto 4, 3) := by decide +kernel
theorem dX6_way_170 : decode cX6_way 170 = .ok (.lconst 1, 1) := by decide +kernel
theorem dX6_way_171 : decode cX6_way 171 = .ok (.lmul, 1) := by decide +kernel
theorem dX6_way_172 : decode cX6_way 172 = .ok (.lstore 7, 2) := by decide +kernel
theorem dX6_way_174 : decode cX6_way 174 = .ok (.iinc 10 1, 3) := by decide +kernel
theorem dX6_way_177 : decode cX6_way 177 = .ok (.goto (-81), 3) := by decide +kernel
theorem dX6_way_180 : decode cX6_way 180 = .ok (.iload 9, 2) := by decide +kernel
theorem dX6_way_182 : decode cX6_way 182 = .ok (.ifCond .eq 11, 3) := by decide +kernel
theorem dX6_way_185 : decode cX6_way 185 = .ok (.lload 7, 2) := by decide +kernel
theorem dX6_way_187 : decode cX6_way 187 = .ok (.lload 5, 2) := by decide +kernel
theorem dX6_way_189 : decode cX6_way 189 = .ok (.lcmp, 1) := by decide +kernel
theorem dX6_way_190 : decode cX6_way 190 = .ok (.ifCond .eq 6, 3) := by decide +kernel
theorem dX6_way_193 : decode cX6_way 193 = .ok (.bipush (-2), 2) := by decide +kernel
theorem dX6_way_195 : decode cX6_way 195 = .ok (.ireturn, 1) := by decide +kernel
theorem dX6_way_196 : decode cX6_way 196 = .ok (.iconst 0, 1) := by decide +kernel
theorem dX6_way_197 : decode cX6_way 197 = .ok (.istore 10, 2) := by decide +kernel
theorem dX6_way_199 : decode cX6_way 199 = .ok (.iload 10, 2) := by decide +kernel
theorem dX6_way_201 : decode cX6_way 201 = .ok (.iload 4, 2) := by decide +kernel
theorem dX6_way_203 : decode cX6_way 203 = .ok (.iconst 1, 1) := by decide +kernel
theorem dX6_way_204 : decode cX6_way 204 = .ok (.isub, 1) := by decide +kernel
theorem dX6_way_205 : decode cX6_way 205 = .ok (.if_icmp .ge 171, 3) := by decide +kernel
theorem dX6_way_208 : decode cX6_way 208 = .ok (.iconst 0, 1) := by decide +kernel
theorem dX6_way_209 : decode cX6_way 209 = .ok (.istore 11, 2) := by decide +kernel
theorem dX6_way_211 : decode cX6_way 211 = .ok (.iload 11, 2) := by decide +kernel
theorem dX6_way_213 : decode cX6_way 213 = .ok (.iconst 4, 1) := by decide +kernel
theorem dX6_way_214 : decode cX6_way 214 = .ok (.if_icmp .ge 43, 3) := by decide +kernel
theorem dX6_way_217 : decode cX6_way 217 = .ok (.aload_n 0, 1) := by decide +kernel
theorem dX6_way_218 : decode cX6_way 218 = .ok (.getfield 32, 3) := by decide +kernel
theorem dX6_way_221 : decode cX6_way 221 = .ok (.iload 11, 2) := by decide +kernel
theorem dX6_way_223 : decode cX6_way 223 = .ok (.iload 11, 2) := by decide +kernel
theorem dX6_way_225 : decode cX6_way 225 = .ok (.ifCond .ne 24, 3) := by decide +kernel
theorem dX6_way_228 : decode cX6_way 228 = .ok (.ldc2_w 77, 3) := by decide +kernel
theorem dX6_way_231 : decode cX6_way 231 = .ok (.aload_n 0, 1) := by decide +kernel
theorem dX6_way_232 : decode cX6_way 232 = .ok (.getfield 16, 3) := by decide +kernel
theorem dX6_way_235 : decode cX6_way 235 = .ok (.bipush 16, 2) := by decide +kernel
theorem dX6_way_237 : decode cX6_way 237 = .ok (.iload_n 2, 1) := by decide +kernel
theorem dX6_way_238 : decode cX6_way 238 = .ok (.imul, 1) := by decide +kernel
theorem dX6_way_239 : decode cX6_way 239 = .ok (.iload_n 3, 1) := by decide +kernel
theorem dX6_way_240 : decode cX6_way 240 = .ok (.iadd, 1) := by decide +kernel
theorem dX6_way_241 : decode cX6_way 241 = .ok (.iload 10, 2) := by decide +kernel
theorem dX6_way_243 : decode cX6_way 243 = .ok (.iadd, 1) := by decide +kernel
theorem dX6_way_244 : decode cX6_way 244 = .ok (.laload, 1) := by decide +kernel
theorem dX6_way_245 : decode cX6_way 245 = .ok (.lmul, 1) := by decide +kernel
theorem dX6_way_246 : decode cX6_way 246 = .ok (.goto 4, 3) := by decide +kernel
theorem dX6_way_249 : decode cX6_way 249 = .ok (.lconst 0, 1) := by decide +kernel
theorem dX6_way_250 : decode cX6_way 250 = .ok (.lastore, 1) := by decide +kernel
theorem dX6_way_251 : decode cX6_way 251 = .ok (.iinc 11 1, 3) := by decide +kernel
theorem dX6_way_254 : decode cX6_way 254 = .ok (.goto (-43), 3) := by decide +kernel
theorem dX6_way_257 : decode cX6_way 257 = .ok (.aload_n 0, 1) := by decide +kernel
theorem dX6_way_258 : decode cX6_way 258 = .ok (.getfield 35, 3) := by decide +kernel
theorem dX6_way_261 : decode cX6_way 261 = .ok (.aload_n 0, 1) := by decide +kernel
theorem dX6_way_262 : decode cX6_way 262 = .ok (.getfield 56, 3) := by decide +kernel
theorem dX6_way_265 : decode cX6_way 265 = .ok (.invokestatic 152, 3) := by decide +kernel
theorem dX6_way_268 : decode cX6_way 268 = .ok (.aload_n 0, 1) := by decide +kernel
theorem dX6_way_269 : decode cX6_way 269 = .ok (.iconst 1, 1) := by decide +kernel
theorem dX6_way_270 : decode cX6_way 270 = .ok (.invokevirtual 167, 3) := by decide +kernel
theorem dX6_way_273 : decode cX6_way 273 = .ok (.iconst 0, 1) := by decide +kernel
theorem dX6_way_274 : decode cX6_way 274 = .ok (.istore 11, 2) := by decide +kernel
theorem dX6_way_276 : decode cX6_way 276 = .ok (.iload 11, 2) := by decide +kernel
theorem dX6_way_278 : decode cX6_way 278 = .ok (.iconst 4, 1) := by decide +kernel
theorem dX6_way_279 : decode cX6_way 279 = .ok (.if_icmp .ge 28, 3) := by decide +kernel
theorem dX6_way_282 : decode cX6_way 282 = .ok (.aload_n 0, 1) := by decide +kernel
theorem dX6_way_283 : decode cX6_way 283 = .ok (.getfield 26, 3) := by decide +kernel
theorem dX6_way_286 : decode cX6_way 286 = .ok (.iconst 4, 1) := by decide +kernel
theorem dX6_way_287 : decode cX6_way 287 = .ok (.iload 10, 2) := by decide +kernel
theorem dX6_way_289 : decode cX6_way 289 = .ok (.imul, 1) := by decide +kernel
theorem dX6_way_290 : decode cX6_way 290 = .ok (.iload 11, 2) := by decide +kernel
theorem dX6_way_292 : decode cX6_way 292 = .ok (.iadd, 1) := by decide +kernel
theorem dX6_way_293 : decode cX6_way 293 = .ok (.aload_n 0, 1) := by decide +kernel
theorem dX6_way_294 : decode cX6_way 294 = .ok (.getfield 44, 3) := by decide +kernel
theorem dX6_way_297 : decode cX6_way 297 = .ok (.iload 11, 2) := by decide +kernel
theorem dX6_way_299 : decode cX6_way 299 = .ok (.laload, 1) := by decide +kernel
theorem dX6_way_300 : decode cX6_way 300 = .ok (.lastore, 1) := by decide +kernel
theorem dX6_way_301 : decode cX6_way 301 = .ok (.iinc 11 1, 3) := by decide +kernel
theorem dX6_way_304 : decode cX6_way 304 = .ok (.goto (-28), 3) := by decide +kernel
theorem dX6_way_307 : decode cX6_way 307 = .ok (.aload_n 0, 1) := by decide +kernel
theorem dX6_way_308 : decode cX6_way 308 = .ok (.getfield 44, 3) := by decide +kernel
theorem dX6_way_311 : decode cX6_way 311 = .ok (.invokestatic 126, 3) := by decide +kernel
theorem dX6_way_314 : decode cX6_way 314 = .ok (.lstore 11, 2) := by decide +kernel
theorem dX6_way_316 : decode cX6_way 316 = .ok (.aload_n 0, 1) := by decide +kernel
theorem dX6_way_317 : decode cX6_way 317 = .ok (.getfield 44, 3) := by decide +kernel
theorem dX6_way_320 : decode cX6_way 320 = .ok (.invokestatic 139, 3) := by decide +kernel
theorem dX6_way_323 : decode cX6_way 323 = .ok (.aload_n 0, 1) := by decide +kernel
theorem dX6_way_324 : decode cX6_way 324 = .ok (.getfield 38, 3) := by decide +kernel
theorem dX6_way_327 : decode cX6_way 327 = .ok (.aload_n 0, 1) := by decide +kernel
theorem dX6_way_328 : decode cX6_way 328 = .ok (.getfield 44, 3) := by decide +kernel
theorem dX6_way_331 : decode cX6_way 331 = .ok (.aload_n 0, 1) := by decide +kernel
theorem dX6_way_332 : decode cX6_way 332 = .ok (.getfield 56, 3) := by decide +kernel
theorem dX6_way_335 : decode cX6_way 335 = .ok (.invokestatic 143, 3) := by decide +kernel
theorem dX6_way_338 : decode cX6_way 338 = .ok (.iconst 0, 1) := by decide +kernel
theorem dX6_way_339 : decode cX6_way 339 = .ok (.istore 13, 2) := by decide +kernel
theorem dX6_way_341 : decode cX6_way 341 = .ok (.iload 13, 2) := by decide +kernel
theorem dX6_way_343 : decode cX6_way 343 = .ok (.iconst 4, 1) := by decide +kernel
theorem dX6_way_344 : decode cX6_way 344 = .ok (.if_icmp .ge 26, 3) := by decide +kernel
theorem dX6_way_347 : decode cX6_way 347 = .ok (.aload_n 0, 1) := by decide +kernel
theorem dX6_way_348 : decode cX6_way 348 = .ok (.getfield 56, 3) := by decide +kernel
theorem dX6_way_351 : decode cX6_way 351 = .ok (.iload 13, 2) := by decide +kernel
theorem dX6_way_353 : decode cX6_way 353 = .ok (.aload_n 0, 1) := by decide +kernel
theorem dX6_way_354 : decode cX6_way 354 = .ok (.getfield 38, 3) := by decide +kernel
theorem dX6_way_357 : decode cX6_way 357 = .ok (.iload 13, 2) := by decide +kernel
theorem dX6_way_359 : decode cX6_way 359 = .ok (.laload, 1) := by decide +kernel
theorem dX6_way_360 : decode cX6_way 360 = .ok (.lload 11, 2) := by decide +kernel
theorem dX6_way_362 : decode cX6_way 362 = .ok (.ldiv, 1) := by decide +kernel
theorem dX6_way_363 : decode cX6_way 363 = .ok (.lastore, 1) := by decide +kernel
theorem dX6_way_364 : decode cX6_way 364 = .ok (.iinc 13 1, 3) := by decide +kernel
theorem dX6_way_367 : decode cX6_way 367 = .ok (.goto (-26), 3) := by decide +kernel
theorem dX6_way_370 : decode cX6_way 370 = .ok (.iinc 10 1, 3) := by decide +kernel
theorem dX6_way_373 : decode cX6_way 373 = .ok (.goto (-174), 3) := by decide +kernel
theorem dX6_way_376 : decode cX6_way 376 = .ok (.iconst 0, 1) := by decide +kernel
theorem dX6_way_377 : decode cX6_way 377 = .ok (.istore 10, 2) := by decide +kernel
theorem dX6_way_379 : decode cX6_way 379 = .ok (.iload 10, 2) := by decide +kernel
theorem dX6_way_381 : decode cX6_way 381 = .ok (.iconst 4, 1) := by decide +kernel
theorem dX6_way_382 : decode cX6_way 382 = .ok (.if_icmp .ge 30, 3) := by decide +kernel
theorem dX6_way_385 : decode cX6_way 385 = .ok (.aload_n 0, 1) := by decide +kernel
theorem dX6_way_386 : decode cX6_way 386 = .ok (.getfield 26, 3) := by decide +kernel
theorem dX6_way_389 : decode cX6_way 389 = .ok (.iconst 4, 1) := by decide +kernel
theorem dX6_way_390 : decode cX6_way 390 = .ok (.iload 4, 2) := by decide +kernel
theorem dX6_way_392 : decode cX6_way 392 = .ok (.imul, 1) := by decide +kernel
theorem dX6_way_393 : decode cX6_way 393 = .ok (.iconst 4, 1) := by decide +kernel
theorem dX6_way_394 : decode cX6_way 394 = .ok (.isub, 1) := by decide +kernel
theorem dX6_way_395 : decode cX6_way 395 = .ok (.iload 10, 2) := by decide +kernel
theorem dX6_way_397 : decode cX6_way 397 = .ok (.iadd, 1) := by decide +kernel
theorem dX6_way_398 : decode cX6_way 398 = .ok (.aload_n 0, 1) := by decide +kernel
theorem dX6_way_399 : decode cX6_way 399 = .ok (.getfield 56, 3) := by decide +kernel
theorem dX6_way_402 : decode cX6_way 402 = .ok (.iload 10, 2) := by decide +kernel
theorem dX6_way_404 : decode cX6_way 404 = .ok (.laload, 1) := by decide +kernel
theorem dX6_way_405 : decode cX6_way 405 = .ok (.lastore, 1) := by decide +kernel
theorem dX6_way_406 : decode cX6_way 406 = .ok (.iinc 10 1, 3) := by decide +kernel
theorem dX6_way_409 : decode cX6_way 409 = .ok (.goto (-30), 3) := by decide +kernel
theorem dX6_way_412 : decode cX6_way 412 = .ok (.aload_n 0, 1) := by decide +kernel
theorem dX6_way_413 : decode cX6_way 413 = .ok (.iload 4, 2) := by decide +kernel
theorem dX6_way_415 : decode cX6_way 415 = .ok (.putfield 177, 3) := by decide +kernel
theorem dX6_way_418 : decode cX6_way 418 = .ok (.iload 4, 2) := by decide +kernel
theorem dX6_way_420 : decode cX6_way 420 = .ok (.ireturn, 1) := by decide +kernel
set_option maxRecDepth 20000 in
theorem ggX6_factor_X6_isRegister : GoodIn wsX6_factor wsX6_isRegister := goodIn_r _ [7, 8, 9, 10, 6, 11] (by decide +kernel) (by decide +kernel)
set_option maxRecDepth 20000 in
theorem gX6_factor_X6_isRegister : GoodIn wsX6_factor (va_wsS RX6 91 yX6_isRegister wsX6_isRegister) := goodIn_app (goodIn_of _ (by decide +kernel)) ggX6_factor_X6_isRegister
set_option maxRecDepth 20000 in
theorem ggX6_factor_X6_in : GoodIn wsX6_factor wsX6_in := goodIn_r _ [11] (by decide +kernel) (by decide +kernel)
set_option maxRecDepth 20000 in
theorem gX6_factor_X6_in : GoodIn wsX6_factor (va_wsS RX6 65 yX6_in wsX6_in) := goodIn_app (goodIn_of _ (by decide +kernel)) ggX6_factor_X6_in
set_option maxRecDepth 20000 in
theorem ggX6_factor_X6_holds : GoodIn wsX6_factor wsX6_holds := goodIn_r _ [15, 16, 17, 6, 18, 19, 20, 21, 22, 23, 9, 10, 11, 24, 25, 26, 27, 28, 33, 34, 35, 36, 37, 38, 39, 40, 41, 42, 43, 44, 45, 46, 47, 48, 49, 50] (by decide +kernel) (by decide +kernel)
set_option maxRecDepth 20000 in
theorem gX6_factor_X6_holds : GoodIn wsX6_factor (wsV RX6 108 RX6 yX6_holds wsX6_holds) := goodIn_app (goodIn_of _ (by decide +kernel)) ggX6_factor_X6_holds
set_option maxRecDepth 20000 in
theorem ggX6_factor_X6_norm : GoodIn wsX6_factor wsX6_norm := goodIn_r _ [31, 32] (by decide +kernel) (by decide +kernel)
set_option maxRecDepth 20000 in
theorem gX6_factor_X6_norm : GoodIn wsX6_factor (va_wsS RX6 126 yX6_norm wsX6_norm) := goodIn_app (goodIn_of _ (by decide +kernel)) ggX6_factor_X6_norm
theorem dX6_factor_0 : decode cX6_factor 0 = .ok (.iload_n 1, 1) := by decide +kernel
theorem dX6_factor_1 : decode cX6_factor 1 = .ok (.invokestatic 91, 3) := by decide +kernel
theorem dX6_factor_4 : decode cX6_factor 4 = .ok (.ifCond .ne 5, 3) := by decide +kernel
theorem dX6_factor_7 : decode cX6_factor 7 = .ok (.iconst (-1), 1) := by decide +kernel
theorem dX6_factor_8 : decode cX6_factor 8 = .ok (.ireturn, 1) := by decide +kernel
theorem dX6_factor_9 : decode cX6_factor 9 = .ok (.iload_n 2, 1) := by decide +kernel
theorem dX6_factor_10 : decode cX6_factor 10 = .ok (.i2l, 1) := by decide +kernel
theorem dX6_factor_11 : decode cX6_factor 11 = .ok (.lconst 0, 1) := by decide +kernel
theorem dX6_factor_12 : decode cX6_factor 12 = .ok (.aload_n 0, 1) := by decide +kernel
theorem dX6_factor_13 : decode cX6_factor 13 = .ok (.getfield 177, 3) := by decide +kernel
theorem dX6_factor_16 : decode cX6_factor 16 = .ok (.iconst 1, 1) := by decide +kernel
theorem dX6_factor_17 : decode cX6_factor 17 = .ok (.isub, 1) := by decide +kernel
theorem dX6_factor_18 : decode cX6_factor 18 = .ok (.i2l, 1) := by decide +kernel
theorem dX6_factor_19 : decode cX6_factor 19 = .ok (.invokestatic 65, 3) := by decide +kernel
theorem dX6_factor_22 : decode cX6_factor 22 = .ok (.ifCond .ne 6, 3) := by decide +kernel
theorem dX6_factor_25 : decode cX6_factor 25 = .ok (.bipush (-2), 2) := by decide +kernel
theorem dX6_factor_27 : decode cX6_factor 27 = .ok (.ireturn, 1) := by decide +kernel
theorem dX6_factor_28 : decode cX6_factor 28 = .ok (.iconst 0, 1) := by decide +kernel
theorem dX6_factor_29 : decode cX6_factor 29 = .ok (.istore_n 3, 1) := by decide +kernel
theorem dX6_factor_30 : decode cX6_factor 30 = .ok (.iload_n 3, 1) := by decide +kernel
theorem dX6_factor_31 : decode cX6_factor 31 = .ok (.iconst 4, 1) := by decide +kernel
theorem dX6_factor_32 : decode cX6_factor 32 = .ok (.if_icmp .ge 25, 3) := by decide +kernel
theorem dX6_factor_35 : decode cX6_factor 35 = .ok (.aload_n 0, 1) := by decide +kernel
theorem dX6_factor_36 : decode cX6_factor 36 = .ok (.getfield 32, 3) := by decide +kernel
theorem dX6_factor_39 : decode cX6_factor 39 = .ok (.iload_n 3, 1) := by decide +kernel
theorem dX6_factor_40 : decode cX6_factor 40 = .ok (.aload_n 0, 1) := by decide +kernel
theorem dX6_factor_41 : decode cX6_factor 41 = .ok (.getfield 26, 3) := by decide +kernel
theorem dX6_factor_44 : decode cX6_factor 44 = .ok (.iconst 4, 1) := by decide +kernel
theorem dX6_factor_45 : decode cX6_factor 45 = .ok (.iload_n 2, 1) := by decide +kernel
theorem dX6_factor_46 : decode cX6_factor 46 = .ok (.imul, 1) := by decide +kernel
theorem dX6_factor_47 : decode cX6_factor 47 = .ok (.iload_n 3, 1) := by decide +kernel
theorem dX6_factor_48 : decode cX6_factor 48 = .ok (.iadd, 1) := by decide +kernel
theorem dX6_factor_49 : decode cX6_factor 49 = .ok (.laload, 1) := by decide +kernel
theorem dX6_factor_50 : decode cX6_factor 50 = .ok (.lastore, 1) := by decide +kernel
theorem dX6_factor_51 : decode cX6_factor 51 = .ok (.iinc 3 1, 3) := by decide +kernel
theorem dX6_factor_54 : decode cX6_factor 54 = .ok (.goto (-24), 3) := by decide +kernel
theorem dX6_factor_57 : decode cX6_factor 57 = .ok (.aload_n 0, 1) := by decide +kernel
theorem dX6_factor_58 : decode cX6_factor 58 = .ok (.iload_n 1, 1) := by decide +kernel
theorem dX6_factor_59 : decode cX6_factor 59 = .ok (.aload_n 0, 1) := by decide +kernel
theorem dX6_factor_60 : decode cX6_factor 60 = .ok (.getfield 32, 3) := by decide +kernel
theorem dX6_factor_63 : decode cX6_factor 63 = .ok (.invokevirtual 108, 3) := by decide +kernel
theorem dX6_factor_66 : decode cX6_factor 66 = .ok (.ifCond .ne 14, 3) := by decide +kernel
theorem dX6_factor_69 : decode cX6_factor 69 = .ok (.aload_n 0, 1) := by decide +kernel
theorem dX6_factor_70 : decode cX6_factor 70 = .ok (.getfield 32, 3) := by decide +kernel
theorem dX6_factor_73 : decode cX6_factor 73 = .ok (.invokestatic 126, 3) := by decide +kernel
theorem dX6_factor_76 : decode cX6_factor 76 = .ok (.l2i, 1) := by decide +kernel
theorem dX6_factor_77 : decode cX6_factor 77 = .ok (.goto 5, 3) := by decide +kernel
theorem dX6_factor_80 : decode cX6_factor 80 = .ok (.bipush (-3), 2) := by decide +kernel
theorem dX6_factor_82 : decode cX6_factor 82 = .ok (.ireturn, 1) := by decide +kernel
theorem dX6_rootOf_0 : decode cX6_rootOf 0 = .ok (.iconst 0, 1) := by decide +kernel
theorem dX6_rootOf_1 : decode cX6_rootOf 1 = .ok (.istore_n 1, 1) := by decide +kernel
theorem dX6_rootOf_2 : decode cX6_rootOf 2 = .ok (.iload_n 1, 1) := by decide +kernel
theorem dX6_rootOf_3 : decode cX6_rootOf 3 = .ok (.iconst 1, 1) := by decide +kernel
theorem dX6_rootOf_4 : decode cX6_rootOf 4 = .ok (.iadd, 1) := by decide +kernel
theorem dX6_rootOf_5 : decode cX6_rootOf 5 = .ok (.iload_n 1, 1) := by decide +kernel
theorem dX6_rootOf_6 : decode cX6_rootOf 6 = .ok (.iconst 1, 1) := by decide +kernel
theorem dX6_rootOf_7 : decode cX6_rootOf 7 = .ok (.iadd, 1) := by decide +kernel
theorem dX6_rootOf_8 : decode cX6_rootOf 8 = .ok (.imul, 1) := by decide +kernel
theorem dX6_rootOf_9 : decode cX6_rootOf 9 = .ok (.iload_n 0, 1) := by decide +kernel
theorem dX6_rootOf_10 : decode cX6_rootOf 10 = .ok (.if_icmp .gt 9, 3) := by decide +kernel
theorem dX6_rootOf_13 : decode cX6_rootOf 13 = .ok (.iinc 1 1, 3) := by decide +kernel
theorem dX6_rootOf_16 : decode cX6_rootOf 16 = .ok (.goto (-14), 3) := by decide +kernel
theorem dX6_rootOf_19 : decode cX6_rootOf 19 = .ok (.iload_n 1, 1) := by decide +kernel
theorem dX6_rootOf_20 : decode cX6_rootOf 20 = .ok (.ireturn, 1) := by decide +kernel
set_option maxRecDepth 20000 in
theorem ggX6_goThrough_X6_rootOf : GoodIn wsX6_goThrough wsX6_rootOf := goodIn_r _ [5] (by decide +kernel) (by decide +kernel)
set_option maxRecDepth 20000 in
theorem gX6_goThrough_X6_rootOf : GoodIn wsX6_goThrough (va_wsS RX6 181 yX6_rootOf wsX6_rootOf) := goodIn_app (goodIn_of _ (by decide +kernel)) ggX6_goThrough_X6_rootOf
set_option maxRecDepth 20000 in
theorem ggX6_goThrough_X6_isOne : GoodIn wsX6_goThrough wsX6_isOne := goodIn_r _ [8] (by decide +kernel) (by decide +kernel)
set_option maxRecDepth 20000 in
theorem gX6_goThrough_X6_isOne : GoodIn wsX6_goThrough (va_wsS RX6 59 yX6_isOne wsX6_isOne) := goodIn_app (goodIn_of _ (by decide +kernel)) ggX6_goThrough_X6_isOne
set_option maxRecDepth 20000 in
theorem ggX6_goThrough_X6_isPrimitive : GoodIn wsX6_goThrough wsX6_isPrimitive := goodIn_r _ [12, 13, 14, 15, 4, 16, 17, 18, 19, 6, 7, 8] (by decide +kernel) (by decide +kernel)
set_option maxRecDepth 20000 in
theorem gX6_goThrough_X6_isPrimitive : GoodIn wsX6_goThrough (wsV RX6 130 RX6 yX6_isPrimitive wsX6_isPrimitive) := goodIn_app (goodIn_of _ (by decide +kernel)) ggX6_goThrough_X6_isPrimitive
theorem dX6_goThrough_0 : decode cX6_goThrough 0 = .ok (.iconst 4, 1) := by decide +kernel
theorem dX6_goThrough_1 : decode cX6_goThrough 1 = .ok (.iload_n 1, 1) := by decide +kernel
theorem dX6_goThrough_2 : decode cX6_goThrough 2 = .ok (.imul, 1) := by decide +kernel
theorem dX6_goThrough_3 : decode cX6_goThrough 3 = .ok (.istore 4, 2) := by decide +kernel
theorem dX6_goThrough_5 : decode cX6_goThrough 5 = .ok (.iload 4, 2) := by decide +kernel
theorem dX6_goThrough_7 : decode cX6_goThrough 7 = .ok (.invokestatic 181, 3) := by decide +kernel
theorem dX6_goThrough_10 : decode cX6_goThrough 10 = .ok (.istore 5, 2) := by decide +kernel
theorem dX6_goThrough_12 : decode cX6_goThrough 12 = .ok (.iconst 0, 1) := by decide +kernel
theorem dX6_goThrough_13 : decode cX6_goThrough 13 = .ok (.istore 6, 2) := by decide +kernel
theorem dX6_goThrough_15 : decode cX6_goThrough 15 = .ok (.iload 5, 2) := by decide +kernel
theorem dX6_goThrough_17 : decode cX6_goThrough 17 = .ok (.istore 7, 2) := by decide +kernel
theorem dX6_goThrough_19 : decode cX6_goThrough 19 = .ok (.iload 7, 2) := by decide +kernel
theorem dX6_goThrough_21 : decode cX6_goThrough 21 = .ok (.iload 5, 2) := by decide +kernel
theorem dX6_goThrough_23 : decode cX6_goThrough 23 = .ok (.ineg, 1) := by decide +kernel
theorem dX6_goThrough_24 : decode cX6_goThrough 24 = .ok (.if_icmp .lt 273, 3) := by decide +kernel
theorem dX6_goThrough_27 : decode cX6_goThrough 27 = .ok (.iload 5, 2) := by decide +kernel
theorem dX6_goThrough_29 : decode cX6_goThrough 29 = .ok (.istore 8, 2) := by decide +kernel
theorem dX6_goThrough_31 : decode cX6_goThrough 31 = .ok (.iload 8, 2) := by decide +kernel
theorem dX6_goThrough_33 : decode cX6_goThrough 33 = .ok (.iload 5, 2) := by decide +kernel
theorem dX6_goThrough_35 : decode cX6_goThrough 35 = .ok (.ineg, 1) := by decide +kernel
theorem dX6_goThrough_36 : decode cX6_goThrough 36 = .ok (.if_icmp .lt 255, 3) := by decide +kernel
theorem dX6_goThrough_39 : decode cX6_goThrough 39 = .ok (.iload 5, 2) := by decide +kernel
theorem dX6_goThrough_41 : decode cX6_goThrough 41 = .ok (.istore 9, 2) := by decide +kernel
theorem dX6_goThrough_43 : decode cX6_goThrough 43 = .ok (.iload 9, 2) := by decide +kernel
theorem dX6_goThrough_45 : decode cX6_goThrough 45 = .ok (.iload 5, 2) := by decide +kernel
theorem dX6_goThrough_47 : decode cX6_goThrough 47 = .ok (.ineg, 1) := by decide +kernel
theorem dX6_goThrough_48 : decode cX6_goThrough 48 = .ok (.if_icmp .lt 237, 3) := by decide +kernel
theorem dX6_goThrough_51 : decode cX6_goThrough 51 = .ok (.iload 7, 2) := by decide +kernel
theorem dX6_goThrough_53 : decode cX6_goThrough 53 = .ok (.iload 7, 2) := by decide +kernel
theorem dX6_goThrough_55 : decode cX6_goThrough 55 = .ok (.imul, 1) := by decide +kernel
theorem dX6_goThrough_56 : decode cX6_goThrough 56 = .ok (.iload 8, 2) := by decide +kernel
theorem dX6_goThrough_58 : decode cX6_goThrough 58 = .ok (.iload 8, 2) := by decide +kernel
theorem dX6_goThrough_60 : decode cX6_goThrough 60 = .ok (.imul, 1) := by decide +kernel
theorem dX6_goThrough_61 : decode cX6_goThrough 61 = .ok (.iadd, 1) := by decide +kernel
theorem dX6_goThrough_62 : decode cX6_goThrough 62 = .ok (.iload 4, 2) := by decide +kernel
theorem dX6_goThrough_64 : decode cX6_goThrough 64 = .ok (.if_icmp .gt 221, 3) := by decide +kernel
theorem dX6_goThrough_67 : decode cX6_goThrough 67 = .ok (.iload 4, 2) := by decide +kernel
theorem dX6_goThrough_69 : decode cX6_goThrough 69 = .ok (.iload 7, 2) := by decide +kernel
theorem dX6_goThrough_71 : decode cX6_goThrough 71 = .ok (.iload 7, 2) := by decide +kernel
theorem dX6_goThrough_73 : decode cX6_goThrough 73 = .ok (.imul, 1) := by decide +kernel
theorem dX6_goThrough_74 : decode cX6_goThrough 74 = .ok (.isub, 1) := by decide +kernel
theorem dX6_goThrough_75 : decode cX6_goThrough 75 = .ok (.iload 8, 2) := by decide +kernel
theorem dX6_goThrough_77 : decode cX6_goThrough 77 = .ok (.iload 8, 2) := by decide +kernel
theorem dX6_goThrough_79 : decode cX6_goThrough 79 = .ok (.imul, 1) := by decide +kernel
theorem dX6_goThrough_80 : decode cX6_goThrough 80 = .ok (.isub, 1) := by decide +kernel
theorem dX6_goThrough_81 : decode cX6_goThrough 81 = .ok (.iload 9, 2) := by decide +kernel
theorem dX6_goThrough_83 : decode cX6_goThrough 83 = .ok (.iload 9, 2) := by decide +kernel
theorem dX6_goThrough_85 : decode cX6_goThrough 85 = .ok (.imul, 1) := by decide +kernel
theorem dX6_goThrough_86 : decode cX6_goThrough 86 = .ok (.isub, 1) := by decide +kernel
theorem dX6_goThrough_87 : decode cX6_goThrough 87 = .ok (.istore 10, 2) := by decide +kernel
theorem dX6_goThrough_89 : decode cX6_goThrough 89 = .ok (.iload 10, 2) := by decide +kernel
theorem dX6_goThrough_91 : decode cX6_goThrough 91 = .ok (.ifCond .ge 7, 3) := by decide +kernel
theorem dX6_goThrough_94 : decode cX6_goThrough 94 = .ok (.iconst (-1), 1) := by decide +kernel
theorem dX6_goThrough_95 : decode cX6_goThrough 95 = .ok (.goto 8, 3) := by decide +kernel
theorem dX6_goThrough_98 : decode cX6_goThrough 98 = .ok (.iload 10, 2) := by decide +kernel
theorem dX6_goThrough_100 : decode cX6_goThrough 100 = .ok (.invokestatic 181, 3) := by decide +kernel
theorem dX6_goThrough_103 : decode cX6_goThrough 103 = .ok (.istore 11, 2) := by decide +kernel
theorem dX6_goThrough_105 : decode cX6_goThrough 105 = .ok (.iconst 0, 1) := by decide +kernel
theorem dX6_goThrough_106 : decode cX6_goThrough 106 = .ok (.istore 12, 2) := by decide +kernel
theorem dX6_goThrough_108 : decode cX6_goThrough 108 = .ok (.iload 12, 2) := by decide +kernel
theorem dX6_goThrough_110 : decode cX6_goThrough 110 = .ok (.iconst 2, 1) := by decide +kernel
theorem dX6_goThrough_111 : decode cX6_goThrough 111 = .ok (.if_icmp .ge 168, 3) := by decide +kernel
theorem dX6_goThrough_114 : decode cX6_goThrough 114 = .ok (.iload 11, 2) := by decide +kernel
theorem dX6_goThrough_116 : decode cX6_goThrough 116 = .ok (.ifCond .lt 163, 3) := by decide +kernel
theorem dX6_goThrough_119 : decode cX6_goThrough 119 = .ok (.iload 11, 2) := by decide +kernel
theorem dX6_goThrough_121 : decode cX6_goThrough 121 = .ok (.iload 11, 2) := by decide +kernel
theorem dX6_goThrough_123 : decode cX6_goThrough 123 = .ok (.imul, 1) := by decide +kernel
theorem dX6_goThrough_124 : decode cX6_goThrough 124 = .ok (.iload 10, 2) := by decide +kernel
theorem dX6_goThrough_126 : decode cX6_goThrough 126 = .ok (.if_icmp .ne 153, 3) := by decide +kernel
theorem dX6_goThrough_129 : decode cX6_goThrough 129 = .ok (.aload_n 0, 1) := by decide +kernel
theorem dX6_goThrough_130 : decode cX6_goThrough 130 = .ok (.getfield 32, 3) := by decide +kernel
theorem dX6_goThrough_133 : decode cX6_goThrough 133 = .ok (.iconst 0, 1) := by decide +kernel
theorem dX6_goThrough_134 : decode cX6_goThrough 134 = .ok (.iload 7, 2) := by decide +kernel
theorem dX6_goThrough_136 : decode cX6_goThrough 136 = .ok (.i2l, 1) := by decide +kernel
theorem dX6_goThrough_137 : decode cX6_goThrough 137 = .ok (.lastore, 1) := by decide +kernel
theorem dX6_goThrough_138 : decode cX6_goThrough 138 = .ok (.aload_n 0, 1) := by decide +kernel
theorem dX6_goThrough_139 : decode cX6_goThrough 139 = .ok (.getfield 32, 3) := by decide +kernel
theorem dX6_goThrough_142 : decode cX6_goThrough 142 = .ok (.iconst 1, 1) := by decide +kernel
theorem dX6_goThrough_143 : decode cX6_goThrough 143 = .ok (.iload 8, 2) := by decide +kernel
theorem dX6_goThrough_145 : decode cX6_goThrough 145 = .ok (.i2l, 1) := by decide +kernel
theorem dX6_goThrough_146 : decode cX6_goThrough 146 = .ok (.lastore, 1) := by decide +kernel
theorem dX6_goThrough_147 : decode cX6_goThrough 147 = .ok (.aload_n 0, 1) := by decide +kernel
theorem dX6_goThrough_148 : decode cX6_goThrough 148 = .ok (.getfield 32, 3) := by decide +kernel
theorem dX6_goThrough_151 : decode cX6_goThrough 151 = .ok (.iconst 2, 1) := by decide +kernel
theorem dX6_goThrough_152 : decode cX6_goThrough 152 = .ok (.iload 9, 2) := by decide +kernel
theorem dX6_goThrough_154 : decode cX6_goThrough 154 = .ok (.i2l, 1) := by decide +kernel
theorem dX6_goThrough_155 : decode cX6_goThrough 155 = .ok (.lastore, 1) := by decide +kernel
theorem dX6_goThrough_156 : decode cX6_goThrough 156 = .ok (.aload_n 0, 1) := by decide +kernel
theorem dX6_goThrough_157 : decode cX6_goThrough 157 = .ok (.getfield 32, 3) := by decide +kernel
theorem dX6_goThrough_160 : decode cX6_goThrough 160 = .ok (.iconst 3, 1) := by decide +kernel
theorem dX6_goThrough_161 : decode cX6_goThrough 161 = .ok (.iload 12, 2) := by decide +kernel
theorem dX6_goThrough_163 : decode cX6_goThrough 163 = .ok (.ifCond .ne 9, 3) := by decide +kernel
theorem dX6_goThrough_166 : decode cX6_goThrough 166 = .ok (.iload 11, 2) := by decide +kernel
theorem dX6_goThrough_168 : decode cX6_goThrough 168 = .ok (.i2l, 1) := by decide +kernel
theorem dX6_goThrough_169 : decode cX6_goThrough 169 = .ok (.goto 7, 3) := by decide +kernel
theorem dX6_goThrough_172 : decode cX6_goThrough 172 = .ok (.iload 11, 2) := by decide +kernel
theorem dX6_goThrough_174 : decode cX6_goThrough 174 = .ok (.ineg, 1) := by decide +kernel
theorem dX6_goThrough_175 : decode cX6_goThrough 175 = .ok (.i2l, 1) := by decide +kernel
theorem dX6_goThrough_176 : decode cX6_goThrough 176 = .ok (.lastore, 1) := by decide +kernel
theorem dX6_goThrough_177 : decode cX6_goThrough 177 = .ok (.iload 7, 2) := by decide +kernel
theorem dX6_goThrough_179 : decode cX6_goThrough 179 = .ok (.i2l, 1) := by decide +kernel
theorem dX6_goThrough_180 : decode cX6_goThrough 180 = .ok (.iload 8, 2) := by decide +kernel
theorem dX6_goThrough_182 : decode cX6_goThrough 182 = .ok (.i2l, 1) := by decide +kernel
theorem dX6_goThrough_183 : decode cX6_goThrough 183 = .ok (.iload 9, 2) := by decide +kernel
theorem dX6_goThrough_185 : decode cX6_goThrough 185 = .ok (.i2l, 1) := by decide +kernel
theorem dX6_goThrough_186 : decode cX6_goThrough 186 = .ok (.iload 11, 2) := by decide +kernel
theorem dX6_goThrough_188 : decode cX6_goThrough 188 = .ok (.i2l, 1) := by decide +kernel
theorem dX6_goThrough_189 : decode cX6_goThrough 189 = .ok (.invokestatic 59, 3) := by decide +kernel
theorem dX6_goThrough_192 : decode cX6_goThrough 192 = .ok (.ifCond .eq 49, 3) := by decide +kernel
theorem dX6_goThrough_195 : decode cX6_goThrough 195 = .ok (.iload 12, 2) := by decide +kernel
theorem dX6_goThrough_197 : decode cX6_goThrough 197 = .ok (.ifCond .eq 8, 3) := by decide +kernel
theorem dX6_goThrough_200 : decode cX6_goThrough 200 = .ok (.iload 11, 2) := by decide +kernel
theorem dX6_goThrough_202 : decode cX6_goThrough 202 = .ok (.ifCond .le 39, 3) := by decide +kernel
theorem dX6_goThrough_205 : decode cX6_goThrough 205 = .ok (.iload_n 2, 1) := by decide +kernel
theorem dX6_goThrough_206 : decode cX6_goThrough 206 = .ok (.ifCond .eq 31, 3) := by decide +kernel
theorem dX6_goThrough_209 : decode cX6_goThrough 209 = .ok (.iload_n 2, 1) := by decide +kernel
theorem dX6_goThrough_210 : decode cX6_goThrough 210 = .ok (.iconst 1, 1) := by decide +kernel
theorem dX6_goThrough_211 : decode cX6_goThrough 211 = .ok (.if_icmp .ne 10, 3) := by decide +kernel
theorem dX6_goThrough_214 : decode cX6_goThrough 214 = .ok (.iload 7, 2) := by decide +kernel
theorem dX6_goThrough_216 : decode cX6_goThrough 216 = .ok (.iconst 2, 1) := by decide +kernel
theorem dX6_goThrough_217 : decode cX6_goThrough 217 = .ok (.irem, 1) := by decide +kernel
theorem dX6_goThrough_218 : decode cX6_goThrough 218 = .ok (.ifCond .eq 19, 3) := by decide +kernel
theorem dX6_goThrough_221 : decode cX6_goThrough 221 = .ok (.iload_n 2, 1) := by decide +kernel
theorem dX6_goThrough_222 : decode cX6_goThrough 222 = .ok (.iconst 2, 1) := by decide +kernel
theorem dX6_goThrough_223 : decode cX6_goThrough 223 = .ok (.if_icmp .ne 18, 3) := by decide +kernel
theorem dX6_goThrough_226 : decode cX6_goThrough 226 = .ok (.aload_n 0, 1) := by decide +kernel
theorem dX6_goThrough_227 : decode cX6_goThrough 227 = .ok (.aload_n 0, 1) := by decide +kernel
theorem dX6_goThrough_228 : decode cX6_goThrough 228 = .ok (.getfield 32, 3) := by decide +kernel
theorem dX6_goThrough_231 : decode cX6_goThrough 231 = .ok (.invokevirtual 130, 3) := by decide +kernel
theorem dX6_goThrough_234 : decode cX6_goThrough 234 = .ok (.ifCond .eq 7, 3) := by decide +kernel
theorem dX6_goThrough_237 : decode cX6_goThrough 237 = .ok (.iconst 1, 1) := by decide +kernel
theorem dX6_goThrough_238 : decode cX6_goThrough 238 = .ok (.goto 4, 3) := by decide +kernel
theorem dX6_goThrough_241 : decode cX6_goThrough 241 = .ok (.iconst 0, 1) := by decide +kernel
theorem dX6_goThrough_242 : decode cX6_goThrough 242 = .ok (.istore 13, 2) := by decide +kernel
theorem dX6_goThrough_244 : decode cX6_goThrough 244 = .ok (.iload 13, 2) := by decide +kernel
theorem dX6_goThrough_246 : decode cX6_goThrough 246 = .ok (.ifCond .eq 12, 3) := by decide +kernel
theorem dX6_goThrough_249 : decode cX6_goThrough 249 = .ok (.iload 6, 2) := by decide +kernel
theorem dX6_goThrough_251 : decode cX6_goThrough 251 = .ok (.iload_n 3, 1) := by decide +kernel
theorem dX6_goThrough_252 : decode cX6_goThrough 252 = .ok (.if_icmp .ne 6, 3) := by decide +kernel
theorem dX6_goThrough_255 : decode cX6_goThrough 255 = .ok (.iload 6, 2) := by decide +kernel
theorem dX6_goThrough_257 : decode cX6_goThrough 257 = .ok (.ireturn, 1) := by decide +kernel
theorem dX6_goThrough_258 : decode cX6_goThrough 258 = .ok (.iload 6, 2) := by decide +kernel
theorem dX6_goThrough_260 : decode cX6_goThrough 260 = .ok (.iload 13, 2) := by decide +kernel
theorem dX6_goThrough_262 : decode cX6_goThrough 262 = .ok (.ifCond .eq 7, 3) := by decide +kernel
theorem dX6_goThrough_265 : decode cX6_goThrough 265 = .ok (.iconst 1, 1) := by decide +kernel
theorem dX6_goThrough_266 : decode cX6_goThrough 266 = .ok (.goto 4, 3) := by decide +kernel
theorem dX6_goThrough_269 : decode cX6_goThrough 269 = .ok (.iconst 0, 1) := by decide +kernel
theorem dX6_goThrough_270 : decode cX6_goThrough 270 = .ok (.iadd, 1) := by decide +kernel
theorem dX6_goThrough_271 : decode cX6_goThrough 271 = .ok (.istore 6, 2) := by decide +kernel
theorem dX6_goThrough_273 : decode cX6_goThrough 273 = .ok (.iinc 12 1, 3) := by decide +kernel
theorem dX6_goThrough_276 : decode cX6_goThrough 276 = .ok (.goto (-168), 3) := by decide +kernel
theorem dX6_goThrough_279 : decode cX6_goThrough 279 = .ok (.iinc 9 (-1), 3) := by decide +kernel
theorem dX6_goThrough_282 : decode cX6_goThrough 282 = .ok (.goto (-239), 3) := by decide +kernel
theorem dX6_goThrough_285 : decode cX6_goThrough 285 = .ok (.iinc 8 (-1), 3) := by decide +kernel
theorem dX6_goThrough_288 : decode cX6_goThrough 288 = .ok (.goto (-257), 3) := by decide +kernel
theorem dX6_goThrough_291 : decode cX6_goThrough 291 = .ok (.iinc 7 (-1), 3) := by decide +kernel
theorem dX6_goThrough_294 : decode cX6_goThrough 294 = .ok (.goto (-275), 3) := by decide +kernel
theorem dX6_goThrough_297 : decode cX6_goThrough 297 = .ok (.iload 6, 2) := by decide +kernel
theorem dX6_goThrough_299 : decode cX6_goThrough 299 = .ok (.ireturn, 1) := by decide +kernel
set_option maxRecDepth 20000 in
theorem ggX6_many_X6_in : GoodIn wsX6_many wsX6_in := goodIn_r _ [6] (by decide +kernel) (by decide +kernel)
set_option maxRecDepth 20000 in
theorem gX6_many_X6_in : GoodIn wsX6_many (va_wsS RX6 65 yX6_in wsX6_in) := goodIn_app (goodIn_of _ (by decide +kernel)) ggX6_many_X6_in
set_option maxRecDepth 20000 in
theorem ggX6_many_X6_goThrough : GoodIn wsX6_many wsX6_goThrough := goodIn_r _ [10, 11, 12, 13, 5, 14, 15, 16, 17, 18, 19, 20, 21, 2, 22, 23, 24, 25, 26, 27, 28, 29, 30, 31, 32, 33, 34, 35, 36, 37, 38, 39, 40, 41, 42, 43, 44, 45] (by decide +kernel) (by decide +kernel)
set_option maxRecDepth 20000 in
theorem gX6_many_X6_goThrough : GoodIn wsX6_many (wsV RX6 187 RX6 yX6_goThrough wsX6_goThrough) := goodIn_app (goodIn_of _ (by decide +kernel)) ggX6_many_X6_goThrough
theorem dX6_many_0 : decode cX6_many 0 = .ok (.iload_n 1, 1) := by decide +kernel
theorem dX6_many_1 : decode cX6_many 1 = .ok (.i2l, 1) := by decide +kernel
theorem dX6_many_2 : decode cX6_many 2 = .ok (.lconst 1, 1) := by decide +kernel
theorem dX6_many_3 : decode cX6_many 3 = .ok (.ldc2_w 185, 3) := by decide +kernel
theorem dX6_many_6 : decode cX6_many 6 = .ok (.invokestatic 65, 3) := by decide +kernel
theorem dX6_many_9 : decode cX6_many 9 = .ok (.ifCond .eq 25, 3) := by decide +kernel
theorem dX6_many_12 : decode cX6_many 12 = .ok (.iload_n 2, 1) := by decide +kernel
theorem dX6_many_13 : decode cX6_many 13 = .ok (.i2l, 1) := by decide +kernel
theorem dX6_many_14 : decode cX6_many 14 = .ok (.lconst 0, 1) := by decide +kernel
theorem dX6_many_15 : decode cX6_many 15 = .ok (.ldc2_w 77, 3) := by decide +kernel
theorem dX6_many_18 : decode cX6_many 18 = .ok (.invokestatic 65, 3) := by decide +kernel
theorem dX6_many_21 : decode cX6_many 21 = .ok (.ifCond .eq 13, 3) := by decide +kernel
theorem dX6_many_24 : decode cX6_many 24 = .ok (.aload_n 0, 1) := by decide +kernel
theorem dX6_many_25 : decode cX6_many 25 = .ok (.iload_n 1, 1) := by decide +kernel
theorem dX6_many_26 : decode cX6_many 26 = .ok (.iload_n 2, 1) := by decide +kernel
theorem dX6_many_27 : decode cX6_many 27 = .ok (.iconst (-1), 1) := by decide +kernel
theorem dX6_many_28 : decode cX6_many 28 = .ok (.invokevirtual 187, 3) := by decide +kernel
theorem dX6_many_31 : decode cX6_many 31 = .ok (.goto 4, 3) := by decide +kernel
theorem dX6_many_34 : decode cX6_many 34 = .ok (.iconst (-1), 1) := by decide +kernel
theorem dX6_many_35 : decode cX6_many 35 = .ok (.ireturn, 1) := by decide +kernel
set_option maxRecDepth 20000 in
theorem ggX6_listed_X6_isRegister : GoodIn wsX6_listed wsX6_isRegister := goodIn_r _ [6, 7, 8, 9, 5, 10] (by decide +kernel) (by decide +kernel)
set_option maxRecDepth 20000 in
theorem gX6_listed_X6_isRegister : GoodIn wsX6_listed (va_wsS RX6 91 yX6_isRegister wsX6_isRegister) := goodIn_app (goodIn_of _ (by decide +kernel)) ggX6_listed_X6_isRegister
set_option maxRecDepth 20000 in
theorem ggX6_listed_X6_in : GoodIn wsX6_listed wsX6_in := goodIn_r _ [10] (by decide +kernel) (by decide +kernel)
set_option maxRecDepth 20000 in
theorem gX6_listed_X6_in : GoodIn wsX6_listed (va_wsS RX6 65 yX6_in wsX6_in) := goodIn_app (goodIn_of _ (by decide +kernel)) ggX6_listed_X6_in
set_option maxRecDepth 20000 in
theorem ggX6_listed_X6_goThrough : GoodIn wsX6_listed wsX6_goThrough := goodIn_r _ [14, 2, 15, 16, 5, 17, 18, 19, 20, 21, 22, 23, 24, 25, 26, 27, 28, 29, 30, 31, 37, 38, 39, 40, 41, 42, 43, 44, 45, 46, 47, 48, 49, 50, 51, 52, 53, 54] (by decide +kernel) (by decide +kernel)
set_option maxRecDepth 20000 in
theorem gX6_listed_X6_goThrough : GoodIn wsX6_listed (wsV RX6 187 RX6 yX6_goThrough wsX6_goThrough) := goodIn_app (goodIn_of _ (by decide +kernel)) ggX6_listed_X6_goThrough
set_option maxRecDepth 20000 in
theorem ggX6_listed_X6_store : GoodIn wsX6_listed wsX6_store := goodIn_r _ [35, 36, 37, 38, 39, 40, 41, 42, 43, 44, 45, 46, 47, 48, 49, 50, 51, 52, 53, 54] (by decide +kernel) (by decide +kernel)
set_option maxRecDepth 20000 in
theorem gX6_listed_X6_store : GoodIn wsX6_listed (wsV RX6 102 RX6 yX6_store wsX6_store) := goodIn_app (goodIn_of _ (by decide +kernel)) ggX6_listed_X6_store
theorem dX6_listed_0 : decode cX6_listed 0 = .ok (.iload_n 1, 1) := by decide +kernel
theorem dX6_listed_1 : decode cX6_listed 1 = .ok (.invokestatic 91, 3) := by decide +kernel
theorem dX6_listed_4 : decode cX6_listed 4 = .ok (.ifCond .eq 19, 3) := by decide +kernel
theorem dX6_listed_7 : decode cX6_listed 7 = .ok (.iload_n 2, 1) := by decide +kernel
theorem dX6_listed_8 : decode cX6_listed 8 = .ok (.i2l, 1) := by decide +kernel
theorem dX6_listed_9 : decode cX6_listed 9 = .ok (.lconst 1, 1) := by decide +kernel
theorem dX6_listed_10 : decode cX6_listed 10 = .ok (.ldc2_w 185, 3) := by decide +kernel
theorem dX6_listed_13 : decode cX6_listed 13 = .ok (.invokestatic 65, 3) := by decide +kernel
theorem dX6_listed_16 : decode cX6_listed 16 = .ok (.ifCond .eq 7, 3) := by decide +kernel
theorem dX6_listed_19 : decode cX6_listed 19 = .ok (.iload_n 3, 1) := by decide +kernel
theorem dX6_listed_20 : decode cX6_listed 20 = .ok (.ifCond .ge 5, 3) := by decide +kernel
theorem dX6_listed_23 : decode cX6_listed 23 = .ok (.iconst (-1), 1) := by decide +kernel
theorem dX6_listed_24 : decode cX6_listed 24 = .ok (.ireturn, 1) := by decide +kernel
theorem dX6_listed_25 : decode cX6_listed 25 = .ok (.aload_n 0, 1) := by decide +kernel
theorem dX6_listed_26 : decode cX6_listed 26 = .ok (.iload_n 2, 1) := by decide +kernel
theorem dX6_listed_27 : decode cX6_listed 27 = .ok (.iconst 0, 1) := by decide +kernel
theorem dX6_listed_28 : decode cX6_listed 28 = .ok (.iconst (-1), 1) := by decide +kernel
theorem dX6_listed_29 : decode cX6_listed 29 = .ok (.invokevirtual 187, 3) := by decide +kernel
theorem dX6_listed_32 : decode cX6_listed 32 = .ok (.istore 4, 2) := by decide +kernel
theorem dX6_listed_34 : decode cX6_listed 34 = .ok (.iload_n 3, 1) := by decide +kernel
theorem dX6_listed_35 : decode cX6_listed 35 = .ok (.iload 4, 2) := by decide +kernel
theorem dX6_listed_37 : decode cX6_listed 37 = .ok (.if_icmp .lt 6, 3) := by decide +kernel
theorem dX6_listed_40 : decode cX6_listed 40 = .ok (.bipush (-4), 2) := by decide +kernel
theorem dX6_listed_42 : decode cX6_listed 42 = .ok (.ireturn, 1) := by decide +kernel
theorem dX6_listed_43 : decode cX6_listed 43 = .ok (.aload_n 0, 1) := by decide +kernel
theorem dX6_listed_44 : decode cX6_listed 44 = .ok (.iload_n 2, 1) := by decide +kernel
theorem dX6_listed_45 : decode cX6_listed 45 = .ok (.iconst 0, 1) := by decide +kernel
theorem dX6_listed_46 : decode cX6_listed 46 = .ok (.iload_n 3, 1) := by decide +kernel
theorem dX6_listed_47 : decode cX6_listed 47 = .ok (.invokevirtual 187, 3) := by decide +kernel
theorem dX6_listed_50 : decode cX6_listed 50 = .ok (.istore 5, 2) := by decide +kernel
theorem dX6_listed_52 : decode cX6_listed 52 = .ok (.aload_n 0, 1) := by decide +kernel
theorem dX6_listed_53 : decode cX6_listed 53 = .ok (.iload_n 1, 1) := by decide +kernel
theorem dX6_listed_54 : decode cX6_listed 54 = .ok (.aload_n 0, 1) := by decide +kernel
theorem dX6_listed_55 : decode cX6_listed 55 = .ok (.getfield 32, 3) := by decide +kernel
theorem dX6_listed_58 : decode cX6_listed 58 = .ok (.invokevirtual 102, 3) := by decide +kernel
theorem dX6_listed_61 : decode cX6_listed 61 = .ok (.iconst 1, 1) := by decide +kernel
theorem dX6_listed_62 : decode cX6_listed 62 = .ok (.ireturn, 1) := by decide +kernel
set_option maxRecDepth 20000 in
theorem ggX6_entry_X6_load : GoodIn wsX6_entry wsX6_load := goodIn_r _ [9, 1, 10, 11, 12, 13, 14, 15, 16, 17, 18, 19, 20, 21, 22, 23, 24, 25, 26, 27] (by decide +kernel) (by decide +kernel)
set_option maxRecDepth 20000 in
theorem gX6_entry_X6_load : GoodIn wsX6_entry (wsV RX6 122 RX6 yX6_load wsX6_load) := goodIn_app (goodIn_of _ (by decide +kernel)) ggX6_entry_X6_load
theorem dX6_entry_0 : decode cX6_entry 0 = .ok (.aload_n 0, 1) := by decide +kernel
theorem dX6_entry_1 : decode cX6_entry 1 = .ok (.getfield 20, 3) := by decide +kernel
theorem dX6_entry_4 : decode cX6_entry 4 = .ok (.iconst 4, 1) := by decide +kernel
theorem dX6_entry_5 : decode cX6_entry 5 = .ok (.iload_n 1, 1) := by decide +kernel
theorem dX6_entry_6 : decode cX6_entry 6 = .ok (.imul, 1) := by decide +kernel
theorem dX6_entry_7 : decode cX6_entry 7 = .ok (.iaload, 1) := by decide +kernel
theorem dX6_entry_8 : decode cX6_entry 8 = .ok (.i2l, 1) := by decide +kernel
theorem dX6_entry_9 : decode cX6_entry 9 = .ok (.lstore 4, 2) := by decide +kernel
theorem dX6_entry_11 : decode cX6_entry 11 = .ok (.aload_n 0, 1) := by decide +kernel
theorem dX6_entry_12 : decode cX6_entry 12 = .ok (.getfield 20, 3) := by decide +kernel
theorem dX6_entry_15 : decode cX6_entry 15 = .ok (.iconst 4, 1) := by decide +kernel
theorem dX6_entry_16 : decode cX6_entry 16 = .ok (.iload_n 1, 1) := by decide +kernel
theorem dX6_entry_17 : decode cX6_entry 17 = .ok (.imul, 1) := by decide +kernel
theorem dX6_entry_18 : decode cX6_entry 18 = .ok (.iconst 1, 1) := by decide +kernel
theorem dX6_entry_19 : decode cX6_entry 19 = .ok (.iadd, 1) := by decide +kernel
theorem dX6_entry_20 : decode cX6_entry 20 = .ok (.iload_n 2, 1) := by decide +kernel
theorem dX6_entry_21 : decode cX6_entry 21 = .ok (.iadd, 1) := by decide +kernel
theorem dX6_entry_22 : decode cX6_entry 22 = .ok (.iaload, 1) := by decide +kernel
theorem dX6_entry_23 : decode cX6_entry 23 = .ok (.i2l, 1) := by decide +kernel
theorem dX6_entry_24 : decode cX6_entry 24 = .ok (.lstore 6, 2) := by decide +kernel
theorem dX6_entry_26 : decode cX6_entry 26 = .ok (.aload_n 0, 1) := by decide +kernel
theorem dX6_entry_27 : decode cX6_entry 27 = .ok (.getfield 20, 3) := by decide +kernel
theorem dX6_entry_30 : decode cX6_entry 30 = .ok (.iconst 4, 1) := by decide +kernel
theorem dX6_entry_31 : decode cX6_entry 31 = .ok (.iload_n 1, 1) := by decide +kernel
theorem dX6_entry_32 : decode cX6_entry 32 = .ok (.imul, 1) := by decide +kernel
theorem dX6_entry_33 : decode cX6_entry 33 = .ok (.iconst 1, 1) := by decide +kernel
theorem dX6_entry_34 : decode cX6_entry 34 = .ok (.iadd, 1) := by decide +kernel
theorem dX6_entry_35 : decode cX6_entry 35 = .ok (.iload_n 3, 1) := by decide +kernel
theorem dX6_entry_36 : decode cX6_entry 36 = .ok (.iadd, 1) := by decide +kernel
theorem dX6_entry_37 : decode cX6_entry 37 = .ok (.iaload, 1) := by decide +kernel
theorem dX6_entry_38 : decode cX6_entry 38 = .ok (.i2l, 1) := by decide +kernel
theorem dX6_entry_39 : decode cX6_entry 39 = .ok (.lstore 8, 2) := by decide +kernel
theorem dX6_entry_41 : decode cX6_entry 41 = .ok (.iload_n 2, 1) := by decide +kernel
theorem dX6_entry_42 : decode cX6_entry 42 = .ok (.iload_n 3, 1) := by decide +kernel
theorem dX6_entry_43 : decode cX6_entry 43 = .ok (.if_icmp .ne 82, 3) := by decide +kernel
theorem dX6_entry_46 : decode cX6_entry 46 = .ok (.aload_n 0, 1) := by decide +kernel
theorem dX6_entry_47 : decode cX6_entry 47 = .ok (.aload_n 0, 1) := by decide +kernel
theorem dX6_entry_48 : decode cX6_entry 48 = .ok (.getfield 32, 3) := by decide +kernel
theorem dX6_entry_51 : decode cX6_entry 51 = .ok (.iload_n 1, 1) := by decide +kernel
theorem dX6_entry_52 : decode cX6_entry 52 = .ok (.invokevirtual 122, 3) := by decide +kernel
theorem dX6_entry_55 : decode cX6_entry 55 = .ok (.aload_n 0, 1) := by decide +kernel
theorem dX6_entry_56 : decode cX6_entry 56 = .ok (.getfield 32, 3) := by decide +kernel
theorem dX6_entry_59 : decode cX6_entry 59 = .ok (.iconst 0, 1) := by decide +kernel
theorem dX6_entry_60 : decode cX6_entry 60 = .ok (.laload, 1) := by decide +kernel
theorem dX6_entry_61 : decode cX6_entry 61 = .ok (.aload_n 0, 1) := by decide +kernel
theorem dX6_entry_62 : decode cX6_entry 62 = .ok (.getfield 32, 3) := by decide +kernel
theorem dX6_entry_65 : decode cX6_entry 65 = .ok (.iconst 0, 1) := by decide +kernel
theorem dX6_entry_66 : decode cX6_entry 66 = .ok (.laload, 1) := by decide +kernel
theorem dX6_entry_67 : decode cX6_entry 67 = .ok (.lmul, 1) := by decide +kernel
theorem dX6_entry_68 : decode cX6_entry 68 = .ok (.aload_n 0, 1) := by decide +kernel
theorem dX6_entry_69 : decode cX6_entry 69 = .ok (.getfield 32, 3) := by decide +kernel
theorem dX6_entry_72 : decode cX6_entry 72 = .ok (.iconst 1, 1) := by decide +kernel
theorem dX6_entry_73 : decode cX6_entry 73 = .ok (.laload, 1) := by decide +kernel
theorem dX6_entry_74 : decode cX6_entry 74 = .ok (.aload_n 0, 1) := by decide +kernel
theorem dX6_entry_75 : decode cX6_entry 75 = .ok (.getfield 32, 3) := by decide +kernel
theorem dX6_entry_78 : decode cX6_entry 78 = .ok (.iconst 1, 1) := by decide +kernel
theorem dX6_entry_79 : decode cX6_entry 79 = .ok (.laload, 1) := by decide +kernel
theorem dX6_entry_80 : decode cX6_entry 80 = .ok (.lmul, 1) := by decide +kernel
theorem dX6_entry_81 : decode cX6_entry 81 = .ok (.lsub, 1) := by decide +kernel
theorem dX6_entry_82 : decode cX6_entry 82 = .ok (.aload_n 0, 1) := by decide +kernel
theorem dX6_entry_83 : decode cX6_entry 83 = .ok (.getfield 32, 3) := by decide +kernel
theorem dX6_entry_86 : decode cX6_entry 86 = .ok (.iconst 2, 1) := by decide +kernel
theorem dX6_entry_87 : decode cX6_entry 87 = .ok (.laload, 1) := by decide +kernel
theorem dX6_entry_88 : decode cX6_entry 88 = .ok (.aload_n 0, 1) := by decide +kernel
theorem dX6_entry_89 : decode cX6_entry 89 = .ok (.getfield 32, 3) := by decide +kernel
theorem dX6_entry_92 : decode cX6_entry 92 = .ok (.iconst 2, 1) := by decide +kernel
theorem dX6_entry_93 : decode cX6_entry 93 = .ok (.laload, 1) := by decide +kernel
theorem dX6_entry_94 : decode cX6_entry 94 = .ok (.lmul, 1) := by decide +kernel
theorem dX6_entry_95 : decode cX6_entry 95 = .ok (.lsub, 1) := by decide +kernel
theorem dX6_entry_96 : decode cX6_entry 96 = .ok (.aload_n 0, 1) := by decide +kernel
theorem dX6_entry_97 : decode cX6_entry 97 = .ok (.getfield 32, 3) := by decide +kernel
theorem dX6_entry_100 : decode cX6_entry 100 = .ok (.iconst 3, 1) := by decide +kernel
theorem dX6_entry_101 : decode cX6_entry 101 = .ok (.laload, 1) := by decide +kernel
theorem dX6_entry_102 : decode cX6_entry 102 = .ok (.aload_n 0, 1) := by decide +kernel
theorem dX6_entry_103 : decode cX6_entry 103 = .ok (.getfield 32, 3) := by decide +kernel
theorem dX6_entry_106 : decode cX6_entry 106 = .ok (.iconst 3, 1) := by decide +kernel
theorem dX6_entry_107 : decode cX6_entry 107 = .ok (.laload, 1) := by decide +kernel
theorem dX6_entry_108 : decode cX6_entry 108 = .ok (.lmul, 1) := by decide +kernel
theorem dX6_entry_109 : decode cX6_entry 109 = .ok (.lsub, 1) := by decide +kernel
theorem dX6_entry_110 : decode cX6_entry 110 = .ok (.ldc2_w 77, 3) := by decide +kernel
theorem dX6_entry_113 : decode cX6_entry 113 = .ok (.lload 6, 2) := by decide +kernel
theorem dX6_entry_115 : decode cX6_entry 115 = .ok (.lmul, 1) := by decide +kernel
theorem dX6_entry_116 : decode cX6_entry 116 = .ok (.lload 6, 2) := by decide +kernel
theorem dX6_entry_118 : decode cX6_entry 118 = .ok (.lmul, 1) := by decide +kernel
theorem dX6_entry_119 : decode cX6_entry 119 = .ok (.ladd, 1) := by decide +kernel
theorem dX6_entry_120 : decode cX6_entry 120 = .ok (.ldc2_w 106, 3) := by decide +kernel
theorem dX6_entry_123 : decode cX6_entry 123 = .ok (.ldiv, 1) := by decide +kernel
theorem dX6_entry_124 : decode cX6_entry 124 = .ok (.lreturn, 1) := by decide +kernel
theorem dX6_entry_125 : decode cX6_entry 125 = .ok (.iconst 3, 1) := by decide +kernel
theorem dX6_entry_126 : decode cX6_entry 126 = .ok (.iload_n 2, 1) := by decide +kernel
theorem dX6_entry_127 : decode cX6_entry 127 = .ok (.isub, 1) := by decide +kernel
theorem dX6_entry_128 : decode cX6_entry 128 = .ok (.iload_n 3, 1) := by decide +kernel
theorem dX6_entry_129 : decode cX6_entry 129 = .ok (.isub, 1) := by decide +kernel
theorem dX6_entry_130 : decode cX6_entry 130 = .ok (.istore 10, 2) := by decide +kernel
theorem dX6_entry_132 : decode cX6_entry 132 = .ok (.aload_n 0, 1) := by decide +kernel
theorem dX6_entry_133 : decode cX6_entry 133 = .ok (.getfield 20, 3) := by decide +kernel
theorem dX6_entry_136 : decode cX6_entry 136 = .ok (.iconst 4, 1) := by decide +kernel
theorem dX6_entry_137 : decode cX6_entry 137 = .ok (.iload_n 1, 1) := by decide +kernel
theorem dX6_entry_138 : decode cX6_entry 138 = .ok (.imul, 1) := by decide +kernel
theorem dX6_entry_139 : decode cX6_entry 139 = .ok (.iconst 1, 1) := by decide +kernel
theorem dX6_entry_140 : decode cX6_entry 140 = .ok (.iadd, 1) := by decide +kernel
theorem dX6_entry_141 : decode cX6_entry 141 = .ok (.iload 10, 2) := by decide +kernel
theorem dX6_entry_143 : decode cX6_entry 143 = .ok (.iadd, 1) := by decide +kernel
theorem dX6_entry_144 : decode cX6_entry 144 = .ok (.iaload, 1) := by decide +kernel
theorem dX6_entry_145 : decode cX6_entry 145 = .ok (.i2l, 1) := by decide +kernel
theorem dX6_entry_146 : decode cX6_entry 146 = .ok (.lstore 11, 2) := by decide +kernel
theorem dX6_entry_148 : decode cX6_entry 148 = .ok (.iload_n 3, 1) := by decide +kernel
theorem dX6_entry_149 : decode cX6_entry 149 = .ok (.iload_n 2, 1) := by decide +kernel
theorem dX6_entry_150 : decode cX6_entry 150 = .ok (.iconst 1, 1) := by decide +kernel
theorem dX6_entry_151 : decode cX6_entry 151 = .ok (.iadd, 1) := by decide +kernel
theorem dX6_entry_152 : decode cX6_entry 152 = .ok (.iconst 3, 1) := by decide +kernel
theorem dX6_entry_153 : decode cX6_entry 153 = .ok (.irem, 1) := by decide +kernel
theorem dX6_entry_154 : decode cX6_entry 154 = .ok (.if_icmp .ne 7, 3) := by decide +kernel
theorem dX6_entry_157 : decode cX6_entry 157 = .ok (.iconst 1, 1) := by decide +kernel
theorem dX6_entry_158 : decode cX6_entry 158 = .ok (.goto 4, 3) := by decide +kernel
theorem dX6_entry_161 : decode cX6_entry 161 = .ok (.iconst 0, 1) := by decide +kernel
theorem dX6_entry_162 : decode cX6_entry 162 = .ok (.istore 13, 2) := by decide +kernel
theorem dX6_entry_164 : decode cX6_entry 164 = .ok (.lload 6, 2) := by decide +kernel
theorem dX6_entry_166 : decode cX6_entry 166 = .ok (.lload 8, 2) := by decide +kernel
theorem dX6_entry_168 : decode cX6_entry 168 = .ok (.lmul, 1) := by decide +kernel
theorem dX6_entry_169 : decode cX6_entry 169 = .ok (.iload 13, 2) := by decide +kernel
theorem dX6_entry_171 : decode cX6_entry 171 = .ok (.ifCond .eq 12, 3) := by decide +kernel
theorem dX6_entry_174 : decode cX6_entry 174 = .ok (.lload 4, 2) := by decide +kernel
theorem dX6_entry_176 : decode cX6_entry 176 = .ok (.lneg, 1) := by decide +kernel
theorem dX6_entry_177 : decode cX6_entry 177 = .ok (.lload 11, 2) := by decide +kernel
theorem dX6_entry_179 : decode cX6_entry 179 = .ok (.lmul, 1) := by decide +kernel
theorem dX6_entry_180 : decode cX6_entry 180 = .ok (.goto 8, 3) := by decide +kernel
theorem dX6_entry_183 : decode cX6_entry 183 = .ok (.lload 4, 2) := by decide +kernel
theorem dX6_entry_185 : decode cX6_entry 185 = .ok (.lload 11, 2) := by decide +kernel
theorem dX6_entry_187 : decode cX6_entry 187 = .ok (.lmul, 1) := by decide +kernel
theorem dX6_entry_188 : decode cX6_entry 188 = .ok (.ladd, 1) := by decide +kernel
theorem dX6_entry_189 : decode cX6_entry 189 = .ok (.ldc2_w 77, 3) := by decide +kernel
theorem dX6_entry_192 : decode cX6_entry 192 = .ok (.ldiv, 1) := by decide +kernel
theorem dX6_entry_193 : decode cX6_entry 193 = .ok (.lreturn, 1) := by decide +kernel
set_option maxRecDepth 20000 in
theorem ggX6_turn_X6_isRegister : GoodIn wsX6_turn wsX6_isRegister := goodIn_r _ [8, 9, 10, 11, 7, 12] (by decide +kernel) (by decide +kernel)
set_option maxRecDepth 20000 in
theorem gX6_turn_X6_isRegister : GoodIn wsX6_turn (va_wsS RX6 91 yX6_isRegister wsX6_isRegister) := goodIn_app (goodIn_of _ (by decide +kernel)) ggX6_turn_X6_isRegister
set_option maxRecDepth 20000 in
theorem ggX6_turn_X6_in : GoodIn wsX6_turn wsX6_in := goodIn_r _ [12] (by decide +kernel) (by decide +kernel)
set_option maxRecDepth 20000 in
theorem gX6_turn_X6_in : GoodIn wsX6_turn (va_wsS RX6 65 yX6_in wsX6_in) := goodIn_app (goodIn_of _ (by decide +kernel)) ggX6_turn_X6_in
set_option maxRecDepth 20000 in
theorem ggX6_turn_X6_load : GoodIn wsX6_turn wsX6_load := goodIn_r _ [16, 17, 26, 27, 28, 29, 30, 31, 32, 33, 34, 35, 36, 37, 38, 39, 40, 41, 42, 43] (by decide +kernel) (by decide +kernel)
set_option maxRecDepth 20000 in
theorem gX6_turn_X6_load : GoodIn wsX6_turn (wsV RX6 122 RX6 yX6_load wsX6_load) := goodIn_app (goodIn_of _ (by decide +kernel)) ggX6_turn_X6_load
set_option maxRecDepth 20000 in
theorem ggX6_turn_X6_isNull : GoodIn wsX6_turn wsX6_isNull := goodIn_r _ [20] (by decide +kernel) (by decide +kernel)
set_option maxRecDepth 20000 in
theorem gX6_turn_X6_isNull : GoodIn wsX6_turn (va_wsS RX6 112 yX6_isNull wsX6_isNull) := goodIn_app (goodIn_of _ (by decide +kernel)) ggX6_turn_X6_isNull
set_option maxRecDepth 20000 in
theorem ggX6_turn_X6_entry : GoodIn wsX6_turn wsX6_entry := goodIn_r _ [24, 17, 3, 1, 25, 13, 14, 15, 7, 16, 26, 27, 28, 29, 30, 31, 32, 33, 34, 35, 36, 37, 38, 39, 40, 41, 42, 43] (by decide +kernel) (by decide +kernel)
set_option maxRecDepth 20000 in
theorem gX6_turn_X6_entry : GoodIn wsX6_turn (wsV RX6 192 RX6 yX6_entry wsX6_entry) := goodIn_app (goodIn_of _ (by decide +kernel)) ggX6_turn_X6_entry
theorem dX6_turn_0 : decode cX6_turn 0 = .ok (.iload_n 1, 1) := by decide +kernel
theorem dX6_turn_1 : decode cX6_turn 1 = .ok (.invokestatic 91, 3) := by decide +kernel
theorem dX6_turn_4 : decode cX6_turn 4 = .ok (.ifCond .eq 27, 3) := by decide +kernel
theorem dX6_turn_7 : decode cX6_turn 7 = .ok (.iload_n 2, 1) := by decide +kernel
theorem dX6_turn_8 : decode cX6_turn 8 = .ok (.i2l, 1) := by decide +kernel
theorem dX6_turn_9 : decode cX6_turn 9 = .ok (.lconst 0, 1) := by decide +kernel
theorem dX6_turn_10 : decode cX6_turn 10 = .ok (.ldc2_w 77, 3) := by decide +kernel
theorem dX6_turn_13 : decode cX6_turn 13 = .ok (.invokestatic 65, 3) := by decide +kernel
theorem dX6_turn_16 : decode cX6_turn 16 = .ok (.ifCond .eq 15, 3) := by decide +kernel
theorem dX6_turn_19 : decode cX6_turn 19 = .ok (.iload_n 3, 1) := by decide +kernel
theorem dX6_turn_20 : decode cX6_turn 20 = .ok (.i2l, 1) := by decide +kernel
theorem dX6_turn_21 : decode cX6_turn 21 = .ok (.lconst 0, 1) := by decide +kernel
theorem dX6_turn_22 : decode cX6_turn 22 = .ok (.ldc2_w 77, 3) := by decide +kernel
theorem dX6_turn_25 : decode cX6_turn 25 = .ok (.invokestatic 65, 3) := by decide +kernel
theorem dX6_turn_28 : decode cX6_turn 28 = .ok (.ifCond .ne 6, 3) := by decide +kernel
theorem dX6_turn_31 : decode cX6_turn 31 = .ok (.ldc 190, 2) := by decide +kernel
theorem dX6_turn_33 : decode cX6_turn 33 = .ok (.ireturn, 1) := by decide +kernel
theorem dX6_turn_34 : decode cX6_turn 34 = .ok (.aload_n 0, 1) := by decide +kernel
theorem dX6_turn_35 : decode cX6_turn 35 = .ok (.aload_n 0, 1) := by decide +kernel
theorem dX6_turn_36 : decode cX6_turn 36 = .ok (.getfield 32, 3) := by decide +kernel
theorem dX6_turn_39 : decode cX6_turn 39 = .ok (.iload_n 1, 1) := by decide +kernel
theorem dX6_turn_40 : decode cX6_turn 40 = .ok (.invokevirtual 122, 3) := by decide +kernel
theorem dX6_turn_43 : decode cX6_turn 43 = .ok (.aload_n 0, 1) := by decide +kernel
theorem dX6_turn_44 : decode cX6_turn 44 = .ok (.getfield 32, 3) := by decide +kernel
theorem dX6_turn_47 : decode cX6_turn 47 = .ok (.invokestatic 112, 3) := by decide +kernel
theorem dX6_turn_50 : decode cX6_turn 50 = .ok (.ifCond .eq 8, 3) := by decide +kernel
theorem dX6_turn_53 : decode cX6_turn 53 = .ok (.ldc 191, 2) := by decide +kernel
theorem dX6_turn_55 : decode cX6_turn 55 = .ok (.goto 11, 3) := by decide +kernel
theorem dX6_turn_58 : decode cX6_turn 58 = .ok (.aload_n 0, 1) := by decide +kernel
theorem dX6_turn_59 : decode cX6_turn 59 = .ok (.iload_n 1, 1) := by decide +kernel
theorem dX6_turn_60 : decode cX6_turn 60 = .ok (.iload_n 2, 1) := by decide +kernel
theorem dX6_turn_61 : decode cX6_turn 61 = .ok (.iload_n 3, 1) := by decide +kernel
theorem dX6_turn_62 : decode cX6_turn 62 = .ok (.invokevirtual 192, 3) := by decide +kernel
theorem dX6_turn_65 : decode cX6_turn 65 = .ok (.l2i, 1) := by decide +kernel
theorem dX6_turn_66 : decode cX6_turn 66 = .ok (.ireturn, 1) := by decide +kernel
set_option maxRecDepth 20000 in
theorem ggX6_turned_X6_isRegister : GoodIn wsX6_turned wsX6_isRegister := goodIn_r _ [8, 9, 10, 11, 7, 12] (by decide +kernel) (by decide +kernel)
set_option maxRecDepth 20000 in
theorem gX6_turned_X6_isRegister : GoodIn wsX6_turned (va_wsS RX6 91 yX6_isRegister wsX6_isRegister) := goodIn_app (goodIn_of _ (by decide +kernel)) ggX6_turned_X6_isRegister
set_option maxRecDepth 20000 in
theorem ggX6_turned_X6_in : GoodIn wsX6_turned wsX6_in := goodIn_r _ [12] (by decide +kernel) (by decide +kernel)
set_option maxRecDepth 20000 in
theorem gX6_turned_X6_in : GoodIn wsX6_turned (va_wsS RX6 65 yX6_in wsX6_in) := goodIn_app (goodIn_of _ (by decide +kernel)) ggX6_turned_X6_in
set_option maxRecDepth 20000 in
theorem ggX6_turned_X6_entry : GoodIn wsX6_turned wsX6_entry := goodIn_r _ [16, 17, 18, 3, 19, 20, 21, 22, 7, 23, 24, 25, 26, 27, 28, 29, 30, 31, 32, 33, 34, 35, 36, 37, 38, 39, 40, 41] (by decide +kernel) (by decide +kernel)
set_option maxRecDepth 20000 in
theorem gX6_turned_X6_entry : GoodIn wsX6_turned (wsV RX6 192 RX6 yX6_entry wsX6_entry) := goodIn_app (goodIn_of _ (by decide +kernel)) ggX6_turned_X6_entry
theorem dX6_turned_0 : decode cX6_turned 0 = .ok (.iload_n 1, 1) := by decide +kernel
theorem dX6_turned_1 : decode cX6_turned 1 = .ok (.invokestatic 91, 3) := by decide +kernel
theorem dX6_turned_4 : decode cX6_turned 4 = .ok (.ifCond .eq 59, 3) := by decide +kernel
theorem dX6_turned_7 : decode cX6_turned 7 = .ok (.iload_n 2, 1) := by decide +kernel
theorem dX6_turned_8 : decode cX6_turned 8 = .ok (.i2l, 1) := by decide +kernel
theorem dX6_turned_9 : decode cX6_turned 9 = .ok (.ldc2_w 196, 3) := by decide +kernel
theorem dX6_turned_12 : decode cX6_turned 12 = .ok (.ldc2_w 198, 3) := by decide +kernel
theorem dX6_turned_15 : decode cX6_turned 15 = .ok (.invokestatic 65, 3) := by decide +kernel
theorem dX6_turned_18 : decode cX6_turned 18 = .ok (.ifCond .eq 45, 3) := by decide +kernel
theorem dX6_turned_21 : decode cX6_turned 21 = .ok (.iload_n 3, 1) := by decide +kernel
theorem dX6_turned_22 : decode cX6_turned 22 = .ok (.i2l, 1) := by decide +kernel
theorem dX6_turned_23 : decode cX6_turned 23 = .ok (.ldc2_w 196, 3) := by decide +kernel
theorem dX6_turned_26 : decode cX6_turned 26 = .ok (.ldc2_w 198, 3) := by decide +kernel
theorem dX6_turned_29 : decode cX6_turned 29 = .ok (.invokestatic 65, 3) := by decide +kernel
theorem dX6_turned_32 : decode cX6_turned 32 = .ok (.ifCond .eq 31, 3) := by decide +kernel
theorem dX6_turned_35 : decode cX6_turned 35 = .ok (.iload 4, 2) := by decide +kernel
theorem dX6_turned_37 : decode cX6_turned 37 = .ok (.i2l, 1) := by decide +kernel
theorem dX6_turned_38 : decode cX6_turned 38 = .ok (.ldc2_w 196, 3) := by decide +kernel
theorem dX6_turned_41 : decode cX6_turned 41 = .ok (.ldc2_w 198, 3) := by decide +kernel
theorem dX6_turned_44 : decode cX6_turned 44 = .ok (.invokestatic 65, 3) := by decide +kernel
theorem dX6_turned_47 : decode cX6_turned 47 = .ok (.ifCond .eq 16, 3) := by decide +kernel
theorem dX6_turned_50 : decode cX6_turned 50 = .ok (.iload 5, 2) := by decide +kernel
theorem dX6_turned_52 : decode cX6_turned 52 = .ok (.i2l, 1) := by decide +kernel
theorem dX6_turned_53 : decode cX6_turned 53 = .ok (.lconst 0, 1) := by decide +kernel
theorem dX6_turned_54 : decode cX6_turned 54 = .ok (.ldc2_w 77, 3) := by decide +kernel
theorem dX6_turned_57 : decode cX6_turned 57 = .ok (.invokestatic 65, 3) := by decide +kernel
theorem dX6_turned_60 : decode cX6_turned 60 = .ok (.ifCond .ne 7, 3) := by decide +kernel
theorem dX6_turned_63 : decode cX6_turned 63 = .ok (.ldc2_w 75, 3) := by decide +kernel
theorem dX6_turned_66 : decode cX6_turned 66 = .ok (.lreturn, 1) := by decide +kernel
theorem dX6_turned_67 : decode cX6_turned 67 = .ok (.aload_n 0, 1) := by decide +kernel
theorem dX6_turned_68 : decode cX6_turned 68 = .ok (.iload_n 1, 1) := by decide +kernel
theorem dX6_turned_69 : decode cX6_turned 69 = .ok (.iload 5, 2) := by decide +kernel
theorem dX6_turned_71 : decode cX6_turned 71 = .ok (.iconst 0, 1) := by decide +kernel
theorem dX6_turned_72 : decode cX6_turned 72 = .ok (.invokevirtual 192, 3) := by decide +kernel
theorem dX6_turned_75 : decode cX6_turned 75 = .ok (.iload_n 2, 1) := by decide +kernel
theorem dX6_turned_76 : decode cX6_turned 76 = .ok (.i2l, 1) := by decide +kernel
theorem dX6_turned_77 : decode cX6_turned 77 = .ok (.lmul, 1) := by decide +kernel
theorem dX6_turned_78 : decode cX6_turned 78 = .ok (.aload_n 0, 1) := by decide +kernel
theorem dX6_turned_79 : decode cX6_turned 79 = .ok (.iload_n 1, 1) := by decide +kernel
theorem dX6_turned_80 : decode cX6_turned 80 = .ok (.iload 5, 2) := by decide +kernel
theorem dX6_turned_82 : decode cX6_turned 82 = .ok (.iconst 1, 1) := by decide +kernel
theorem dX6_turned_83 : decode cX6_turned 83 = .ok (.invokevirtual 192, 3) := by decide +kernel
theorem dX6_turned_86 : decode cX6_turned 86 = .ok (.iload_n 3, 1) := by decide +kernel
theorem dX6_turned_87 : decode cX6_turned 87 = .ok (.i2l, 1) := by decide +kernel
theorem dX6_turned_88 : decode cX6_turned 88 = .ok (.lmul, 1) := by decide +kernel
theorem dX6_turned_89 : decode cX6_turned 89 = .ok (.ladd, 1) := by decide +kernel
theorem dX6_turned_90 : decode cX6_turned 90 = .ok (.aload_n 0, 1) := by decide +kernel
theorem dX6_turned_91 : decode cX6_turned 91 = .ok (.iload_n 1, 1) := by decide +kernel
theorem dX6_turned_92 : decode cX6_turned 92 = .ok (.iload 5, 2) := by decide +kernel
theorem dX6_turned_94 : decode cX6_turned 94 = .ok (.iconst 2, 1) := by decide +kernel
theorem dX6_turned_95 : decode cX6_turned 95 = .ok (.invokevirtual 192, 3) := by decide +kernel
theorem dX6_turned_98 : decode cX6_turned 98 = .ok (.iload 4, 2) := by decide +kernel
theorem dX6_turned_100 : decode cX6_turned 100 = .ok (.i2l, 1) := by decide +kernel
theorem dX6_turned_101 : decode cX6_turned 101 = .ok (.lmul, 1) := by decide +kernel
theorem dX6_turned_102 : decode cX6_turned 102 = .ok (.ladd, 1) := by decide +kernel
theorem dX6_turned_103 : decode cX6_turned 103 = .ok (.lreturn, 1) := by decide +kernel
