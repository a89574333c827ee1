set_option maxRecDepth 20000 in
theorem ggX6_init_X6_isOne : GoodIn wsX6_init wsX6_isOne := goodIn_r _ [25] (by decide +kernel) (by decide +kernel)
set_option maxRecDepth 20000 in
theorem gX6_init_X6_isOne : GoodIn wsX6_init (va_wsS RX6 59 yX6_isOne wsX6_isOne) := goodIn_app (goodIn_of _ (by decide +kernel)) ggX6_init_X6_isOne
theorem dX6_init_0 : decode cX6_init 0 = .ok (.aload_n 0, 1) := by decide +kernel
theorem dX6_init_1 : decode cX6_init 1 = .ok (.invokespecial 1, 3) := by decide +kernel
theorem dX6_init_4 : decode cX6_init 4 = .ok (.aload_n 0, 1) := by decide +kernel
theorem dX6_init_5 : decode cX6_init 5 = .ok (.bipush 6, 2) := by decide +kernel
theorem dX6_init_7 : decode cX6_init 7 = .ok (.newarray .int, 2) := by decide +kernel
theorem dX6_init_9 : decode cX6_init 9 = .ok (.putfield 7, 3) := by decide +kernel
theorem dX6_init_12 : decode cX6_init 12 = .ok (.aload_n 0, 1) := by decide +kernel
theorem dX6_init_13 : decode cX6_init 13 = .ok (.bipush 6, 2) := by decide +kernel
theorem dX6_init_15 : decode cX6_init 15 = .ok (.newarray .int, 2) := by decide +kernel
theorem dX6_init_17 : decode cX6_init 17 = .ok (.putfield 13, 3) := by decide +kernel
theorem dX6_init_20 : decode cX6_init 20 = .ok (.aload_n 0, 1) := by decide +kernel
theorem dX6_init_21 : decode cX6_init 21 = .ok (.bipush 96, 2) := by decide +kernel
theorem dX6_init_23 : decode cX6_init 23 = .ok (.newarray .long, 2) := by decide +kernel
theorem dX6_init_25 : decode cX6_init 25 = .ok (.putfield 16, 3) := by decide +kernel
theorem dX6_init_28 : decode cX6_init 28 = .ok (.aload_n 0, 1) := by decide +kernel
theorem dX6_init_29 : decode cX6_init 29 = .ok (.bipush 64, 2) := by decide +kernel
theorem dX6_init_31 : decode cX6_init 31 = .ok (.newarray .int, 2) := by decide +kernel
theorem dX6_init_33 : decode cX6_init 33 = .ok (.putfield 20, 3) := by decide +kernel
theorem dX6_init_36 : decode cX6_init 36 = .ok (.aload_n 0, 1) := by decide +kernel
theorem dX6_init_37 : decode cX6_init 37 = .ok (.bipush 96, 2) := by decide +kernel
theorem dX6_init_39 : decode cX6_init 39 = .ok (.newarray .int, 2) := by decide +kernel
theorem dX6_init_41 : decode cX6_init 41 = .ok (.putfield 23, 3) := by decide +kernel
theorem dX6_init_44 : decode cX6_init 44 = .ok (.aload_n 0, 1) := by decide +kernel
theorem dX6_init_45 : decode cX6_init 45 = .ok (.bipush 48, 2) := by decide +kernel
theorem dX6_init_47 : decode cX6_init 47 = .ok (.newarray .long, 2) := by decide +kernel
theorem dX6_init_49 : decode cX6_init 49 = .ok (.putfield 26, 3) := by decide +kernel
theorem dX6_init_52 : decode cX6_init 52 = .ok (.aload_n 0, 1) := by decide +kernel
theorem dX6_init_53 : decode cX6_init 53 = .ok (.bipush 16, 2) := by decide +kernel
theorem dX6_init_55 : decode cX6_init 55 = .ok (.newarray .long, 2) := by decide +kernel
theorem dX6_init_57 : decode cX6_init 57 = .ok (.putfield 29, 3) := by decide +kernel
theorem dX6_init_60 : decode cX6_init 60 = .ok (.aload_n 0, 1) := by decide +kernel
theorem dX6_init_61 : decode cX6_init 61 = .ok (.iconst 4, 1) := by decide +kernel
theorem dX6_init_62 : decode cX6_init 62 = .ok (.newarray .long, 2) := by decide +kernel
theorem dX6_init_64 : decode cX6_init 64 = .ok (.putfield 32, 3) := by decide +kernel
theorem dX6_init_67 : decode cX6_init 67 = .ok (.aload_n 0, 1) := by decide +kernel
theorem dX6_init_68 : decode cX6_init 68 = .ok (.iconst 4, 1) := by decide +kernel
theorem dX6_init_69 : decode cX6_init 69 = .ok (.newarray .long, 2) := by decide +kernel
theorem dX6_init_71 : decode cX6_init 71 = .ok (.putfield 35, 3) := by decide +kernel
theorem dX6_init_74 : decode cX6_init 74 = .ok (.aload_n 0, 1) := by decide +kernel
theorem dX6_init_75 : decode cX6_init 75 = .ok (.iconst 4, 1) := by decide +kernel
theorem dX6_init_76 : decode cX6_init 76 = .ok (.newarray .long, 2) := by decide +kernel
theorem dX6_init_78 : decode cX6_init 78 = .ok (.putfield 38, 3) := by decide +kernel
theorem dX6_init_81 : decode cX6_init 81 = .ok (.aload_n 0, 1) := by decide +kernel
theorem dX6_init_82 : decode cX6_init 82 = .ok (.iconst 4, 1) := by decide +kernel
theorem dX6_init_83 : decode cX6_init 83 = .ok (.newarray .long, 2) := by decide +kernel
theorem dX6_init_85 : decode cX6_init 85 = .ok (.putfield 41, 3) := by decide +kernel
theorem dX6_init_88 : decode cX6_init 88 = .ok (.aload_n 0, 1) := by decide +kernel
theorem dX6_init_89 : decode cX6_init 89 = .ok (.iconst 4, 1) := by decide +kernel
theorem dX6_init_90 : decode cX6_init 90 = .ok (.newarray .long, 2) := by decide +kernel
theorem dX6_init_92 : decode cX6_init 92 = .ok (.putfield 44, 3) := by decide +kernel
theorem dX6_init_95 : decode cX6_init 95 = .ok (.aload_n 0, 1) := by decide +kernel
theorem dX6_init_96 : decode cX6_init 96 = .ok (.iconst 4, 1) := by decide +kernel
theorem dX6_init_97 : decode cX6_init 97 = .ok (.newarray .long, 2) := by decide +kernel
theorem dX6_init_99 : decode cX6_init 99 = .ok (.putfield 47, 3) := by decide +kernel
theorem dX6_init_102 : decode cX6_init 102 = .ok (.aload_n 0, 1) := by decide +kernel
theorem dX6_init_103 : decode cX6_init 103 = .ok (.iconst 4, 1) := by decide +kernel
theorem dX6_init_104 : decode cX6_init 104 = .ok (.newarray .long, 2) := by decide +kernel
theorem dX6_init_106 : decode cX6_init 106 = .ok (.putfield 50, 3) := by decide +kernel
theorem dX6_init_109 : decode cX6_init 109 = .ok (.aload_n 0, 1) := by decide +kernel
theorem dX6_init_110 : decode cX6_init 110 = .ok (.iconst 4, 1) := by decide +kernel
theorem dX6_init_111 : decode cX6_init 111 = .ok (.newarray .long, 2) := by decide +kernel
theorem dX6_init_113 : decode cX6_init 113 = .ok (.putfield 53, 3) := by decide +kernel
theorem dX6_init_116 : decode cX6_init 116 = .ok (.aload_n 0, 1) := by decide +kernel
theorem dX6_init_117 : decode cX6_init 117 = .ok (.iconst 4, 1) := by decide +kernel
theorem dX6_init_118 : decode cX6_init 118 = .ok (.newarray .long, 2) := by decide +kernel
theorem dX6_init_120 : decode cX6_init 120 = .ok (.putfield 56, 3) := by decide +kernel
theorem dX6_init_123 : decode cX6_init 123 = .ok (.iconst 0, 1) := by decide +kernel
theorem dX6_init_124 : decode cX6_init 124 = .ok (.istore_n 1, 1) := by decide +kernel
theorem dX6_init_125 : decode cX6_init 125 = .ok (.iload_n 1, 1) := by decide +kernel
theorem dX6_init_126 : decode cX6_init 126 = .ok (.bipush 6, 2) := by decide +kernel
theorem dX6_init_128 : decode cX6_init 128 = .ok (.if_icmp .ge 16, 3) := by decide +kernel
theorem dX6_init_131 : decode cX6_init 131 = .ok (.aload_n 0, 1) := by decide +kernel
theorem dX6_init_132 : decode cX6_init 132 = .ok (.getfield 7, 3) := by decide +kernel
theorem dX6_init_135 : decode cX6_init 135 = .ok (.iload_n 1, 1) := by decide +kernel
theorem dX6_init_136 : decode cX6_init 136 = .ok (.iconst (-1), 1) := by decide +kernel
theorem dX6_init_137 : decode cX6_init 137 = .ok (.iastore, 1) := by decide +kernel
theorem dX6_init_138 : decode cX6_init 138 = .ok (.iinc 1 1, 3) := by decide +kernel
theorem dX6_init_141 : decode cX6_init 141 = .ok (.goto (-16), 3) := by decide +kernel
theorem dX6_init_144 : decode cX6_init 144 = .ok (.iconst 0, 1) := by decide +kernel
theorem dX6_init_145 : decode cX6_init 145 = .ok (.istore_n 1, 1) := by decide +kernel
theorem dX6_init_146 : decode cX6_init 146 = .ok (.iconst 2, 1) := by decide +kernel
theorem dX6_init_147 : decode cX6_init 147 = .ok (.istore_n 2, 1) := by decide +kernel
theorem dX6_init_148 : decode cX6_init 148 = .ok (.iload_n 2, 1) := by decide +kernel
theorem dX6_init_149 : decode cX6_init 149 = .ok (.bipush (-2), 2) := by decide +kernel
theorem dX6_init_151 : decode cX6_init 151 = .ok (.if_icmp .lt 133, 3) := by decide +kernel
theorem dX6_init_154 : decode cX6_init 154 = .ok (.iconst 2, 1) := by decide +kernel
theorem dX6_init_155 : decode cX6_init 155 = .ok (.istore_n 3, 1) := by decide +kernel
theorem dX6_init_156 : decode cX6_init 156 = .ok (.iload_n 3, 1) := by decide +kernel
theorem dX6_init_157 : decode cX6_init 157 = .ok (.bipush (-2), 2) := by decide +kernel
theorem dX6_init_159 : decode cX6_init 159 = .ok (.if_icmp .lt 119, 3) := by decide +kernel
theorem dX6_init_162 : decode cX6_init 162 = .ok (.iconst 2, 1) := by decide +kernel
theorem dX6_init_163 : decode cX6_init 163 = .ok (.istore 4, 2) := by decide +kernel
theorem dX6_init_165 : decode cX6_init 165 = .ok (.iload 4, 2) := by decide +kernel
theorem dX6_init_167 : decode cX6_init 167 = .ok (.bipush (-2), 2) := by decide +kernel
theorem dX6_init_169 : decode cX6_init 169 = .ok (.if_icmp .lt 103, 3) := by decide +kernel
theorem dX6_init_172 : decode cX6_init 172 = .ok (.iconst 2, 1) := by decide +kernel
theorem dX6_init_173 : decode cX6_init 173 = .ok (.istore 5, 2) := by decide +kernel
theorem dX6_init_175 : decode cX6_init 175 = .ok (.iload 5, 2) := by decide +kernel
theorem dX6_init_177 : decode cX6_init 177 = .ok (.bipush (-2), 2) := by decide +kernel
theorem dX6_init_179 : decode cX6_init 179 = .ok (.if_icmp .lt 87, 3) := by decide +kernel
theorem dX6_init_182 : decode cX6_init 182 = .ok (.iload_n 2, 1) := by decide +kernel
theorem dX6_init_183 : decode cX6_init 183 = .ok (.iload_n 2, 1) := by decide +kernel
theorem dX6_init_184 : decode cX6_init 184 = .ok (.imul, 1) := by decide +kernel
theorem dX6_init_185 : decode cX6_init 185 = .ok (.iload_n 3, 1) := by decide +kernel
theorem dX6_init_186 : decode cX6_init 186 = .ok (.iload_n 3, 1) := by decide +kernel
theorem dX6_init_187 : decode cX6_init 187 = .ok (.imul, 1) := by decide +kernel
theorem dX6_init_188 : decode cX6_init 188 = .ok (.iadd, 1) := by decide +kernel
theorem dX6_init_189 : decode cX6_init 189 = .ok (.iload 4, 2) := by decide +kernel
theorem dX6_init_191 : decode cX6_init 191 = .ok (.iload 4, 2) := by decide +kernel
theorem dX6_init_193 : decode cX6_init 193 = .ok (.imul, 1) := by decide +kernel
theorem dX6_init_194 : decode cX6_init 194 = .ok (.iadd, 1) := by decide +kernel
theorem dX6_init_195 : decode cX6_init 195 = .ok (.iload 5, 2) := by decide +kernel
theorem dX6_init_197 : decode cX6_init 197 = .ok (.iload 5, 2) := by decide +kernel
theorem dX6_init_199 : decode cX6_init 199 = .ok (.imul, 1) := by decide +kernel
theorem dX6_init_200 : decode cX6_init 200 = .ok (.iadd, 1) := by decide +kernel
theorem dX6_init_201 : decode cX6_init 201 = .ok (.iconst 4, 1) := by decide +kernel
theorem dX6_init_202 : decode cX6_init 202 = .ok (.if_icmp .ne 58, 3) := by decide +kernel
theorem dX6_init_205 : decode cX6_init 205 = .ok (.iload_n 2, 1) := by decide +kernel
theorem dX6_init_206 : decode cX6_init 206 = .ok (.i2l, 1) := by decide +kernel
theorem dX6_init_207 : decode cX6_init 207 = .ok (.iload_n 3, 1) := by decide +kernel
theorem dX6_init_208 : decode cX6_init 208 = .ok (.i2l, 1) := by decide +kernel
theorem dX6_init_209 : decode cX6_init 209 = .ok (.iload 4, 2) := by decide +kernel
theorem dX6_init_211 : decode cX6_init 211 = .ok (.i2l, 1) := by decide +kernel
theorem dX6_init_212 : decode cX6_init 212 = .ok (.iload 5, 2) := by decide +kernel
theorem dX6_init_214 : decode cX6_init 214 = .ok (.i2l, 1) := by decide +kernel
theorem dX6_init_215 : decode cX6_init 215 = .ok (.invokestatic 59, 3) := by decide +kernel
theorem dX6_init_218 : decode cX6_init 218 = .ok (.ifCond .eq 42, 3) := by decide +kernel
theorem dX6_init_221 : decode cX6_init 221 = .ok (.aload_n 0, 1) := by decide +kernel
theorem dX6_init_222 : decode cX6_init 222 = .ok (.getfield 23, 3) := by decide +kernel
theorem dX6_init_225 : decode cX6_init 225 = .ok (.iload_n 1, 1) := by decide +kernel
theorem dX6_init_226 : decode cX6_init 226 = .ok (.iload_n 2, 1) := by decide +kernel
theorem dX6_init_227 : decode cX6_init 227 = .ok (.iastore, 1) := by decide +kernel
theorem dX6_init_228 : decode cX6_init 228 = .ok (.aload_n 0, 1) := by decide +kernel
theorem dX6_init_229 : decode cX6_init 229 = .ok (.getfield 23, 3) := by decide +kernel
theorem dX6_init_232 : decode cX6_init 232 = .ok (.iload_n 1, 1) := by decide +kernel
theorem dX6_init_233 : decode cX6_init 233 = .ok (.iconst 1, 1) := by decide +kernel
theorem dX6_init_234 : decode cX6_init 234 = .ok (.iadd, 1) := by decide +kernel
theorem dX6_init_235 : decode cX6_init 235 = .ok (.iload_n 3, 1) := by decide +kernel
theorem dX6_init_236 : decode cX6_init 236 = .ok (.iastore, 1) := by decide +kernel
theorem dX6_init_237 : decode cX6_init 237 = .ok (.aload_n 0, 1) := by decide +kernel
theorem dX6_init_238 : decode cX6_init 238 = .ok (.getfield 23, 3) := by decide +kernel
theorem dX6_init_241 : decode cX6_init 241 = .ok (.iload_n 1, 1) := by decide +kernel
theorem dX6_init_242 : decode cX6_init 242 = .ok (.iconst 2, 1) := by decide +kernel
theorem dX6_init_243 : decode cX6_init 243 = .ok (.iadd, 1) := by decide +kernel
theorem dX6_init_244 : decode cX6_init 244 = .ok (.iload 4, 2) := by decide +kernel
theorem dX6_init_246 : decode cX6_init 246 = .ok (.iastore, 1) := by decide +kernel
theorem dX6_init_247 : decode cX6_init 247 = .ok (.aload_n 0, 1) := by decide +kernel
theorem dX6_init_248 : decode cX6_init 248 = .ok (.getfield 23, 3) := by decide +kernel
theorem dX6_init_251 : decode cX6_init 251 = .ok (.iload_n 1, 1) := by decide +kernel
theorem dX6_init_252 : decode cX6_init 252 = .ok (.iconst 3, 1) := by decide +kernel
theorem dX6_init_253 : decode cX6_init 253 = .ok (.iadd, 1) := by decide +kernel
theorem dX6_init_254 : decode cX6_init 254 = .ok (.iload 5, 2) := by decide +kernel
theorem dX6_init_256 : decode cX6_init 256 = .ok (.iastore, 1) := by decide +kernel
theorem dX6_init_257 : decode cX6_init 257 = .ok (.iinc 1 4, 3) := by decide +kernel
theorem dX6_init_260 : decode cX6_init 260 = .ok (.iinc 5 (-1), 3) := by decide +kernel
theorem dX6_init_263 : decode cX6_init 263 = .ok (.goto (-88), 3) := by decide +kernel
theorem dX6_init_266 : decode cX6_init 266 = .ok (.iinc 4 (-1), 3) := by decide +kernel
theorem dX6_init_269 : decode cX6_init 269 = .ok (.goto (-104), 3) := by decide +kernel
theorem dX6_init_272 : decode cX6_init 272 = .ok (.iinc 3 (-1), 3) := by decide +kernel
theorem dX6_init_275 : decode cX6_init 275 = .ok (.goto (-119), 3) := by decide +kernel
theorem dX6_init_278 : decode cX6_init 278 = .ok (.iinc 2 (-1), 3) := by decide +kernel
theorem dX6_init_281 : decode cX6_init 281 = .ok (.goto (-133), 3) := by decide +kernel
theorem dX6_init_284 : decode cX6_init 284 = .ok (.return_, 1) := by decide +kernel
theorem dX6_isOne_0 : decode cX6_isOne 0 = .ok (.lload_n 0, 1) := by decide +kernel
theorem dX6_isOne_1 : decode cX6_isOne 1 = .ok (.lconst 1, 1) := by decide +kernel
theorem dX6_isOne_2 : decode cX6_isOne 2 = .ok (.land, 1) := by decide +kernel
theorem dX6_isOne_3 : decode cX6_isOne 3 = .ok (.lstore 8, 2) := by decide +kernel
theorem dX6_isOne_5 : decode cX6_isOne 5 = .ok (.lload_n 2, 1) := by decide +kernel
theorem dX6_isOne_6 : decode cX6_isOne 6 = .ok (.lconst 1, 1) := by decide +kernel
theorem dX6_isOne_7 : decode cX6_isOne 7 = .ok (.land, 1) := by decide +kernel
theorem dX6_isOne_8 : decode cX6_isOne 8 = .ok (.lload 8, 2) := by decide +kernel
theorem dX6_isOne_10 : decode cX6_isOne 10 = .ok (.lcmp, 1) := by decide +kernel
theorem dX6_isOne_11 : decode cX6_isOne 11 = .ok (.ifCond .ne 27, 3) := by decide +kernel
theorem dX6_isOne_14 : decode cX6_isOne 14 = .ok (.lload 4, 2) := by decide +kernel
theorem dX6_isOne_16 : decode cX6_isOne 16 = .ok (.lconst 1, 1) := by decide +kernel
theorem dX6_isOne_17 : decode cX6_isOne 17 = .ok (.land, 1) := by decide +kernel
theorem dX6_isOne_18 : decode cX6_isOne 18 = .ok (.lload 8, 2) := by decide +kernel
theorem dX6_isOne_20 : decode cX6_isOne 20 = .ok (.lcmp, 1) := by decide +kernel
theorem dX6_isOne_21 : decode cX6_isOne 21 = .ok (.ifCond .ne 17, 3) := by decide +kernel
theorem dX6_isOne_24 : decode cX6_isOne 24 = .ok (.lload 6, 2) := by decide +kernel
theorem dX6_isOne_26 : decode cX6_isOne 26 = .ok (.lconst 1, 1) := by decide +kernel
theorem dX6_isOne_27 : decode cX6_isOne 27 = .ok (.land, 1) := by decide +kernel
theorem dX6_isOne_28 : decode cX6_isOne 28 = .ok (.lload 8, 2) := by decide +kernel
theorem dX6_isOne_30 : decode cX6_isOne 30 = .ok (.lcmp, 1) := by decide +kernel
theorem dX6_isOne_31 : decode cX6_isOne 31 = .ok (.ifCond .ne 7, 3) := by decide +kernel
theorem dX6_isOne_34 : decode cX6_isOne 34 = .ok (.iconst 1, 1) := by decide +kernel
theorem dX6_isOne_35 : decode cX6_isOne 35 = .ok (.goto 4, 3) := by decide +kernel
theorem dX6_isOne_38 : decode cX6_isOne 38 = .ok (.iconst 0, 1) := by decide +kernel
theorem dX6_isOne_39 : decode cX6_isOne 39 = .ok (.ireturn, 1) := by decide +kernel
theorem dX6_in_0 : decode cX6_in 0 = .ok (.lload_n 0, 1) := by decide +kernel
theorem dX6_in_1 : decode cX6_in 1 = .ok (.lload_n 2, 1) := by decide +kernel
theorem dX6_in_2 : decode cX6_in 2 = .ok (.lcmp, 1) := by decide +kernel
theorem dX6_in_3 : decode cX6_in 3 = .ok (.ifCond .lt 14, 3) := by decide +kernel
theorem dX6_in_6 : decode cX6_in 6 = .ok (.lload_n 0, 1) := by decide +kernel
theorem dX6_in_7 : decode cX6_in 7 = .ok (.lload 4, 2) := by decide +kernel
theorem dX6_in_9 : decode cX6_in 9 = .ok (.lcmp, 1) := by decide +kernel
theorem dX6_in_10 : decode cX6_in 10 = .ok (.ifCond .gt 7, 3) := by decide +kernel
theorem dX6_in_13 : decode cX6_in 13 = .ok (.iconst 1, 1) := by decide +kernel
theorem dX6_in_14 : decode cX6_in 14 = .ok (.goto 4, 3) := by decide +kernel
theorem dX6_in_17 : decode cX6_in 17 = .ok (.iconst 0, 1) := by decide +kernel
theorem dX6_in_18 : decode cX6_in 18 = .ok (.ireturn, 1) := by decide +kernel
set_option maxRecDepth 20000 in
theorem ggX6_isSheet_X6_in : GoodIn wsX6_isSheet wsX6_in := goodIn_r _ [5] (by decide +kernel) (by decide +kernel)
set_option maxRecDepth 20000 in
theorem gX6_isSheet_X6_in : GoodIn wsX6_isSheet (va_wsS RX6 65 yX6_in wsX6_in) := goodIn_app (goodIn_of _ (by decide +kernel)) ggX6_isSheet_X6_in
theorem dX6_isSheet_0 : decode cX6_isSheet 0 = .ok (.iload_n 0, 1) := by decide +kernel
theorem dX6_isSheet_1 : decode cX6_isSheet 1 = .ok (.i2l, 1) := by decide +kernel
theorem dX6_isSheet_2 : decode cX6_isSheet 2 = .ok (.lconst 0, 1) := by decide +kernel
theorem dX6_isSheet_3 : decode cX6_isSheet 3 = .ok (.ldc2_w 63, 3) := by decide +kernel
theorem dX6_isSheet_6 : decode cX6_isSheet 6 = .ok (.invokestatic 65, 3) := by decide +kernel
theorem dX6_isSheet_9 : decode cX6_isSheet 9 = .ok (.ireturn, 1) := by decide +kernel
set_option maxRecDepth 20000 in
theorem ggX6_isRegister_X6_in : GoodIn wsX6_isRegister wsX6_in := goodIn_r _ [5] (by decide +kernel) (by decide +kernel)
set_option maxRecDepth 20000 in
theorem gX6_isRegister_X6_in : GoodIn wsX6_isRegister (va_wsS RX6 65 yX6_in wsX6_in) := goodIn_app (goodIn_of _ (by decide +kernel)) ggX6_isRegister_X6_in
theorem dX6_isRegister_0 : decode cX6_isRegister 0 = .ok (.iload_n 0, 1) := by decide +kernel
theorem dX6_isRegister_1 : decode cX6_isRegister 1 = .ok (.i2l, 1) := by decide +kernel
theorem dX6_isRegister_2 : decode cX6_isRegister 2 = .ok (.lconst 0, 1) := by decide +kernel
theorem dX6_isRegister_3 : decode cX6_isRegister 3 = .ok (.ldc2_w 69, 3) := by decide +kernel
theorem dX6_isRegister_6 : decode cX6_isRegister 6 = .ok (.invokestatic 65, 3) := by decide +kernel
theorem dX6_isRegister_9 : decode cX6_isRegister 9 = .ok (.ireturn, 1) := by decide +kernel
set_option maxRecDepth 20000 in
theorem ggX6_sheet_X6_isSheet : GoodIn wsX6_sheet wsX6_isSheet := goodIn_r _ [9, 10, 11, 12, 8, 13] (by decide +kernel) (by decide +kernel)
set_option maxRecDepth 20000 in
theorem gX6_sheet_X6_isSheet : GoodIn wsX6_sheet (va_wsS RX6 71 yX6_isSheet wsX6_isSheet) := goodIn_app (goodIn_of _ (by decide +kernel)) ggX6_sheet_X6_isSheet
set_option maxRecDepth 20000 in
theorem ggX6_sheet_X6_in : GoodIn wsX6_sheet wsX6_in := goodIn_r _ [13] (by decide +kernel) (by decide +kernel)
set_option maxRecDepth 20000 in
theorem gX6_sheet_X6_in : GoodIn wsX6_sheet (va_wsS RX6 65 yX6_in wsX6_in) := goodIn_app (goodIn_of _ (by decide +kernel)) ggX6_sheet_X6_in
theorem dX6_sheet_0 : decode cX6_sheet 0 = .ok (.iload_n 1, 1) := by decide +kernel
theorem dX6_sheet_1 : decode cX6_sheet 1 = .ok (.invokestatic 71, 3) := by decide +kernel
theorem dX6_sheet_4 : decode cX6_sheet 4 = .ok (.ifCond .eq 27, 3) := by decide +kernel
theorem dX6_sheet_7 : decode cX6_sheet 7 = .ok (.iload_n 2, 1) := by decide +kernel
theorem dX6_sheet_8 : decode cX6_sheet 8 = .ok (.i2l, 1) := by decide +kernel
theorem dX6_sheet_9 : decode cX6_sheet 9 = .ok (.ldc2_w 75, 3) := by decide +kernel
theorem dX6_sheet_12 : decode cX6_sheet 12 = .ok (.ldc2_w 77, 3) := by decide +kernel
theorem dX6_sheet_15 : decode cX6_sheet 15 = .ok (.invokestatic 65, 3) := by decide +kernel
theorem dX6_sheet_18 : decode cX6_sheet 18 = .ok (.ifCond .eq 13, 3) := by decide +kernel
theorem dX6_sheet_21 : decode cX6_sheet 21 = .ok (.iload_n 2, 1) := by decide +kernel
theorem dX6_sheet_22 : decode cX6_sheet 22 = .ok (.ifCond .lt 11, 3) := by decide +kernel
theorem dX6_sheet_25 : decode cX6_sheet 25 = .ok (.iload_n 3, 1) := by decide +kernel
theorem dX6_sheet_26 : decode cX6_sheet 26 = .ok (.bipush 16, 2) := by decide +kernel
theorem dX6_sheet_28 : decode cX6_sheet 28 = .ok (.if_icmp .le 5, 3) := by decide +kernel
theorem dX6_sheet_31 : decode cX6_sheet 31 = .ok (.iconst (-1), 1) := by decide +kernel
theorem dX6_sheet_32 : decode cX6_sheet 32 = .ok (.ireturn, 1) := by decide +kernel
theorem dX6_sheet_33 : decode cX6_sheet 33 = .ok (.iload_n 2, 1) := by decide +kernel
theorem dX6_sheet_34 : decode cX6_sheet 34 = .ok (.ifCond .lt 10, 3) := by decide +kernel
theorem dX6_sheet_37 : decode cX6_sheet 37 = .ok (.iload_n 3, 1) := by decide +kernel
theorem dX6_sheet_38 : decode cX6_sheet 38 = .ok (.ifCond .ge 6, 3) := by decide +kernel
theorem dX6_sheet_41 : decode cX6_sheet 41 = .ok (.bipush (-13), 2) := by decide +kernel
theorem dX6_sheet_43 : decode cX6_sheet 43 = .ok (.ireturn, 1) := by decide +kernel
theorem dX6_sheet_44 : decode cX6_sheet 44 = .ok (.aload_n 0, 1) := by decide +kernel
theorem dX6_sheet_45 : decode cX6_sheet 45 = .ok (.getfield 7, 3) := by decide +kernel
theorem dX6_sheet_48 : decode cX6_sheet 48 = .ok (.iload_n 1, 1) := by decide +kernel
theorem dX6_sheet_49 : decode cX6_sheet 49 = .ok (.iload_n 2, 1) := by decide +kernel
theorem dX6_sheet_50 : decode cX6_sheet 50 = .ok (.iastore, 1) := by decide +kernel
theorem dX6_sheet_51 : decode cX6_sheet 51 = .ok (.aload_n 0, 1) := by decide +kernel
theorem dX6_sheet_52 : decode cX6_sheet 52 = .ok (.getfield 13, 3) := by decide +kernel
theorem dX6_sheet_55 : decode cX6_sheet 55 = .ok (.iload_n 1, 1) := by decide +kernel
theorem dX6_sheet_56 : decode cX6_sheet 56 = .ok (.iload_n 2, 1) := by decide +kernel
theorem dX6_sheet_57 : decode cX6_sheet 57 = .ok (.ifCond .ge 7, 3) := by decide +kernel
theorem dX6_sheet_60 : decode cX6_sheet 60 = .ok (.iconst 0, 1) := by decide +kernel
theorem dX6_sheet_61 : decode cX6_sheet 61 = .ok (.goto 4, 3) := by decide +kernel
theorem dX6_sheet_64 : decode cX6_sheet 64 = .ok (.iload_n 3, 1) := by decide +kernel
theorem dX6_sheet_65 : decode cX6_sheet 65 = .ok (.iastore, 1) := by decide +kernel
theorem dX6_sheet_66 : decode cX6_sheet 66 = .ok (.iconst 0, 1) := by decide +kernel
theorem dX6_sheet_67 : decode cX6_sheet 67 = .ok (.istore 4, 2) := by decide +kernel
theorem dX6_sheet_69 : decode cX6_sheet 69 = .ok (.iload 4, 2) := by decide +kernel
theorem dX6_sheet_71 : decode cX6_sheet 71 = .ok (.bipush 16, 2) := by decide +kernel
theorem dX6_sheet_73 : decode cX6_sheet 73 = .ok (.if_icmp .ge 22, 3) := by decide +kernel
theorem dX6_sheet_76 : decode cX6_sheet 76 = .ok (.aload_n 0, 1) := by decide +kernel
theorem dX6_sheet_77 : decode cX6_sheet 77 = .ok (.getfield 16, 3) := by decide +kernel
theorem dX6_sheet_80 : decode cX6_sheet 80 = .ok (.bipush 16, 2) := by decide +kernel
theorem dX6_sheet_82 : decode cX6_sheet 82 = .ok (.iload_n 1, 1) := by decide +kernel
theorem dX6_sheet_83 : decode cX6_sheet 83 = .ok (.imul, 1) := by decide +kernel
theorem dX6_sheet_84 : decode cX6_sheet 84 = .ok (.iload 4, 2) := by decide +kernel
theorem dX6_sheet_86 : decode cX6_sheet 86 = .ok (.iadd, 1) := by decide +kernel
theorem dX6_sheet_87 : decode cX6_sheet 87 = .ok (.lconst 0, 1) := by decide +kernel
theorem dX6_sheet_88 : decode cX6_sheet 88 = .ok (.lastore, 1) := by decide +kernel
theorem dX6_sheet_89 : decode cX6_sheet 89 = .ok (.iinc 4 1, 3) := by decide +kernel
theorem dX6_sheet_92 : decode cX6_sheet 92 = .ok (.goto (-23), 3) := by decide +kernel
theorem dX6_sheet_95 : decode cX6_sheet 95 = .ok (.iconst 0, 1) := by decide +kernel
theorem dX6_sheet_96 : decode cX6_sheet 96 = .ok (.ireturn, 1) := by decide +kernel
theorem dX6_cut_0 : decode cX6_cut 0 = .ok (.aload_n 0, 1) := by decide +kernel
theorem dX6_cut_1 : decode cX6_cut 1 = .ok (.getfield 7, 3) := by decide +kernel
theorem dX6_cut_4 : decode cX6_cut 4 = .ok (.iload_n 1, 1) := by decide +kernel
theorem dX6_cut_5 : decode cX6_cut 5 = .ok (.iaload, 1) := by decide +kernel
theorem dX6_cut_6 : decode cX6_cut 6 = .ok (.ifCond .ne 10, 3) := by decide +kernel
theorem dX6_cut_9 : decode cX6_cut 9 = .ok (.lload_n 2, 1) := by decide +kernel
theorem dX6_cut_10 : decode cX6_cut 10 = .ok (.l2i, 1) := by decide +kernel
theorem dX6_cut_11 : decode cX6_cut 11 = .ok (.i2b, 1) := by decide +kernel
theorem dX6_cut_12 : decode cX6_cut 12 = .ok (.i2l, 1) := by decide +kernel
theorem dX6_cut_13 : decode cX6_cut 13 = .ok (.goto 20, 3) := by decide +kernel
theorem dX6_cut_16 : decode cX6_cut 16 = .ok (.aload_n 0, 1) := by decide +kernel
theorem dX6_cut_17 : decode cX6_cut 17 = .ok (.getfield 7, 3) := by decide +kernel
theorem dX6_cut_20 : decode cX6_cut 20 = .ok (.iload_n 1, 1) := by decide +kernel
theorem dX6_cut_21 : decode cX6_cut 21 = .ok (.iaload, 1) := by decide +kernel
theorem dX6_cut_22 : decode cX6_cut 22 = .ok (.iconst 1, 1) := by decide +kernel
theorem dX6_cut_23 : decode cX6_cut 23 = .ok (.if_icmp .ne 9, 3) := by decide +kernel
theorem dX6_cut_26 : decode cX6_cut 26 = .ok (.lload_n 2, 1) := by decide +kernel
theorem dX6_cut_27 : decode cX6_cut 27 = .ok (.l2i, 1) := by decide +kernel
theorem dX6_cut_28 : decode cX6_cut 28 = .ok (.i2l, 1) := by decide +kernel
theorem dX6_cut_29 : decode cX6_cut 29 = .ok (.goto 4, 3) := by decide +kernel
theorem dX6_cut_32 : decode cX6_cut 32 = .ok (.lload_n 2, 1) := by decide +kernel
theorem dX6_cut_33 : decode cX6_cut 33 = .ok (.lreturn, 1) := by decide +kernel
theorem dX6_against_0 : decode cX6_against 0 = .ok (.aload_n 0, 1) := by decide +kernel
theorem dX6_against_1 : decode cX6_against 1 = .ok (.getfield 7, 3) := by decide +kernel
theorem dX6_against_4 : decode cX6_against 4 = .ok (.iload_n 1, 1) := by decide +kernel
theorem dX6_against_5 : decode cX6_against 5 = .ok (.iaload, 1) := by decide +kernel
theorem dX6_against_6 : decode cX6_against 6 = .ok (.ifCond .ge 8, 3) := by decide +kernel
theorem dX6_against_9 : decode cX6_against 9 = .ok (.bipush (-11), 2) := by decide +kernel
theorem dX6_against_11 : decode cX6_against 11 = .ok (.goto 29, 3) := by decide +kernel
theorem dX6_against_14 : decode cX6_against 14 = .ok (.iload_n 2, 1) := by decide +kernel
theorem dX6_against_15 : decode cX6_against 15 = .ok (.ifCond .lt 19, 3) := by decide +kernel
theorem dX6_against_18 : decode cX6_against 18 = .ok (.iload_n 2, 1) := by decide +kernel
theorem dX6_against_19 : decode cX6_against 19 = .ok (.i2l, 1) := by decide +kernel
theorem dX6_against_20 : decode cX6_against 20 = .ok (.iload_n 3, 1) := by decide +kernel
theorem dX6_against_21 : decode cX6_against 21 = .ok (.i2l, 1) := by decide +kernel
theorem dX6_against_22 : decode cX6_against 22 = .ok (.ladd, 1) := by decide +kernel
theorem dX6_against_23 : decode cX6_against 23 = .ok (.aload_n 0, 1) := by decide +kernel
theorem dX6_against_24 : decode cX6_against 24 = .ok (.getfield 13, 3) := by decide +kernel
theorem dX6_against_27 : decode cX6_against 27 = .ok (.iload_n 1, 1) := by decide +kernel
theorem dX6_against_28 : decode cX6_against 28 = .ok (.iaload, 1) := by decide +kernel
theorem dX6_against_29 : decode cX6_against 29 = .ok (.i2l, 1) := by decide +kernel
theorem dX6_against_30 : decode cX6_against 30 = .ok (.lcmp, 1) := by decide +kernel
theorem dX6_against_31 : decode cX6_against 31 = .ok (.ifCond .le 8, 3) := by decide +kernel
theorem dX6_against_34 : decode cX6_against 34 = .ok (.bipush (-12), 2) := by decide +kernel
theorem dX6_against_36 : decode cX6_against 36 = .ok (.goto 4, 3) := by decide +kernel
theorem dX6_against_39 : decode cX6_against 39 = .ok (.iconst 0, 1) := by decide +kernel
theorem dX6_against_40 : decode cX6_against 40 = .ok (.ireturn, 1) := by decide +kernel
set_option maxRecDepth 20000 in
theorem ggX6_put_X6_isSheet : GoodIn wsX6_put wsX6_isSheet := goodIn_r _ [5, 6, 7, 8, 4, 9] (by decide +kernel) (by decide +kernel)
set_option maxRecDepth 20000 in
theorem gX6_put_X6_isSheet : GoodIn wsX6_put (va_wsS RX6 71 yX6_isSheet wsX6_isSheet) := goodIn_app (goodIn_of _ (by decide +kernel)) ggX6_put_X6_isSheet
set_option maxRecDepth 20000 in
theorem ggX6_put_X6_against : GoodIn wsX6_put wsX6_against := goodIn_r _ [13, 14, 15, 20, 21, 22, 23, 24, 25, 26, 27, 28, 29, 30, 31, 32, 33, 34, 35, 36, 37] (by decide +kernel) (by decide +kernel)
set_option maxRecDepth 20000 in
theorem gX6_put_X6_against : GoodIn wsX6_put (wsV RX6 79 RX6 yX6_against wsX6_against) := goodIn_app (goodIn_of _ (by decide +kernel)) ggX6_put_X6_against
set_option maxRecDepth 20000 in
theorem ggX6_put_X6_cut : GoodIn wsX6_put wsX6_cut := goodIn_r _ [19, 14, 20, 21, 22, 23, 24, 25, 26, 27, 28, 29, 30, 31, 32, 33, 34, 35, 36, 37] (by decide +kernel) (by decide +kernel)
set_option maxRecDepth 20000 in
theorem gX6_put_X6_cut : GoodIn wsX6_put (wsV RX6 83 RX6 yX6_cut wsX6_cut) := goodIn_app (goodIn_of _ (by decide +kernel)) ggX6_put_X6_cut
theorem dX6_put_0 : decode cX6_put 0 = .ok (.iload_n 1, 1) := by decide +kernel
theorem dX6_put_1 : decode cX6_put 1 = .ok (.invokestatic 71, 3) := by decide +kernel
theorem dX6_put_4 : decode cX6_put 4 = .ok (.ifCond .ne 5, 3) := by decide +kernel
theorem dX6_put_7 : decode cX6_put 7 = .ok (.iconst (-1), 1) := by decide +kernel
theorem dX6_put_8 : decode cX6_put 8 = .ok (.ireturn, 1) := by decide +kernel
theorem dX6_put_9 : decode cX6_put 9 = .ok (.aload_n 0, 1) := by decide +kernel
theorem dX6_put_10 : decode cX6_put 10 = .ok (.iload_n 1, 1) := by decide +kernel
theorem dX6_put_11 : decode cX6_put 11 = .ok (.iload_n 2, 1) := by decide +kernel
theorem dX6_put_12 : decode cX6_put 12 = .ok (.iconst 1, 1) := by decide +kernel
theorem dX6_put_13 : decode cX6_put 13 = .ok (.invokevirtual 79, 3) := by decide +kernel
theorem dX6_put_16 : decode cX6_put 16 = .ok (.istore 5, 2) := by decide +kernel
theorem dX6_put_18 : decode cX6_put 18 = .ok (.iload 5, 2) := by decide +kernel
theorem dX6_put_20 : decode cX6_put 20 = .ok (.ifCond .ne 20, 3) := by decide +kernel
theorem dX6_put_23 : decode cX6_put 23 = .ok (.aload_n 0, 1) := by decide +kernel
theorem dX6_put_24 : decode cX6_put 24 = .ok (.getfield 16, 3) := by decide +kernel
theorem dX6_put_27 : decode cX6_put 27 = .ok (.bipush 16, 2) := by decide +kernel
theorem dX6_put_29 : decode cX6_put 29 = .ok (.iload_n 1, 1) := by decide +kernel
theorem dX6_put_30 : decode cX6_put 30 = .ok (.imul, 1) := by decide +kernel
theorem dX6_put_31 : decode cX6_put 31 = .ok (.iload_n 2, 1) := by decide +kernel
theorem dX6_put_32 : decode cX6_put 32 = .ok (.iadd, 1) := by decide +kernel
theorem dX6_put_33 : decode cX6_put 33 = .ok (.aload_n 0, 1) := by decide +kernel
theorem dX6_put_34 : decode cX6_put 34 = .ok (.iload_n 1, 1) := by decide +kernel
theorem dX6_put_35 : decode cX6_put 35 = .ok (.lload_n 3, 1) := by decide +kernel
theorem dX6_put_36 : decode cX6_put 36 = .ok (.invokevirtual 83, 3) := by decide +kernel
theorem dX6_put_39 : decode cX6_put 39 = .ok (.lastore, 1) := by decide +kernel
theorem dX6_put_40 : decode cX6_put 40 = .ok (.iload 5, 2) := by decide +kernel
theorem dX6_put_42 : decode cX6_put 42 = .ok (.ireturn, 1) := by decide +kernel
set_option maxRecDepth 20000 in
theorem ggX6_copy_X6_isSheet : GoodIn wsX6_copy wsX6_isSheet := goodIn_r _ [7, 8, 9, 10, 6, 11] (by decide +kernel) (by decide +kernel)
set_option maxRecDepth 20000 in
theorem gX6_copy_X6_isSheet : GoodIn wsX6_copy (va_wsS RX6 71 yX6_isSheet wsX6_isSheet) := goodIn_app (goodIn_of _ (by decide +kernel)) ggX6_copy_X6_isSheet
set_option maxRecDepth 20000 in
theorem ggX6_copy_X6_against : GoodIn wsX6_copy wsX6_against := goodIn_r _ [15, 1, 16, 17, 18, 19, 20, 21, 22, 23, 24, 25, 26, 27, 28, 29, 30, 31, 32, 33, 34] (by decide +kernel) (by decide +kernel)
set_option maxRecDepth 20000 in
theorem gX6_copy_X6_against : GoodIn wsX6_copy (wsV RX6 79 RX6 yX6_against wsX6_against) := goodIn_app (goodIn_of _ (by decide +kernel)) ggX6_copy_X6_against
theorem dX6_copy_0 : decode cX6_copy 0 = .ok (.iload_n 1, 1) := by decide +kernel
theorem dX6_copy_1 : decode cX6_copy 1 = .ok (.invokestatic 71, 3) := by decide +kernel
theorem dX6_copy_4 : decode cX6_copy 4 = .ok (.ifCond .eq 10, 3) := by decide +kernel
theorem dX6_copy_7 : decode cX6_copy 7 = .ok (.iload_n 3, 1) := by decide +kernel
theorem dX6_copy_8 : decode cX6_copy 8 = .ok (.invokestatic 71, 3) := by decide +kernel
theorem dX6_copy_11 : decode cX6_copy 11 = .ok (.ifCond .ne 5, 3) := by decide +kernel
theorem dX6_copy_14 : decode cX6_copy 14 = .ok (.iconst (-1), 1) := by decide +kernel
theorem dX6_copy_15 : decode cX6_copy 15 = .ok (.ireturn, 1) := by decide +kernel
theorem dX6_copy_16 : decode cX6_copy 16 = .ok (.aload_n 0, 1) := by decide +kernel
theorem dX6_copy_17 : decode cX6_copy 17 = .ok (.getfield 7, 3) := by decide +kernel
theorem dX6_copy_20 : decode cX6_copy 20 = .ok (.iload_n 1, 1) := by decide +kernel
theorem dX6_copy_21 : decode cX6_copy 21 = .ok (.iaload, 1) := by decide +kernel
theorem dX6_copy_22 : decode cX6_copy 22 = .ok (.ifCond .lt 12, 3) := by decide +kernel
theorem dX6_copy_25 : decode cX6_copy 25 = .ok (.aload_n 0, 1) := by decide +kernel
theorem dX6_copy_26 : decode cX6_copy 26 = .ok (.getfield 7, 3) := by decide +kernel
theorem dX6_copy_29 : decode cX6_copy 29 = .ok (.iload_n 3, 1) := by decide +kernel
theorem dX6_copy_30 : decode cX6_copy 30 = .ok (.iaload, 1) := by decide +kernel
theorem dX6_copy_31 : decode cX6_copy 31 = .ok (.ifCond .ge 6, 3) := by decide +kernel
theorem dX6_copy_34 : decode cX6_copy 34 = .ok (.bipush (-11), 2) := by decide +kernel
theorem dX6_copy_36 : decode cX6_copy 36 = .ok (.ireturn, 1) := by decide +kernel
theorem dX6_copy_37 : decode cX6_copy 37 = .ok (.aload_n 0, 1) := by decide +kernel
theorem dX6_copy_38 : decode cX6_copy 38 = .ok (.getfield 7, 3) := by decide +kernel
theorem dX6_copy_41 : decode cX6_copy 41 = .ok (.iload_n 1, 1) := by decide +kernel
theorem dX6_copy_42 : decode cX6_copy 42 = .ok (.iaload, 1) := by decide +kernel
theorem dX6_copy_43 : decode cX6_copy 43 = .ok (.aload_n 0, 1) := by decide +kernel
theorem dX6_copy_44 : decode cX6_copy 44 = .ok (.getfield 7, 3) := by decide +kernel
theorem dX6_copy_47 : decode cX6_copy 47 = .ok (.iload_n 3, 1) := by decide +kernel
theorem dX6_copy_48 : decode cX6_copy 48 = .ok (.iaload, 1) := by decide +kernel
theorem dX6_copy_49 : decode cX6_copy 49 = .ok (.if_icmp .eq 6, 3) := by decide +kernel
theorem dX6_copy_52 : decode cX6_copy 52 = .ok (.bipush (-14), 2) := by decide +kernel
theorem dX6_copy_54 : decode cX6_copy 54 = .ok (.ireturn, 1) := by decide +kernel
theorem dX6_copy_55 : decode cX6_copy 55 = .ok (.iload 5, 2) := by decide +kernel
theorem dX6_copy_57 : decode cX6_copy 57 = .ok (.ifCond .lt 26, 3) := by decide +kernel
theorem dX6_copy_60 : decode cX6_copy 60 = .ok (.aload_n 0, 1) := by decide +kernel
theorem dX6_copy_61 : decode cX6_copy 61 = .ok (.iload_n 1, 1) := by decide +kernel
theorem dX6_copy_62 : decode cX6_copy 62 = .ok (.iload_n 2, 1) := by decide +kernel
theorem dX6_copy_63 : decode cX6_copy 63 = .ok (.iload 5, 2) := by decide +kernel
theorem dX6_copy_65 : decode cX6_copy 65 = .ok (.invokevirtual 79, 3) := by decide +kernel
theorem dX6_copy_68 : decode cX6_copy 68 = .ok (.ifCond .ne 15, 3) := by decide +kernel
theorem dX6_copy_71 : decode cX6_copy 71 = .ok (.aload_n 0, 1) := by decide +kernel
theorem dX6_copy_72 : decode cX6_copy 72 = .ok (.iload_n 3, 1) := by decide +kernel
theorem dX6_copy_73 : decode cX6_copy 73 = .ok (.iload 4, 2) := by decide +kernel
theorem dX6_copy_75 : decode cX6_copy 75 = .ok (.iload 5, 2) := by decide +kernel
theorem dX6_copy_77 : decode cX6_copy 77 = .ok (.invokevirtual 79, 3) := by decide +kernel
theorem dX6_copy_80 : decode cX6_copy 80 = .ok (.ifCond .eq 6, 3) := by decide +kernel
theorem dX6_copy_83 : decode cX6_copy 83 = .ok (.bipush (-12), 2) := by decide +kernel
theorem dX6_copy_85 : decode cX6_copy 85 = .ok (.ireturn, 1) := by decide +kernel
theorem dX6_copy_86 : decode cX6_copy 86 = .ok (.iconst 0, 1) := by decide +kernel
theorem dX6_copy_87 : decode cX6_copy 87 = .ok (.istore 6, 2) := by decide +kernel
theorem dX6_copy_89 : decode cX6_copy 89 = .ok (.iload 6, 2) := by decide +kernel
theorem dX6_copy_91 : decode cX6_copy 91 = .ok (.iload 5, 2) := by decide +kernel
theorem dX6_copy_93 : decode cX6_copy 93 = .ok (.if_icmp .ge 30, 3) := by decide +kernel
theorem dX6_copy_96 : decode cX6_copy 96 = .ok (.aload_n 0, 1) := by decide +kernel
theorem dX6_copy_97 : decode cX6_copy 97 = .ok (.getfield 29, 3) := by decide +kernel
theorem dX6_copy_100 : decode cX6_copy 100 = .ok (.iload 6, 2) := by decide +kernel
theorem dX6_copy_102 : decode cX6_copy 102 = .ok (.aload_n 0, 1) := by decide +kernel
theorem dX6_copy_103 : decode cX6_copy 103 = .ok (.getfield 16, 3) := by decide +kernel
theorem dX6_copy_106 : decode cX6_copy 106 = .ok (.bipush 16, 2) := by decide +kernel
theorem dX6_copy_108 : decode cX6_copy 108 = .ok (.iload_n 1, 1) := by decide +kernel
theorem dX6_copy_109 : decode cX6_copy 109 = .ok (.imul, 1) := by decide +kernel
theorem dX6_copy_110 : decode cX6_copy 110 = .ok (.iload_n 2, 1) := by decide +kernel
theorem dX6_copy_111 : decode cX6_copy 111 = .ok (.iadd, 1) := by decide +kernel
theorem dX6_copy_112 : decode cX6_copy 112 = .ok (.iload 6, 2) := by decide +kernel
theorem dX6_copy_114 : decode cX6_copy 114 = .ok (.iadd, 1) := by decide +kernel
theorem dX6_copy_115 : decode cX6_copy 115 = .ok (.laload, 1) := by decide +kernel
theorem dX6_copy_116 : decode cX6_copy 116 = .ok (.lastore, 1) := by decide +kernel
theorem dX6_copy_117 : decode cX6_copy 117 = .ok (.iinc 6 1, 3) := by decide +kernel
theorem dX6_copy_120 : decode cX6_copy 120 = .ok (.goto (-31), 3) := by decide +kernel
theorem dX6_copy_123 : decode cX6_copy 123 = .ok (.iconst 0, 1) := by decide +kernel
theorem dX6_copy_124 : decode cX6_copy 124 = .ok (.istore 6, 2) := by decide +kernel
theorem dX6_copy_126 : decode cX6_copy 126 = .ok (.iload 6, 2) := by decide +kernel
theorem dX6_copy_128 : decode cX6_copy 128 = .ok (.iload 5, 2) := by decide +kernel
theorem dX6_copy_130 : decode cX6_copy 130 = .ok (.if_icmp .ge 31, 3) := by decide +kernel
theorem dX6_copy_133 : decode cX6_copy 133 = .ok (.aload_n 0, 1) := by decide +kernel
theorem dX6_copy_134 : decode cX6_copy 134 = .ok (.getfield 16, 3) := by decide +kernel
theorem dX6_copy_137 : decode cX6_copy 137 = .ok (.bipush 16, 2) := by decide +kernel
theorem dX6_copy_139 : decode cX6_copy 139 = .ok (.iload_n 3, 1) := by decide +kernel
theorem dX6_copy_140 : decode cX6_copy 140 = .ok (.imul, 1) := by decide +kernel
theorem dX6_copy_141 : decode cX6_copy 141 = .ok (.iload 4, 2) := by decide +kernel
theorem dX6_copy_143 : decode cX6_copy 143 = .ok (.iadd, 1) := by decide +kernel
theorem dX6_copy_144 : decode cX6_copy 144 = .ok (.iload 6, 2) := by decide +kernel
theorem dX6_copy_146 : decode cX6_copy 146 = .ok (.iadd, 1) := by decide +kernel
theorem dX6_copy_147 : decode cX6_copy 147 = .ok (.aload_n 0, 1) := by decide +kernel
theorem dX6_copy_148 : decode cX6_copy 148 = .ok (.getfield 29, 3) := by decide +kernel
theorem dX6_copy_151 : decode cX6_copy 151 = .ok (.iload 6, 2) := by decide +kernel
theorem dX6_copy_153 : decode cX6_copy 153 = .ok (.laload, 1) := by decide +kernel
theorem dX6_copy_154 : decode cX6_copy 154 = .ok (.lastore, 1) := by decide +kernel
theorem dX6_copy_155 : decode cX6_copy 155 = .ok (.iinc 6 1, 3) := by decide +kernel
theorem dX6_copy_158 : decode cX6_copy 158 = .ok (.goto (-32), 3) := by decide +kernel
theorem dX6_copy_161 : decode cX6_copy 161 = .ok (.iconst 0, 1) := by decide +kernel
theorem dX6_copy_162 : decode cX6_copy 162 = .ok (.ireturn, 1) := by decide +kernel
set_option maxRecDepth 20000 in
theorem ggX6_isPart_X6_in : GoodIn wsX6_isPart wsX6_in := goodIn_r _ [6] (by decide +kernel) (by decide +kernel)
set_option maxRecDepth 20000 in
theorem gX6_isPart_X6_in : GoodIn wsX6_isPart (va_wsS RX6 65 yX6_in wsX6_in) := goodIn_app (goodIn_of _ (by decide +kernel)) ggX6_isPart_X6_in
theorem dX6_isPart_0 : decode cX6_isPart 0 = .ok (.lload_n 0, 1) := by decide +kernel
theorem dX6_isPart_1 : decode cX6_isPart 1 = .ok (.ldc2_w 87, 3) := by decide +kernel
theorem dX6_isPart_4 : decode cX6_isPart 4 = .ok (.ldc2_w 89, 3) := by decide +kernel
theorem dX6_isPart_7 : decode cX6_isPart 7 = .ok (.invokestatic 65, 3) := by decide +kernel
theorem dX6_isPart_10 : decode cX6_isPart 10 = .ok (.ireturn, 1) := by decide +kernel
set_option maxRecDepth 20000 in
theorem ggX6_read_X6_isRegister : GoodIn wsX6_read wsX6_isRegister := goodIn_r _ [6, 7, 8, 9, 5, 10] (by decide +kernel) (by decide +kernel)
set_option maxRecDepth 20000 in
theorem gX6_read_X6_isRegister : GoodIn wsX6_read (va_wsS RX6 91 yX6_isRegister wsX6_isRegister) := goodIn_app (goodIn_of _ (by decide +kernel)) ggX6_read_X6_isRegister
set_option maxRecDepth 20000 in
theorem ggX6_read_X6_isSheet : GoodIn wsX6_read wsX6_isSheet := goodIn_r _ [13, 14, 8, 9, 5, 10] (by decide +kernel) (by decide +kernel)
set_option maxRecDepth 20000 in
theorem gX6_read_X6_isSheet : GoodIn wsX6_read (va_wsS RX6 71 yX6_isSheet wsX6_isSheet) := goodIn_app (goodIn_of _ (by decide +kernel)) ggX6_read_X6_isSheet
set_option maxRecDepth 20000 in
theorem ggX6_read_X6_against : GoodIn wsX6_read wsX6_against := goodIn_r _ [18, 19, 20, 29, 30, 31, 32, 33, 34, 35, 36, 37, 38, 39, 40, 41, 42, 43, 44, 45, 46] (by decide +kernel) (by decide +kernel)
set_option maxRecDepth 20000 in
theorem gX6_read_X6_against : GoodIn wsX6_read (wsV RX6 79 RX6 yX6_against wsX6_against) := goodIn_app (goodIn_of _ (by decide +kernel)) ggX6_read_X6_against
set_option maxRecDepth 20000 in
theorem ggX6_read_X6_isOne : GoodIn wsX6_read wsX6_isOne := goodIn_r _ [23] (by decide +kernel) (by decide +kernel)
set_option maxRecDepth 20000 in
theorem gX6_read_X6_isOne : GoodIn wsX6_read (va_wsS RX6 59 yX6_isOne wsX6_isOne) := goodIn_app (goodIn_of _ (by decide +kernel)) ggX6_read_X6_isOne
set_option maxRecDepth 20000 in
theorem ggX6_read_X6_isPart : GoodIn wsX6_read wsX6_isPart := goodIn_r _ [26, 27, 28, 8, 9, 5, 10] (by decide +kernel) (by decide +kernel)
set_option maxRecDepth 20000 in
theorem gX6_read_X6_isPart : GoodIn wsX6_read (va_wsS RX6 94 yX6_isPart wsX6_isPart) := goodIn_app (goodIn_of _ (by decide +kernel)) ggX6_read_X6_isPart
theorem dX6_read_0 : decode cX6_read 0 = .ok (.iload_n 1, 1) := by decide +kernel
theorem dX6_read_1 : decode cX6_read 1 = .ok (.invokestatic 91, 3) := by decide +kernel
theorem dX6_read_4 : decode cX6_read 4 = .ok (.ifCond .eq 10, 3) := by decide +kernel
theorem dX6_read_7 : decode cX6_read 7 = .ok (.iload_n 2, 1) := by decide +kernel
theorem dX6_read_8 : decode cX6_read 8 = .ok (.invokestatic 71, 3) := by decide +kernel
theorem dX6_read_11 : decode cX6_read 11 = .ok (.ifCond .ne 5, 3) := by decide +kernel
theorem dX6_read_14 : decode cX6_read 14 = .ok (.iconst (-1), 1) := by decide +kernel
theorem dX6_read_15 : decode cX6_read 15 = .ok (.ireturn, 1) := by decide +kernel
theorem dX6_read_16 : decode cX6_read 16 = .ok (.aload_n 0, 1) := by decide +kernel
theorem dX6_read_17 : decode cX6_read 17 = .ok (.iload_n 2, 1) := by decide +kernel
theorem dX6_read_18 : decode cX6_read 18 = .ok (.iload_n 3, 1) := by decide +kernel
theorem dX6_read_19 : decode cX6_read 19 = .ok (.iconst 4, 1) := by decide +kernel
theorem dX6_read_20 : decode cX6_read 20 = .ok (.invokevirtual 79, 3) := by decide +kernel
theorem dX6_read_23 : decode cX6_read 23 = .ok (.istore 4, 2) := by decide +kernel
theorem dX6_read_25 : decode cX6_read 25 = .ok (.iload 4, 2) := by decide +kernel
theorem dX6_read_27 : decode cX6_read 27 = .ok (.ifCond .eq 6, 3) := by decide +kernel
theorem dX6_read_30 : decode cX6_read 30 = .ok (.iload 4, 2) := by decide +kernel
theorem dX6_read_32 : decode cX6_read 32 = .ok (.ireturn, 1) := by decide +kernel
theorem dX6_read_33 : decode cX6_read 33 = .ok (.bipush 16, 2) := by decide +kernel
theorem dX6_read_35 : decode cX6_read 35 = .ok (.iload_n 2, 1) := by decide +kernel
theorem dX6_read_36 : decode cX6_read 36 = .ok (.imul, 1) := by decide +kernel
theorem dX6_read_37 : decode cX6_read 37 = .ok (.iload_n 3, 1) := by decide +kernel
theorem dX6_read_38 : decode cX6_read 38 = .ok (.iadd, 1) := by decide +kernel
theorem dX6_read_39 : decode cX6_read 39 = .ok (.istore 5, 2) := by decide +kernel
theorem dX6_read_41 : decode cX6_read 41 = .ok (.aload_n 0, 1) := by decide +kernel
theorem dX6_read_42 : decode cX6_read 42 = .ok (.getfield 16, 3) := by decide +kernel
theorem dX6_read_45 : decode cX6_read 45 = .ok (.iload 5, 2) := by decide +kernel
theorem dX6_read_47 : decode cX6_read 47 = .ok (.laload, 1) := by decide +kernel
theorem dX6_read_48 : decode cX6_read 48 = .ok (.aload_n 0, 1) := by decide +kernel
theorem dX6_read_49 : decode cX6_read 49 = .ok (.getfield 16, 3) := by decide +kernel
theorem dX6_read_52 : decode cX6_read 52 = .ok (.iload 5, 2) := by decide +kernel
theorem dX6_read_54 : decode cX6_read 54 = .ok (.iconst 1, 1) := by decide +kernel
theorem dX6_read_55 : decode cX6_read 55 = .ok (.iadd, 1) := by decide +kernel
theorem dX6_read_56 : decode cX6_read 56 = .ok (.laload, 1) := by decide +kernel
theorem dX6_read_57 : decode cX6_read 57 = .ok (.aload_n 0, 1) := by decide +kernel
theorem dX6_read_58 : decode cX6_read 58 = .ok (.getfield 16, 3) := by decide +kernel
theorem dX6_read_61 : decode cX6_read 61 = .ok (.iload 5, 2) := by decide +kernel
theorem dX6_read_63 : decode cX6_read 63 = .ok (.iconst 2, 1) := by decide +kernel
theorem dX6_read_64 : decode cX6_read 64 = .ok (.iadd, 1) := by decide +kernel
theorem dX6_read_65 : decode cX6_read 65 = .ok (.laload, 1) := by decide +kernel
theorem dX6_read_66 : decode cX6_read 66 = .ok (.aload_n 0, 1) := by decide +kernel
theorem dX6_read_67 : decode cX6_read 67 = .ok (.getfield 16, 3) := by decide +kernel
theorem dX6_read_70 : decode cX6_read 70 = .ok (.iload 5, 2) := by decide +kernel
theorem dX6_read_72 : decode cX6_read 72 = .ok (.iconst 3, 1) := by decide +kernel
theorem dX6_read_73 : decode cX6_read 73 = .ok (.iadd, 1) := by decide +kernel
theorem dX6_read_74 : decode cX6_read 74 = .ok (.laload, 1) := by decide +kernel
theorem dX6_read_75 : decode cX6_read 75 = .ok (.invokestatic 59, 3) := by decide +kernel
theorem dX6_read_78 : decode cX6_read 78 = .ok (.ifCond .ne 6, 3) := by decide +kernel
theorem dX6_read_81 : decode cX6_read 81 = .ok (.bipush (-15), 2) := by decide +kernel
theorem dX6_read_83 : decode cX6_read 83 = .ok (.ireturn, 1) := by decide +kernel
theorem dX6_read_84 : decode cX6_read 84 = .ok (.iconst 0, 1) := by decide +kernel
theorem dX6_read_85 : decode cX6_read 85 = .ok (.istore 6, 2) := by decide +kernel
theorem dX6_read_87 : decode cX6_read 87 = .ok (.iload 6, 2) := by decide +kernel
theorem dX6_read_89 : decode cX6_read 89 = .ok (.iconst 4, 1) := by decide +kernel
theorem dX6_read_90 : decode cX6_read 90 = .ok (.if_icmp .ge 28, 3) := by decide +kernel
theorem dX6_read_93 : decode cX6_read 93 = .ok (.aload_n 0, 1) := by decide +kernel
theorem dX6_read_94 : decode cX6_read 94 = .ok (.getfield 16, 3) := by decide +kernel
theorem dX6_read_97 : decode cX6_read 97 = .ok (.iload 5, 2) := by decide +kernel
theorem dX6_read_99 : decode cX6_read 99 = .ok (.iload 6, 2) := by decide +kernel
theorem dX6_read_101 : decode cX6_read 101 = .ok (.iadd, 1) := by decide +kernel
theorem dX6_read_102 : decode cX6_read 102 = .ok (.laload, 1) := by decide +kernel
theorem dX6_read_103 : decode cX6_read 103 = .ok (.invokestatic 94, 3) := by decide +kernel
theorem dX6_read_106 : decode cX6_read 106 = .ok (.ifCond .ne 6, 3) := by decide +kernel
theorem dX6_read_109 : decode cX6_read 109 = .ok (.bipush (-16), 2) := by decide +kernel
theorem dX6_read_111 : decode cX6_read 111 = .ok (.ireturn, 1) := by decide +kernel
theorem dX6_read_112 : decode cX6_read 112 = .ok (.iinc 6 1, 3) := by decide +kernel
theorem dX6_read_115 : decode cX6_read 115 = .ok (.goto (-28), 3) := by decide +kernel
theorem dX6_read_118 : decode cX6_read 118 = .ok (.iconst 0, 1) := by decide +kernel
theorem dX6_read_119 : decode cX6_read 119 = .ok (.istore 6, 2) := by decide +kernel
theorem dX6_read_121 : decode cX6_read 121 = .ok (.iload 6, 2) := by decide +kernel
theorem dX6_read_123 : decode cX6_read 123 = .ok (.iconst 4, 1) := by decide +kernel
theorem dX6_read_124 : decode cX6_read 124 = .ok (.if_icmp .ge 31, 3) := by decide +kernel
theorem dX6_read_127 : decode cX6_read 127 = .ok (.aload_n 0, 1) := by decide +kernel
theorem dX6_read_128 : decode cX6_read 128 = .ok (.getfield 20, 3) := by decide +kernel
theorem dX6_read_131 : decode cX6_read 131 = .ok (.iconst 4, 1) := by decide +kernel
theorem dX6_read_132 : decode cX6_read 132 = .ok (.iload_n 1, 1) := by decide +kernel
theorem dX6_read_133 : decode cX6_read 133 = .ok (.imul, 1) := by decide +kernel
theorem dX6_read_134 : decode cX6_read 134 = .ok (.iload 6, 2) := by decide +kernel
theorem dX6_read_136 : decode cX6_read 136 = .ok (.iadd, 1) := by decide +kernel
theorem dX6_read_137 : decode cX6_read 137 = .ok (.aload_n 0, 1) := by decide +kernel
theorem dX6_read_138 : decode cX6_read 138 = .ok (.getfield 16, 3) := by decide +kernel
theorem dX6_read_141 : decode cX6_read 141 = .ok (.iload 5, 2) := by decide +kernel
theorem dX6_read_143 : decode cX6_read 143 = .ok (.iload 6, 2) := by decide +kernel
theorem dX6_read_145 : decode cX6_read 145 = .ok (.iadd, 1) := by decide +kernel
theorem dX6_read_146 : decode cX6_read 146 = .ok (.laload, 1) := by decide +kernel
theorem dX6_read_147 : decode cX6_read 147 = .ok (.l2i, 1) := by decide +kernel
theorem dX6_read_148 : decode cX6_read 148 = .ok (.iastore, 1) := by decide +kernel
theorem dX6_read_149 : decode cX6_read 149 = .ok (.iinc 6 1, 3) := by decide +kernel
theorem dX6_read_152 : decode cX6_read 152 = .ok (.goto (-31), 3) := by decide +kernel
theorem dX6_read_155 : decode cX6_read 155 = .ok (.iconst 0, 1) := by decide +kernel
theorem dX6_read_156 : decode cX6_read 156 = .ok (.ireturn, 1) := by decide +kernel
set_option maxRecDepth 20000 in
theorem ggX6_write_X6_isRegister : GoodIn wsX6_write wsX6_isRegister := goodIn_r _ [6, 7, 8, 9, 5, 10] (by decide +kernel) (by decide +kernel)
set_option maxRecDepth 20000 in
theorem gX6_write_X6_isRegister : GoodIn wsX6_write (va_wsS RX6 91 yX6_isRegister wsX6_isRegister) := goodIn_app (goodIn_of _ (by decide +kernel)) ggX6_write_X6_isRegister
set_option maxRecDepth 20000 in
theorem ggX6_write_X6_isSheet : GoodIn wsX6_write wsX6_isSheet := goodIn_r _ [13, 14, 8, 9, 5, 10] (by decide +kernel) (by decide +kernel)
set_option maxRecDepth 20000 in
theorem gX6_write_X6_isSheet : GoodIn wsX6_write (va_wsS RX6 71 yX6_isSheet wsX6_isSheet) := goodIn_app (goodIn_of _ (by decide +kernel)) ggX6_write_X6_isSheet
set_option maxRecDepth 20000 in
theorem ggX6_write_X6_against : GoodIn wsX6_write wsX6_against := goodIn_r _ [18, 19, 20, 25, 26, 27, 28, 29, 30, 31, 32, 33, 34, 35, 36, 37, 38, 39, 40, 41, 42] (by decide +kernel) (by decide +kernel)
set_option maxRecDepth 20000 in
theorem gX6_write_X6_against : GoodIn wsX6_write (wsV RX6 79 RX6 yX6_against wsX6_against) := goodIn_app (goodIn_of _ (by decide +kernel)) ggX6_write_X6_against
set_option maxRecDepth 20000 in
theorem ggX6_write_X6_cut : GoodIn wsX6_write wsX6_cut := goodIn_r _ [24, 19, 25, 26, 27, 28, 29, 30, 31, 32, 33, 34, 35, 36, 37, 38, 39, 40, 41, 42] (by decide +kernel) (by decide +kernel)
set_option maxRecDepth 20000 in
theorem gX6_write_X6_cut : GoodIn wsX6_write (wsV RX6 83 RX6 yX6_cut wsX6_cut) := goodIn_app (goodIn_of _ (by decide +kernel)) ggX6_write_X6_cut
theorem dX6_write_0 : decode cX6_write 0 = .ok (.iload_n 1, 1) := by decide +kernel
theorem dX6_write_1 : decode cX6_write 1 = .ok (.invokestatic 91, 3) := by decide +kernel
theorem dX6_write_4 : decode cX6_write 4 = .ok (.ifCond .eq 10, 3) := by decide +kernel
theorem dX6_write_7 : decode cX6_write 7 = .ok (.iload_n 2, 1) := by decide +kernel
theorem dX6_write_8 : decode cX6_write 8 = .ok (.invokestatic 71, 3) := by decide +kernel
theorem dX6_write_11 : decode cX6_write 11 = .ok (.ifCond .ne 5, 3) := by decide +kernel
theorem dX6_write_14 : decode cX6_write 14 = .ok (.iconst (-1), 1) := by decide +kernel
theorem dX6_write_15 : decode cX6_write 15 = .ok (.ireturn, 1) := by decide +kernel
theorem dX6_write_16 : decode cX6_write 16 = .ok (.aload_n 0, 1) := by decide +kernel
theorem dX6_write_17 : decode cX6_write 17 = .ok (.iload_n 2, 1) := by decide +kernel
theorem dX6_write_18 : decode cX6_write 18 = .ok (.iload_n 3, 1) := by decide +kernel
theorem dX6_write_19 : decode cX6_write 19 = .ok (.iconst 4, 1) := by decide +kernel
theorem dX6_write_20 : decode cX6_write 20 = .ok (.invokevirtual 79, 3) := by decide +kernel
theorem dX6_write_23 : decode cX6_write 23 = .ok (.istore 4, 2) := by decide +kernel
theorem dX6_write_25 : decode cX6_write 25 = .ok (.iconst 0, 1) := by decide +kernel
theorem dX6_write_26 : decode cX6_write 26 = .ok (.istore 5, 2) := by decide +kernel
theorem dX6_write_28 : decode cX6_write 28 = .ok (.iload 5, 2) := by decide +kernel
theorem dX6_write_30 : decode cX6_write 30 = .ok (.iconst 4, 1) := by decide +kernel
theorem dX6_write_31 : decode cX6_write 31 = .ok (.if_icmp .ge 45, 3) := by decide +kernel
theorem dX6_write_34 : decode cX6_write 34 = .ok (.iload 4, 2) := by decide +kernel
theorem dX6_write_36 : decode cX6_write 36 = .ok (.ifCond .ne 40, 3) := by decide +kernel
theorem dX6_write_39 : decode cX6_write 39 = .ok (.aload_n 0, 1) := by decide +kernel
theorem dX6_write_40 : decode cX6_write 40 = .ok (.getfield 16, 3) := by decide +kernel
theorem dX6_write_43 : decode cX6_write 43 = .ok (.bipush 16, 2) := by decide +kernel
theorem dX6_write_45 : decode cX6_write 45 = .ok (.iload_n 2, 1) := by decide +kernel
theorem dX6_write_46 : decode cX6_write 46 = .ok (.imul, 1) := by decide +kernel
theorem dX6_write_47 : decode cX6_write 47 = .ok (.iload_n 3, 1) := by decide +kernel
theorem dX6_write_48 : decode cX6_write 48 = .ok (.iadd, 1) := by decide +kernel
theorem dX6_write_49 : decode cX6_write 49 = .ok (.iload 5, 2) := by decide +kernel
theorem dX6_write_51 : decode cX6_write 51 = .ok (.iadd, 1) := by decide +kernel
theorem dX6_write_52 : decode cX6_write 52 = .ok (.aload_n 0, 1) := by decide +kernel
theorem dX6_write_53 : decode cX6_write 53 = .ok (.iload_n 2, 1) := by decide +kernel
theorem dX6_write_54 : decode cX6_write 54 = .ok (.aload_n 0, 1) := by decide +kernel
theorem dX6_write_55 : decode cX6_write 55 = .ok (.getfield 20, 3) := by decide +kernel
theorem dX6_write_58 : decode cX6_write 58 = .ok (.iconst 4, 1) := by decide +kernel
theorem dX6_write_59 : decode cX6_write 59 = .ok (.iload_n 1, 1) := by decide +kernel
theorem dX6_write_60 : decode cX6_write 60 = .ok (.imul, 1) := by decide +kernel
theorem dX6_write_61 : decode cX6_write 61 = .ok (.iload 5, 2) := by decide +kernel
theorem dX6_write_63 : decode cX6_write 63 = .ok (.iadd, 1) := by decide +kernel
theorem dX6_write_64 : decode cX6_write 64 = .ok (.iaload, 1) := by decide +kernel
theorem dX6_write_65 : decode cX6_write 65 = .ok (.i2l, 1) := by decide +kernel
theorem dX6_write_66 : decode cX6_write 66 = .ok (.invokevirtual 83, 3) := by decide +kernel
theorem dX6_write_69 : decode cX6_write 69 = .ok (.lastore, 1) := by decide +kernel
theorem dX6_write_70 : decode cX6_write 70 = .ok (.iinc 5 1, 3) := by decide +kernel
theorem dX6_write_73 : decode cX6_write 73 = .ok (.goto (-45), 3) := by decide +kernel
theorem dX6_write_76 : decode cX6_write 76 = .ok (.iload 4, 2) := by decide +kernel
theorem dX6_write_78 : decode cX6_write 78 = .ok (.ireturn, 1) := by decide +kernel
theorem dX6_load_0 : decode cX6_load 0 = .ok (.iconst 0, 1) := by decide +kernel
theorem dX6_load_1 : decode cX6_load 1 = .ok (.istore_n 3, 1) := by decide +kernel
theorem dX6_load_2 : decode cX6_load 2 = .ok (.iload_n 3, 1) := by decide +kernel
theorem dX6_load_3 : decode cX6_load 3 = .ok (.iconst 4, 1) := by decide +kernel
theorem dX6_load_4 : decode cX6_load 4 = .ok (.if_icmp .ge 23, 3) := by decide +kernel
theorem dX6_load_7 : decode cX6_load 7 = .ok (.aload_n 1, 1) := by decide +kernel
theorem dX6_load_8 : decode cX6_load 8 = .ok (.iload_n 3, 1) := by decide +kernel
theorem dX6_load_9 : decode cX6_load 9 = .ok (.aload_n 0, 1) := by decide +kernel
theorem dX6_load_10 : decode cX6_load 10 = .ok (.getfield 20, 3) := by decide +kernel
theorem dX6_load_13 : decode cX6_load 13 = .ok (.iconst 4, 1) := by decide +kernel
theorem dX6_load_14 : decode cX6_load 14 = .ok (.iload_n 2, 1) := by decide +kernel
theorem dX6_load_15 : decode cX6_load 15 = .ok (.imul, 1) := by decide +kernel
theorem dX6_load_16 : decode cX6_load 16 = .ok (.iload_n 3, 1) := by decide +kernel
theorem dX6_load_17 : decode cX6_load 17 = .ok (.iadd, 1) := by decide +kernel
theorem dX6_load_18 : decode cX6_load 18 = .ok (.iaload, 1) := by decide +kernel
theorem dX6_load_19 : decode cX6_load 19 = .ok (.i2l, 1) := by decide +kernel
theorem dX6_load_20 : decode cX6_load 20 = .ok (.lastore, 1) := by decide +kernel
theorem dX6_load_21 : decode cX6_load 21 = .ok (.iinc 3 1, 3) := by decide +kernel
theorem dX6_load_24 : decode cX6_load 24 = .ok (.goto (-22), 3) := by decide +kernel
theorem dX6_load_27 : decode cX6_load 27 = .ok (.return_, 1) := by decide +kernel
theorem dX6_loadUnit_0 : decode cX6_loadUnit 0 = .ok (.iconst 0, 1) := by decide +kernel
theorem dX6_loadUnit_1 : decode cX6_loadUnit 1 = .ok (.istore_n 3, 1) := by decide +kernel
theorem dX6_loadUnit_2 : decode cX6_loadUnit 2 = .ok (.iload_n 3, 1) := by decide +kernel
theorem dX6_loadUnit_3 : decode cX6_loadUnit 3 = .ok (.iconst 4, 1) := by decide +kernel
theorem dX6_loadUnit_4 : decode cX6_loadUnit 4 = .ok (.if_icmp .ge 23, 3) := by decide +kernel
theorem dX6_loadUnit_7 : decode cX6_loadUnit 7 = .ok (.aload_n 1, 1) := by decide +kernel
theorem dX6_loadUnit_8 : decode cX6_loadUnit 8 = .ok (.iload_n 3, 1) := by decide +kernel
theorem dX6_loadUnit_9 : decode cX6_loadUnit 9 = .ok (.aload_n 0, 1) := by decide +kernel
theorem dX6_loadUnit_10 : decode cX6_loadUnit 10 = .ok (.getfield 23, 3) := by decide +kernel
theorem dX6_loadUnit_13 : decode cX6_loadUnit 13 = .ok (.iconst 4, 1) := by decide +kernel
theorem dX6_loadUnit_14 : decode cX6_loadUnit 14 = .ok (.iload_n 2, 1) := by decide +kernel
theorem dX6_loadUnit_15 : decode cX6_loadUnit 15 = .ok (.imul, 1) := by decide +kernel
theorem dX6_loadUnit_16 : decode cX6_loadUnit 16 = .ok (.iload_n 3, 1) := by decide +kernel
theorem dX6_loadUnit_17 : decode cX6_loadUnit 17 = .ok (.iadd, 1) := by decide +kernel
theorem dX6_loadUnit_18 : decode cX6_loadUnit 18 = .ok (.iaload, 1) := by decide +kernel
theorem dX6_loadUnit_19 : decode cX6_loadUnit 19 = .ok (.i2l, 1) := by decide +kernel
theorem dX6_loadUnit_20 : decode cX6_loadUnit 20 = .ok (.lastore, 1) := by decide +kernel
theorem dX6_loadUnit_21 : decode cX6_loadUnit 21 = .ok (.iinc 3 1, 3) := by decide +kernel
theorem dX6_loadUnit_24 : decode cX6_loadUnit 24 = .ok (.goto (-22), 3) := by decide +kernel
theorem dX6_loadUnit_27 : decode cX6_loadUnit 27 = .ok (.return_, 1) := by decide +kernel
theorem dX6_copy4_0 : decode cX6_copy4 0 = .ok (.iconst 0, 1) := by decide +kernel
theorem dX6_copy4_1 : decode cX6_copy4 1 = .ok (.istore_n 2, 1) := by decide +kernel
theorem dX6_copy4_2 : decode cX6_copy4 2 = .ok (.iload_n 2, 1) := by decide +kernel
theorem dX6_copy4_3 : decode cX6_copy4 3 = .ok (.iconst 4, 1) := by decide +kernel
theorem dX6_copy4_4 : decode cX6_copy4 4 = .ok (.if_icmp .ge 15, 3) := by decide +kernel
theorem dX6_copy4_7 : decode cX6_copy4 7 = .ok (.aload_n 0, 1) := by decide +kernel
theorem dX6_copy4_8 : decode cX6_copy4 8 = .ok (.iload_n 2, 1) := by decide +kernel
theorem dX6_copy4_9 : decode cX6_copy4 9 = .ok (.aload_n 1, 1) := by decide +kernel
theorem dX6_copy4_10 : decode cX6_copy4 10 = .ok (.iload_n 2, 1) := by decide +kernel
theorem dX6_copy4_11 : decode cX6_copy4 11 = .ok (.laload, 1) := by decide +kernel
theorem dX6_copy4_12 : decode cX6_copy4 12 = .ok (.lastore, 1) := by decide +kernel
theorem dX6_copy4_13 : decode cX6_copy4 13 = .ok (.iinc 2 1, 3) := by decide +kernel
theorem dX6_copy4_16 : decode cX6_copy4 16 = .ok (.goto (-14), 3) := by decide +kernel
theorem dX6_copy4_19 : decode cX6_copy4 19 = .ok (.return_, 1) := by decide +kernel
set_option maxRecDepth 20000 in
theorem ggX6_isLow_X6_isPart : GoodIn wsX6_isLow wsX6_isPart := goodIn_r _ [4, 5, 6, 7, 8, 3, 9] (by decide +kernel) (by decide +kernel)
set_option maxRecDepth 20000 in
theorem gX6_isLow_X6_isPart : GoodIn wsX6_isLow (va_wsS RX6 94 yX6_isPart wsX6_isPart) := goodIn_app (goodIn_of _ (by decide +kernel)) ggX6_isLow_X6_isPart
theorem dX6_isLow_0 : decode cX6_isLow 0 = .ok (.aload_n 0, 1) := by decide +kernel
theorem dX6_isLow_1 : decode cX6_isLow 1 = .ok (.iconst 0, 1) := by decide +kernel
theorem dX6_isLow_2 : decode cX6_isLow 2 = .ok (.laload, 1) := by decide +kernel
theorem dX6_isLow_3 : decode cX6_isLow 3 = .ok (.invokestatic 94, 3) := by decide +kernel
theorem dX6_isLow_6 : decode cX6_isLow 6 = .ok (.ifCond .eq 34, 3) := by decide +kernel
theorem dX6_isLow_9 : decode cX6_isLow 9 = .ok (.aload_n 0, 1) := by decide +kernel
theorem dX6_isLow_10 : decode cX6_isLow 10 = .ok (.iconst 1, 1) := by decide +kernel
theorem dX6_isLow_11 : decode cX6_isLow 11 = .ok (.laload, 1) := by decide +kernel
theorem dX6_isLow_12 : decode cX6_isLow 12 = .ok (.invokestatic 94, 3) := by decide +kernel
theorem dX6_isLow_15 : decode cX6_isLow 15 = .ok (.ifCond .eq 25, 3) := by decide +kernel
theorem dX6_isLow_18 : decode cX6_isLow 18 = .ok (.aload_n 0, 1) := by decide +kernel
theorem dX6_isLow_19 : decode cX6_isLow 19 = .ok (.iconst 2, 1) := by decide +kernel
theorem dX6_isLow_20 : decode cX6_isLow 20 = .ok (.laload, 1) := by decide +kernel
theorem dX6_isLow_21 : decode cX6_isLow 21 = .ok (.invokestatic 94, 3) := by decide +kernel
theorem dX6_isLow_24 : decode cX6_isLow 24 = .ok (.ifCond .eq 16, 3) := by decide +kernel
theorem dX6_isLow_27 : decode cX6_isLow 27 = .ok (.aload_n 0, 1) := by decide +kernel
theorem dX6_isLow_28 : decode cX6_isLow 28 = .ok (.iconst 3, 1) := by decide +kernel
theorem dX6_isLow_29 : decode cX6_isLow 29 = .ok (.laload, 1) := by decide +kernel
theorem dX6_isLow_30 : decode cX6_isLow 30 = .ok (.invokestatic 94, 3) := by decide +kernel
theorem dX6_isLow_33 : decode cX6_isLow 33 = .ok (.ifCond .eq 7, 3) := by decide +kernel
theorem dX6_isLow_36 : decode cX6_isLow 36 = .ok (.iconst 1, 1) := by decide +kernel
theorem dX6_isLow_37 : decode cX6_isLow 37 = .ok (.goto 4, 3) := by decide +kernel
theorem dX6_isLow_40 : decode cX6_isLow 40 = .ok (.iconst 0, 1) := by decide +kernel
theorem dX6_isLow_41 : decode cX6_isLow 41 = .ok (.ireturn, 1) := by decide +kernel
theorem dX6_store_0 : decode cX6_store 0 = .ok (.iconst 0, 1) := by decide +kernel
theorem dX6_store_1 : decode cX6_store 1 = .ok (.istore_n 3, 1) := by decide +kernel
theorem dX6_store_2 : decode cX6_store 2 = .ok (.iload_n 3, 1) := by decide +kernel
theorem dX6_store_3 : decode cX6_store 3 = .ok (.iconst 4, 1) := by decide +kernel
theorem dX6_store_4 : decode cX6_store 4 = .ok (.if_icmp .ge 23, 3) := by decide +kernel
theorem dX6_store_7 : decode cX6_store 7 = .ok (.aload_n 0, 1) := by decide +kernel
theorem dX6_store_8 : decode cX6_store 8 = .ok (.getfield 20, 3) := by decide +kernel
theorem dX6_store_11 : decode cX6_store 11 = .ok (.iconst 4, 1) := by decide +kernel
theorem dX6_store_12 : decode cX6_store 12 = .ok (.iload_n 1, 1) := by decide +kernel
theorem dX6_store_13 : decode cX6_store 13 = .ok (.imul, 1) := by decide +kernel
theorem dX6_store_14 : decode cX6_store 14 = .ok (.iload_n 3, 1) := by decide +kernel
theorem dX6_store_15 : decode cX6_store 15 = .ok (.iadd, 1) := by decide +kernel
theorem dX6_store_16 : decode cX6_store 16 = .ok (.aload_n 2, 1) := by decide +kernel
theorem dX6_store_17 : decode cX6_store 17 = .ok (.iload_n 3, 1) := by decide +kernel
theorem dX6_store_18 : decode cX6_store 18 = .ok (.laload, 1) := by decide +kernel
theorem dX6_store_19 : decode cX6_store 19 = .ok (.l2i, 1) := by decide +kernel
theorem dX6_store_20 : decode cX6_store 20 = .ok (.iastore, 1) := by decide +kernel
theorem dX6_store_21 : decode cX6_store 21 = .ok (.iinc 3 1, 3) := by decide +kernel
theorem dX6_store_24 : decode cX6_store 24 = .ok (.goto (-22), 3) := by decide +kernel
theorem dX6_store_27 : decode cX6_store 27 = .ok (.return_, 1) := by decide +kernel
set_option maxRecDepth 20000 in
theorem ggX6_holds_X6_isLow : GoodIn wsX6_holds wsX6_isLow := goodIn_r _ [4, 5, 6, 3, 7, 8, 9, 10, 11, 12] (by decide +kernel) (by decide +kernel)
set_option maxRecDepth 20000 in
theorem gX6_holds_X6_isLow : GoodIn wsX6_holds (va_wsS RX6 98 yX6_isLow wsX6_isLow) := goodIn_app (goodIn_of _ (by decide +kernel)) ggX6_holds_X6_isLow
set_option maxRecDepth 20000 in
theorem ggX6_holds_X6_store : GoodIn wsX6_holds wsX6_store := goodIn_r _ [16, 17, 18, 19, 20, 21, 22, 23, 24, 25, 26, 27, 28, 29, 30, 31, 32, 33, 34, 35] (by decide +kernel) (by decide +kernel)
set_option maxRecDepth 20000 in
theorem gX6_holds_X6_store : GoodIn wsX6_holds (wsV RX6 102 RX6 yX6_store wsX6_store) := goodIn_app (goodIn_of _ (by decide +kernel)) ggX6_holds_X6_store
theorem dX6_holds_0 : decode cX6_holds 0 = .ok (.aload_n 2, 1) := by decide +kernel
theorem dX6_holds_1 : decode cX6_holds 1 = .ok (.invokestatic 98, 3) := by decide +kernel
theorem dX6_holds_4 : decode cX6_holds 4 = .ok (.ifCond .ne 6, 3) := by decide +kernel
theorem dX6_holds_7 : decode cX6_holds 7 = .ok (.bipush (-3), 2) := by decide +kernel
theorem dX6_holds_9 : decode cX6_holds 9 = .ok (.ireturn, 1) := by decide +kernel
theorem dX6_holds_10 : decode cX6_holds 10 = .ok (.aload_n 0, 1) := by decide +kernel
theorem dX6_holds_11 : decode cX6_holds 11 = .ok (.iload_n 1, 1) := by decide +kernel
theorem dX6_holds_12 : decode cX6_holds 12 = .ok (.aload_n 2, 1) := by decide +kernel
theorem dX6_holds_13 : decode cX6_holds 13 = .ok (.invokevirtual 102, 3) := by decide +kernel
theorem dX6_holds_16 : decode cX6_holds 16 = .ok (.iconst 0, 1) := by decide +kernel
theorem dX6_holds_17 : decode cX6_holds 17 = .ok (.ireturn, 1) := by decide +kernel
theorem dX6_times_0 : decode cX6_times 0 = .ok (.aload_n 0, 1) := by decide +kernel
theorem dX6_times_1 : decode cX6_times 1 = .ok (.iconst 0, 1) := by decide +kernel
theorem dX6_times_2 : decode cX6_times 2 = .ok (.aload_n 1, 1) := by decide +kernel
theorem dX6_times_3 : decode cX6_times 3 = .ok (.iconst 0, 1) := by decide +kernel
theorem dX6_times_4 : decode cX6_times 4 = .ok (.laload, 1) := by decide +kernel
theorem dX6_times_5 : decode cX6_times 5 = .ok (.aload_n 2, 1) := by decide +kernel
theorem dX6_times_6 : decode cX6_times 6 = .ok (.iconst 0, 1) := by decide +kernel
theorem dX6_times_7 : decode cX6_times 7 = .ok (.laload, 1) := by decide +kernel
theorem dX6_times_8 : decode cX6_times 8 = .ok (.lmul, 1) := by decide +kernel
theorem dX6_times_9 : decode cX6_times 9 = .ok (.aload_n 1, 1) := by decide +kernel
theorem dX6_times_10 : decode cX6_times 10 = .ok (.iconst 1, 1) := by decide +kernel
theorem dX6_times_11 : decode cX6_times 11 = .ok (.laload, 1) := by decide +kernel
theorem dX6_times_12 : decode cX6_times 12 = .ok (.aload_n 2, 1) := by decide +kernel
theorem dX6_times_13 : decode cX6_times 13 = .ok (.iconst 1, 1) := by decide +kernel
theorem dX6_times_14 : decode cX6_times 14 = .ok (.laload, 1) := by decide +kernel
theorem dX6_times_15 : decode cX6_times 15 = .ok (.lmul, 1) := by decide +kernel
theorem dX6_times_16 : decode cX6_times 16 = .ok (.lsub, 1) := by decide +kernel
theorem dX6_times_17 : decode cX6_times 17 = .ok (.aload_n 1, 1) := by decide +kernel
theorem dX6_times_18 : decode cX6_times 18 = .ok (.iconst 2, 1) := by decide +kernel
theorem dX6_times_19 : decode cX6_times 19 = .ok (.laload, 1) := by decide +kernel
theorem dX6_times_20 : decode cX6_times 20 = .ok (.aload_n 2, 1) := by decide +kernel
theorem dX6_times_21 : decode cX6_times 21 = .ok (.iconst 2, 1) := by decide +kernel
theorem dX6_times_22 : decode cX6_times 22 = .ok (.laload, 1) := by decide +kernel
theorem dX6_times_23 : decode cX6_times 23 = .ok (.lmul, 1) := by decide +kernel
theorem dX6_times_24 : decode cX6_times 24 = .ok (.lsub, 1) := by decide +kernel
theorem dX6_times_25 : decode cX6_times 25 = .ok (.aload_n 1, 1) := by decide +kernel
theorem dX6_times_26 : decode cX6_times 26 = .ok (.iconst 3, 1) := by decide +kernel
theorem dX6_times_27 : decode cX6_times 27 = .ok (.laload, 1) := by decide +kernel
theorem dX6_times_28 : decode cX6_times 28 = .ok (.aload_n 2, 1) := by decide +kernel
theorem dX6_times_29 : decode cX6_times 29 = .ok (.iconst 3, 1) := by decide +kernel
theorem dX6_times_30 : decode cX6_times 30 = .ok (.laload, 1) := by decide +kernel
theorem dX6_times_31 : decode cX6_times 31 = .ok (.lmul, 1) := by decide +kernel
theorem dX6_times_32 : decode cX6_times 32 = .ok (.lsub, 1) := by decide +kernel
theorem dX6_times_33 : decode cX6_times 33 = .ok (.ldc2_w 77, 3) := by decide +kernel
theorem dX6_times_36 : decode cX6_times 36 = .ok (.ldiv, 1) := by decide +kernel
theorem dX6_times_37 : decode cX6_times 37 = .ok (.lastore, 1) := by decide +kernel
theorem dX6_times_38 : decode cX6_times 38 = .ok (.aload_n 0, 1) := by decide +kernel
theorem dX6_times_39 : decode cX6_times 39 = .ok (.iconst 1, 1) := by decide +kernel
theorem dX6_times_40 : decode cX6_times 40 = .ok (.aload_n 1, 1) := by decide +kernel
theorem dX6_times_41 : decode cX6_times 41 = .ok (.iconst 0, 1) := by decide +kernel
theorem dX6_times_42 : decode cX6_times 42 = .ok (.laload, 1) := by decide +kernel
theorem dX6_times_43 : decode cX6_times 43 = .ok (.aload_n 2, 1) := by decide +kernel
theorem dX6_times_44 : decode cX6_times 44 = .ok (.iconst 1, 1) := by decide +kernel
theorem dX6_times_45 : decode cX6_times 45 = .ok (.laload, 1) := by decide +kernel
theorem dX6_times_46 : decode cX6_times 46 = .ok (.lmul, 1) := by decide +kernel
theorem dX6_times_47 : decode cX6_times 47 = .ok (.aload_n 1, 1) := by decide +kernel
theorem dX6_times_48 : decode cX6_times 48 = .ok (.iconst 1, 1) := by decide +kernel
theorem dX6_times_49 : decode cX6_times 49 = .ok (.laload, 1) := by decide +kernel
theorem dX6_times_50 : decode cX6_times 50 = .ok (.aload_n 2, 1) := by decide +kernel
theorem dX6_times_51 : decode cX6_times 51 = .ok (.iconst 0, 1) := by decide +kernel
theorem dX6_times_52 : decode cX6_times 52 = .ok (.laload, 1) := by decide +kernel
theorem dX6_times_53 : decode cX6_times 53 = .ok (.lmul, 1) := by decide +kernel
theorem dX6_times_54 : decode cX6_times 54 = .ok (.ladd, 1) := by decide +kernel
theorem dX6_times_55 : decode cX6_times 55 = .ok (.aload_n 1, 1) := by decide +kernel
theorem dX6_times_56 : decode cX6_times 56 = .ok (.iconst 2, 1) := by decide +kernel
theorem dX6_times_57 : decode cX6_times 57 = .ok (.laload, 1) := by decide +kernel
theorem dX6_times_58 : decode cX6_times 58 = .ok (.aload_n 2, 1) := by decide +kernel
theorem dX6_times_59 : decode cX6_times 59 = .ok (.iconst 3, 1) := by decide +kernel
theorem dX6_times_60 : decode cX6_times 60 = .ok (.laload, 1) := by decide +kernel
theorem dX6_times_61 : decode cX6_times 61 = .ok (.lmul, 1) := by decide +kernel
theorem dX6_times_62 : decode cX6_times 62 = .ok (.ladd, 1) := by decide +kernel
theorem dX6_times_63 : decode cX6_times 63 = .ok (.aload_n 1, 1) := by decide +kernel
theorem dX6_times_64 : decode cX6_times 64 = .ok (.iconst 3, 1) := by decide +kernel
theorem dX6_times_65 : decode cX6_times 65 = .ok (.laload, 1) := by decide +kernel
theorem dX6_times_66 : decode cX6_times 66 = .ok (.aload_n 2, 1) := by decide +kernel
theorem dX6_times_67 : decode cX6_times 67 = .ok (.iconst 2, 1) := by decide +kernel
theorem dX6_times_68 : decode cX6_times 68 = .ok (.laload, 1) := by decide +kernel
theorem dX6_times_69 : decode cX6_times 69 = .ok (.lmul, 1) := by decide +kernel
theorem dX6_times_70 : decode cX6_times 70 = .ok (.lsub, 1) := by decide +kernel
theorem dX6_times_71 : decode cX6_times 71 = .ok (.ldc2_w 77, 3) := by decide +kernel
theorem dX6_times_74 : decode cX6_times 74 = .ok (.ldiv, 1) := by decide +kernel
theorem dX6_times_75 : decode cX6_times 75 = .ok (.lastore, 1) := by decide +kernel
theorem dX6_times_76 : decode cX6_times 76 = .ok (.aload_n 0, 1) := by decide +kernel
theorem dX6_times_77 : decode cX6_times 77 = .ok (.iconst 2, 1) := by decide +kernel
theorem dX6_times_78 : decode cX6_times 78 = .ok (.aload_n 1, 1) := by decide +kernel
theorem dX6_times_79 : decode cX6_times 79 = .ok (.iconst 0, 1) := by decide +kernel
theorem dX6_times_80 : decode cX6_times 80 = .ok (.laload, 1) := by decide +kernel
theorem dX6_times_81 : decode cX6_times 81 = .ok (.aload_n 2, 1) := by decide +kernel
theorem dX6_times_82 : decode cX6_times 82 = .ok (.iconst 2, 1) := by decide +kernel
theorem dX6_times_83 : decode cX6_times 83 = .ok (.laload, 1) := by decide +kernel
theorem dX6_times_84 : decode cX6_times 84 = .ok (.lmul, 1) := by decide +kernel
theorem dX6_times_85 : decode cX6_times 85 = .ok (.aload_n 1, 1) := by decide +kernel
theorem dX6_times_86 : decode cX6_times 86 = .ok (.iconst 1, 1) := by decide +kernel
theorem dX6_times_87 : decode cX6_times 87 = .ok (.laload, 1) := by decide +kernel
theorem dX6_times_88 : decode cX6_times 88 = .ok (.aload_n 2, 1) := by decide +kernel
theorem dX6_times_89 : decode cX6_times 89 = .ok (.iconst 3, 1) := by decide +kernel
theorem dX6_times_90 : decode cX6_times 90 = .ok (.laload, 1) := by decide +kernel
theorem dX6_times_91 : decode cX6_times 91 = .ok (.lmul, 1) := by decide +kernel
theorem dX6_times_92 : decode cX6_times 92 = .ok (.lsub, 1) := by decide +kernel
theorem dX6_times_93 : decode cX6_times 93 = .ok (.aload_n 1, 1) := by decide +kernel
theorem dX6_times_94 : decode cX6_times 94 = .ok (.iconst 2, 1) := by decide +kernel
theorem dX6_times_95 : decode cX6_times 95 = .ok (.laload, 1) := by decide +kernel
theorem dX6_times_96 : decode cX6_times 96 = .ok (.aload_n 2, 1) := by decide +kernel
theorem dX6_times_97 : decode cX6_times 97 = .ok (.iconst 0, 1) := by decide +kernel
theorem dX6_times_98 : decode cX6_times 98 = .ok (.laload, 1) := by decide +kernel
theorem dX6_times_99 : decode cX6_times 99 = .ok (.lmul, 1) := by decide +kernel
theorem dX6_times_100 : decode cX6_times 100 = .ok (.ladd, 1) := by decide +kernel
theorem dX6_times_101 : decode cX6_times 101 = .ok (.aload_n 1, 1) := by decide +kernel
theorem dX6_times_102 : decode cX6_times 102 = .ok (.iconst 3, 1) := by decide +kernel
theorem dX6_times_103 : decode cX6_times 103 = .ok (.laload, 1) := by decide +kernel
theorem dX6_times_104 : decode cX6_times 104 = .ok (.aload_n 2, 1) := by decide +kernel
theorem dX6_times_105 : decode cX6_times 105 = .ok (.iconst 1, 1) := by decide +kernel
theorem dX6_times_106 : decode cX6_times 106 = .ok (.laload, 1) := by decide +kernel
theorem dX6_times_107 : decode cX6_times 107 = .ok (.lmul, 1) := by decide +kernel
theorem dX6_times_108 : decode cX6_times 108 = .ok (.ladd, 1) := by decide +kernel
theorem dX6_times_109 : decode cX6_times 109 = .ok (.ldc2_w 77, 3) := by decide +kernel
theorem dX6_times_112 : decode cX6_times 112 = .ok (.ldiv, 1) := by decide +kernel
theorem dX6_times_113 : decode cX6_times 113 = .ok (.lastore, 1) := by decide +kernel
theorem dX6_times_114 : decode cX6_times 114 = .ok (.aload_n 0, 1) := by decide +kernel
theorem dX6_times_115 : decode cX6_times 115 = .ok (.iconst 3, 1) := by decide +kernel
theorem dX6_times_116 : decode cX6_times 116 = .ok (.aload_n 1, 1) := by decide +kernel
theorem dX6_times_117 : decode cX6_times 117 = .ok (.iconst 0, 1) := by decide +kernel
theorem dX6_times_118 : decode cX6_times 118 = .ok (.laload, 1) := by decide +kernel
theorem dX6_times_119 : decode cX6_times 119 = .ok (.aload_n 2, 1) := by decide +kernel
theorem dX6_times_120 : decode cX6_times 120 = .ok (.iconst 3, 1) := by decide +kernel
theorem dX6_times_121 : decode cX6_times 121 = .ok (.laload, 1) := by decide +kernel
theorem dX6_times_122 : decode cX6_times 122 = .ok (.lmul, 1) := by decide +kernel
theorem dX6_times_123 : decode cX6_times 123 = .ok (.aload_n 1, 1) := by decide +kernel
theorem dX6_times_124 : decode cX6_times 124 = .ok (.iconst 1, 1) := by decide +kernel
theorem dX6_times_125 : decode cX6_times 125 = .ok (.laload, 1) := by decide +kernel
theorem dX6_times_126 : decode cX6_times 126 = .ok (.aload_n 2, 1) := by decide +kernel
theorem dX6_times_127 : decode cX6_times 127 = .ok (.iconst 2, 1) := by decide +kernel
theorem dX6_times_128 : decode cX6_times 128 = .ok (.laload, 1) := by decide +kernel
theorem dX6_times_129 : decode cX6_times 129 = .ok (.lmul, 1) := by decide +kernel
theorem dX6_times_130 : decode cX6_times 130 = .ok (.ladd, 1) := by decide +kernel
theorem dX6_times_131 : decode cX6_times 131 = .ok (.aload_n 1, 1) := by decide +kernel
theorem dX6_times_132 : decode cX6_times 132 = .ok (.iconst 2, 1) := by decide +kernel
theorem dX6_times_133 : decode cX6_times 133 = .ok (.laload, 1) := by decide +kernel
theorem dX6_times_134 : decode cX6_times 134 = .ok (.aload_n 2, 1) := by decide +kernel
theorem dX6_times_135 : decode cX6_times 135 = .ok (.iconst 1, 1) := by decide +kernel
theorem dX6_times_136 : decode cX6_times 136 = .ok (.laload, 1) := by decide +kernel
theorem dX6_times_137 : decode cX6_times 137 = .ok (.lmul, 1) := by decide +kernel
theorem dX6_times_138 : decode cX6_times 138 = .ok (.lsub, 1) := by decide +kernel
theorem dX6_times_139 : decode cX6_times 139 = .ok (.aload_n 1, 1) := by decide +kernel
theorem dX6_times_140 : decode cX6_times 140 = .ok (.iconst 3, 1) := by decide +kernel
theorem dX6_times_141 : decode cX6_times 141 = .ok (.laload, 1) := by decide +kernel
theorem dX6_times_142 : decode cX6_times 142 = .ok (.aload_n 2, 1) := by decide +kernel
theorem dX6_times_143 : decode cX6_times 143 = .ok (.iconst 0, 1) := by decide +kernel
theorem dX6_times_144 : decode cX6_times 144 = .ok (.laload, 1) := by decide +kernel
theorem dX6_times_145 : decode cX6_times 145 = .ok (.lmul, 1) := by decide +kernel
theorem dX6_times_146 : decode cX6_times 146 = .ok (.ladd, 1) := by decide +kernel
theorem dX6_times_147 : decode cX6_times 147 = .ok (.ldc2_w 77, 3) := by decide +kernel
theorem dX6_times_150 : decode cX6_times 150 = .ok (.ldiv, 1) := by decide +kernel
theorem dX6_times_151 : decode cX6_times 151 = .ok (.lastore, 1) := by decide +kernel
theorem dX6_times_152 : decode cX6_times 152 = .ok (.return_, 1) := by decide +kernel
theorem dX6_mirror_0 : decode cX6_mirror 0 = .ok (.aload_n 0, 1) := by decide +kernel
theorem dX6_mirror_1 : decode cX6_mirror 1 = .ok (.iconst 1, 1) := by decide +kernel
theorem dX6_mirror_2 : decode cX6_mirror 2 = .ok (.aload_n 0, 1) := by decide +kernel
theorem dX6_mirror_3 : decode cX6_mirror 3 = .ok (.iconst 1, 1) := by decide +kernel
theorem dX6_mirror_4 : decode cX6_mirror 4 = .ok (.laload, 1) := by decide +kernel
theorem dX6_mirror_5 : decode cX6_mirror 5 = .ok (.lneg, 1) := by decide +kernel
theorem dX6_mirror_6 : decode cX6_mirror 6 = .ok (.lastore, 1) := by decide +kernel
theorem dX6_mirror_7 : decode cX6_mirror 7 = .ok (.aload_n 0, 1) := by decide +kernel
theorem dX6_mirror_8 : decode cX6_mirror 8 = .ok (.iconst 2, 1) := by decide +kernel
theorem dX6_mirror_9 : decode cX6_mirror 9 = .ok (.aload_n 0, 1) := by decide +kernel
theorem dX6_mirror_10 : decode cX6_mirror 10 = .ok (.iconst 2, 1) := by decide +kernel
theorem dX6_mirror_11 : decode cX6_mirror 11 = .ok (.laload, 1) := by decide +kernel
theorem dX6_mirror_12 : decode cX6_mirror 12 = .ok (.lneg, 1) := by decide +kernel
theorem dX6_mirror_13 : decode cX6_mirror 13 = .ok (.lastore, 1) := by decide +kernel
theorem dX6_mirror_14 : decode cX6_mirror 14 = .ok (.aload_n 0, 1) := by decide +kernel
theorem dX6_mirror_15 : decode cX6_mirror 15 = .ok (.iconst 3, 1) := by decide +kernel
theorem dX6_mirror_16 : decode cX6_mirror 16 = .ok (.aload_n 0, 1) := by decide +kernel
theorem dX6_mirror_17 : decode cX6_mirror 17 = .ok (.iconst 3, 1) := by decide +kernel
theorem dX6_mirror_18 : decode cX6_mirror 18 = .ok (.laload, 1) := by decide +kernel
theorem dX6_mirror_19 : decode cX6_mirror 19 = .ok (.lneg, 1) := by decide +kernel
theorem dX6_mirror_20 : decode cX6_mirror 20 = .ok (.lastore, 1) := by decide +kernel
theorem dX6_mirror_21 : decode cX6_mirror 21 = .ok (.return_, 1) := by decide +kernel
theorem dX6_norm_0 : decode cX6_norm 0 = .ok (.aload_n 0, 1) := by decide +kernel
theorem dX6_norm_1 : decode cX6_norm 1 = .ok (.iconst 0, 1) := by decide +kernel
theorem dX6_norm_2 : decode cX6_norm 2 = .ok (.laload, 1) := by decide +kernel
theorem dX6_norm_3 : decode cX6_norm 3 = .ok (.aload_n 0, 1) := by decide +kernel
theorem dX6_norm_4 : decode cX6_norm 4 = .ok (.iconst 0, 1) := by decide +kernel
theorem dX6_norm_5 : decode cX6_norm 5 = .ok (.laload, 1) := by decide +kernel
theorem dX6_norm_6 : decode cX6_norm 6 = .ok (.lmul, 1) := by decide +kernel
theorem dX6_norm_7 : decode cX6_norm 7 = .ok (.aload_n 0, 1) := by decide +kernel
theorem dX6_norm_8 : decode cX6_norm 8 = .ok (.iconst 1, 1) := by decide +kernel
theorem dX6_norm_9 : decode cX6_norm 9 = .ok (.laload, 1) := by decide +kernel
theorem dX6_norm_10 : decode cX6_norm 10 = .ok (.aload_n 0, 1) := by decide +kernel
theorem dX6_norm_11 : decode cX6_norm 11 = .ok (.iconst 1, 1) := by decide +kernel
theorem dX6_norm_12 : decode cX6_norm 12 = .ok (.laload, 1) := by decide +kernel
theorem dX6_norm_13 : decode cX6_norm 13 = .ok (.lmul, 1) := by decide +kernel
theorem dX6_norm_14 : decode cX6_norm 14 = .ok (.ladd, 1) := by decide +kernel
theorem dX6_norm_15 : decode cX6_norm 15 = .ok (.aload_n 0, 1) := by decide +kernel
theorem dX6_norm_16 : decode cX6_norm 16 = .ok (.iconst 2, 1) := by decide +kernel
theorem dX6_norm_17 : decode cX6_norm 17 = .ok (.laload, 1) := by decide +kernel
theorem dX6_norm_18 : decode cX6_norm 18 = .ok (.aload_n 0, 1) := by decide +kernel
theorem dX6_norm_19 : decode cX6_norm 19 = .ok (.iconst 2, 1) := by decide +kernel
theorem dX6_norm_20 : decode cX6_norm 20 = .ok (.laload, 1) := by decide +kernel
theorem dX6_norm_21 : decode cX6_norm 21 = .ok (.lmul, 1) := by decide +kernel
theorem dX6_norm_22 : decode cX6_norm 22 = .ok (.ladd, 1) := by decide +kernel
theorem dX6_norm_23 : decode cX6_norm 23 = .ok (.aload_n 0, 1) := by decide +kernel
theorem dX6_norm_24 : decode cX6_norm 24 = .ok (.iconst 3, 1) := by decide +kernel
theorem dX6_norm_25 : decode cX6_norm 25 = .ok (.laload, 1) := by decide +kernel
theorem dX6_norm_26 : decode cX6_norm 26 = .ok (.aload_n 0, 1) := by decide +kernel
theorem dX6_norm_27 : decode cX6_norm 27 = .ok (.iconst 3, 1) := by decide +kernel
theorem dX6_norm_28 : decode cX6_norm 28 = .ok (.laload, 1) := by decide +kernel
theorem dX6_norm_29 : decode cX6_norm 29 = .ok (.lmul, 1) := by decide +kernel
theorem dX6_norm_30 : decode cX6_norm 30 = .ok (.ladd, 1) := by decide +kernel
theorem dX6_norm_31 : decode cX6_norm 31 = .ok (.ldc2_w 106, 3) := by decide +kernel
theorem dX6_norm_34 : decode cX6_norm 34 = .ok (.ldiv, 1) := by decide +kernel
theorem dX6_norm_35 : decode cX6_norm 35 = .ok (.lreturn, 1) := by decide +kernel
theorem dX6_isNull_0 : decode cX6_isNull 0 = .ok (.aload_n 0, 1) := by decide +kernel
theorem dX6_isNull_1 : decode cX6_isNull 1 = .ok (.iconst 0, 1) := by decide +kernel
theorem dX6_isNull_2 : decode cX6_isNull 2 = .ok (.laload, 1) := by decide +kernel
theorem dX6_isNull_3 : decode cX6_isNull 3 = .ok (.lconst 0, 1) := by decide +kernel
theorem dX6_isNull_4 : decode cX6_isNull 4 = .ok (.lcmp, 1) := by decide +kernel
theorem dX6_isNull_5 : decode cX6_isNull 5 = .ok (.ifCond .ne 31, 3) := by decide +kernel
theorem dX6_isNull_8 : decode cX6_isNull 8 = .ok (.aload_n 0, 1) := by decide +kernel
theorem dX6_isNull_9 : decode cX6_isNull 9 = .ok (.iconst 1, 1) := by decide +kernel
theorem dX6_isNull_10 : decode cX6_isNull 10 = .ok (.laload, 1) := by decide +kernel
theorem dX6_isNull_11 : decode cX6_isNull 11 = .ok (.lconst 0, 1) := by decide +kernel
theorem dX6_isNull_12 : decode cX6_isNull 12 = .ok (.lcmp, 1) := by decide +kernel
theorem dX6_isNull_13 : decode cX6_isNull 13 = .ok (.ifCond .ne 23, 3) := by decide +kernel
theorem dX6_isNull_16 : decode cX6_isNull 16 = .ok (.aload_n 0, 1) := by decide +kernel
theorem dX6_isNull_17 : decode cX6_isNull 17 = .ok (.iconst 2, 1) := by decide +kernel
theorem dX6_isNull_18 : decode cX6_isNull 18 = .ok (.laload, 1) := by decide +kernel
theorem dX6_isNull_19 : decode cX6_isNull 19 = .ok (.lconst 0, 1) := by decide +kernel
theorem dX6_isNull_20 : decode cX6_isNull 20 = .ok (.lcmp, 1) := by decide +kernel
theorem dX6_isNull_21 : decode cX6_isNull 21 = .ok (.ifCond .ne 15, 3) := by decide +kernel
theorem dX6_isNull_24 : decode cX6_isNull 24 = .ok (.aload_n 0, 1) := by decide +kernel
theorem dX6_isNull_25 : decode cX6_isNull 25 = .ok (.iconst 3, 1) := by decide +kernel
theorem dX6_isNull_26 : decode cX6_isNull 26 = .ok (.laload, 1) := by decide +kernel
theorem dX6_isNull_27 : decode cX6_isNull 27 = .ok (.lconst 0, 1) := by decide +kernel
theorem dX6_isNull_28 : decode cX6_isNull 28 = .ok (.lcmp, 1) := by decide +kernel
theorem dX6_isNull_29 : decode cX6_isNull 29 = .ok (.ifCond .ne 7, 3) := by decide +kernel
theorem dX6_isNull_32 : decode cX6_isNull 32 = .ok (.iconst 1, 1) := by decide +kernel
theorem dX6_isNull_33 : decode cX6_isNull 33 = .ok (.goto 4, 3) := by decide +kernel
theorem dX6_isNull_36 : decode cX6_isNull 36 = .ok (.iconst 0, 1) := by decide +kernel
theorem dX6_isNull_37 : decode cX6_isNull 37 = .ok (.ireturn, 1) := by decide +kernel
theorem dX6_isGreater_0 : decode cX6_isGreater 0 = .ok (.iconst 0, 1) := by decide +kernel
theorem dX6_isGreater_1 : decode cX6_isGreater 1 = .ok (.istore_n 2, 1) := by decide +kernel
theorem dX6_isGreater_2 : decode cX6_isGreater 2 = .ok (.iload_n 2, 1) := by decide +kernel
theorem dX6_isGreater_3 : decode cX6_isGreater 3 = .ok (.iconst 4, 1) := by decide +kernel
theorem dX6_isGreater_4 : decode cX6_isGreater 4 = .ok (.if_icmp .ge 35, 3) := by decide +kernel
theorem dX6_isGreater_7 : decode cX6_isGreater 7 = .ok (.aload_n 0, 1) := by decide +kernel
theorem dX6_isGreater_8 : decode cX6_isGreater 8 = .ok (.iload_n 2, 1) := by decide +kernel
theorem dX6_isGreater_9 : decode cX6_isGreater 9 = .ok (.laload, 1) := by decide +kernel
theorem dX6_isGreater_10 : decode cX6_isGreater 10 = .ok (.aload_n 1, 1) := by decide +kernel
theorem dX6_isGreater_11 : decode cX6_isGreater 11 = .ok (.iload_n 2, 1) := by decide +kernel
theorem dX6_isGreater_12 : decode cX6_isGreater 12 = .ok (.laload, 1) := by decide +kernel
theorem dX6_isGreater_13 : decode cX6_isGreater 13 = .ok (.lcmp, 1) := by decide +kernel
theorem dX6_isGreater_14 : decode cX6_isGreater 14 = .ok (.ifCond .eq 19, 3) := by decide +kernel
theorem dX6_isGreater_17 : decode cX6_isGreater 17 = .ok (.aload_n 0, 1) := by decide +kernel
theorem dX6_isGreater_18 : decode cX6_isGreater 18 = .ok (.iload_n 2, 1) := by decide +kernel
theorem dX6_isGreater_19 : decode cX6_isGreater 19 = .ok (.laload, 1) := by decide +kernel
theorem dX6_isGreater_20 : decode cX6_isGreater 20 = .ok (.aload_n 1, 1) := by decide +kernel
theorem dX6_isGreater_21 : decode cX6_isGreater 21 = .ok (.iload_n 2, 1) := by decide +kernel
theorem dX6_isGreater_22 : decode cX6_isGreater 22 = .ok (.laload, 1) := by decide +kernel
theorem dX6_isGreater_23 : decode cX6_isGreater 23 = .ok (.lcmp, 1) := by decide +kernel
theorem dX6_isGreater_24 : decode cX6_isGreater 24 = .ok (.ifCond .le 7, 3) := by decide +kernel
theorem dX6_isGreater_27 : decode cX6_isGreater 27 = .ok (.iconst 1, 1) := by decide +kernel
theorem dX6_isGreater_28 : decode cX6_isGreater 28 = .ok (.goto 4, 3) := by decide +kernel
theorem dX6_isGreater_31 : decode cX6_isGreater 31 = .ok (.iconst 0, 1) := by decide +kernel
theorem dX6_isGreater_32 : decode cX6_isGreater 32 = .ok (.ireturn, 1) := by decide +kernel
theorem dX6_isGreater_33 : decode cX6_isGreater 33 = .ok (.iinc 2 1, 3) := by decide +kernel
theorem dX6_isGreater_36 : decode cX6_isGreater 36 = .ok (.goto (-34), 3) := by decide +kernel
theorem dX6_isGreater_39 : decode cX6_isGreater 39 = .ok (.iconst 0, 1) := by decide +kernel
theorem dX6_isGreater_40 : decode cX6_isGreater 40 = .ok (.ireturn, 1) := by decide +kernel
theorem dX6_isSame_0 : decode cX6_isSame 0 = .ok (.aload_n 0, 1) := by decide +kernel
theorem dX6_isSame_1 : decode cX6_isSame 1 = .ok (.iconst 0, 1) := by decide +kernel
theorem dX6_isSame_2 : decode cX6_isSame 2 = .ok (.laload, 1) := by decide +kernel
theorem dX6_isSame_3 : decode cX6_isSame 3 = .ok (.aload_n 1, 1) := by decide +kernel
theorem dX6_isSame_4 : decode cX6_isSame 4 = .ok (.iconst 0, 1) := by decide +kernel
theorem dX6_isSame_5 : decode cX6_isSame 5 = .ok (.laload, 1) := by decide +kernel
theorem dX6_isSame_6 : decode cX6_isSame 6 = .ok (.lcmp, 1) := by decide +kernel
theorem dX6_isSame_7 : decode cX6_isSame 7 = .ok (.ifCond .ne 37, 3) := by decide +kernel
theorem dX6_isSame_10 : decode cX6_isSame 10 = .ok (.aload_n 0, 1) := by decide +kernel
theorem dX6_isSame_11 : decode cX6_isSame 11 = .ok (.iconst 1, 1) := by decide +kernel
theorem dX6_isSame_12 : decode cX6_isSame 12 = .ok (.laload, 1) := by decide +kernel
theorem dX6_isSame_13 : decode cX6_isSame 13 = .ok (.aload_n 1, 1) := by decide +kernel
theorem dX6_isSame_14 : decode cX6_isSame 14 = .ok (.iconst 1, 1) := by decide +kernel
theorem dX6_isSame_15 : decode cX6_isSame 15 = .ok (.laload, 1) := by decide +kernel
theorem dX6_isSame_16 : decode cX6_isSame 16 = .ok (.lcmp, 1) := by decide +kernel
theorem dX6_isSame_17 : decode cX6_isSame 17 = .ok (.ifCond .ne 27, 3) := by decide +kernel
theorem dX6_isSame_20 : decode cX6_isSame 20 = .ok (.aload_n 0, 1) := by decide +kernel
theorem dX6_isSame_21 : decode cX6_isSame 21 = .ok (.iconst 2, 1) := by decide +kernel
theorem dX6_isSame_22 : decode cX6_isSame 22 = .ok (.laload, 1) := by decide +kernel
theorem dX6_isSame_23 : decode cX6_isSame 23 = .ok (.aload_n 1, 1) := by decide +kernel
theorem dX6_isSame_24 : decode cX6_isSame 24 = .ok (.iconst 2, 1) := by decide +kernel
theorem dX6_isSame_25 : decode cX6_isSame 25 = .ok (.laload, 1) := by decide +kernel
theorem dX6_isSame_26 : decode cX6_isSame 26 = .ok (.lcmp, 1) := by decide +kernel
theorem dX6_isSame_27 : decode cX6_isSame 27 = .ok (.ifCond .ne 17, 3) := by decide +kernel
theorem dX6_isSame_30 : decode cX6_isSame 30 = .ok (.aload_n 0, 1) := by decide +kernel
theorem dX6_isSame_31 : decode cX6_isSame 31 = .ok (.iconst 3, 1) := by decide +kernel
theorem dX6_isSame_32 : decode cX6_isSame 32 = .ok (.laload, 1) := by decide +kernel
theorem dX6_isSame_33 : decode cX6_isSame 33 = .ok (.aload_n 1, 1) := by decide +kernel
theorem dX6_isSame_34 : decode cX6_isSame 34 = .ok (.iconst 3, 1) := by decide +kernel
theorem dX6_isSame_35 : decode cX6_isSame 35 = .ok (.laload, 1) := by decide +kernel
theorem dX6_isSame_36 : decode cX6_isSame 36 = .ok (.lcmp, 1) := by decide +kernel
theorem dX6_isSame_37 : decode cX6_isSame 37 = .ok (.ifCond .ne 7, 3) := by decide +kernel
theorem dX6_isSame_40 : decode cX6_isSame 40 = .ok (.iconst 1, 1) := by decide +kernel
theorem dX6_isSame_41 : decode cX6_isSame 41 = .ok (.goto 4, 3) := by decide +kernel
theorem dX6_isSame_44 : decode cX6_isSame 44 = .ok (.iconst 0, 1) := by decide +kernel
theorem dX6_isSame_45 : decode cX6_isSame 45 = .ok (.ireturn, 1) := by decide +kernel
set_option maxRecDepth 20000 in
theorem ggX6_set_X6_isRegister : GoodIn wsX6_set wsX6_isRegister := goodIn_r _ [5, 6, 7, 8, 4, 9] (by decide +kernel) (by decide +kernel)
set_option maxRecDepth 20000 in
theorem gX6_set_X6_isRegister : GoodIn wsX6_set (va_wsS RX6 91 yX6_isRegister wsX6_isRegister) := goodIn_app (goodIn_of _ (by decide +kernel)) ggX6_set_X6_isRegister
set_option maxRecDepth 20000 in
theorem ggX6_set_X6_isOne : GoodIn wsX6_set wsX6_isOne := goodIn_r _ [12] (by decide +kernel) (by decide +kernel)
set_option maxRecDepth 20000 in
theorem gX6_set_X6_isOne : GoodIn wsX6_set (va_wsS RX6 59 yX6_isOne wsX6_isOne) := goodIn_app (goodIn_of _ (by decide +kernel)) ggX6_set_X6_isOne
set_option maxRecDepth 20000 in
theorem ggX6_set_X6_holds : GoodIn wsX6_set wsX6_holds := goodIn_r _ [16, 17, 18, 4, 19, 20, 21, 22, 23, 24, 7, 8, 9, 25, 26, 27, 28, 29, 30, 31, 32, 33, 34, 35, 36, 37, 38, 39, 40, 41, 42, 43, 44, 45, 46, 47] (by decide +kernel) (by decide +kernel)
set_option maxRecDepth 20000 in
theorem gX6_set_X6_holds : GoodIn wsX6_set (wsV RX6 108 RX6 yX6_holds wsX6_holds) := goodIn_app (goodIn_of _ (by decide +kernel)) ggX6_set_X6_holds
theorem dX6_set_0 : decode cX6_set 0 = .ok (.iload_n 1, 1) := by decide +kernel
theorem dX6_set_1 : decode cX6_set 1 = .ok (.invokestatic 91, 3) := by decide +kernel
theorem dX6_set_4 : decode cX6_set 4 = .ok (.ifCond .ne 5, 3) := by decide +kernel
theorem dX6_set_7 : decode cX6_set 7 = .ok (.iconst (-1), 1) := by decide +kernel
theorem dX6_set_8 : decode cX6_set 8 = .ok (.ireturn, 1) := by decide +kernel
theorem dX6_set_9 : decode cX6_set 9 = .ok (.iload_n 2, 1) := by decide +kernel
theorem dX6_set_10 : decode cX6_set 10 = .ok (.i2l, 1) := by decide +kernel
theorem dX6_set_11 : decode cX6_set 11 = .ok (.iload_n 3, 1) := by decide +kernel
theorem dX6_set_12 : decode cX6_set 12 = .ok (.i2l, 1) := by decide +kernel
theorem dX6_set_13 : decode cX6_set 13 = .ok (.iload 4, 2) := by decide +kernel
theorem dX6_set_15 : decode cX6_set 15 = .ok (.i2l, 1) := by decide +kernel
theorem dX6_set_16 : decode cX6_set 16 = .ok (.iload 5, 2) := by decide +kernel
theorem dX6_set_18 : decode cX6_set 18 = .ok (.i2l, 1) := by decide +kernel
theorem dX6_set_19 : decode cX6_set 19 = .ok (.invokestatic 59, 3) := by decide +kernel
theorem dX6_set_22 : decode cX6_set 22 = .ok (.ifCond .ne 6, 3) := by decide +kernel
theorem dX6_set_25 : decode cX6_set 25 = .ok (.bipush (-2), 2) := by decide +kernel
theorem dX6_set_27 : decode cX6_set 27 = .ok (.ireturn, 1) := by decide +kernel
theorem dX6_set_28 : decode cX6_set 28 = .ok (.aload_n 0, 1) := by decide +kernel
theorem dX6_set_29 : decode cX6_set 29 = .ok (.getfield 32, 3) := by decide +kernel
theorem dX6_set_32 : decode cX6_set 32 = .ok (.iconst 0, 1) := by decide +kernel
theorem dX6_set_33 : decode cX6_set 33 = .ok (.iload_n 2, 1) := by decide +kernel
theorem dX6_set_34 : decode cX6_set 34 = .ok (.i2l, 1) := by decide +kernel
theorem dX6_set_35 : decode cX6_set 35 = .ok (.lastore, 1) := by decide +kernel
theorem dX6_set_36 : decode cX6_set 36 = .ok (.aload_n 0, 1) := by decide +kernel
theorem dX6_set_37 : decode cX6_set 37 = .ok (.getfield 32, 3) := by decide +kernel
theorem dX6_set_40 : decode cX6_set 40 = .ok (.iconst 1, 1) := by decide +kernel
theorem dX6_set_41 : decode cX6_set 41 = .ok (.iload_n 3, 1) := by decide +kernel
theorem dX6_set_42 : decode cX6_set 42 = .ok (.i2l, 1) := by decide +kernel
theorem dX6_set_43 : decode cX6_set 43 = .ok (.lastore, 1) := by decide +kernel
theorem dX6_set_44 : decode cX6_set 44 = .ok (.aload_n 0, 1) := by decide +kernel
theorem dX6_set_45 : decode cX6_set 45 = .ok (.getfield 32, 3) := by decide +kernel
theorem dX6_set_48 : decode cX6_set 48 = .ok (.iconst 2, 1) := by decide +kernel
theorem dX6_set_49 : decode cX6_set 49 = .ok (.iload 4, 2) := by decide +kernel
theorem dX6_set_51 : decode cX6_set 51 = .ok (.i2l, 1) := by decide +kernel
theorem dX6_set_52 : decode cX6_set 52 = .ok (.lastore, 1) := by decide +kernel
theorem dX6_set_53 : decode cX6_set 53 = .ok (.aload_n 0, 1) := by decide +kernel
theorem dX6_set_54 : decode cX6_set 54 = .ok (.getfield 32, 3) := by decide +kernel
theorem dX6_set_57 : decode cX6_set 57 = .ok (.iconst 3, 1) := by decide +kernel
theorem dX6_set_58 : decode cX6_set 58 = .ok (.iload 5, 2) := by decide +kernel
theorem dX6_set_60 : decode cX6_set 60 = .ok (.i2l, 1) := by decide +kernel
theorem dX6_set_61 : decode cX6_set 61 = .ok (.lastore, 1) := by decide +kernel
theorem dX6_set_62 : decode cX6_set 62 = .ok (.aload_n 0, 1) := by decide +kernel
theorem dX6_set_63 : decode cX6_set 63 = .ok (.iload_n 1, 1) := by decide +kernel
theorem dX6_set_64 : decode cX6_set 64 = .ok (.aload_n 0, 1) := by decide +kernel
theorem dX6_set_65 : decode cX6_set 65 = .ok (.getfield 32, 3) := by decide +kernel
theorem dX6_set_68 : decode cX6_set 68 = .ok (.invokevirtual 108, 3) := by decide +kernel
theorem dX6_set_71 : decode cX6_set 71 = .ok (.ireturn, 1) := by decide +kernel
theorem dX6_common_0 : decode cX6_common 0 = .ok (.lload_n 0, 1) := by decide +kernel
theorem dX6_common_1 : decode cX6_common 1 = .ok (.lconst 0, 1) := by decide +kernel
theorem dX6_common_2 : decode cX6_common 2 = .ok (.lcmp, 1) := by decide +kernel
theorem dX6_common_3 : decode cX6_common 3 = .ok (.ifCond .ge 8, 3) := by decide +kernel
theorem dX6_common_6 : decode cX6_common 6 = .ok (.lload_n 0, 1) := by decide +kernel
theorem dX6_common_7 : decode cX6_common 7 = .ok (.lneg, 1) := by decide +kernel
theorem dX6_common_8 : decode cX6_common 8 = .ok (.goto 4, 3) := by decide +kernel
theorem dX6_common_11 : decode cX6_common 11 = .ok (.lload_n 0, 1) := by decide +kernel
theorem dX6_common_12 : decode cX6_common 12 = .ok (.lstore 4, 2) := by decide +kernel
theorem dX6_common_14 : decode cX6_common 14 = .ok (.lload_n 2, 1) := by decide +kernel
theorem dX6_common_15 : decode cX6_common 15 = .ok (.lconst 0, 1) := by decide +kernel
theorem dX6_common_16 : decode cX6_common 16 = .ok (.lcmp, 1) := by decide +kernel
theorem dX6_common_17 : decode cX6_common 17 = .ok (.ifCond .ge 8, 3) := by decide +kernel
theorem dX6_common_20 : decode cX6_common 20 = .ok (.lload_n 2, 1) := by decide +kernel
theorem dX6_common_21 : decode cX6_common 21 = .ok (.lneg, 1) := by decide +kernel
theorem dX6_common_22 : decode cX6_common 22 = .ok (.goto 4, 3) := by decide +kernel
theorem dX6_common_25 : decode cX6_common 25 = .ok (.lload_n 2, 1) := by decide +kernel
theorem dX6_common_26 : decode cX6_common 26 = .ok (.lstore 6, 2) := by decide +kernel
theorem dX6_common_28 : decode cX6_common 28 = .ok (.lload 6, 2) := by decide +kernel
theorem dX6_common_30 : decode cX6_common 30 = .ok (.lconst 0, 1) := by decide +kernel
theorem dX6_common_31 : decode cX6_common 31 = .ok (.lcmp, 1) := by decide +kernel
theorem dX6_common_32 : decode cX6_common 32 = .ok (.ifCond .eq 21, 3) := by decide +kernel
theorem dX6_common_35 : decode cX6_common 35 = .ok (.lload 4, 2) := by decide +kernel
theorem dX6_common_37 : decode cX6_common 37 = .ok (.lload 6, 2) := by decide +kernel
theorem dX6_common_39 : decode cX6_common 39 = .ok (.lrem, 1) := by decide +kernel
theorem dX6_common_40 : decode cX6_common 40 = .ok (.lstore 8, 2) := by decide +kernel
theorem dX6_common_42 : decode cX6_common 42 = .ok (.lload 6, 2) := by decide +kernel
theorem dX6_common_44 : decode cX6_common 44 = .ok (.lstore 4, 2) := by decide +kernel
theorem dX6_common_46 : decode cX6_common 46 = .ok (.lload 8, 2) := by decide +kernel
theorem dX6_common_48 : decode cX6_common 48 = .ok (.lstore 6, 2) := by decide +kernel
theorem dX6_common_50 : decode cX6_common 50 = .ok (.goto (-22), 3) := by decide +kernel
theorem dX6_common_53 : decode cX6_common 53 = .ok (.lload 4, 2) := by decide +kernel
theorem dX6_common_55 : decode cX6_common 55 = .ok (.lreturn, 1) := by decide +kernel
set_option maxRecDepth 20000 in
theorem ggX6_isPrimitive_X6_isNull : GoodIn wsX6_isPrimitive wsX6_isNull := goodIn_r _ [5] (by decide +kernel) (by decide +kernel)
set_option maxRecDepth 20000 in
theorem gX6_isPrimitive_X6_isNull : GoodIn wsX6_isPrimitive (va_wsS RX6 112 yX6_isNull wsX6_isNull) := goodIn_app (goodIn_of _ (by decide +kernel)) ggX6_isPrimitive_X6_isNull
set_option maxRecDepth 20000 in
theorem ggX6_isPrimitive_X6_common : GoodIn wsX6_isPrimitive wsX6_common := goodIn_r _ [8] (by decide +kernel) (by decide +kernel)
set_option maxRecDepth 20000 in
theorem gX6_isPrimitive_X6_common : GoodIn wsX6_isPrimitive (va_wsS RX6 115 yX6_common wsX6_common) := goodIn_app (goodIn_of _ (by decide +kernel)) ggX6_isPrimitive_X6_common
set_option maxRecDepth 20000 in
theorem ggX6_isPrimitive_X6_isOne : GoodIn wsX6_isPrimitive wsX6_isOne := goodIn_r _ [11] (by decide +kernel) (by decide +kernel)
set_option maxRecDepth 20000 in
theorem gX6_isPrimitive_X6_isOne : GoodIn wsX6_isPrimitive (va_wsS RX6 59 yX6_isOne wsX6_isOne) := goodIn_app (goodIn_of _ (by decide +kernel)) ggX6_isPrimitive_X6_isOne
theorem dX6_isPrimitive_0 : decode cX6_isPrimitive 0 = .ok (.aload_n 1, 1) := by decide +kernel
theorem dX6_isPrimitive_1 : decode cX6_isPrimitive 1 = .ok (.invokestatic 112, 3) := by decide +kernel
theorem dX6_isPrimitive_4 : decode cX6_isPrimitive 4 = .ok (.ifCond .eq 5, 3) := by decide +kernel
theorem dX6_isPrimitive_7 : decode cX6_isPrimitive 7 = .ok (.iconst 0, 1) := by decide +kernel
theorem dX6_isPrimitive_8 : decode cX6_isPrimitive 8 = .ok (.ireturn, 1) := by decide +kernel
theorem dX6_isPrimitive_9 : decode cX6_isPrimitive 9 = .ok (.aload_n 1, 1) := by decide +kernel
theorem dX6_isPrimitive_10 : decode cX6_isPrimitive 10 = .ok (.iconst 0, 1) := by decide +kernel
theorem dX6_isPrimitive_11 : decode cX6_isPrimitive 11 = .ok (.laload, 1) := by decide +kernel
theorem dX6_isPrimitive_12 : decode cX6_isPrimitive 12 = .ok (.aload_n 1, 1) := by decide +kernel
theorem dX6_isPrimitive_13 : decode cX6_isPrimitive 13 = .ok (.iconst 1, 1) := by decide +kernel
theorem dX6_isPrimitive_14 : decode cX6_isPrimitive 14 = .ok (.laload, 1) := by decide +kernel
theorem dX6_isPrimitive_15 : decode cX6_isPrimitive 15 = .ok (.invokestatic 115, 3) := by decide +kernel
theorem dX6_isPrimitive_18 : decode cX6_isPrimitive 18 = .ok (.aload_n 1, 1) := by decide +kernel
theorem dX6_isPrimitive_19 : decode cX6_isPrimitive 19 = .ok (.iconst 2, 1) := by decide +kernel
theorem dX6_isPrimitive_20 : decode cX6_isPrimitive 20 = .ok (.laload, 1) := by decide +kernel
theorem dX6_isPrimitive_21 : decode cX6_isPrimitive 21 = .ok (.aload_n 1, 1) := by decide +kernel
theorem dX6_isPrimitive_22 : decode cX6_isPrimitive 22 = .ok (.iconst 3, 1) := by decide +kernel
theorem dX6_isPrimitive_23 : decode cX6_isPrimitive 23 = .ok (.laload, 1) := by decide +kernel
theorem dX6_isPrimitive_24 : decode cX6_isPrimitive 24 = .ok (.invokestatic 115, 3) := by decide +kernel
theorem dX6_isPrimitive_27 : decode cX6_isPrimitive 27 = .ok (.invokestatic 115, 3) := by decide +kernel
theorem dX6_isPrimitive_30 : decode cX6_isPrimitive 30 = .ok (.lstore_n 2, 1) := by decide +kernel
theorem dX6_isPrimitive_31 : decode cX6_isPrimitive 31 = .ok (.lload_n 2, 1) := by decide +kernel
theorem dX6_isPrimitive_32 : decode cX6_isPrimitive 32 = .ok (.ldc2_w 77, 3) := by decide +kernel
theorem dX6_isPrimitive_35 : decode cX6_isPrimitive 35 = .ok (.lrem, 1) := by decide +kernel
theorem dX6_isPrimitive_36 : decode cX6_isPrimitive 36 = .ok (.lconst 0, 1) := by decide +kernel
theorem dX6_isPrimitive_37 : decode cX6_isPrimitive 37 = .ok (.lcmp, 1) := by decide +kernel
theorem dX6_isPrimitive_38 : decode cX6_isPrimitive 38 = .ok (.ifCond .ne 41, 3) := by decide +kernel
theorem dX6_isPrimitive_41 : decode cX6_isPrimitive 41 = .ok (.aload_n 1, 1) := by decide +kernel
theorem dX6_isPrimitive_42 : decode cX6_isPrimitive 42 = .ok (.iconst 0, 1) := by decide +kernel
theorem dX6_isPrimitive_43 : decode cX6_isPrimitive 43 = .ok (.laload, 1) := by decide +kernel
theorem dX6_isPrimitive_44 : decode cX6_isPrimitive 44 = .ok (.ldc2_w 77, 3) := by decide +kernel
theorem dX6_isPrimitive_47 : decode cX6_isPrimitive 47 = .ok (.ldiv, 1) := by decide +kernel
theorem dX6_isPrimitive_48 : decode cX6_isPrimitive 48 = .ok (.aload_n 1, 1) := by decide +kernel
theorem dX6_isPrimitive_49 : decode cX6_isPrimitive 49 = .ok (.iconst 1, 1) := by decide +kernel
theorem dX6_isPrimitive_50 : decode cX6_isPrimitive 50 = .ok (.laload, 1) := by decide +kernel
theorem dX6_isPrimitive_51 : decode cX6_isPrimitive 51 = .ok (.ldc2_w 77, 3) := by decide +kernel
theorem dX6_isPrimitive_54 : decode cX6_isPrimitive 54 = .ok (.ldiv, 1) := by decide +kernel
theorem dX6_isPrimitive_55 : decode cX6_isPrimitive 55 = .ok (.aload_n 1, 1) := by decide +kernel
theorem dX6_isPrimitive_56 : decode cX6_isPrimitive 56 = .ok (.iconst 2, 1) := by decide +kernel
theorem dX6_isPrimitive_57 : decode cX6_isPrimitive 57 = .ok (.laload, 1) := by decide +kernel
theorem dX6_isPrimitive_58 : decode cX6_isPrimitive 58 = .ok (.ldc2_w 77, 3) := by decide +kernel
theorem dX6_isPrimitive_61 : decode cX6_isPrimitive 61 = .ok (.ldiv, 1) := by decide +kernel
theorem dX6_isPrimitive_62 : decode cX6_isPrimitive 62 = .ok (.aload_n 1, 1) := by decide +kernel
theorem dX6_isPrimitive_63 : decode cX6_isPrimitive 63 = .ok (.iconst 3, 1) := by decide +kernel
theorem dX6_isPrimitive_64 : decode cX6_isPrimitive 64 = .ok (.laload, 1) := by decide +kernel
theorem dX6_isPrimitive_65 : decode cX6_isPrimitive 65 = .ok (.ldc2_w 77, 3) := by decide +kernel
theorem dX6_isPrimitive_68 : decode cX6_isPrimitive 68 = .ok (.ldiv, 1) := by decide +kernel
theorem dX6_isPrimitive_69 : decode cX6_isPrimitive 69 = .ok (.invokestatic 59, 3) := by decide +kernel
theorem dX6_isPrimitive_72 : decode cX6_isPrimitive 72 = .ok (.ifCond .eq 7, 3) := by decide +kernel
theorem dX6_isPrimitive_75 : decode cX6_isPrimitive 75 = .ok (.iconst 1, 1) := by decide +kernel
theorem dX6_isPrimitive_76 : decode cX6_isPrimitive 76 = .ok (.goto 4, 3) := by decide +kernel
theorem dX6_isPrimitive_79 : decode cX6_isPrimitive 79 = .ok (.iconst 0, 1) := by decide +kernel
theorem dX6_isPrimitive_80 : decode cX6_isPrimitive 80 = .ok (.istore 4, 2) := by decide +kernel
theorem dX6_isPrimitive_82 : decode cX6_isPrimitive 82 = .ok (.lload_n 2, 1) := by decide +kernel
theorem dX6_isPrimitive_83 : decode cX6_isPrimitive 83 = .ok (.ldc2_w 77, 3) := by decide +kernel
theorem dX6_isPrimitive_86 : decode cX6_isPrimitive 86 = .ok (.lrem, 1) := by decide +kernel
theorem dX6_isPrimitive_87 : decode cX6_isPrimitive 87 = .ok (.lconst 0, 1) := by decide +kernel
theorem dX6_isPrimitive_88 : decode cX6_isPrimitive 88 = .ok (.lcmp, 1) := by decide +kernel
theorem dX6_isPrimitive_89 : decode cX6_isPrimitive 89 = .ok (.ifCond .ne 12, 3) := by decide +kernel
theorem dX6_isPrimitive_92 : decode cX6_isPrimitive 92 = .ok (.lload_n 2, 1) := by decide +kernel
theorem dX6_isPrimitive_93 : decode cX6_isPrimitive 93 = .ok (.ldc2_w 77, 3) := by decide +kernel
theorem dX6_isPrimitive_96 : decode cX6_isPrimitive 96 = .ok (.ldiv, 1) := by decide +kernel
theorem dX6_isPrimitive_97 : decode cX6_isPrimitive 97 = .ok (.lstore_n 2, 1) := by decide +kernel
theorem dX6_isPrimitive_98 : decode cX6_isPrimitive 98 = .ok (.goto (-16), 3) := by decide +kernel
theorem dX6_isPrimitive_101 : decode cX6_isPrimitive 101 = .ok (.lload_n 2, 1) := by decide +kernel
theorem dX6_isPrimitive_102 : decode cX6_isPrimitive 102 = .ok (.lconst 1, 1) := by decide +kernel
theorem dX6_isPrimitive_103 : decode cX6_isPrimitive 103 = .ok (.lcmp, 1) := by decide +kernel
theorem dX6_isPrimitive_104 : decode cX6_isPrimitive 104 = .ok (.ifCond .ne 12, 3) := by decide +kernel
theorem dX6_isPrimitive_107 : decode cX6_isPrimitive 107 = .ok (.iload 4, 2) := by decide +kernel
theorem dX6_isPrimitive_109 : decode cX6_isPrimitive 109 = .ok (.ifCond .ne 7, 3) := by decide +kernel
theorem dX6_isPrimitive_112 : decode cX6_isPrimitive 112 = .ok (.iconst 1, 1) := by decide +kernel
theorem dX6_isPrimitive_113 : decode cX6_isPrimitive 113 = .ok (.goto 4, 3) := by decide +kernel
theorem dX6_isPrimitive_116 : decode cX6_isPrimitive 116 = .ok (.iconst 0, 1) := by decide +kernel
theorem dX6_isPrimitive_117 : decode cX6_isPrimitive 117 = .ok (.ireturn, 1) := by decide +kernel
theorem dX6_unitOf_0 : decode cX6_unitOf 0 = .ok (.iconst 0, 1) := by decide +kernel
theorem dX6_unitOf_1 : decode cX6_unitOf 1 = .ok (.istore_n 2, 1) := by decide +kernel
theorem dX6_unitOf_2 : decode cX6_unitOf 2 = .ok (.iload_n 2, 1) := by decide +kernel
theorem dX6_unitOf_3 : decode cX6_unitOf 3 = .ok (.bipush 24, 2) := by decide +kernel
theorem dX6_unitOf_5 : decode cX6_unitOf 5 = .ok (.if_icmp .ge 81, 3) := by decide +kernel
theorem dX6_unitOf_8 : decode cX6_unitOf 8 = .ok (.aload_n 1, 1) := by decide +kernel
theorem dX6_unitOf_9 : decode cX6_unitOf 9 = .ok (.iconst 0, 1) := by decide +kernel
theorem dX6_unitOf_10 : decode cX6_unitOf 10 = .ok (.laload, 1) := by decide +kernel
theorem dX6_unitOf_11 : decode cX6_unitOf 11 = .ok (.aload_n 0, 1) := by decide +kernel
theorem dX6_unitOf_12 : decode cX6_unitOf 12 = .ok (.getfield 23, 3) := by decide +kernel
theorem dX6_unitOf_15 : decode cX6_unitOf 15 = .ok (.iconst 4, 1) := by decide +kernel
theorem dX6_unitOf_16 : decode cX6_unitOf 16 = .ok (.iload_n 2, 1) := by decide +kernel
theorem dX6_unitOf_17 : decode cX6_unitOf 17 = .ok (.imul, 1) := by decide +kernel
theorem dX6_unitOf_18 : decode cX6_unitOf 18 = .ok (.iaload, 1) := by decide +kernel
theorem dX6_unitOf_19 : decode cX6_unitOf 19 = .ok (.i2l, 1) := by decide +kernel
theorem dX6_unitOf_20 : decode cX6_unitOf 20 = .ok (.lcmp, 1) := by decide +kernel
theorem dX6_unitOf_21 : decode cX6_unitOf 21 = .ok (.ifCond .ne 59, 3) := by decide +kernel
theorem dX6_unitOf_24 : decode cX6_unitOf 24 = .ok (.aload_n 1, 1) := by decide +kernel
theorem dX6_unitOf_25 : decode cX6_unitOf 25 = .ok (.iconst 1, 1) := by decide +kernel
theorem dX6_unitOf_26 : decode cX6_unitOf 26 = .ok (.laload, 1) := by decide +kernel
theorem dX6_unitOf_27 : decode cX6_unitOf 27 = .ok (.aload_n 0, 1) := by decide +kernel
theorem dX6_unitOf_28 : decode cX6_unitOf 28 = .ok (.getfield 23, 3) := by decide +kernel
theorem dX6_unitOf_31 : decode cX6_unitOf 31 = .ok (.iconst 4, 1) := by decide +kernel
theorem dX6_unitOf_32 : decode cX6_unitOf 32 = .ok (.iload_n 2, 1) := by decide +kernel
theorem dX6_unitOf_33 : decode cX6_unitOf 33 = .ok (.imul, 1) := by decide +kernel
theorem dX6_unitOf_34 : decode cX6_unitOf 34 = .ok (.iconst 1, 1) := by decide +kernel
theorem dX6_unitOf_35 : decode cX6_unitOf 35 = .ok (.iadd, 1) := by decide +kernel
theorem dX6_unitOf_36 : decode cX6_unitOf 36 = .ok (.iaload, 1) := by decide +kernel
theorem dX6_unitOf_37 : decode cX6_unitOf 37 = .ok (.i2l, 1) := by decide +kernel
theorem dX6_unitOf_38 : decode cX6_unitOf 38 = .ok (.lcmp, 1) := by decide +kernel
theorem dX6_unitOf_39 : decode cX6_unitOf 39 = .ok (.ifCond .ne 41, 3) := by decide +kernel
theorem dX6_unitOf_42 : decode cX6_unitOf 42 = .ok (.aload_n 1, 1) := by decide +kernel
theorem dX6_unitOf_43 : decode cX6_unitOf 43 = .ok (.iconst 2, 1) := by decide +kernel
theorem dX6_unitOf_44 : decode cX6_unitOf 44 = .ok (.laload, 1) := by decide +kernel
theorem dX6_unitOf_45 : decode cX6_unitOf 45 = .ok (.aload_n 0, 1) := by decide +kernel
theorem dX6_unitOf_46 : decode cX6_unitOf 46 = .ok (.getfield 23, 3) := by decide +kernel
theorem dX6_unitOf_49 : decode cX6_unitOf 49 = .ok (.iconst 4, 1) := by decide +kernel
theorem dX6_unitOf_50 : decode cX6_unitOf 50 = .ok (.iload_n 2, 1) := by decide +kernel
theorem dX6_unitOf_51 : decode cX6_unitOf 51 = .ok (.imul, 1) := by decide +kernel
theorem dX6_unitOf_52 : decode cX6_unitOf 52 = .ok (.iconst 2, 1) := by decide +kernel
theorem dX6_unitOf_53 : decode cX6_unitOf 53 = .ok (.iadd, 1) := by decide +kernel
theorem dX6_unitOf_54 : decode cX6_unitOf 54 = .ok (.iaload, 1) := by decide +kernel
theorem dX6_unitOf_55 : decode cX6_unitOf 55 = .ok (.i2l, 1) := by decide +kernel
theorem dX6_unitOf_56 : decode cX6_unitOf 56 = .ok (.lcmp, 1) := by decide +kernel
theorem dX6_unitOf_57 : decode cX6_unitOf 57 = .ok (.ifCond .ne 23, 3) := by decide +kernel
theorem dX6_unitOf_60 : decode cX6_unitOf 60 = .ok (.aload_n 1, 1) := by decide +kernel
theorem dX6_unitOf_61 : decode cX6_unitOf 61 = .ok (.iconst 3, 1) := by decide +kernel
theorem dX6_unitOf_62 : decode cX6_unitOf 62 = .ok (.laload, 1) := by decide +kernel
theorem dX6_unitOf_63 : decode cX6_unitOf 63 = .ok (.aload_n 0, 1) := by decide +kernel
theorem dX6_unitOf_64 : decode cX6_unitOf 64 = .ok (.getfield 23, 3) := by decide +kernel
theorem dX6_unitOf_67 : decode cX6_unitOf 67 = .ok (.iconst 4, 1) := by decide +kernel
theorem dX6_unitOf_68 : decode cX6_unitOf 68 = .ok (.iload_n 2, 1) := by decide +kernel
theorem dX6_unitOf_69 : decode cX6_unitOf 69 = .ok (.imul, 1) := by decide +kernel
theorem dX6_unitOf_70 : decode cX6_unitOf 70 = .ok (.iconst 3, 1) := by decide +kernel
theorem dX6_unitOf_71 : decode cX6_unitOf 71 = .ok (.iadd, 1) := by decide +kernel
theorem dX6_unitOf_72 : decode cX6_unitOf 72 = .ok (.iaload, 1) := by decide +kernel
theorem dX6_unitOf_73 : decode cX6_unitOf 73 = .ok (.i2l, 1) := by decide +kernel
theorem dX6_unitOf_74 : decode cX6_unitOf 74 = .ok (.lcmp, 1) := by decide +kernel
theorem dX6_unitOf_75 : decode cX6_unitOf 75 = .ok (.ifCond .ne 5, 3) := by decide +kernel
theorem dX6_unitOf_78 : decode cX6_unitOf 78 = .ok (.iload_n 2, 1) := by decide +kernel
theorem dX6_unitOf_79 : decode cX6_unitOf 79 = .ok (.ireturn, 1) := by decide +kernel
theorem dX6_unitOf_80 : decode cX6_unitOf 80 = .ok (.iinc 2 1, 3) := by decide +kernel
theorem dX6_unitOf_83 : decode cX6_unitOf 83 = .ok (.goto (-81), 3) := by decide +kernel
theorem dX6_unitOf_86 : decode cX6_unitOf 86 = .ok (.bipush (-4), 2) := by decide +kernel
theorem dX6_unitOf_88 : decode cX6_unitOf 88 = .ok (.ireturn, 1) := by decide +kernel
set_option maxRecDepth 20000 in
theorem ggX6_part_X6_isRegister : GoodIn wsX6_part wsX6_isRegister := goodIn_r _ [8, 9, 10, 11, 7, 12] (by decide +kernel) (by decide +kernel)
set_option maxRecDepth 20000 in
theorem gX6_part_X6_isRegister : GoodIn wsX6_part (va_wsS RX6 91 yX6_isRegister wsX6_isRegister) := goodIn_app (goodIn_of _ (by decide +kernel)) ggX6_part_X6_isRegister
set_option maxRecDepth 20000 in
theorem ggX6_part_X6_in : GoodIn wsX6_part wsX6_in := goodIn_r _ [12] (by decide +kernel) (by decide +kernel)
set_option maxRecDepth 20000 in
theorem gX6_part_X6_in : GoodIn wsX6_part (va_wsS RX6 65 yX6_in wsX6_in) := goodIn_app (goodIn_of _ (by decide +kernel)) ggX6_part_X6_in
set_option maxRecDepth 20000 in
theorem ggX6_part_X6_load : GoodIn wsX6_part wsX6_load := goodIn_r _ [16, 3, 40, 41, 42, 43, 44, 45, 46, 47, 48, 49, 50, 51, 52, 53, 54, 55, 56, 57] (by decide +kernel) (by decide +kernel)
set_option maxRecDepth 20000 in
theorem gX6_part_X6_load : GoodIn wsX6_part (wsV RX6 122 RX6 yX6_load wsX6_load) := goodIn_app (goodIn_of _ (by decide +kernel)) ggX6_part_X6_load
set_option maxRecDepth 20000 in
theorem ggX6_part_X6_norm : GoodIn wsX6_part wsX6_norm := goodIn_r _ [19, 20] (by decide +kernel) (by decide +kernel)
set_option maxRecDepth 20000 in
theorem gX6_part_X6_norm : GoodIn wsX6_part (va_wsS RX6 126 yX6_norm wsX6_norm) := goodIn_app (goodIn_of _ (by decide +kernel)) ggX6_part_X6_norm
set_option maxRecDepth 20000 in
theorem ggX6_part_X6_isPrimitive : GoodIn wsX6_part wsX6_isPrimitive := goodIn_r _ [24, 25, 26, 27, 7, 28, 29, 30, 31, 32, 33, 34] (by decide +kernel) (by decide +kernel)
set_option maxRecDepth 20000 in
theorem gX6_part_X6_isPrimitive : GoodIn wsX6_part (wsV RX6 130 RX6 yX6_isPrimitive wsX6_isPrimitive) := goodIn_app (goodIn_of _ (by decide +kernel)) ggX6_part_X6_isPrimitive
set_option maxRecDepth 20000 in
theorem ggX6_part_X6_unitOf : GoodIn wsX6_part wsX6_unitOf := goodIn_r _ [38, 39, 40, 41, 42, 43, 44, 45, 46, 47, 48, 49, 50, 51, 52, 53, 54, 55, 56, 57] (by decide +kernel) (by decide +kernel)
set_option maxRecDepth 20000 in
theorem gX6_part_X6_unitOf : GoodIn wsX6_part (wsV RX6 133 RX6 yX6_unitOf wsX6_unitOf) := goodIn_app (goodIn_of _ (by decide +kernel)) ggX6_part_X6_unitOf
theorem dX6_part_0 : decode cX6_part 0 = .ok (.iload_n 1, 1) := by decide +kernel
theorem dX6_part_1 : decode cX6_part 1 = .ok (.invokestatic 91, 3) := by decide +kernel
theorem dX6_part_4 : decode cX6_part 4 = .ok (.ifCond .eq 15, 3) := by decide +kernel
theorem dX6_part_7 : decode cX6_part 7 = .ok (.iload_n 2, 1) := by decide +kernel
theorem dX6_part_8 : decode cX6_part 8 = .ok (.i2l, 1) := by decide +kernel
theorem dX6_part_9 : decode cX6_part 9 = .ok (.lconst 0, 1) := by decide +kernel
theorem dX6_part_10 : decode cX6_part 10 = .ok (.ldc2_w 119, 3) := by decide +kernel
theorem dX6_part_13 : decode cX6_part 13 = .ok (.invokestatic 65, 3) := by decide +kernel
theorem dX6_part_16 : decode cX6_part 16 = .ok (.ifCond .ne 6, 3) := by decide +kernel
theorem dX6_part_19 : decode cX6_part 19 = .ok (.ldc 121, 2) := by decide +kernel
theorem dX6_part_21 : decode cX6_part 21 = .ok (.ireturn, 1) := by decide +kernel
theorem dX6_part_22 : decode cX6_part 22 = .ok (.iload_n 2, 1) := by decide +kernel
theorem dX6_part_23 : decode cX6_part 23 = .ok (.iconst 4, 1) := by decide +kernel
theorem dX6_part_24 : decode cX6_part 24 = .ok (.if_icmp .ge 14, 3) := by decide +kernel
theorem dX6_part_27 : decode cX6_part 27 = .ok (.aload_n 0, 1) := by decide +kernel
theorem dX6_part_28 : decode cX6_part 28 = .ok (.getfield 20, 3) := by decide +kernel
theorem dX6_part_31 : decode cX6_part 31 = .ok (.iconst 4, 1) := by decide +kernel
theorem dX6_part_32 : decode cX6_part 32 = .ok (.iload_n 1, 1) := by decide +kernel
theorem dX6_part_33 : decode cX6_part 33 = .ok (.imul, 1) := by decide +kernel
theorem dX6_part_34 : decode cX6_part 34 = .ok (.iload_n 2, 1) := by decide +kernel
theorem dX6_part_35 : decode cX6_part 35 = .ok (.iadd, 1) := by decide +kernel
theorem dX6_part_36 : decode cX6_part 36 = .ok (.iaload, 1) := by decide +kernel
theorem dX6_part_37 : decode cX6_part 37 = .ok (.ireturn, 1) := by decide +kernel
theorem dX6_part_38 : decode cX6_part 38 = .ok (.aload_n 0, 1) := by decide +kernel
theorem dX6_part_39 : decode cX6_part 39 = .ok (.aload_n 0, 1) := by decide +kernel
theorem dX6_part_40 : decode cX6_part 40 = .ok (.getfield 32, 3) := by decide +kernel
theorem dX6_part_43 : decode cX6_part 43 = .ok (.iload_n 1, 1) := by decide +kernel
theorem dX6_part_44 : decode cX6_part 44 = .ok (.invokevirtual 122, 3) := by decide +kernel
theorem dX6_part_47 : decode cX6_part 47 = .ok (.iload_n 2, 1) := by decide +kernel
theorem dX6_part_48 : decode cX6_part 48 = .ok (.iconst 4, 1) := by decide +kernel
theorem dX6_part_49 : decode cX6_part 49 = .ok (.if_icmp .ne 14, 3) := by decide +kernel
theorem dX6_part_52 : decode cX6_part 52 = .ok (.aload_n 0, 1) := by decide +kernel
theorem dX6_part_53 : decode cX6_part 53 = .ok (.getfield 32, 3) := by decide +kernel
theorem dX6_part_56 : decode cX6_part 56 = .ok (.invokestatic 126, 3) := by decide +kernel
theorem dX6_part_59 : decode cX6_part 59 = .ok (.l2i, 1) := by decide +kernel
theorem dX6_part_60 : decode cX6_part 60 = .ok (.goto 35, 3) := by decide +kernel
theorem dX6_part_63 : decode cX6_part 63 = .ok (.iload_n 2, 1) := by decide +kernel
theorem dX6_part_64 : decode cX6_part 64 = .ok (.iconst 5, 1) := by decide +kernel
theorem dX6_part_65 : decode cX6_part 65 = .ok (.if_icmp .ne 22, 3) := by decide +kernel
theorem dX6_part_68 : decode cX6_part 68 = .ok (.aload_n 0, 1) := by decide +kernel
theorem dX6_part_69 : decode cX6_part 69 = .ok (.aload_n 0, 1) := by decide +kernel
theorem dX6_part_70 : decode cX6_part 70 = .ok (.getfield 32, 3) := by decide +kernel
theorem dX6_part_73 : decode cX6_part 73 = .ok (.invokevirtual 130, 3) := by decide +kernel
theorem dX6_part_76 : decode cX6_part 76 = .ok (.ifCond .eq 7, 3) := by decide +kernel
theorem dX6_part_79 : decode cX6_part 79 = .ok (.iconst 1, 1) := by decide +kernel
theorem dX6_part_80 : decode cX6_part 80 = .ok (.goto 15, 3) := by decide +kernel
theorem dX6_part_83 : decode cX6_part 83 = .ok (.iconst 0, 1) := by decide +kernel
theorem dX6_part_84 : decode cX6_part 84 = .ok (.goto 11, 3) := by decide +kernel
theorem dX6_part_87 : decode cX6_part 87 = .ok (.aload_n 0, 1) := by decide +kernel
theorem dX6_part_88 : decode cX6_part 88 = .ok (.aload_n 0, 1) := by decide +kernel
theorem dX6_part_89 : decode cX6_part 89 = .ok (.getfield 32, 3) := by decide +kernel
theorem dX6_part_92 : decode cX6_part 92 = .ok (.invokevirtual 133, 3) := by decide +kernel
theorem dX6_part_95 : decode cX6_part 95 = .ok (.ireturn, 1) := by decide +kernel
set_option maxRecDepth 20000 in
theorem ggX6_work_X6_isRegister : GoodIn wsX6_work wsX6_isRegister := goodIn_r _ [8, 9, 10, 11, 7, 12] (by decide +kernel) (by decide +kernel)
set_option maxRecDepth 20000 in
theorem gX6_work_X6_isRegister : GoodIn wsX6_work (va_wsS RX6 91 yX6_isRegister wsX6_isRegister) := goodIn_app (goodIn_of _ (by decide +kernel)) ggX6_work_X6_isRegister
set_option maxRecDepth 20000 in
theorem ggX6_work_X6_in : GoodIn wsX6_work wsX6_in := goodIn_r _ [12] (by decide +kernel) (by decide +kernel)
set_option maxRecDepth 20000 in
theorem gX6_work_X6_in : GoodIn wsX6_work (va_wsS RX6 65 yX6_in wsX6_in) := goodIn_app (goodIn_of _ (by decide +kernel)) ggX6_work_X6_in
set_option maxRecDepth 20000 in
theorem ggX6_work_X6_load : GoodIn wsX6_work wsX6_load := goodIn_r _ [16, 17, 41, 42, 43, 44, 45, 46, 47, 48, 49, 50, 51, 52, 53, 54, 55, 56, 57, 58] (by decide +kernel) (by decide +kernel)
set_option maxRecDepth 20000 in
theorem gX6_work_X6_load : GoodIn wsX6_work (wsV RX6 122 RX6 yX6_load wsX6_load) := goodIn_app (goodIn_of _ (by decide +kernel)) ggX6_work_X6_load
set_option maxRecDepth 20000 in
theorem ggX6_work_X6_mirror : GoodIn wsX6_work wsX6_mirror := goodIn_r _ [20] (by decide +kernel) (by decide +kernel)
set_option maxRecDepth 20000 in
theorem gX6_work_X6_mirror : GoodIn wsX6_work (va_wsS RX6 139 yX6_mirror wsX6_mirror) := goodIn_app (goodIn_of _ (by decide +kernel)) ggX6_work_X6_mirror
set_option maxRecDepth 20000 in
theorem ggX6_work_X6_holds : GoodIn wsX6_work wsX6_holds := goodIn_r _ [24, 25, 26, 7, 27, 28, 29, 30, 31, 32, 10, 11, 12, 33, 34, 35, 36, 17, 41, 42, 43, 44, 45, 46, 47, 48, 49, 50, 51, 52, 53, 54, 55, 56, 57, 58] (by decide +kernel) (by decide +kernel)
set_option maxRecDepth 20000 in
theorem gX6_work_X6_holds : GoodIn wsX6_work (wsV RX6 108 RX6 yX6_holds wsX6_holds) := goodIn_app (goodIn_of _ (by decide +kernel)) ggX6_work_X6_holds
set_option maxRecDepth 20000 in
theorem ggX6_work_X6_times : GoodIn wsX6_work wsX6_times := goodIn_r _ [39, 40] (by decide +kernel) (by decide +kernel)
set_option maxRecDepth 20000 in
theorem gX6_work_X6_times : GoodIn wsX6_work (va_wsS RX6 143 yX6_times wsX6_times) := goodIn_app (goodIn_of _ (by decide +kernel)) ggX6_work_X6_times
theorem dX6_work_0 : decode cX6_work 0 = .ok (.iload_n 1, 1) := by decide +kernel
theorem dX6_work_1 : decode cX6_work 1 = .ok (.invokestatic 91, 3) := by decide +kernel
theorem dX6_work_4 : decode cX6_work 4 = .ok (.ifCond .eq 35, 3) := by decide +kernel
theorem dX6_work_7 : decode cX6_work 7 = .ok (.iload_n 2, 1) := by decide +kernel
theorem dX6_work_8 : decode cX6_work 8 = .ok (.i2l, 1) := by decide +kernel
theorem dX6_work_9 : decode cX6_work 9 = .ok (.lconst 0, 1) := by decide +kernel
theorem dX6_work_10 : decode cX6_work 10 = .ok (.ldc2_w 137, 3) := by decide +kernel
theorem dX6_work_13 : decode cX6_work 13 = .ok (.invokestatic 65, 3) := by decide +kernel
theorem dX6_work_16 : decode cX6_work 16 = .ok (.ifCond .eq 23, 3) := by decide +kernel
theorem dX6_work_19 : decode cX6_work 19 = .ok (.iload_n 3, 1) := by decide +kernel
theorem dX6_work_20 : decode cX6_work 20 = .ok (.invokestatic 91, 3) := by decide +kernel
theorem dX6_work_23 : decode cX6_work 23 = .ok (.ifCond .eq 16, 3) := by decide +kernel
theorem dX6_work_26 : decode cX6_work 26 = .ok (.iload_n 2, 1) := by decide +kernel
theorem dX6_work_27 : decode cX6_work 27 = .ok (.iconst 3, 1) := by decide +kernel
theorem dX6_work_28 : decode cX6_work 28 = .ok (.if_icmp .ge 13, 3) := by decide +kernel
theorem dX6_work_31 : decode cX6_work 31 = .ok (.iload 4, 2) := by decide +kernel
theorem dX6_work_33 : decode cX6_work 33 = .ok (.invokestatic 91, 3) := by decide +kernel
theorem dX6_work_36 : decode cX6_work 36 = .ok (.ifCond .ne 5, 3) := by decide +kernel
theorem dX6_work_39 : decode cX6_work 39 = .ok (.iconst (-1), 1) := by decide +kernel
theorem dX6_work_40 : decode cX6_work 40 = .ok (.ireturn, 1) := by decide +kernel
theorem dX6_work_41 : decode cX6_work 41 = .ok (.aload_n 0, 1) := by decide +kernel
theorem dX6_work_42 : decode cX6_work 42 = .ok (.aload_n 0, 1) := by decide +kernel
theorem dX6_work_43 : decode cX6_work 43 = .ok (.getfield 32, 3) := by decide +kernel
theorem dX6_work_46 : decode cX6_work 46 = .ok (.iload_n 3, 1) := by decide +kernel
theorem dX6_work_47 : decode cX6_work 47 = .ok (.invokevirtual 122, 3) := by decide +kernel
theorem dX6_work_50 : decode cX6_work 50 = .ok (.iload_n 2, 1) := by decide +kernel
theorem dX6_work_51 : decode cX6_work 51 = .ok (.iconst 3, 1) := by decide +kernel
theorem dX6_work_52 : decode cX6_work 52 = .ok (.if_icmp .ne 20, 3) := by decide +kernel
theorem dX6_work_55 : decode cX6_work 55 = .ok (.aload_n 0, 1) := by decide +kernel
theorem dX6_work_56 : decode cX6_work 56 = .ok (.getfield 32, 3) := by decide +kernel
theorem dX6_work_59 : decode cX6_work 59 = .ok (.invokestatic 139, 3) := by decide +kernel
theorem dX6_work_62 : decode cX6_work 62 = .ok (.aload_n 0, 1) := by decide +kernel
theorem dX6_work_63 : decode cX6_work 63 = .ok (.iload_n 1, 1) := by decide +kernel
theorem dX6_work_64 : decode cX6_work 64 = .ok (.aload_n 0, 1) := by decide +kernel
theorem dX6_work_65 : decode cX6_work 65 = .ok (.getfield 32, 3) := by decide +kernel
theorem dX6_work_68 : decode cX6_work 68 = .ok (.invokevirtual 108, 3) := by decide +kernel
theorem dX6_work_71 : decode cX6_work 71 = .ok (.ireturn, 1) := by decide +kernel
theorem dX6_work_72 : decode cX6_work 72 = .ok (.aload_n 0, 1) := by decide +kernel
theorem dX6_work_73 : decode cX6_work 73 = .ok (.aload_n 0, 1) := by decide +kernel
theorem dX6_work_74 : decode cX6_work 74 = .ok (.getfield 35, 3) := by decide +kernel
theorem dX6_work_77 : decode cX6_work 77 = .ok (.iload 4, 2) := by decide +kernel
theorem dX6_work_79 : decode cX6_work 79 = .ok (.invokevirtual 122, 3) := by decide +kernel
theorem dX6_work_82 : decode cX6_work 82 = .ok (.iload_n 2, 1) := by decide +kernel
theorem dX6_work_83 : decode cX6_work 83 = .ok (.iconst 2, 1) := by decide +kernel
theorem dX6_work_84 : decode cX6_work 84 = .ok (.if_icmp .ne 28, 3) := by decide +kernel
theorem dX6_work_87 : decode cX6_work 87 = .ok (.aload_n 0, 1) := by decide +kernel
theorem dX6_work_88 : decode cX6_work 88 = .ok (.getfield 38, 3) := by decide +kernel
theorem dX6_work_91 : decode cX6_work 91 = .ok (.aload_n 0, 1) := by decide +kernel
theorem dX6_work_92 : decode cX6_work 92 = .ok (.getfield 32, 3) := by decide +kernel
theorem dX6_work_95 : decode cX6_work 95 = .ok (.aload_n 0, 1) := by decide +kernel
theorem dX6_work_96 : decode cX6_work 96 = .ok (.getfield 35, 3) := by decide +kernel
theorem dX6_work_99 : decode cX6_work 99 = .ok (.invokestatic 143, 3) := by decide +kernel
theorem dX6_work_102 : decode cX6_work 102 = .ok (.aload_n 0, 1) := by decide +kernel
theorem dX6_work_103 : decode cX6_work 103 = .ok (.iload_n 1, 1) := by decide +kernel
theorem dX6_work_104 : decode cX6_work 104 = .ok (.aload_n 0, 1) := by decide +kernel
theorem dX6_work_105 : decode cX6_work 105 = .ok (.getfield 38, 3) := by decide +kernel
theorem dX6_work_108 : decode cX6_work 108 = .ok (.invokevirtual 108, 3) := by decide +kernel
theorem dX6_work_111 : decode cX6_work 111 = .ok (.ireturn, 1) := by decide +kernel
theorem dX6_work_112 : decode cX6_work 112 = .ok (.iconst 0, 1) := by decide +kernel
theorem dX6_work_113 : decode cX6_work 113 = .ok (.istore 5, 2) := by decide +kernel
theorem dX6_work_115 : decode cX6_work 115 = .ok (.iload 5, 2) := by decide +kernel
theorem dX6_work_117 : decode cX6_work 117 = .ok (.iconst 4, 1) := by decide +kernel
theorem dX6_work_118 : decode cX6_work 118 = .ok (.if_icmp .ge 53, 3) := by decide +kernel
theorem dX6_work_121 : decode cX6_work 121 = .ok (.aload_n 0, 1) := by decide +kernel
theorem dX6_work_122 : decode cX6_work 122 = .ok (.getfield 38, 3) := by decide +kernel
theorem dX6_work_125 : decode cX6_work 125 = .ok (.iload 5, 2) := by decide +kernel
theorem dX6_work_127 : decode cX6_work 127 = .ok (.iload_n 2, 1) := by decide +kernel
theorem dX6_work_128 : decode cX6_work 128 = .ok (.ifCond .ne 21, 3) := by decide +kernel
theorem dX6_work_131 : decode cX6_work 131 = .ok (.aload_n 0, 1) := by decide +kernel
theorem dX6_work_132 : decode cX6_work 132 = .ok (.getfield 32, 3) := by decide +kernel
theorem dX6_work_135 : decode cX6_work 135 = .ok (.iload 5, 2) := by decide +kernel
theorem dX6_work_137 : decode cX6_work 137 = .ok (.laload, 1) := by decide +kernel
theorem dX6_work_138 : decode cX6_work 138 = .ok (.aload_n 0, 1) := by decide +kernel
theorem dX6_work_139 : decode cX6_work 139 = .ok (.getfield 35, 3) := by decide +kernel
theorem dX6_work_142 : decode cX6_work 142 = .ok (.iload 5, 2) := by decide +kernel
theorem dX6_work_144 : decode cX6_work 144 = .ok (.laload, 1) := by decide +kernel
theorem dX6_work_145 : decode cX6_work 145 = .ok (.ladd, 1) := by decide +kernel
theorem dX6_work_146 : decode cX6_work 146 = .ok (.goto 18, 3) := by decide +kernel
theorem dX6_work_149 : decode cX6_work 149 = .ok (.aload_n 0, 1) := by decide +kernel
theorem dX6_work_150 : decode cX6_work 150 = .ok (.getfield 32, 3) := by decide +kernel
theorem dX6_work_153 : decode cX6_work 153 = .ok (.iload 5, 2) := by decide +kernel
theorem dX6_work_155 : decode cX6_work 155 = .ok (.laload, 1) := by decide +kernel
theorem dX6_work_156 : decode cX6_work 156 = .ok (.aload_n 0, 1) := by decide +kernel
theorem dX6_work_157 : decode cX6_work 157 = .ok (.getfield 35, 3) := by decide +kernel
theorem dX6_work_160 : decode cX6_work 160 = .ok (.iload 5, 2) := by decide +kernel
theorem dX6_work_162 : decode cX6_work 162 = .ok (.laload, 1) := by decide +kernel
theorem dX6_work_163 : decode cX6_work 163 = .ok (.lsub, 1) := by decide +kernel
theorem dX6_work_164 : decode cX6_work 164 = .ok (.lastore, 1) := by decide +kernel
theorem dX6_work_165 : decode cX6_work 165 = .ok (.iinc 5 1, 3) := by decide +kernel
theorem dX6_work_168 : decode cX6_work 168 = .ok (.goto (-53), 3) := by decide +kernel
theorem dX6_work_171 : decode cX6_work 171 = .ok (.aload_n 0, 1) := by decide +kernel
theorem dX6_work_172 : decode cX6_work 172 = .ok (.iload_n 1, 1) := by decide +kernel
theorem dX6_work_173 : decode cX6_work 173 = .ok (.aload_n 0, 1) := by decide +kernel
theorem dX6_work_174 : decode cX6_work 174 = .ok (.getfield 38, 3) := by decide +kernel
theorem dX6_work_177 : decode cX6_work 177 = .ok (.invokevirtual 108, 3) := by decide +kernel
theorem dX6_work_180 : decode cX6_work 180 = .ok (.ireturn, 1) := by decide +kernel
set_option maxRecDepth 20000 in
theorem ggX6_unit_X6_isRegister : GoodIn wsX6_unit wsX6_isRegister := goodIn_r _ [8, 9, 10, 11, 7, 12] (by decide +kernel) (by decide +kernel)
set_option maxRecDepth 20000 in
theorem gX6_unit_X6_isRegister : GoodIn wsX6_unit (va_wsS RX6 91 yX6_isRegister wsX6_isRegister) := goodIn_app (goodIn_of _ (by decide +kernel)) ggX6_unit_X6_isRegister
set_option maxRecDepth 20000 in
theorem ggX6_unit_X6_in : GoodIn wsX6_unit wsX6_in := goodIn_r _ [12] (by decide +kernel) (by decide +kernel)
set_option maxRecDepth 20000 in
theorem gX6_unit_X6_in : GoodIn wsX6_unit (va_wsS RX6 65 yX6_in wsX6_in) := goodIn_app (goodIn_of _ (by decide +kernel)) ggX6_unit_X6_in
set_option maxRecDepth 20000 in
theorem ggX6_unit_X6_load : GoodIn wsX6_unit wsX6_load := goodIn_r _ [16, 17, 43, 44, 45, 46, 47, 48, 49, 50, 51, 52, 53, 54, 55, 56, 57, 58, 59, 60] (by decide +kernel) (by decide +kernel)
set_option maxRecDepth 20000 in
theorem gX6_unit_X6_load : GoodIn wsX6_unit (wsV RX6 122 RX6 yX6_load wsX6_load) := goodIn_app (goodIn_of _ (by decide +kernel)) ggX6_unit_X6_load
set_option maxRecDepth 20000 in
theorem ggX6_unit_X6_loadUnit : GoodIn wsX6_unit wsX6_loadUnit := goodIn_r _ [21, 22, 43, 44, 45, 46, 47, 48, 49, 50, 51, 52, 53, 54, 55, 56, 57, 58, 59, 60] (by decide +kernel) (by decide +kernel)
set_option maxRecDepth 20000 in
theorem gX6_unit_X6_loadUnit : GoodIn wsX6_unit (wsV RX6 149 RX6 yX6_loadUnit wsX6_loadUnit) := goodIn_app (goodIn_of _ (by decide +kernel)) ggX6_unit_X6_loadUnit
set_option maxRecDepth 20000 in
theorem ggX6_unit_X6_times : GoodIn wsX6_unit wsX6_times := goodIn_r _ [25, 26] (by decide +kernel) (by decide +kernel)
set_option maxRecDepth 20000 in
theorem gX6_unit_X6_times : GoodIn wsX6_unit (va_wsS RX6 143 yX6_times wsX6_times) := goodIn_app (goodIn_of _ (by decide +kernel)) ggX6_unit_X6_times
set_option maxRecDepth 20000 in
theorem ggX6_unit_X6_holds : GoodIn wsX6_unit wsX6_holds := goodIn_r _ [30, 31, 32, 7, 33, 34, 35, 36, 37, 38, 10, 11, 12, 39, 40, 41, 42, 17, 43, 44, 45, 46, 47, 48, 49, 50, 51, 52, 53, 54, 55, 56, 57, 58, 59, 60] (by decide +kernel) (by decide +kernel)
set_option maxRecDepth 20000 in
theorem gX6_unit_X6_holds : GoodIn wsX6_unit (wsV RX6 108 RX6 yX6_holds wsX6_holds) := goodIn_app (goodIn_of _ (by decide +kernel)) ggX6_unit_X6_holds
theorem dX6_unit_0 : decode cX6_unit 0 = .ok (.iload_n 1, 1) := by decide +kernel
theorem dX6_unit_1 : decode cX6_unit 1 = .ok (.invokestatic 91, 3) := by decide +kernel
theorem dX6_unit_4 : decode cX6_unit 4 = .ok (.ifCond .eq 33, 3) := by decide +kernel
theorem dX6_unit_7 : decode cX6_unit 7 = .ok (.iload_n 2, 1) := by decide +kernel
theorem dX6_unit_8 : decode cX6_unit 8 = .ok (.invokestatic 91, 3) := by decide +kernel
theorem dX6_unit_11 : decode cX6_unit 11 = .ok (.ifCond .eq 26, 3) := by decide +kernel
theorem dX6_unit_14 : decode cX6_unit 14 = .ok (.iload_n 3, 1) := by decide +kernel
theorem dX6_unit_15 : decode cX6_unit 15 = .ok (.i2l, 1) := by decide +kernel
theorem dX6_unit_16 : decode cX6_unit 16 = .ok (.lconst 0, 1) := by decide +kernel
theorem dX6_unit_17 : decode cX6_unit 17 = .ok (.ldc2_w 147, 3) := by decide +kernel
theorem dX6_unit_20 : decode cX6_unit 20 = .ok (.invokestatic 65, 3) := by decide +kernel
theorem dX6_unit_23 : decode cX6_unit 23 = .ok (.ifCond .eq 14, 3) := by decide +kernel
theorem dX6_unit_26 : decode cX6_unit 26 = .ok (.iload 4, 2) := by decide +kernel
theorem dX6_unit_28 : decode cX6_unit 28 = .ok (.i2l, 1) := by decide +kernel
theorem dX6_unit_29 : decode cX6_unit 29 = .ok (.lconst 0, 1) := by decide +kernel
theorem dX6_unit_30 : decode cX6_unit 30 = .ok (.lconst 1, 1) := by decide +kernel
theorem dX6_unit_31 : decode cX6_unit 31 = .ok (.invokestatic 65, 3) := by decide +kernel
theorem dX6_unit_34 : decode cX6_unit 34 = .ok (.ifCond .ne 5, 3) := by decide +kernel
theorem dX6_unit_37 : decode cX6_unit 37 = .ok (.iconst (-1), 1) := by decide +kernel
theorem dX6_unit_38 : decode cX6_unit 38 = .ok (.ireturn, 1) := by decide +kernel
theorem dX6_unit_39 : decode cX6_unit 39 = .ok (.aload_n 0, 1) := by decide +kernel
theorem dX6_unit_40 : decode cX6_unit 40 = .ok (.aload_n 0, 1) := by decide +kernel
theorem dX6_unit_41 : decode cX6_unit 41 = .ok (.getfield 32, 3) := by decide +kernel
theorem dX6_unit_44 : decode cX6_unit 44 = .ok (.iload_n 2, 1) := by decide +kernel
theorem dX6_unit_45 : decode cX6_unit 45 = .ok (.invokevirtual 122, 3) := by decide +kernel
theorem dX6_unit_48 : decode cX6_unit 48 = .ok (.aload_n 0, 1) := by decide +kernel
theorem dX6_unit_49 : decode cX6_unit 49 = .ok (.aload_n 0, 1) := by decide +kernel
theorem dX6_unit_50 : decode cX6_unit 50 = .ok (.getfield 35, 3) := by decide +kernel
theorem dX6_unit_53 : decode cX6_unit 53 = .ok (.iload_n 3, 1) := by decide +kernel
theorem dX6_unit_54 : decode cX6_unit 54 = .ok (.invokevirtual 149, 3) := by decide +kernel
theorem dX6_unit_57 : decode cX6_unit 57 = .ok (.iload 4, 2) := by decide +kernel
theorem dX6_unit_59 : decode cX6_unit 59 = .ok (.ifCond .ne 21, 3) := by decide +kernel
theorem dX6_unit_62 : decode cX6_unit 62 = .ok (.aload_n 0, 1) := by decide +kernel
theorem dX6_unit_63 : decode cX6_unit 63 = .ok (.getfield 38, 3) := by decide +kernel
theorem dX6_unit_66 : decode cX6_unit 66 = .ok (.aload_n 0, 1) := by decide +kernel
theorem dX6_unit_67 : decode cX6_unit 67 = .ok (.getfield 32, 3) := by decide +kernel
theorem dX6_unit_70 : decode cX6_unit 70 = .ok (.aload_n 0, 1) := by decide +kernel
theorem dX6_unit_71 : decode cX6_unit 71 = .ok (.getfield 35, 3) := by decide +kernel
theorem dX6_unit_74 : decode cX6_unit 74 = .ok (.invokestatic 143, 3) := by decide +kernel
theorem dX6_unit_77 : decode cX6_unit 77 = .ok (.goto 18, 3) := by decide +kernel
theorem dX6_unit_80 : decode cX6_unit 80 = .ok (.aload_n 0, 1) := by decide +kernel
theorem dX6_unit_81 : decode cX6_unit 81 = .ok (.getfield 38, 3) := by decide +kernel
theorem dX6_unit_84 : decode cX6_unit 84 = .ok (.aload_n 0, 1) := by decide +kernel
theorem dX6_unit_85 : decode cX6_unit 85 = .ok (.getfield 35, 3) := by decide +kernel
theorem dX6_unit_88 : decode cX6_unit 88 = .ok (.aload_n 0, 1) := by decide +kernel
theorem dX6_unit_89 : decode cX6_unit 89 = .ok (.getfield 32, 3) := by decide +kernel
theorem dX6_unit_92 : decode cX6_unit 92 = .ok (.invokestatic 143, 3) := by decide +kernel
theorem dX6_unit_95 : decode cX6_unit 95 = .ok (.aload_n 0, 1) := by decide +kernel
theorem dX6_unit_96 : decode cX6_unit 96 = .ok (.iload_n 1, 1) := by decide +kernel
theorem dX6_unit_97 : decode cX6_unit 97 = .ok (.aload_n 0, 1) := by decide +kernel
theorem dX6_unit_98 : decode cX6_unit 98 = .ok (.getfield 38, 3) := by decide +kernel
theorem dX6_unit_101 : decode cX6_unit 101 = .ok (.invokevirtual 108, 3) := by decide +kernel
theorem dX6_unit_104 : decode cX6_unit 104 = .ok (.ireturn, 1) := by decide +kernel
theorem dX6_floored_0 : decode cX6_floored 0 = .ok (.lload_n 0, 1) := by decide +kernel
theorem dX6_floored_1 : decode cX6_floored 1 = .ok (.lload_n 2, 1) := by decide +kernel
theorem dX6_floored_2 : decode cX6_floored 2 = .ok (.ldiv, 1) := by decide +kernel
theorem dX6_floored_3 : decode cX6_floored 3 = .ok (.lstore 4, 2) := by decide +kernel
theorem dX6_floored_5 : decode cX6_floored 5 = .ok (.lload_n 0, 1) := by decide +kernel
theorem dX6_floored_6 : decode cX6_floored 6 = .ok (.lload_n 2, 1) := by decide +kernel
