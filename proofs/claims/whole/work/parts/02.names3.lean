theorem dX9_init_147 : decode cX9_init 147 = .ok (.iastore, 1) := by decide +kernel
theorem dX9_init_148 : decode cX9_init 148 = .ok (.dup, 1) := by decide +kernel
theorem dX9_init_149 : decode cX9_init 149 = .ok (.iconst 1, 1) := by decide +kernel
theorem dX9_init_150 : decode cX9_init 150 = .ok (.iconst (-1), 1) := by decide +kernel
theorem dX9_init_151 : decode cX9_init 151 = .ok (.iastore, 1) := by decide +kernel
theorem dX9_init_152 : decode cX9_init 152 = .ok (.dup, 1) := by decide +kernel
theorem dX9_init_153 : decode cX9_init 153 = .ok (.iconst 2, 1) := by decide +kernel
theorem dX9_init_154 : decode cX9_init 154 = .ok (.iconst (-1), 1) := by decide +kernel
theorem dX9_init_155 : decode cX9_init 155 = .ok (.iastore, 1) := by decide +kernel
theorem dX9_init_156 : decode cX9_init 156 = .ok (.dup, 1) := by decide +kernel
theorem dX9_init_157 : decode cX9_init 157 = .ok (.iconst 3, 1) := by decide +kernel
theorem dX9_init_158 : decode cX9_init 158 = .ok (.iconst (-1), 1) := by decide +kernel
theorem dX9_init_159 : decode cX9_init 159 = .ok (.iastore, 1) := by decide +kernel
theorem dX9_init_160 : decode cX9_init 160 = .ok (.dup, 1) := by decide +kernel
theorem dX9_init_161 : decode cX9_init 161 = .ok (.iconst 4, 1) := by decide +kernel
theorem dX9_init_162 : decode cX9_init 162 = .ok (.iconst (-1), 1) := by decide +kernel
theorem dX9_init_163 : decode cX9_init 163 = .ok (.iastore, 1) := by decide +kernel
theorem dX9_init_164 : decode cX9_init 164 = .ok (.dup, 1) := by decide +kernel
theorem dX9_init_165 : decode cX9_init 165 = .ok (.iconst 5, 1) := by decide +kernel
theorem dX9_init_166 : decode cX9_init 166 = .ok (.iconst (-1), 1) := by decide +kernel
theorem dX9_init_167 : decode cX9_init 167 = .ok (.iastore, 1) := by decide +kernel
theorem dX9_init_168 : decode cX9_init 168 = .ok (.dup, 1) := by decide +kernel
theorem dX9_init_169 : decode cX9_init 169 = .ok (.bipush 6, 2) := by decide +kernel
theorem dX9_init_171 : decode cX9_init 171 = .ok (.iconst (-1), 1) := by decide +kernel
theorem dX9_init_172 : decode cX9_init 172 = .ok (.iastore, 1) := by decide +kernel
theorem dX9_init_173 : decode cX9_init 173 = .ok (.dup, 1) := by decide +kernel
theorem dX9_init_174 : decode cX9_init 174 = .ok (.bipush 7, 2) := by decide +kernel
theorem dX9_init_176 : decode cX9_init 176 = .ok (.iconst (-1), 1) := by decide +kernel
theorem dX9_init_177 : decode cX9_init 177 = .ok (.iastore, 1) := by decide +kernel
theorem dX9_init_178 : decode cX9_init 178 = .ok (.dup, 1) := by decide +kernel
theorem dX9_init_179 : decode cX9_init 179 = .ok (.bipush 8, 2) := by decide +kernel
theorem dX9_init_181 : decode cX9_init 181 = .ok (.iconst (-1), 1) := by decide +kernel
theorem dX9_init_182 : decode cX9_init 182 = .ok (.iastore, 1) := by decide +kernel
theorem dX9_init_183 : decode cX9_init 183 = .ok (.dup, 1) := by decide +kernel
theorem dX9_init_184 : decode cX9_init 184 = .ok (.bipush 9, 2) := by decide +kernel
theorem dX9_init_186 : decode cX9_init 186 = .ok (.iconst (-1), 1) := by decide +kernel
theorem dX9_init_187 : decode cX9_init 187 = .ok (.iastore, 1) := by decide +kernel
theorem dX9_init_188 : decode cX9_init 188 = .ok (.dup, 1) := by decide +kernel
theorem dX9_init_189 : decode cX9_init 189 = .ok (.bipush 10, 2) := by decide +kernel
theorem dX9_init_191 : decode cX9_init 191 = .ok (.iconst (-1), 1) := by decide +kernel
theorem dX9_init_192 : decode cX9_init 192 = .ok (.iastore, 1) := by decide +kernel
theorem dX9_init_193 : decode cX9_init 193 = .ok (.dup, 1) := by decide +kernel
theorem dX9_init_194 : decode cX9_init 194 = .ok (.bipush 11, 2) := by decide +kernel
theorem dX9_init_196 : decode cX9_init 196 = .ok (.iconst (-1), 1) := by decide +kernel
theorem dX9_init_197 : decode cX9_init 197 = .ok (.iastore, 1) := by decide +kernel
theorem dX9_init_198 : decode cX9_init 198 = .ok (.putfield 41, 3) := by decide +kernel
theorem dX9_init_201 : decode cX9_init 201 = .ok (.aload_n 0, 1) := by decide +kernel
theorem dX9_init_202 : decode cX9_init 202 = .ok (.bipush 6, 2) := by decide +kernel
theorem dX9_init_204 : decode cX9_init 204 = .ok (.newarray .int, 2) := by decide +kernel
theorem dX9_init_206 : decode cX9_init 206 = .ok (.dup, 1) := by decide +kernel
theorem dX9_init_207 : decode cX9_init 207 = .ok (.iconst 0, 1) := by decide +kernel
theorem dX9_init_208 : decode cX9_init 208 = .ok (.iconst 1, 1) := by decide +kernel
theorem dX9_init_209 : decode cX9_init 209 = .ok (.iastore, 1) := by decide +kernel
theorem dX9_init_210 : decode cX9_init 210 = .ok (.dup, 1) := by decide +kernel
theorem dX9_init_211 : decode cX9_init 211 = .ok (.iconst 1, 1) := by decide +kernel
theorem dX9_init_212 : decode cX9_init 212 = .ok (.iconst 1, 1) := by decide +kernel
theorem dX9_init_213 : decode cX9_init 213 = .ok (.iastore, 1) := by decide +kernel
theorem dX9_init_214 : decode cX9_init 214 = .ok (.dup, 1) := by decide +kernel
theorem dX9_init_215 : decode cX9_init 215 = .ok (.iconst 2, 1) := by decide +kernel
theorem dX9_init_216 : decode cX9_init 216 = .ok (.iconst 1, 1) := by decide +kernel
theorem dX9_init_217 : decode cX9_init 217 = .ok (.iastore, 1) := by decide +kernel
theorem dX9_init_218 : decode cX9_init 218 = .ok (.dup, 1) := by decide +kernel
theorem dX9_init_219 : decode cX9_init 219 = .ok (.iconst 3, 1) := by decide +kernel
theorem dX9_init_220 : decode cX9_init 220 = .ok (.iconst 1, 1) := by decide +kernel
theorem dX9_init_221 : decode cX9_init 221 = .ok (.iastore, 1) := by decide +kernel
theorem dX9_init_222 : decode cX9_init 222 = .ok (.dup, 1) := by decide +kernel
theorem dX9_init_223 : decode cX9_init 223 = .ok (.iconst 4, 1) := by decide +kernel
theorem dX9_init_224 : decode cX9_init 224 = .ok (.iconst 1, 1) := by decide +kernel
theorem dX9_init_225 : decode cX9_init 225 = .ok (.iastore, 1) := by decide +kernel
theorem dX9_init_226 : decode cX9_init 226 = .ok (.dup, 1) := by decide +kernel
theorem dX9_init_227 : decode cX9_init 227 = .ok (.iconst 5, 1) := by decide +kernel
theorem dX9_init_228 : decode cX9_init 228 = .ok (.iconst 1, 1) := by decide +kernel
theorem dX9_init_229 : decode cX9_init 229 = .ok (.iastore, 1) := by decide +kernel
theorem dX9_init_230 : decode cX9_init 230 = .ok (.putfield 44, 3) := by decide +kernel
theorem dX9_init_233 : decode cX9_init 233 = .ok (.aload_n 0, 1) := by decide +kernel
theorem dX9_init_234 : decode cX9_init 234 = .ok (.bipush 60, 2) := by decide +kernel
theorem dX9_init_236 : decode cX9_init 236 = .ok (.newarray .int, 2) := by decide +kernel
theorem dX9_init_238 : decode cX9_init 238 = .ok (.putfield 47, 3) := by decide +kernel
theorem dX9_init_241 : decode cX9_init 241 = .ok (.aload_n 0, 1) := by decide +kernel
theorem dX9_init_242 : decode cX9_init 242 = .ok (.bipush 60, 2) := by decide +kernel
theorem dX9_init_244 : decode cX9_init 244 = .ok (.newarray .int, 2) := by decide +kernel
theorem dX9_init_246 : decode cX9_init 246 = .ok (.putfield 50, 3) := by decide +kernel
theorem dX9_init_249 : decode cX9_init 249 = .ok (.aload_n 0, 1) := by decide +kernel
theorem dX9_init_250 : decode cX9_init 250 = .ok (.bipush 60, 2) := by decide +kernel
theorem dX9_init_252 : decode cX9_init 252 = .ok (.newarray .int, 2) := by decide +kernel
theorem dX9_init_254 : decode cX9_init 254 = .ok (.putfield 53, 3) := by decide +kernel
theorem dX9_init_257 : decode cX9_init 257 = .ok (.aload_n 0, 1) := by decide +kernel
theorem dX9_init_258 : decode cX9_init 258 = .ok (.bipush 60, 2) := by decide +kernel
theorem dX9_init_260 : decode cX9_init 260 = .ok (.newarray .int, 2) := by decide +kernel
theorem dX9_init_262 : decode cX9_init 262 = .ok (.putfield 56, 3) := by decide +kernel
theorem dX9_init_265 : decode cX9_init 265 = .ok (.aload_n 0, 1) := by decide +kernel
theorem dX9_init_266 : decode cX9_init 266 = .ok (.bipush 20, 2) := by decide +kernel
theorem dX9_init_268 : decode cX9_init 268 = .ok (.newarray .int, 2) := by decide +kernel
theorem dX9_init_270 : decode cX9_init 270 = .ok (.putfield 59, 3) := by decide +kernel
theorem dX9_init_273 : decode cX9_init 273 = .ok (.aload_n 0, 1) := by decide +kernel
theorem dX9_init_274 : decode cX9_init 274 = .ok (.bipush 20, 2) := by decide +kernel
theorem dX9_init_276 : decode cX9_init 276 = .ok (.newarray .int, 2) := by decide +kernel
theorem dX9_init_278 : decode cX9_init 278 = .ok (.putfield 62, 3) := by decide +kernel
theorem dX9_init_281 : decode cX9_init 281 = .ok (.aload_n 0, 1) := by decide +kernel
theorem dX9_init_282 : decode cX9_init 282 = .ok (.bipush 20, 2) := by decide +kernel
theorem dX9_init_284 : decode cX9_init 284 = .ok (.newarray .int, 2) := by decide +kernel
theorem dX9_init_286 : decode cX9_init 286 = .ok (.putfield 65, 3) := by decide +kernel
theorem dX9_init_289 : decode cX9_init 289 = .ok (.aload_n 0, 1) := by decide +kernel
theorem dX9_init_290 : decode cX9_init 290 = .ok (.bipush 60, 2) := by decide +kernel
theorem dX9_init_292 : decode cX9_init 292 = .ok (.newarray .int, 2) := by decide +kernel
theorem dX9_init_294 : decode cX9_init 294 = .ok (.putfield 68, 3) := by decide +kernel
theorem dX9_init_297 : decode cX9_init 297 = .ok (.aload_n 0, 1) := by decide +kernel
theorem dX9_init_298 : decode cX9_init 298 = .ok (.sipush 200, 3) := by decide +kernel
theorem dX9_init_301 : decode cX9_init 301 = .ok (.newarray .int, 2) := by decide +kernel
theorem dX9_init_303 : decode cX9_init 303 = .ok (.putfield 71, 3) := by decide +kernel
theorem dX9_init_306 : decode cX9_init 306 = .ok (.aload_n 0, 1) := by decide +kernel
theorem dX9_init_307 : decode cX9_init 307 = .ok (.iconst (-1), 1) := by decide +kernel
theorem dX9_init_308 : decode cX9_init 308 = .ok (.putfield 74, 3) := by decide +kernel
theorem dX9_init_311 : decode cX9_init 311 = .ok (.aload_n 0, 1) := by decide +kernel
theorem dX9_init_312 : decode cX9_init 312 = .ok (.bipush 10, 2) := by decide +kernel
theorem dX9_init_314 : decode cX9_init 314 = .ok (.newarray .int, 2) := by decide +kernel
theorem dX9_init_316 : decode cX9_init 316 = .ok (.putfield 78, 3) := by decide +kernel
theorem dX9_init_319 : decode cX9_init 319 = .ok (.return_, 1) := by decide +kernel
theorem dX9_in_0 : decode cX9_in 0 = .ok (.lload_n 0, 1) := by decide +kernel
theorem dX9_in_1 : decode cX9_in 1 = .ok (.lload_n 2, 1) := by decide +kernel
theorem dX9_in_2 : decode cX9_in 2 = .ok (.lcmp, 1) := by decide +kernel
theorem dX9_in_3 : decode cX9_in 3 = .ok (.ifCond .lt 14, 3) := by decide +kernel
theorem dX9_in_6 : decode cX9_in 6 = .ok (.lload_n 0, 1) := by decide +kernel
theorem dX9_in_7 : decode cX9_in 7 = .ok (.lload 4, 2) := by decide +kernel
theorem dX9_in_9 : decode cX9_in 9 = .ok (.lcmp, 1) := by decide +kernel
theorem dX9_in_10 : decode cX9_in 10 = .ok (.ifCond .gt 7, 3) := by decide +kernel
theorem dX9_in_13 : decode cX9_in 13 = .ok (.iconst 1, 1) := by decide +kernel
theorem dX9_in_14 : decode cX9_in 14 = .ok (.goto 4, 3) := by decide +kernel
theorem dX9_in_17 : decode cX9_in 17 = .ok (.iconst 0, 1) := by decide +kernel
theorem dX9_in_18 : decode cX9_in 18 = .ok (.ireturn, 1) := by decide +kernel
theorem dX9_told_0 : decode cX9_told 0 = .ok (.aload_n 0, 1) := by decide +kernel
theorem dX9_told_1 : decode cX9_told 1 = .ok (.iload_n 1, 1) := by decide +kernel
theorem dX9_told_2 : decode cX9_told 2 = .ok (.ifCond .ge 7, 3) := by decide +kernel
theorem dX9_told_5 : decode cX9_told 5 = .ok (.iload_n 1, 1) := by decide +kernel
theorem dX9_told_6 : decode cX9_told 6 = .ok (.goto 4, 3) := by decide +kernel
theorem dX9_told_9 : decode cX9_told 9 = .ok (.iconst 0, 1) := by decide +kernel
theorem dX9_told_10 : decode cX9_told 10 = .ok (.putfield 84, 3) := by decide +kernel
theorem dX9_told_13 : decode cX9_told 13 = .ok (.iload_n 1, 1) := by decide +kernel
theorem dX9_told_14 : decode cX9_told 14 = .ok (.ireturn, 1) := by decide +kernel
set_option maxRecDepth 20000 in
theorem ggX9_isKnown_X9_in : GoodIn wsX9_isKnown wsX9_in := goodIn_r _ [5] (by decide +kernel) (by decide +kernel)
set_option maxRecDepth 20000 in
theorem gX9_isKnown_X9_in : GoodIn wsX9_isKnown (va_wsS RX9 89 yX9_in wsX9_in) := goodIn_app (goodIn_of _ (by decide +kernel)) ggX9_isKnown_X9_in
theorem dX9_isKnown_0 : decode cX9_isKnown 0 = .ok (.iload_n 0, 1) := by decide +kernel
theorem dX9_isKnown_1 : decode cX9_isKnown 1 = .ok (.i2l, 1) := by decide +kernel
theorem dX9_isKnown_2 : decode cX9_isKnown 2 = .ok (.lconst 0, 1) := by decide +kernel
theorem dX9_isKnown_3 : decode cX9_isKnown 3 = .ok (.ldc2_w 87, 3) := by decide +kernel
theorem dX9_isKnown_6 : decode cX9_isKnown 6 = .ok (.invokestatic 89, 3) := by decide +kernel
theorem dX9_isKnown_9 : decode cX9_isKnown 9 = .ok (.ireturn, 1) := by decide +kernel
set_option maxRecDepth 20000 in
theorem ggX9_winds_X9_in : GoodIn wsX9_winds wsX9_in := goodIn_r _ [9] (by decide +kernel) (by decide +kernel)
set_option maxRecDepth 20000 in
theorem gX9_winds_X9_in : GoodIn wsX9_winds (va_wsS RX9 89 yX9_in wsX9_in) := goodIn_app (goodIn_of _ (by decide +kernel)) ggX9_winds_X9_in
set_option maxRecDepth 20000 in
theorem ggX9_winds_X9_isKnown : GoodIn wsX9_winds wsX9_isKnown := goodIn_r _ [12, 13, 6, 7, 8, 9] (by decide +kernel) (by decide +kernel)
set_option maxRecDepth 20000 in
theorem gX9_winds_X9_isKnown : GoodIn wsX9_winds (va_wsS RX9 95 yX9_isKnown wsX9_isKnown) := goodIn_app (goodIn_of _ (by decide +kernel)) ggX9_winds_X9_isKnown
set_option maxRecDepth 20000 in
theorem ggX9_winds_X9_told : GoodIn wsX9_winds wsX9_told := goodIn_r _ [17, 18, 19, 20, 21, 22, 23, 24, 25, 26, 27, 28, 29, 30, 31, 32, 33, 34, 35, 36, 37, 38, 39, 40, 41, 42, 43, 44, 45, 46, 47, 48, 49, 50, 51, 52, 53, 54, 55, 56, 57, 58, 59] (by decide +kernel) (by decide +kernel)
set_option maxRecDepth 20000 in
theorem gX9_winds_X9_told : GoodIn wsX9_winds (wsV RX9 99 RX9 yX9_told wsX9_told) := goodIn_app (goodIn_of _ (by decide +kernel)) ggX9_winds_X9_told
theorem dX9_winds_0 : decode cX9_winds 0 = .ok (.aload_n 0, 1) := by decide +kernel
theorem dX9_winds_1 : decode cX9_winds 1 = .ok (.iconst 0, 1) := by decide +kernel
theorem dX9_winds_2 : decode cX9_winds 2 = .ok (.putfield 81, 3) := by decide +kernel
theorem dX9_winds_5 : decode cX9_winds 5 = .ok (.iload_n 1, 1) := by decide +kernel
theorem dX9_winds_6 : decode cX9_winds 6 = .ok (.i2l, 1) := by decide +kernel
theorem dX9_winds_7 : decode cX9_winds 7 = .ok (.lconst 0, 1) := by decide +kernel
theorem dX9_winds_8 : decode cX9_winds 8 = .ok (.ldc2_w 93, 3) := by decide +kernel
theorem dX9_winds_11 : decode cX9_winds 11 = .ok (.invokestatic 89, 3) := by decide +kernel
theorem dX9_winds_14 : decode cX9_winds 14 = .ok (.ifCond .eq 52, 3) := by decide +kernel
theorem dX9_winds_17 : decode cX9_winds 17 = .ok (.iload_n 2, 1) := by decide +kernel
theorem dX9_winds_18 : decode cX9_winds 18 = .ok (.i2l, 1) := by decide +kernel
theorem dX9_winds_19 : decode cX9_winds 19 = .ok (.lconst 0, 1) := by decide +kernel
theorem dX9_winds_20 : decode cX9_winds 20 = .ok (.ldc2_w 93, 3) := by decide +kernel
theorem dX9_winds_23 : decode cX9_winds 23 = .ok (.invokestatic 89, 3) := by decide +kernel
theorem dX9_winds_26 : decode cX9_winds 26 = .ok (.ifCond .eq 40, 3) := by decide +kernel
theorem dX9_winds_29 : decode cX9_winds 29 = .ok (.iload_n 3, 1) := by decide +kernel
theorem dX9_winds_30 : decode cX9_winds 30 = .ok (.i2l, 1) := by decide +kernel
theorem dX9_winds_31 : decode cX9_winds 31 = .ok (.lconst 0, 1) := by decide +kernel
theorem dX9_winds_32 : decode cX9_winds 32 = .ok (.ldc2_w 93, 3) := by decide +kernel
theorem dX9_winds_35 : decode cX9_winds 35 = .ok (.invokestatic 89, 3) := by decide +kernel
theorem dX9_winds_38 : decode cX9_winds 38 = .ok (.ifCond .eq 28, 3) := by decide +kernel
theorem dX9_winds_41 : decode cX9_winds 41 = .ok (.iload 4, 2) := by decide +kernel
theorem dX9_winds_43 : decode cX9_winds 43 = .ok (.i2l, 1) := by decide +kernel
theorem dX9_winds_44 : decode cX9_winds 44 = .ok (.lconst 0, 1) := by decide +kernel
theorem dX9_winds_45 : decode cX9_winds 45 = .ok (.ldc2_w 93, 3) := by decide +kernel
theorem dX9_winds_48 : decode cX9_winds 48 = .ok (.invokestatic 89, 3) := by decide +kernel
theorem dX9_winds_51 : decode cX9_winds 51 = .ok (.ifCond .eq 15, 3) := by decide +kernel
theorem dX9_winds_54 : decode cX9_winds 54 = .ok (.iload 5, 2) := by decide +kernel
theorem dX9_winds_56 : decode cX9_winds 56 = .ok (.invokestatic 95, 3) := by decide +kernel
theorem dX9_winds_59 : decode cX9_winds 59 = .ok (.ifCond .eq 7, 3) := by decide +kernel
theorem dX9_winds_62 : decode cX9_winds 62 = .ok (.iconst 1, 1) := by decide +kernel
theorem dX9_winds_63 : decode cX9_winds 63 = .ok (.goto 4, 3) := by decide +kernel
theorem dX9_winds_66 : decode cX9_winds 66 = .ok (.iconst 0, 1) := by decide +kernel
theorem dX9_winds_67 : decode cX9_winds 67 = .ok (.istore 6, 2) := by decide +kernel
theorem dX9_winds_69 : decode cX9_winds 69 = .ok (.iload 6, 2) := by decide +kernel
theorem dX9_winds_71 : decode cX9_winds 71 = .ok (.ifCond .eq 16, 3) := by decide +kernel
theorem dX9_winds_74 : decode cX9_winds 74 = .ok (.iload_n 1, 1) := by decide +kernel
theorem dX9_winds_75 : decode cX9_winds 75 = .ok (.iload_n 2, 1) := by decide +kernel
theorem dX9_winds_76 : decode cX9_winds 76 = .ok (.iadd, 1) := by decide +kernel
theorem dX9_winds_77 : decode cX9_winds 77 = .ok (.iload_n 3, 1) := by decide +kernel
theorem dX9_winds_78 : decode cX9_winds 78 = .ok (.iadd, 1) := by decide +kernel
theorem dX9_winds_79 : decode cX9_winds 79 = .ok (.iload 4, 2) := by decide +kernel
theorem dX9_winds_81 : decode cX9_winds 81 = .ok (.iadd, 1) := by decide +kernel
theorem dX9_winds_82 : decode cX9_winds 82 = .ok (.bipush 16, 2) := by decide +kernel
theorem dX9_winds_84 : decode cX9_winds 84 = .ok (.if_icmp .eq 9, 3) := by decide +kernel
theorem dX9_winds_87 : decode cX9_winds 87 = .ok (.aload_n 0, 1) := by decide +kernel
theorem dX9_winds_88 : decode cX9_winds 88 = .ok (.iconst (-1), 1) := by decide +kernel
theorem dX9_winds_89 : decode cX9_winds 89 = .ok (.invokevirtual 99, 3) := by decide +kernel
theorem dX9_winds_92 : decode cX9_winds 92 = .ok (.ireturn, 1) := by decide +kernel
theorem dX9_winds_93 : decode cX9_winds 93 = .ok (.aload_n 0, 1) := by decide +kernel
theorem dX9_winds_94 : decode cX9_winds 94 = .ok (.getfield 103, 3) := by decide +kernel
theorem dX9_winds_97 : decode cX9_winds 97 = .ok (.bipush 40, 2) := by decide +kernel
theorem dX9_winds_99 : decode cX9_winds 99 = .ok (.if_icmp .ne 10, 3) := by decide +kernel
theorem dX9_winds_102 : decode cX9_winds 102 = .ok (.aload_n 0, 1) := by decide +kernel
theorem dX9_winds_103 : decode cX9_winds 103 = .ok (.bipush (-5), 2) := by decide +kernel
theorem dX9_winds_105 : decode cX9_winds 105 = .ok (.invokevirtual 99, 3) := by decide +kernel
theorem dX9_winds_108 : decode cX9_winds 108 = .ok (.ireturn, 1) := by decide +kernel
theorem dX9_winds_109 : decode cX9_winds 109 = .ok (.aload_n 0, 1) := by decide +kernel
theorem dX9_winds_110 : decode cX9_winds 110 = .ok (.getfield 7, 3) := by decide +kernel
theorem dX9_winds_113 : decode cX9_winds 113 = .ok (.iconst 4, 1) := by decide +kernel
theorem dX9_winds_114 : decode cX9_winds 114 = .ok (.aload_n 0, 1) := by decide +kernel
theorem dX9_winds_115 : decode cX9_winds 115 = .ok (.getfield 103, 3) := by decide +kernel
theorem dX9_winds_118 : decode cX9_winds 118 = .ok (.imul, 1) := by decide +kernel
theorem dX9_winds_119 : decode cX9_winds 119 = .ok (.iload_n 1, 1) := by decide +kernel
theorem dX9_winds_120 : decode cX9_winds 120 = .ok (.iastore, 1) := by decide +kernel
theorem dX9_winds_121 : decode cX9_winds 121 = .ok (.aload_n 0, 1) := by decide +kernel
theorem dX9_winds_122 : decode cX9_winds 122 = .ok (.getfield 7, 3) := by decide +kernel
theorem dX9_winds_125 : decode cX9_winds 125 = .ok (.iconst 4, 1) := by decide +kernel
theorem dX9_winds_126 : decode cX9_winds 126 = .ok (.aload_n 0, 1) := by decide +kernel
theorem dX9_winds_127 : decode cX9_winds 127 = .ok (.getfield 103, 3) := by decide +kernel
theorem dX9_winds_130 : decode cX9_winds 130 = .ok (.imul, 1) := by decide +kernel
theorem dX9_winds_131 : decode cX9_winds 131 = .ok (.iconst 1, 1) := by decide +kernel
theorem dX9_winds_132 : decode cX9_winds 132 = .ok (.iadd, 1) := by decide +kernel
theorem dX9_winds_133 : decode cX9_winds 133 = .ok (.iload_n 2, 1) := by decide +kernel
theorem dX9_winds_134 : decode cX9_winds 134 = .ok (.iastore, 1) := by decide +kernel
theorem dX9_winds_135 : decode cX9_winds 135 = .ok (.aload_n 0, 1) := by decide +kernel
theorem dX9_winds_136 : decode cX9_winds 136 = .ok (.getfield 7, 3) := by decide +kernel
theorem dX9_winds_139 : decode cX9_winds 139 = .ok (.iconst 4, 1) := by decide +kernel
theorem dX9_winds_140 : decode cX9_winds 140 = .ok (.aload_n 0, 1) := by decide +kernel
theorem dX9_winds_141 : decode cX9_winds 141 = .ok (.getfield 103, 3) := by decide +kernel
theorem dX9_winds_144 : decode cX9_winds 144 = .ok (.imul, 1) := by decide +kernel
theorem dX9_winds_145 : decode cX9_winds 145 = .ok (.iconst 2, 1) := by decide +kernel
theorem dX9_winds_146 : decode cX9_winds 146 = .ok (.iadd, 1) := by decide +kernel
theorem dX9_winds_147 : decode cX9_winds 147 = .ok (.iload_n 3, 1) := by decide +kernel
theorem dX9_winds_148 : decode cX9_winds 148 = .ok (.iastore, 1) := by decide +kernel
theorem dX9_winds_149 : decode cX9_winds 149 = .ok (.aload_n 0, 1) := by decide +kernel
theorem dX9_winds_150 : decode cX9_winds 150 = .ok (.getfield 7, 3) := by decide +kernel
theorem dX9_winds_153 : decode cX9_winds 153 = .ok (.iconst 4, 1) := by decide +kernel
theorem dX9_winds_154 : decode cX9_winds 154 = .ok (.aload_n 0, 1) := by decide +kernel
theorem dX9_winds_155 : decode cX9_winds 155 = .ok (.getfield 103, 3) := by decide +kernel
theorem dX9_winds_158 : decode cX9_winds 158 = .ok (.imul, 1) := by decide +kernel
theorem dX9_winds_159 : decode cX9_winds 159 = .ok (.iconst 3, 1) := by decide +kernel
theorem dX9_winds_160 : decode cX9_winds 160 = .ok (.iadd, 1) := by decide +kernel
theorem dX9_winds_161 : decode cX9_winds 161 = .ok (.iload 4, 2) := by decide +kernel
theorem dX9_winds_163 : decode cX9_winds 163 = .ok (.iastore, 1) := by decide +kernel
theorem dX9_winds_164 : decode cX9_winds 164 = .ok (.aload_n 0, 1) := by decide +kernel
theorem dX9_winds_165 : decode cX9_winds 165 = .ok (.getfield 13, 3) := by decide +kernel
theorem dX9_winds_168 : decode cX9_winds 168 = .ok (.aload_n 0, 1) := by decide +kernel
theorem dX9_winds_169 : decode cX9_winds 169 = .ok (.getfield 103, 3) := by decide +kernel
theorem dX9_winds_172 : decode cX9_winds 172 = .ok (.iload 5, 2) := by decide +kernel
theorem dX9_winds_174 : decode cX9_winds 174 = .ok (.iastore, 1) := by decide +kernel
theorem dX9_winds_175 : decode cX9_winds 175 = .ok (.aload_n 0, 1) := by decide +kernel
theorem dX9_winds_176 : decode cX9_winds 176 = .ok (.dup, 1) := by decide +kernel
theorem dX9_winds_177 : decode cX9_winds 177 = .ok (.getfield 103, 3) := by decide +kernel
theorem dX9_winds_180 : decode cX9_winds 180 = .ok (.iconst 1, 1) := by decide +kernel
theorem dX9_winds_181 : decode cX9_winds 181 = .ok (.iadd, 1) := by decide +kernel
theorem dX9_winds_182 : decode cX9_winds 182 = .ok (.putfield 103, 3) := by decide +kernel
theorem dX9_winds_185 : decode cX9_winds 185 = .ok (.aload_n 0, 1) := by decide +kernel
theorem dX9_winds_186 : decode cX9_winds 186 = .ok (.aload_n 0, 1) := by decide +kernel
theorem dX9_winds_187 : decode cX9_winds 187 = .ok (.getfield 103, 3) := by decide +kernel
theorem dX9_winds_190 : decode cX9_winds 190 = .ok (.invokevirtual 99, 3) := by decide +kernel
theorem dX9_winds_193 : decode cX9_winds 193 = .ok (.ireturn, 1) := by decide +kernel
theorem dX9_findWeights_0 : decode cX9_findWeights 0 = .ok (.iconst (-1), 1) := by decide +kernel
theorem dX9_findWeights_1 : decode cX9_findWeights 1 = .ok (.istore_n 2, 1) := by decide +kernel
theorem dX9_findWeights_2 : decode cX9_findWeights 2 = .ok (.iconst 0, 1) := by decide +kernel
theorem dX9_findWeights_3 : decode cX9_findWeights 3 = .ok (.istore_n 3, 1) := by decide +kernel
theorem dX9_findWeights_4 : decode cX9_findWeights 4 = .ok (.iload_n 3, 1) := by decide +kernel
theorem dX9_findWeights_5 : decode cX9_findWeights 5 = .ok (.aload_n 0, 1) := by decide +kernel
theorem dX9_findWeights_6 : decode cX9_findWeights 6 = .ok (.getfield 103, 3) := by decide +kernel
theorem dX9_findWeights_9 : decode cX9_findWeights 9 = .ok (.if_icmp .ge 25, 3) := by decide +kernel
theorem dX9_findWeights_12 : decode cX9_findWeights 12 = .ok (.aload_n 0, 1) := by decide +kernel
theorem dX9_findWeights_13 : decode cX9_findWeights 13 = .ok (.getfield 13, 3) := by decide +kernel
theorem dX9_findWeights_16 : decode cX9_findWeights 16 = .ok (.iload_n 3, 1) := by decide +kernel
theorem dX9_findWeights_17 : decode cX9_findWeights 17 = .ok (.iaload, 1) := by decide +kernel
theorem dX9_findWeights_18 : decode cX9_findWeights 18 = .ok (.iload_n 1, 1) := by decide +kernel
theorem dX9_findWeights_19 : decode cX9_findWeights 19 = .ok (.if_icmp .gt 7, 3) := by decide +kernel
theorem dX9_findWeights_22 : decode cX9_findWeights 22 = .ok (.iload_n 3, 1) := by decide +kernel
theorem dX9_findWeights_23 : decode cX9_findWeights 23 = .ok (.goto 4, 3) := by decide +kernel
theorem dX9_findWeights_26 : decode cX9_findWeights 26 = .ok (.iload_n 2, 1) := by decide +kernel
theorem dX9_findWeights_27 : decode cX9_findWeights 27 = .ok (.istore_n 2, 1) := by decide +kernel
theorem dX9_findWeights_28 : decode cX9_findWeights 28 = .ok (.iinc 3 1, 3) := by decide +kernel
theorem dX9_findWeights_31 : decode cX9_findWeights 31 = .ok (.goto (-27), 3) := by decide +kernel
theorem dX9_findWeights_34 : decode cX9_findWeights 34 = .ok (.iconst 0, 1) := by decide +kernel
theorem dX9_findWeights_35 : decode cX9_findWeights 35 = .ok (.istore_n 3, 1) := by decide +kernel
theorem dX9_findWeights_36 : decode cX9_findWeights 36 = .ok (.iload_n 3, 1) := by decide +kernel
theorem dX9_findWeights_37 : decode cX9_findWeights 37 = .ok (.iconst 4, 1) := by decide +kernel
theorem dX9_findWeights_38 : decode cX9_findWeights 38 = .ok (.if_icmp .ge 33, 3) := by decide +kernel
theorem dX9_findWeights_41 : decode cX9_findWeights 41 = .ok (.aload_n 0, 1) := by decide +kernel
theorem dX9_findWeights_42 : decode cX9_findWeights 42 = .ok (.getfield 26, 3) := by decide +kernel
theorem dX9_findWeights_45 : decode cX9_findWeights 45 = .ok (.iload_n 3, 1) := by decide +kernel
theorem dX9_findWeights_46 : decode cX9_findWeights 46 = .ok (.iload_n 2, 1) := by decide +kernel
theorem dX9_findWeights_47 : decode cX9_findWeights 47 = .ok (.ifCond .ge 7, 3) := by decide +kernel
theorem dX9_findWeights_50 : decode cX9_findWeights 50 = .ok (.iconst 4, 1) := by decide +kernel
theorem dX9_findWeights_51 : decode cX9_findWeights 51 = .ok (.goto 13, 3) := by decide +kernel
theorem dX9_findWeights_54 : decode cX9_findWeights 54 = .ok (.aload_n 0, 1) := by decide +kernel
theorem dX9_findWeights_55 : decode cX9_findWeights 55 = .ok (.getfield 7, 3) := by decide +kernel
theorem dX9_findWeights_58 : decode cX9_findWeights 58 = .ok (.iconst 4, 1) := by decide +kernel
theorem dX9_findWeights_59 : decode cX9_findWeights 59 = .ok (.iload_n 2, 1) := by decide +kernel
theorem dX9_findWeights_60 : decode cX9_findWeights 60 = .ok (.imul, 1) := by decide +kernel
theorem dX9_findWeights_61 : decode cX9_findWeights 61 = .ok (.iload_n 3, 1) := by decide +kernel
theorem dX9_findWeights_62 : decode cX9_findWeights 62 = .ok (.iadd, 1) := by decide +kernel
theorem dX9_findWeights_63 : decode cX9_findWeights 63 = .ok (.iaload, 1) := by decide +kernel
theorem dX9_findWeights_64 : decode cX9_findWeights 64 = .ok (.iastore, 1) := by decide +kernel
theorem dX9_findWeights_65 : decode cX9_findWeights 65 = .ok (.iinc 3 1, 3) := by decide +kernel
theorem dX9_findWeights_68 : decode cX9_findWeights 68 = .ok (.goto (-32), 3) := by decide +kernel
theorem dX9_findWeights_71 : decode cX9_findWeights 71 = .ok (.return_, 1) := by decide +kernel
set_option maxRecDepth 20000 in
theorem ggX9_weight_X9_in : GoodIn wsX9_weight wsX9_in := goodIn_r _ [7] (by decide +kernel) (by decide +kernel)
set_option maxRecDepth 20000 in
theorem gX9_weight_X9_in : GoodIn wsX9_weight (va_wsS RX9 89 yX9_in wsX9_in) := goodIn_app (goodIn_of _ (by decide +kernel)) ggX9_weight_X9_in
set_option maxRecDepth 20000 in
theorem ggX9_weight_X9_isKnown : GoodIn wsX9_weight wsX9_isKnown := goodIn_r _ [10, 11, 4, 5, 6, 7] (by decide +kernel) (by decide +kernel)
set_option maxRecDepth 20000 in
theorem gX9_weight_X9_isKnown : GoodIn wsX9_weight (va_wsS RX9 95 yX9_isKnown wsX9_isKnown) := goodIn_app (goodIn_of _ (by decide +kernel)) ggX9_weight_X9_isKnown
set_option maxRecDepth 20000 in
theorem ggX9_weight_X9_findWeights : GoodIn wsX9_weight wsX9_findWeights := goodIn_r _ [15, 16, 17, 3, 18, 19, 20, 21, 22, 23, 24, 25, 26, 27, 28, 29, 30, 31, 32, 33, 34, 35, 36, 37, 38, 39, 40, 41, 42, 43, 44, 45, 46, 47, 48, 49, 50, 51, 52, 53, 54, 55, 56, 57, 58, 59] (by decide +kernel) (by decide +kernel)
set_option maxRecDepth 20000 in
theorem gX9_weight_X9_findWeights : GoodIn wsX9_weight (wsV RX9 108 RX9 yX9_findWeights wsX9_findWeights) := goodIn_app (goodIn_of _ (by decide +kernel)) ggX9_weight_X9_findWeights
theorem dX9_weight_0 : decode cX9_weight 0 = .ok (.aload_n 0, 1) := by decide +kernel
theorem dX9_weight_1 : decode cX9_weight 1 = .ok (.iconst 0, 1) := by decide +kernel
theorem dX9_weight_2 : decode cX9_weight 2 = .ok (.putfield 81, 3) := by decide +kernel
theorem dX9_weight_5 : decode cX9_weight 5 = .ok (.iload_n 1, 1) := by decide +kernel
theorem dX9_weight_6 : decode cX9_weight 6 = .ok (.i2l, 1) := by decide +kernel
theorem dX9_weight_7 : decode cX9_weight 7 = .ok (.lconst 0, 1) := by decide +kernel
theorem dX9_weight_8 : decode cX9_weight 8 = .ok (.ldc2_w 106, 3) := by decide +kernel
theorem dX9_weight_11 : decode cX9_weight 11 = .ok (.invokestatic 89, 3) := by decide +kernel
theorem dX9_weight_14 : decode cX9_weight 14 = .ok (.ifCond .eq 10, 3) := by decide +kernel
theorem dX9_weight_17 : decode cX9_weight 17 = .ok (.iload_n 2, 1) := by decide +kernel
theorem dX9_weight_18 : decode cX9_weight 18 = .ok (.invokestatic 95, 3) := by decide +kernel
theorem dX9_weight_21 : decode cX9_weight 21 = .ok (.ifCond .ne 5, 3) := by decide +kernel
theorem dX9_weight_24 : decode cX9_weight 24 = .ok (.iconst (-1), 1) := by decide +kernel
theorem dX9_weight_25 : decode cX9_weight 25 = .ok (.ireturn, 1) := by decide +kernel
theorem dX9_weight_26 : decode cX9_weight 26 = .ok (.aload_n 0, 1) := by decide +kernel
theorem dX9_weight_27 : decode cX9_weight 27 = .ok (.iload_n 2, 1) := by decide +kernel
theorem dX9_weight_28 : decode cX9_weight 28 = .ok (.invokevirtual 108, 3) := by decide +kernel
theorem dX9_weight_31 : decode cX9_weight 31 = .ok (.aload_n 0, 1) := by decide +kernel
theorem dX9_weight_32 : decode cX9_weight 32 = .ok (.getfield 26, 3) := by decide +kernel
theorem dX9_weight_35 : decode cX9_weight 35 = .ok (.iload_n 1, 1) := by decide +kernel
theorem dX9_weight_36 : decode cX9_weight 36 = .ok (.iaload, 1) := by decide +kernel
theorem dX9_weight_37 : decode cX9_weight 37 = .ok (.ireturn, 1) := by decide +kernel
set_option maxRecDepth 20000 in
theorem ggX9_sails_X9_in : GoodIn wsX9_sails wsX9_in := goodIn_r _ [8] (by decide +kernel) (by decide +kernel)
set_option maxRecDepth 20000 in
theorem gX9_sails_X9_in : GoodIn wsX9_sails (va_wsS RX9 89 yX9_in wsX9_in) := goodIn_app (goodIn_of _ (by decide +kernel)) ggX9_sails_X9_in
set_option maxRecDepth 20000 in
theorem ggX9_sails_X9_told : GoodIn wsX9_sails wsX9_told := goodIn_r _ [12, 13, 14, 15, 16, 17, 18, 19, 20, 21, 22, 23, 24, 25, 26, 27, 28, 29, 30, 31, 32, 33, 34, 35, 36, 37, 38, 39, 40, 41, 42, 43, 44, 45, 46, 47, 48, 49, 50, 51, 52, 53, 54] (by decide +kernel) (by decide +kernel)
set_option maxRecDepth 20000 in
theorem gX9_sails_X9_told : GoodIn wsX9_sails (wsV RX9 99 RX9 yX9_told wsX9_told) := goodIn_app (goodIn_of _ (by decide +kernel)) ggX9_sails_X9_told
theorem dX9_sails_0 : decode cX9_sails 0 = .ok (.aload_n 0, 1) := by decide +kernel
theorem dX9_sails_1 : decode cX9_sails 1 = .ok (.iconst 0, 1) := by decide +kernel
theorem dX9_sails_2 : decode cX9_sails 2 = .ok (.putfield 81, 3) := by decide +kernel
theorem dX9_sails_5 : decode cX9_sails 5 = .ok (.iload_n 1, 1) := by decide +kernel
theorem dX9_sails_6 : decode cX9_sails 6 = .ok (.i2l, 1) := by decide +kernel
theorem dX9_sails_7 : decode cX9_sails 7 = .ok (.lconst 0, 1) := by decide +kernel
theorem dX9_sails_8 : decode cX9_sails 8 = .ok (.ldc2_w 106, 3) := by decide +kernel
theorem dX9_sails_11 : decode cX9_sails 11 = .ok (.invokestatic 89, 3) := by decide +kernel
theorem dX9_sails_14 : decode cX9_sails 14 = .ok (.ifCond .eq 15, 3) := by decide +kernel
theorem dX9_sails_17 : decode cX9_sails 17 = .ok (.iload_n 2, 1) := by decide +kernel
theorem dX9_sails_18 : decode cX9_sails 18 = .ok (.i2l, 1) := by decide +kernel
theorem dX9_sails_19 : decode cX9_sails 19 = .ok (.lconst 0, 1) := by decide +kernel
theorem dX9_sails_20 : decode cX9_sails 20 = .ok (.ldc2_w 112, 3) := by decide +kernel
theorem dX9_sails_23 : decode cX9_sails 23 = .ok (.invokestatic 89, 3) := by decide +kernel
theorem dX9_sails_26 : decode cX9_sails 26 = .ok (.ifCond .ne 9, 3) := by decide +kernel
theorem dX9_sails_29 : decode cX9_sails 29 = .ok (.aload_n 0, 1) := by decide +kernel
theorem dX9_sails_30 : decode cX9_sails 30 = .ok (.iconst (-1), 1) := by decide +kernel
theorem dX9_sails_31 : decode cX9_sails 31 = .ok (.invokevirtual 99, 3) := by decide +kernel
theorem dX9_sails_34 : decode cX9_sails 34 = .ok (.ireturn, 1) := by decide +kernel
theorem dX9_sails_35 : decode cX9_sails 35 = .ok (.aload_n 0, 1) := by decide +kernel
theorem dX9_sails_36 : decode cX9_sails 36 = .ok (.getfield 16, 3) := by decide +kernel
theorem dX9_sails_39 : decode cX9_sails 39 = .ok (.iload_n 1, 1) := by decide +kernel
theorem dX9_sails_40 : decode cX9_sails 40 = .ok (.iload_n 2, 1) := by decide +kernel
theorem dX9_sails_41 : decode cX9_sails 41 = .ok (.iastore, 1) := by decide +kernel
theorem dX9_sails_42 : decode cX9_sails 42 = .ok (.aload_n 0, 1) := by decide +kernel
theorem dX9_sails_43 : decode cX9_sails 43 = .ok (.iconst 0, 1) := by decide +kernel
theorem dX9_sails_44 : decode cX9_sails 44 = .ok (.invokevirtual 99, 3) := by decide +kernel
theorem dX9_sails_47 : decode cX9_sails 47 = .ok (.ireturn, 1) := by decide +kernel
set_option maxRecDepth 20000 in
theorem ggX9_engine_X9_in : GoodIn wsX9_engine wsX9_in := goodIn_r _ [7] (by decide +kernel) (by decide +kernel)
set_option maxRecDepth 20000 in
theorem gX9_engine_X9_in : GoodIn wsX9_engine (va_wsS RX9 89 yX9_in wsX9_in) := goodIn_app (goodIn_of _ (by decide +kernel)) ggX9_engine_X9_in
set_option maxRecDepth 20000 in
theorem ggX9_engine_X9_told : GoodIn wsX9_engine wsX9_told := goodIn_r _ [11, 12, 13, 14, 15, 16, 17, 18, 19, 20, 21, 22, 23, 24, 25, 26, 27, 28, 29, 30, 31, 32, 33, 34, 35, 36, 37, 38, 39, 40, 41, 42, 43, 44, 45, 46, 47, 48, 49, 50, 51, 52, 53] (by decide +kernel) (by decide +kernel)
set_option maxRecDepth 20000 in
theorem gX9_engine_X9_told : GoodIn wsX9_engine (wsV RX9 99 RX9 yX9_told wsX9_told) := goodIn_app (goodIn_of _ (by decide +kernel)) ggX9_engine_X9_told
theorem dX9_engine_0 : decode cX9_engine 0 = .ok (.aload_n 0, 1) := by decide +kernel
theorem dX9_engine_1 : decode cX9_engine 1 = .ok (.iconst 0, 1) := by decide +kernel
theorem dX9_engine_2 : decode cX9_engine 2 = .ok (.putfield 81, 3) := by decide +kernel
theorem dX9_engine_5 : decode cX9_engine 5 = .ok (.iload_n 1, 1) := by decide +kernel
theorem dX9_engine_6 : decode cX9_engine 6 = .ok (.i2l, 1) := by decide +kernel
theorem dX9_engine_7 : decode cX9_engine 7 = .ok (.lconst 0, 1) := by decide +kernel
theorem dX9_engine_8 : decode cX9_engine 8 = .ok (.ldc2_w 112, 3) := by decide +kernel
theorem dX9_engine_11 : decode cX9_engine 11 = .ok (.invokestatic 89, 3) := by decide +kernel
theorem dX9_engine_14 : decode cX9_engine 14 = .ok (.ifCond .ne 9, 3) := by decide +kernel
theorem dX9_engine_17 : decode cX9_engine 17 = .ok (.aload_n 0, 1) := by decide +kernel
theorem dX9_engine_18 : decode cX9_engine 18 = .ok (.iconst (-1), 1) := by decide +kernel
theorem dX9_engine_19 : decode cX9_engine 19 = .ok (.invokevirtual 99, 3) := by decide +kernel
theorem dX9_engine_22 : decode cX9_engine 22 = .ok (.ireturn, 1) := by decide +kernel
theorem dX9_engine_23 : decode cX9_engine 23 = .ok (.aload_n 0, 1) := by decide +kernel
theorem dX9_engine_24 : decode cX9_engine 24 = .ok (.getfield 114, 3) := by decide +kernel
theorem dX9_engine_27 : decode cX9_engine 27 = .ok (.istore_n 2, 1) := by decide +kernel
theorem dX9_engine_28 : decode cX9_engine 28 = .ok (.aload_n 0, 1) := by decide +kernel
theorem dX9_engine_29 : decode cX9_engine 29 = .ok (.iload_n 1, 1) := by decide +kernel
theorem dX9_engine_30 : decode cX9_engine 30 = .ok (.putfield 114, 3) := by decide +kernel
theorem dX9_engine_33 : decode cX9_engine 33 = .ok (.aload_n 0, 1) := by decide +kernel
theorem dX9_engine_34 : decode cX9_engine 34 = .ok (.iload_n 2, 1) := by decide +kernel
theorem dX9_engine_35 : decode cX9_engine 35 = .ok (.invokevirtual 99, 3) := by decide +kernel
theorem dX9_engine_38 : decode cX9_engine 38 = .ok (.ireturn, 1) := by decide +kernel
theorem dX9_at_0 : decode cX9_at 0 = .ok (.bipush 13, 2) := by decide +kernel
theorem dX9_at_2 : decode cX9_at 2 = .ok (.iload_n 0, 1) := by decide +kernel
theorem dX9_at_3 : decode cX9_at 3 = .ok (.imul, 1) := by decide +kernel
theorem dX9_at_4 : decode cX9_at 4 = .ok (.iload_n 1, 1) := by decide +kernel
theorem dX9_at_5 : decode cX9_at 5 = .ok (.iadd, 1) := by decide +kernel
theorem dX9_at_6 : decode cX9_at 6 = .ok (.bipush 121, 2) := by decide +kernel
theorem dX9_at_8 : decode cX9_at 8 = .ok (.imul, 1) := by decide +kernel
theorem dX9_at_9 : decode cX9_at 9 = .ok (.iload_n 2, 1) := by decide +kernel
theorem dX9_at_10 : decode cX9_at 10 = .ok (.ifCond .ge 7, 3) := by decide +kernel
theorem dX9_at_13 : decode cX9_at 13 = .ok (.iconst 0, 1) := by decide +kernel
theorem dX9_at_14 : decode cX9_at 14 = .ok (.goto 4, 3) := by decide +kernel
theorem dX9_at_17 : decode cX9_at 17 = .ok (.iload_n 2, 1) := by decide +kernel
theorem dX9_at_18 : decode cX9_at 18 = .ok (.iadd, 1) := by decide +kernel
theorem dX9_at_19 : decode cX9_at 19 = .ok (.ireturn, 1) := by decide +kernel
theorem dX9_take_0 : decode cX9_take 0 = .ok (.aload_n 0, 1) := by decide +kernel
theorem dX9_take_1 : decode cX9_take 1 = .ok (.getfield 19, 3) := by decide +kernel
theorem dX9_take_4 : decode cX9_take 4 = .ok (.iload_n 2, 1) := by decide +kernel
theorem dX9_take_5 : decode cX9_take 5 = .ok (.laload, 1) := by decide +kernel
theorem dX9_take_6 : decode cX9_take 6 = .ok (.lstore 5, 2) := by decide +kernel
theorem dX9_take_8 : decode cX9_take 8 = .ok (.aload_n 0, 1) := by decide +kernel
theorem dX9_take_9 : decode cX9_take 9 = .ok (.getfield 23, 3) := by decide +kernel
theorem dX9_take_12 : decode cX9_take 12 = .ok (.iload_n 2, 1) := by decide +kernel
theorem dX9_take_13 : decode cX9_take 13 = .ok (.laload, 1) := by decide +kernel
theorem dX9_take_14 : decode cX9_take 14 = .ok (.lload_n 3, 1) := by decide +kernel
theorem dX9_take_15 : decode cX9_take 15 = .ok (.ladd, 1) := by decide +kernel
theorem dX9_take_16 : decode cX9_take 16 = .ok (.lstore 7, 2) := by decide +kernel
theorem dX9_take_18 : decode cX9_take 18 = .ok (.aload_n 0, 1) := by decide +kernel
theorem dX9_take_19 : decode cX9_take 19 = .ok (.getfield 117, 3) := by decide +kernel
theorem dX9_take_22 : decode cX9_take 22 = .ok (.ifCond .lt 33, 3) := by decide +kernel
theorem dX9_take_25 : decode cX9_take 25 = .ok (.lload 5, 2) := by decide +kernel
theorem dX9_take_27 : decode cX9_take 27 = .ok (.aload_n 0, 1) := by decide +kernel
theorem dX9_take_28 : decode cX9_take 28 = .ok (.getfield 120, 3) := by decide +kernel
theorem dX9_take_31 : decode cX9_take 31 = .ok (.lcmp, 1) := by decide +kernel
theorem dX9_take_32 : decode cX9_take 32 = .ok (.ifCond .gt 23, 3) := by decide +kernel
theorem dX9_take_35 : decode cX9_take 35 = .ok (.lload 5, 2) := by decide +kernel
theorem dX9_take_37 : decode cX9_take 37 = .ok (.aload_n 0, 1) := by decide +kernel
theorem dX9_take_38 : decode cX9_take 38 = .ok (.getfield 120, 3) := by decide +kernel
theorem dX9_take_41 : decode cX9_take 41 = .ok (.lcmp, 1) := by decide +kernel
theorem dX9_take_42 : decode cX9_take 42 = .ok (.ifCond .ne 30, 3) := by decide +kernel
theorem dX9_take_45 : decode cX9_take 45 = .ok (.lload 7, 2) := by decide +kernel
theorem dX9_take_47 : decode cX9_take 47 = .ok (.aload_n 0, 1) := by decide +kernel
theorem dX9_take_48 : decode cX9_take 48 = .ok (.getfield 124, 3) := by decide +kernel
theorem dX9_take_51 : decode cX9_take 51 = .ok (.lcmp, 1) := by decide +kernel
theorem dX9_take_52 : decode cX9_take 52 = .ok (.ifCond .ge 20, 3) := by decide +kernel
theorem dX9_take_55 : decode cX9_take 55 = .ok (.aload_n 0, 1) := by decide +kernel
theorem dX9_take_56 : decode cX9_take 56 = .ok (.iload_n 1, 1) := by decide +kernel
theorem dX9_take_57 : decode cX9_take 57 = .ok (.putfield 117, 3) := by decide +kernel
theorem dX9_take_60 : decode cX9_take 60 = .ok (.aload_n 0, 1) := by decide +kernel
theorem dX9_take_61 : decode cX9_take 61 = .ok (.lload 5, 2) := by decide +kernel
theorem dX9_take_63 : decode cX9_take 63 = .ok (.putfield 120, 3) := by decide +kernel
theorem dX9_take_66 : decode cX9_take 66 = .ok (.aload_n 0, 1) := by decide +kernel
theorem dX9_take_67 : decode cX9_take 67 = .ok (.lload 7, 2) := by decide +kernel
theorem dX9_take_69 : decode cX9_take 69 = .ok (.putfield 124, 3) := by decide +kernel
theorem dX9_take_72 : decode cX9_take 72 = .ok (.return_, 1) := by decide +kernel
set_option maxRecDepth 20000 in
theorem ggX9_choose_X9_at : GoodIn wsX9_choose wsX9_at := goodIn_r _ [7] (by decide +kernel) (by decide +kernel)
set_option maxRecDepth 20000 in
theorem gX9_choose_X9_at : GoodIn wsX9_choose (va_wsS RX9 127 yX9_at wsX9_at) := goodIn_app (goodIn_of _ (by decide +kernel)) ggX9_choose_X9_at
set_option maxRecDepth 20000 in
theorem ggX9_choose_X9_take : GoodIn wsX9_choose wsX9_take := goodIn_r _ [11, 12, 13, 1, 14, 15, 16, 17, 18, 19, 20, 21, 22, 23, 24, 25, 26, 27, 28, 29, 30, 31, 32, 33, 34, 35, 36, 37, 38, 39, 40, 41, 42, 43, 44, 45, 46, 47, 48, 49, 50, 51, 52, 53, 54, 55, 56] (by decide +kernel) (by decide +kernel)
set_option maxRecDepth 20000 in
theorem gX9_choose_X9_take : GoodIn wsX9_choose (wsV RX9 131 RX9 yX9_take wsX9_take) := goodIn_app (goodIn_of _ (by decide +kernel)) ggX9_choose_X9_take
theorem dX9_choose_0 : decode cX9_choose 0 = .ok (.aload_n 0, 1) := by decide +kernel
theorem dX9_choose_1 : decode cX9_choose 1 = .ok (.iconst (-1), 1) := by decide +kernel
theorem dX9_choose_2 : decode cX9_choose 2 = .ok (.putfield 117, 3) := by decide +kernel
theorem dX9_choose_5 : decode cX9_choose 5 = .ok (.aload_n 0, 1) := by decide +kernel
theorem dX9_choose_6 : decode cX9_choose 6 = .ok (.iconst 0, 1) := by decide +kernel
theorem dX9_choose_7 : decode cX9_choose 7 = .ok (.iload_n 1, 1) := by decide +kernel
theorem dX9_choose_8 : decode cX9_choose 8 = .ok (.iconst 1, 1) := by decide +kernel
theorem dX9_choose_9 : decode cX9_choose 9 = .ok (.isub, 1) := by decide +kernel
theorem dX9_choose_10 : decode cX9_choose 10 = .ok (.iload_n 2, 1) := by decide +kernel
theorem dX9_choose_11 : decode cX9_choose 11 = .ok (.iload_n 3, 1) := by decide +kernel
theorem dX9_choose_12 : decode cX9_choose 12 = .ok (.aload_n 0, 1) := by decide +kernel
theorem dX9_choose_13 : decode cX9_choose 13 = .ok (.getfield 16, 3) := by decide +kernel
theorem dX9_choose_16 : decode cX9_choose 16 = .ok (.iload 4, 2) := by decide +kernel
theorem dX9_choose_18 : decode cX9_choose 18 = .ok (.iaload, 1) := by decide +kernel
theorem dX9_choose_19 : decode cX9_choose 19 = .ok (.isub, 1) := by decide +kernel
theorem dX9_choose_20 : decode cX9_choose 20 = .ok (.invokestatic 127, 3) := by decide +kernel
theorem dX9_choose_23 : decode cX9_choose 23 = .ok (.lconst 0, 1) := by decide +kernel
theorem dX9_choose_24 : decode cX9_choose 24 = .ok (.invokevirtual 131, 3) := by decide +kernel
theorem dX9_choose_27 : decode cX9_choose 27 = .ok (.iload_n 2, 1) := by decide +kernel
theorem dX9_choose_28 : decode cX9_choose 28 = .ok (.ifCond .le 25, 3) := by decide +kernel
theorem dX9_choose_31 : decode cX9_choose 31 = .ok (.aload_n 0, 1) := by decide +kernel
theorem dX9_choose_32 : decode cX9_choose 32 = .ok (.iconst 1, 1) := by decide +kernel
theorem dX9_choose_33 : decode cX9_choose 33 = .ok (.iload_n 1, 1) := by decide +kernel
theorem dX9_choose_34 : decode cX9_choose 34 = .ok (.iconst 1, 1) := by decide +kernel
theorem dX9_choose_35 : decode cX9_choose 35 = .ok (.isub, 1) := by decide +kernel
theorem dX9_choose_36 : decode cX9_choose 36 = .ok (.iload_n 2, 1) := by decide +kernel
theorem dX9_choose_37 : decode cX9_choose 37 = .ok (.iconst 1, 1) := by decide +kernel
theorem dX9_choose_38 : decode cX9_choose 38 = .ok (.isub, 1) := by decide +kernel
theorem dX9_choose_39 : decode cX9_choose 39 = .ok (.iload_n 3, 1) := by decide +kernel
theorem dX9_choose_40 : decode cX9_choose 40 = .ok (.aload_n 0, 1) := by decide +kernel
theorem dX9_choose_41 : decode cX9_choose 41 = .ok (.getfield 114, 3) := by decide +kernel
theorem dX9_choose_44 : decode cX9_choose 44 = .ok (.isub, 1) := by decide +kernel
theorem dX9_choose_45 : decode cX9_choose 45 = .ok (.invokestatic 127, 3) := by decide +kernel
theorem dX9_choose_48 : decode cX9_choose 48 = .ok (.lload 5, 2) := by decide +kernel
theorem dX9_choose_50 : decode cX9_choose 50 = .ok (.invokevirtual 131, 3) := by decide +kernel
theorem dX9_choose_53 : decode cX9_choose 53 = .ok (.aload_n 0, 1) := by decide +kernel
theorem dX9_choose_54 : decode cX9_choose 54 = .ok (.iconst 2, 1) := by decide +kernel
theorem dX9_choose_55 : decode cX9_choose 55 = .ok (.iload_n 1, 1) := by decide +kernel
theorem dX9_choose_56 : decode cX9_choose 56 = .ok (.iconst 1, 1) := by decide +kernel
theorem dX9_choose_57 : decode cX9_choose 57 = .ok (.isub, 1) := by decide +kernel
theorem dX9_choose_58 : decode cX9_choose 58 = .ok (.iload_n 2, 1) := by decide +kernel
theorem dX9_choose_59 : decode cX9_choose 59 = .ok (.iload_n 3, 1) := by decide +kernel
theorem dX9_choose_60 : decode cX9_choose 60 = .ok (.invokestatic 127, 3) := by decide +kernel
theorem dX9_choose_63 : decode cX9_choose 63 = .ok (.lconst 0, 1) := by decide +kernel
theorem dX9_choose_64 : decode cX9_choose 64 = .ok (.invokevirtual 131, 3) := by decide +kernel
theorem dX9_choose_67 : decode cX9_choose 67 = .ok (.return_, 1) := by decide +kernel
set_option maxRecDepth 20000 in
theorem ggX9_find_X9_findWeights : GoodIn wsX9_find wsX9_findWeights := goodIn_r _ [11, 12, 13, 4, 14, 29, 30, 31, 32, 33, 34, 35, 36, 37, 38, 39, 40, 41, 42, 43, 44, 45, 46, 47, 48, 49, 50, 51, 52, 53, 54, 55, 56, 57, 58, 59, 60, 61, 62, 63, 64, 65, 66, 67, 68, 69] (by decide +kernel) (by decide +kernel)
set_option maxRecDepth 20000 in
theorem gX9_find_X9_findWeights : GoodIn wsX9_find (wsV RX9 108 RX9 yX9_findWeights wsX9_findWeights) := goodIn_app (goodIn_of _ (by decide +kernel)) ggX9_find_X9_findWeights
set_option maxRecDepth 20000 in
theorem ggX9_find_X9_at : GoodIn wsX9_find wsX9_at := goodIn_r _ [17] (by decide +kernel) (by decide +kernel)
set_option maxRecDepth 20000 in
theorem gX9_find_X9_at : GoodIn wsX9_find (va_wsS RX9 127 yX9_at wsX9_at) := goodIn_app (goodIn_of _ (by decide +kernel)) ggX9_find_X9_at
set_option maxRecDepth 20000 in
theorem ggX9_find_X9_choose : GoodIn wsX9_find wsX9_choose := goodIn_r _ [21, 22, 23, 24, 15, 16, 10, 17, 25, 26, 27, 28, 1, 2, 5, 6, 29, 30, 31, 32, 33, 34, 35, 36, 37, 38, 39, 40, 41, 42, 43, 44, 45, 46, 47, 48, 49, 50, 51, 52, 53, 54, 55, 56, 57, 58, 59, 60, 61, 62, 63, 64, 65, 66, 67, 68, 69] (by decide +kernel) (by decide +kernel)
set_option maxRecDepth 20000 in
theorem gX9_find_X9_choose : GoodIn wsX9_find (wsV RX9 135 RX9 yX9_choose wsX9_choose) := goodIn_app (goodIn_of _ (by decide +kernel)) ggX9_find_X9_choose
theorem dX9_find_0 : decode cX9_find 0 = .ok (.aload_n 0, 1) := by decide +kernel
theorem dX9_find_1 : decode cX9_find 1 = .ok (.iload 4, 2) := by decide +kernel
theorem dX9_find_3 : decode cX9_find 3 = .ok (.invokevirtual 108, 3) := by decide +kernel
theorem dX9_find_6 : decode cX9_find 6 = .ok (.lconst 1, 1) := by decide +kernel
theorem dX9_find_7 : decode cX9_find 7 = .ok (.lstore 5, 2) := by decide +kernel
theorem dX9_find_9 : decode cX9_find 9 = .ok (.iconst 0, 1) := by decide +kernel
theorem dX9_find_10 : decode cX9_find 10 = .ok (.istore 7, 2) := by decide +kernel
theorem dX9_find_12 : decode cX9_find 12 = .ok (.iload 7, 2) := by decide +kernel
theorem dX9_find_14 : decode cX9_find 14 = .ok (.iload_n 1, 1) := by decide +kernel
theorem dX9_find_15 : decode cX9_find 15 = .ok (.if_icmp .gt 173, 3) := by decide +kernel
theorem dX9_find_18 : decode cX9_find 18 = .ok (.iconst 0, 1) := by decide +kernel
theorem dX9_find_19 : decode cX9_find 19 = .ok (.istore 8, 2) := by decide +kernel
theorem dX9_find_21 : decode cX9_find 21 = .ok (.iload 8, 2) := by decide +kernel
theorem dX9_find_23 : decode cX9_find 23 = .ok (.iload_n 2, 1) := by decide +kernel
theorem dX9_find_24 : decode cX9_find 24 = .ok (.if_icmp .gt 150, 3) := by decide +kernel
theorem dX9_find_27 : decode cX9_find 27 = .ok (.iconst 0, 1) := by decide +kernel
theorem dX9_find_28 : decode cX9_find 28 = .ok (.istore 9, 2) := by decide +kernel
theorem dX9_find_30 : decode cX9_find 30 = .ok (.iload 9, 2) := by decide +kernel
theorem dX9_find_32 : decode cX9_find 32 = .ok (.iload_n 3, 1) := by decide +kernel
theorem dX9_find_33 : decode cX9_find 33 = .ok (.if_icmp .gt 135, 3) := by decide +kernel
theorem dX9_find_36 : decode cX9_find 36 = .ok (.iload 7, 2) := by decide +kernel
theorem dX9_find_38 : decode cX9_find 38 = .ok (.iload 8, 2) := by decide +kernel
theorem dX9_find_40 : decode cX9_find 40 = .ok (.iload 9, 2) := by decide +kernel
theorem dX9_find_42 : decode cX9_find 42 = .ok (.invokestatic 127, 3) := by decide +kernel
theorem dX9_find_45 : decode cX9_find 45 = .ok (.istore 10, 2) := by decide +kernel
theorem dX9_find_47 : decode cX9_find 47 = .ok (.aload_n 0, 1) := by decide +kernel
theorem dX9_find_48 : decode cX9_find 48 = .ok (.getfield 19, 3) := by decide +kernel
theorem dX9_find_51 : decode cX9_find 51 = .ok (.iload 10, 2) := by decide +kernel
theorem dX9_find_53 : decode cX9_find 53 = .ok (.iload 9, 2) := by decide +kernel
theorem dX9_find_55 : decode cX9_find 55 = .ok (.ifCond .ne 8, 3) := by decide +kernel
theorem dX9_find_58 : decode cX9_find 58 = .ok (.lload 5, 2) := by decide +kernel
theorem dX9_find_60 : decode cX9_find 60 = .ok (.goto 4, 3) := by decide +kernel
theorem dX9_find_63 : decode cX9_find 63 = .ok (.lconst 0, 1) := by decide +kernel
theorem dX9_find_64 : decode cX9_find 64 = .ok (.lastore, 1) := by decide +kernel
theorem dX9_find_65 : decode cX9_find 65 = .ok (.aload_n 0, 1) := by decide +kernel
theorem dX9_find_66 : decode cX9_find 66 = .ok (.getfield 23, 3) := by decide +kernel
theorem dX9_find_69 : decode cX9_find 69 = .ok (.iload 10, 2) := by decide +kernel
theorem dX9_find_71 : decode cX9_find 71 = .ok (.lconst 0, 1) := by decide +kernel
theorem dX9_find_72 : decode cX9_find 72 = .ok (.lastore, 1) := by decide +kernel
theorem dX9_find_73 : decode cX9_find 73 = .ok (.iconst 0, 1) := by decide +kernel
theorem dX9_find_74 : decode cX9_find 74 = .ok (.istore 11, 2) := by decide +kernel
theorem dX9_find_76 : decode cX9_find 76 = .ok (.iload 11, 2) := by decide +kernel
theorem dX9_find_78 : decode cX9_find 78 = .ok (.iconst 4, 1) := by decide +kernel
theorem dX9_find_79 : decode cX9_find 79 = .ok (.if_icmp .ge 83, 3) := by decide +kernel
theorem dX9_find_82 : decode cX9_find 82 = .ok (.iload 7, 2) := by decide +kernel
theorem dX9_find_84 : decode cX9_find 84 = .ok (.ifCond .le 78, 3) := by decide +kernel
theorem dX9_find_87 : decode cX9_find 87 = .ok (.iload 9, 2) := by decide +kernel
theorem dX9_find_89 : decode cX9_find 89 = .ok (.ifCond .le 73, 3) := by decide +kernel
theorem dX9_find_92 : decode cX9_find 92 = .ok (.aload_n 0, 1) := by decide +kernel
theorem dX9_find_93 : decode cX9_find 93 = .ok (.iload 7, 2) := by decide +kernel
theorem dX9_find_95 : decode cX9_find 95 = .ok (.iload 8, 2) := by decide +kernel
theorem dX9_find_97 : decode cX9_find 97 = .ok (.iload 9, 2) := by decide +kernel
theorem dX9_find_99 : decode cX9_find 99 = .ok (.iload 11, 2) := by decide +kernel
theorem dX9_find_101 : decode cX9_find 101 = .ok (.lload 5, 2) := by decide +kernel
theorem dX9_find_103 : decode cX9_find 103 = .ok (.ldc2_w 93, 3) := by decide +kernel
theorem dX9_find_106 : decode cX9_find 106 = .ok (.ldiv, 1) := by decide +kernel
theorem dX9_find_107 : decode cX9_find 107 = .ok (.invokevirtual 135, 3) := by decide +kernel
theorem dX9_find_110 : decode cX9_find 110 = .ok (.aload_n 0, 1) := by decide +kernel
theorem dX9_find_111 : decode cX9_find 111 = .ok (.getfield 19, 3) := by decide +kernel
theorem dX9_find_114 : decode cX9_find 114 = .ok (.iload 10, 2) := by decide +kernel
theorem dX9_find_116 : decode cX9_find 116 = .ok (.dup2, 1) := by decide +kernel
theorem dX9_find_117 : decode cX9_find 117 = .ok (.laload, 1) := by decide +kernel
theorem dX9_find_118 : decode cX9_find 118 = .ok (.aload_n 0, 1) := by decide +kernel
theorem dX9_find_119 : decode cX9_find 119 = .ok (.getfield 26, 3) := by decide +kernel
theorem dX9_find_122 : decode cX9_find 122 = .ok (.iload 11, 2) := by decide +kernel
theorem dX9_find_124 : decode cX9_find 124 = .ok (.iaload, 1) := by decide +kernel
theorem dX9_find_125 : decode cX9_find 125 = .ok (.i2l, 1) := by decide +kernel
theorem dX9_find_126 : decode cX9_find 126 = .ok (.aload_n 0, 1) := by decide +kernel
theorem dX9_find_127 : decode cX9_find 127 = .ok (.getfield 120, 3) := by decide +kernel
theorem dX9_find_130 : decode cX9_find 130 = .ok (.lmul, 1) := by decide +kernel
theorem dX9_find_131 : decode cX9_find 131 = .ok (.ladd, 1) := by decide +kernel
theorem dX9_find_132 : decode cX9_find 132 = .ok (.lastore, 1) := by decide +kernel
theorem dX9_find_133 : decode cX9_find 133 = .ok (.aload_n 0, 1) := by decide +kernel
theorem dX9_find_134 : decode cX9_find 134 = .ok (.getfield 23, 3) := by decide +kernel
theorem dX9_find_137 : decode cX9_find 137 = .ok (.iload 10, 2) := by decide +kernel
theorem dX9_find_139 : decode cX9_find 139 = .ok (.dup2, 1) := by decide +kernel
theorem dX9_find_140 : decode cX9_find 140 = .ok (.laload, 1) := by decide +kernel
theorem dX9_find_141 : decode cX9_find 141 = .ok (.aload_n 0, 1) := by decide +kernel
theorem dX9_find_142 : decode cX9_find 142 = .ok (.getfield 26, 3) := by decide +kernel
theorem dX9_find_145 : decode cX9_find 145 = .ok (.iload 11, 2) := by decide +kernel
theorem dX9_find_147 : decode cX9_find 147 = .ok (.iaload, 1) := by decide +kernel
theorem dX9_find_148 : decode cX9_find 148 = .ok (.i2l, 1) := by decide +kernel
theorem dX9_find_149 : decode cX9_find 149 = .ok (.aload_n 0, 1) := by decide +kernel
theorem dX9_find_150 : decode cX9_find 150 = .ok (.getfield 124, 3) := by decide +kernel
theorem dX9_find_153 : decode cX9_find 153 = .ok (.lmul, 1) := by decide +kernel
theorem dX9_find_154 : decode cX9_find 154 = .ok (.ladd, 1) := by decide +kernel
theorem dX9_find_155 : decode cX9_find 155 = .ok (.lastore, 1) := by decide +kernel
theorem dX9_find_156 : decode cX9_find 156 = .ok (.iinc 11 1, 3) := by decide +kernel
theorem dX9_find_159 : decode cX9_find 159 = .ok (.goto (-83), 3) := by decide +kernel
theorem dX9_find_162 : decode cX9_find 162 = .ok (.iinc 9 1, 3) := by decide +kernel
theorem dX9_find_165 : decode cX9_find 165 = .ok (.goto (-135), 3) := by decide +kernel
theorem dX9_find_168 : decode cX9_find 168 = .ok (.iinc 8 1, 3) := by decide +kernel
theorem dX9_find_171 : decode cX9_find 171 = .ok (.goto (-150), 3) := by decide +kernel
theorem dX9_find_174 : decode cX9_find 174 = .ok (.lload 5, 2) := by decide +kernel
theorem dX9_find_176 : decode cX9_find 176 = .ok (.ldc2_w 93, 3) := by decide +kernel
theorem dX9_find_179 : decode cX9_find 179 = .ok (.lmul, 1) := by decide +kernel
theorem dX9_find_180 : decode cX9_find 180 = .ok (.lstore 5, 2) := by decide +kernel
theorem dX9_find_182 : decode cX9_find 182 = .ok (.iinc 7 1, 3) := by decide +kernel
theorem dX9_find_185 : decode cX9_find 185 = .ok (.goto (-173), 3) := by decide +kernel
theorem dX9_find_188 : decode cX9_find 188 = .ok (.return_, 1) := by decide +kernel
set_option maxRecDepth 20000 in
theorem ggX9_areVoyage_X9_in : GoodIn wsX9_areVoyage wsX9_in := goodIn_r _ [6] (by decide +kernel) (by decide +kernel)
set_option maxRecDepth 20000 in
theorem gX9_areVoyage_X9_in : GoodIn wsX9_areVoyage (va_wsS RX9 89 yX9_in wsX9_in) := goodIn_app (goodIn_of _ (by decide +kernel)) ggX9_areVoyage_X9_in
set_option maxRecDepth 20000 in
theorem ggX9_areVoyage_X9_isKnown : GoodIn wsX9_areVoyage wsX9_isKnown := goodIn_r _ [9, 10, 3, 4, 5, 6] (by decide +kernel) (by decide +kernel)
set_option maxRecDepth 20000 in
theorem gX9_areVoyage_X9_isKnown : GoodIn wsX9_areVoyage (va_wsS RX9 95 yX9_isKnown wsX9_isKnown) := goodIn_app (goodIn_of _ (by decide +kernel)) ggX9_areVoyage_X9_isKnown
theorem dX9_areVoyage_0 : decode cX9_areVoyage 0 = .ok (.iload_n 0, 1) := by decide +kernel
theorem dX9_areVoyage_1 : decode cX9_areVoyage 1 = .ok (.i2l, 1) := by decide +kernel
theorem dX9_areVoyage_2 : decode cX9_areVoyage 2 = .ok (.lconst 0, 1) := by decide +kernel
theorem dX9_areVoyage_3 : decode cX9_areVoyage 3 = .ok (.ldc2_w 139, 3) := by decide +kernel
theorem dX9_areVoyage_6 : decode cX9_areVoyage 6 = .ok (.invokestatic 89, 3) := by decide +kernel
theorem dX9_areVoyage_9 : decode cX9_areVoyage 9 = .ok (.ifCond .eq 38, 3) := by decide +kernel
theorem dX9_areVoyage_12 : decode cX9_areVoyage 12 = .ok (.iload_n 1, 1) := by decide +kernel
theorem dX9_areVoyage_13 : decode cX9_areVoyage 13 = .ok (.i2l, 1) := by decide +kernel
theorem dX9_areVoyage_14 : decode cX9_areVoyage 14 = .ok (.lconst 0, 1) := by decide +kernel
theorem dX9_areVoyage_15 : decode cX9_areVoyage 15 = .ok (.ldc2_w 141, 3) := by decide +kernel
theorem dX9_areVoyage_18 : decode cX9_areVoyage 18 = .ok (.invokestatic 89, 3) := by decide +kernel
theorem dX9_areVoyage_21 : decode cX9_areVoyage 21 = .ok (.ifCond .eq 26, 3) := by decide +kernel
theorem dX9_areVoyage_24 : decode cX9_areVoyage 24 = .ok (.iload_n 2, 1) := by decide +kernel
theorem dX9_areVoyage_25 : decode cX9_areVoyage 25 = .ok (.i2l, 1) := by decide +kernel
theorem dX9_areVoyage_26 : decode cX9_areVoyage 26 = .ok (.lconst 0, 1) := by decide +kernel
theorem dX9_areVoyage_27 : decode cX9_areVoyage 27 = .ok (.ldc2_w 141, 3) := by decide +kernel
theorem dX9_areVoyage_30 : decode cX9_areVoyage 30 = .ok (.invokestatic 89, 3) := by decide +kernel
theorem dX9_areVoyage_33 : decode cX9_areVoyage 33 = .ok (.ifCond .eq 14, 3) := by decide +kernel
theorem dX9_areVoyage_36 : decode cX9_areVoyage 36 = .ok (.iload_n 3, 1) := by decide +kernel
theorem dX9_areVoyage_37 : decode cX9_areVoyage 37 = .ok (.invokestatic 95, 3) := by decide +kernel
theorem dX9_areVoyage_40 : decode cX9_areVoyage 40 = .ok (.ifCond .eq 7, 3) := by decide +kernel
theorem dX9_areVoyage_43 : decode cX9_areVoyage 43 = .ok (.iconst 1, 1) := by decide +kernel
theorem dX9_areVoyage_44 : decode cX9_areVoyage 44 = .ok (.goto 4, 3) := by decide +kernel
theorem dX9_areVoyage_47 : decode cX9_areVoyage 47 = .ok (.iconst 0, 1) := by decide +kernel
theorem dX9_areVoyage_48 : decode cX9_areVoyage 48 = .ok (.ireturn, 1) := by decide +kernel
set_option maxRecDepth 20000 in
theorem ggX9_luck_X9_areVoyage : GoodIn wsX9_luck wsX9_areVoyage := goodIn_r _ [8, 9, 10, 11, 12, 7, 13, 14, 15, 16, 17] (by decide +kernel) (by decide +kernel)
set_option maxRecDepth 20000 in
theorem gX9_luck_X9_areVoyage : GoodIn wsX9_luck (va_wsS RX9 143 yX9_areVoyage wsX9_areVoyage) := goodIn_app (goodIn_of _ (by decide +kernel)) ggX9_luck_X9_areVoyage
set_option maxRecDepth 20000 in
theorem ggX9_luck_X9_in : GoodIn wsX9_luck wsX9_in := goodIn_r _ [13] (by decide +kernel) (by decide +kernel)
set_option maxRecDepth 20000 in
theorem gX9_luck_X9_in : GoodIn wsX9_luck (va_wsS RX9 89 yX9_in wsX9_in) := goodIn_app (goodIn_of _ (by decide +kernel)) ggX9_luck_X9_in
set_option maxRecDepth 20000 in
theorem ggX9_luck_X9_find : GoodIn wsX9_luck wsX9_find := goodIn_r _ [21, 3, 4, 22, 23, 24, 25, 26, 27, 28, 7, 29, 30, 31, 32, 33, 34, 35, 36, 37, 38, 39, 40, 41, 42, 43, 44, 45, 46, 47, 48, 49, 50, 51, 52, 53, 54, 55, 56, 57, 58, 59, 60, 61, 62, 63, 64, 65, 66, 67, 68, 69, 70, 71, 72, 73, 74, 75, 76, 77, 78, 79, 80, 81, 82, 83, 84, 85, 86, 87] (by decide +kernel) (by decide +kernel)
set_option maxRecDepth 20000 in
theorem gX9_luck_X9_find : GoodIn wsX9_luck (wsV RX9 149 RX9 yX9_find wsX9_find) := goodIn_app (goodIn_of _ (by decide +kernel)) ggX9_luck_X9_find
set_option maxRecDepth 20000 in
theorem ggX9_luck_X9_at : GoodIn wsX9_luck wsX9_at := goodIn_r _ [35] (by decide +kernel) (by decide +kernel)
set_option maxRecDepth 20000 in
theorem gX9_luck_X9_at : GoodIn wsX9_luck (va_wsS RX9 127 yX9_at wsX9_at) := goodIn_app (goodIn_of _ (by decide +kernel)) ggX9_luck_X9_at
theorem dX9_luck_0 : decode cX9_luck 0 = .ok (.aload_n 0, 1) := by decide +kernel
theorem dX9_luck_1 : decode cX9_luck 1 = .ok (.iconst 0, 1) := by decide +kernel
theorem dX9_luck_2 : decode cX9_luck 2 = .ok (.putfield 81, 3) := by decide +kernel
theorem dX9_luck_5 : decode cX9_luck 5 = .ok (.iload_n 1, 1) := by decide +kernel
theorem dX9_luck_6 : decode cX9_luck 6 = .ok (.iload_n 2, 1) := by decide +kernel
theorem dX9_luck_7 : decode cX9_luck 7 = .ok (.iload_n 3, 1) := by decide +kernel
theorem dX9_luck_8 : decode cX9_luck 8 = .ok (.iload 4, 2) := by decide +kernel
theorem dX9_luck_10 : decode cX9_luck 10 = .ok (.invokestatic 143, 3) := by decide +kernel
theorem dX9_luck_13 : decode cX9_luck 13 = .ok (.ifCond .eq 14, 3) := by decide +kernel
theorem dX9_luck_16 : decode cX9_luck 16 = .ok (.iload 5, 2) := by decide +kernel
theorem dX9_luck_18 : decode cX9_luck 18 = .ok (.i2l, 1) := by decide +kernel
theorem dX9_luck_19 : decode cX9_luck 19 = .ok (.lconst 0, 1) := by decide +kernel
theorem dX9_luck_20 : decode cX9_luck 20 = .ok (.lconst 1, 1) := by decide +kernel
theorem dX9_luck_21 : decode cX9_luck 21 = .ok (.invokestatic 89, 3) := by decide +kernel
theorem dX9_luck_24 : decode cX9_luck 24 = .ok (.ifCond .ne 7, 3) := by decide +kernel
theorem dX9_luck_27 : decode cX9_luck 27 = .ok (.ldc2_w 147, 3) := by decide +kernel
theorem dX9_luck_30 : decode cX9_luck 30 = .ok (.lreturn, 1) := by decide +kernel
theorem dX9_luck_31 : decode cX9_luck 31 = .ok (.aload_n 0, 1) := by decide +kernel
theorem dX9_luck_32 : decode cX9_luck 32 = .ok (.iload_n 2, 1) := by decide +kernel
theorem dX9_luck_33 : decode cX9_luck 33 = .ok (.iload_n 3, 1) := by decide +kernel
theorem dX9_luck_34 : decode cX9_luck 34 = .ok (.iload_n 1, 1) := by decide +kernel
theorem dX9_luck_35 : decode cX9_luck 35 = .ok (.iload 4, 2) := by decide +kernel
theorem dX9_luck_37 : decode cX9_luck 37 = .ok (.invokevirtual 149, 3) := by decide +kernel
theorem dX9_luck_40 : decode cX9_luck 40 = .ok (.iload 5, 2) := by decide +kernel
theorem dX9_luck_42 : decode cX9_luck 42 = .ok (.ifCond .ne 17, 3) := by decide +kernel
theorem dX9_luck_45 : decode cX9_luck 45 = .ok (.aload_n 0, 1) := by decide +kernel
theorem dX9_luck_46 : decode cX9_luck 46 = .ok (.getfield 19, 3) := by decide +kernel
theorem dX9_luck_49 : decode cX9_luck 49 = .ok (.iload_n 2, 1) := by decide +kernel
theorem dX9_luck_50 : decode cX9_luck 50 = .ok (.iload_n 3, 1) := by decide +kernel
theorem dX9_luck_51 : decode cX9_luck 51 = .ok (.iload_n 1, 1) := by decide +kernel
theorem dX9_luck_52 : decode cX9_luck 52 = .ok (.invokestatic 127, 3) := by decide +kernel
theorem dX9_luck_55 : decode cX9_luck 55 = .ok (.laload, 1) := by decide +kernel
theorem dX9_luck_56 : decode cX9_luck 56 = .ok (.goto 14, 3) := by decide +kernel
theorem dX9_luck_59 : decode cX9_luck 59 = .ok (.aload_n 0, 1) := by decide +kernel
theorem dX9_luck_60 : decode cX9_luck 60 = .ok (.getfield 23, 3) := by decide +kernel
theorem dX9_luck_63 : decode cX9_luck 63 = .ok (.iload_n 2, 1) := by decide +kernel
theorem dX9_luck_64 : decode cX9_luck 64 = .ok (.iload_n 3, 1) := by decide +kernel
theorem dX9_luck_65 : decode cX9_luck 65 = .ok (.iload_n 1, 1) := by decide +kernel
theorem dX9_luck_66 : decode cX9_luck 66 = .ok (.invokestatic 127, 3) := by decide +kernel
theorem dX9_luck_69 : decode cX9_luck 69 = .ok (.laload, 1) := by decide +kernel
theorem dX9_luck_70 : decode cX9_luck 70 = .ok (.lreturn, 1) := by decide +kernel
set_option maxRecDepth 20000 in
theorem ggX9_choice_X9_areVoyage : GoodIn wsX9_choice wsX9_areVoyage := goodIn_r _ [8, 9, 10, 11, 12, 7, 13, 14, 15, 16, 17] (by decide +kernel) (by decide +kernel)
set_option maxRecDepth 20000 in
theorem gX9_choice_X9_areVoyage : GoodIn wsX9_choice (va_wsS RX9 143 yX9_areVoyage wsX9_areVoyage) := goodIn_app (goodIn_of _ (by decide +kernel)) ggX9_choice_X9_areVoyage
set_option maxRecDepth 20000 in
theorem ggX9_choice_X9_in : GoodIn wsX9_choice wsX9_in := goodIn_r _ [13] (by decide +kernel) (by decide +kernel)
set_option maxRecDepth 20000 in
theorem gX9_choice_X9_in : GoodIn wsX9_choice (va_wsS RX9 89 yX9_in wsX9_in) := goodIn_app (goodIn_of _ (by decide +kernel)) ggX9_choice_X9_in
set_option maxRecDepth 20000 in
theorem ggX9_choice_X9_find : GoodIn wsX9_choice wsX9_find := goodIn_r _ [21, 22, 23, 3, 24, 25, 26, 27, 28, 29, 7, 30, 31, 32, 33, 34, 35, 36, 37, 38, 39, 40, 4, 41, 42, 43, 44, 45, 46, 47, 48, 49, 50, 51, 52, 53, 54, 55, 56, 57, 58, 59, 60, 61, 62, 63, 64, 65, 66, 67, 68, 69, 70, 71, 72, 73, 74, 75, 76, 77, 78, 79, 80, 81, 82, 83, 84, 85, 86, 87] (by decide +kernel) (by decide +kernel)
set_option maxRecDepth 20000 in
theorem gX9_choice_X9_find : GoodIn wsX9_choice (wsV RX9 149 RX9 yX9_find wsX9_find) := goodIn_app (goodIn_of _ (by decide +kernel)) ggX9_choice_X9_find
set_option maxRecDepth 20000 in
theorem ggX9_choice_X9_choose : GoodIn wsX9_choice wsX9_choose := goodIn_r _ [40, 4, 41, 42, 34, 35, 7, 36, 43, 44, 45, 46, 22, 23, 25, 26, 47, 48, 49, 50, 51, 52, 53, 54, 55, 56, 57, 58, 59, 60, 61, 62, 63, 64, 65, 66, 67, 68, 69, 70, 71, 72, 73, 74, 75, 76, 77, 78, 79, 80, 81, 82, 83, 84, 85, 86, 87] (by decide +kernel) (by decide +kernel)
set_option maxRecDepth 20000 in
theorem gX9_choice_X9_choose : GoodIn wsX9_choice (wsV RX9 135 RX9 yX9_choose wsX9_choose) := goodIn_app (goodIn_of _ (by decide +kernel)) ggX9_choice_X9_choose
theorem dX9_choice_0 : decode cX9_choice 0 = .ok (.aload_n 0, 1) := by decide +kernel
theorem dX9_choice_1 : decode cX9_choice 1 = .ok (.iconst 0, 1) := by decide +kernel
theorem dX9_choice_2 : decode cX9_choice 2 = .ok (.putfield 81, 3) := by decide +kernel
theorem dX9_choice_5 : decode cX9_choice 5 = .ok (.iload_n 1, 1) := by decide +kernel
theorem dX9_choice_6 : decode cX9_choice 6 = .ok (.iload_n 2, 1) := by decide +kernel
theorem dX9_choice_7 : decode cX9_choice 7 = .ok (.iload_n 3, 1) := by decide +kernel
theorem dX9_choice_8 : decode cX9_choice 8 = .ok (.iload 5, 2) := by decide +kernel
theorem dX9_choice_10 : decode cX9_choice 10 = .ok (.invokestatic 143, 3) := by decide +kernel
theorem dX9_choice_13 : decode cX9_choice 13 = .ok (.ifCond .eq 20, 3) := by decide +kernel
theorem dX9_choice_16 : decode cX9_choice 16 = .ok (.iload_n 2, 1) := by decide +kernel
theorem dX9_choice_17 : decode cX9_choice 17 = .ok (.ifCond .eq 16, 3) := by decide +kernel
theorem dX9_choice_20 : decode cX9_choice 20 = .ok (.iload 4, 2) := by decide +kernel
theorem dX9_choice_22 : decode cX9_choice 22 = .ok (.i2l, 1) := by decide +kernel
theorem dX9_choice_23 : decode cX9_choice 23 = .ok (.lconst 0, 1) := by decide +kernel
theorem dX9_choice_24 : decode cX9_choice 24 = .ok (.ldc2_w 106, 3) := by decide +kernel
theorem dX9_choice_27 : decode cX9_choice 27 = .ok (.invokestatic 89, 3) := by decide +kernel
theorem dX9_choice_30 : decode cX9_choice 30 = .ok (.ifCond .ne 5, 3) := by decide +kernel
theorem dX9_choice_33 : decode cX9_choice 33 = .ok (.iconst (-1), 1) := by decide +kernel
theorem dX9_choice_34 : decode cX9_choice 34 = .ok (.ireturn, 1) := by decide +kernel
theorem dX9_choice_35 : decode cX9_choice 35 = .ok (.iload_n 1, 1) := by decide +kernel
theorem dX9_choice_36 : decode cX9_choice 36 = .ok (.ifCond .ne 5, 3) := by decide +kernel
theorem dX9_choice_39 : decode cX9_choice 39 = .ok (.iconst 0, 1) := by decide +kernel
theorem dX9_choice_40 : decode cX9_choice 40 = .ok (.ireturn, 1) := by decide +kernel
theorem dX9_choice_41 : decode cX9_choice 41 = .ok (.aload_n 0, 1) := by decide +kernel
theorem dX9_choice_42 : decode cX9_choice 42 = .ok (.iload_n 2, 1) := by decide +kernel
theorem dX9_choice_43 : decode cX9_choice 43 = .ok (.iload_n 3, 1) := by decide +kernel
theorem dX9_choice_44 : decode cX9_choice 44 = .ok (.iload_n 1, 1) := by decide +kernel
theorem dX9_choice_45 : decode cX9_choice 45 = .ok (.iload 5, 2) := by decide +kernel
theorem dX9_choice_47 : decode cX9_choice 47 = .ok (.invokevirtual 149, 3) := by decide +kernel
theorem dX9_choice_50 : decode cX9_choice 50 = .ok (.lconst 1, 1) := by decide +kernel
theorem dX9_choice_51 : decode cX9_choice 51 = .ok (.lstore 6, 2) := by decide +kernel
theorem dX9_choice_53 : decode cX9_choice 53 = .ok (.iconst 1, 1) := by decide +kernel
theorem dX9_choice_54 : decode cX9_choice 54 = .ok (.istore 8, 2) := by decide +kernel
theorem dX9_choice_56 : decode cX9_choice 56 = .ok (.iload 8, 2) := by decide +kernel
theorem dX9_choice_58 : decode cX9_choice 58 = .ok (.iload_n 2, 1) := by decide +kernel
theorem dX9_choice_59 : decode cX9_choice 59 = .ok (.if_icmp .ge 17, 3) := by decide +kernel
theorem dX9_choice_62 : decode cX9_choice 62 = .ok (.lload 6, 2) := by decide +kernel
theorem dX9_choice_64 : decode cX9_choice 64 = .ok (.ldc2_w 93, 3) := by decide +kernel
theorem dX9_choice_67 : decode cX9_choice 67 = .ok (.lmul, 1) := by decide +kernel
theorem dX9_choice_68 : decode cX9_choice 68 = .ok (.lstore 6, 2) := by decide +kernel
theorem dX9_choice_70 : decode cX9_choice 70 = .ok (.iinc 8 1, 3) := by decide +kernel
theorem dX9_choice_73 : decode cX9_choice 73 = .ok (.goto (-17), 3) := by decide +kernel
theorem dX9_choice_76 : decode cX9_choice 76 = .ok (.aload_n 0, 1) := by decide +kernel
theorem dX9_choice_77 : decode cX9_choice 77 = .ok (.iload_n 2, 1) := by decide +kernel
theorem dX9_choice_78 : decode cX9_choice 78 = .ok (.iload_n 3, 1) := by decide +kernel
theorem dX9_choice_79 : decode cX9_choice 79 = .ok (.iload_n 1, 1) := by decide +kernel
theorem dX9_choice_80 : decode cX9_choice 80 = .ok (.iload 4, 2) := by decide +kernel
theorem dX9_choice_82 : decode cX9_choice 82 = .ok (.lload 6, 2) := by decide +kernel
theorem dX9_choice_84 : decode cX9_choice 84 = .ok (.invokevirtual 135, 3) := by decide +kernel
theorem dX9_choice_87 : decode cX9_choice 87 = .ok (.aload_n 0, 1) := by decide +kernel
theorem dX9_choice_88 : decode cX9_choice 88 = .ok (.getfield 117, 3) := by decide +kernel
theorem dX9_choice_91 : decode cX9_choice 91 = .ok (.ireturn, 1) := by decide +kernel
set_option maxRecDepth 20000 in
theorem ggX9_promise_X9_areVoyage : GoodIn wsX9_promise wsX9_areVoyage := goodIn_r _ [7, 8, 9, 10, 11, 6, 12, 13, 14, 15, 16] (by decide +kernel) (by decide +kernel)
set_option maxRecDepth 20000 in
theorem gX9_promise_X9_areVoyage : GoodIn wsX9_promise (va_wsS RX9 143 yX9_areVoyage wsX9_areVoyage) := goodIn_app (goodIn_of _ (by decide +kernel)) ggX9_promise_X9_areVoyage
set_option maxRecDepth 20000 in
theorem ggX9_promise_X9_in : GoodIn wsX9_promise wsX9_in := goodIn_r _ [12] (by decide +kernel) (by decide +kernel)
set_option maxRecDepth 20000 in
theorem gX9_promise_X9_in : GoodIn wsX9_promise (va_wsS RX9 89 yX9_in wsX9_in) := goodIn_app (goodIn_of _ (by decide +kernel)) ggX9_promise_X9_in
set_option maxRecDepth 20000 in
theorem ggX9_promise_X9_find : GoodIn wsX9_promise wsX9_find := goodIn_r _ [20, 3, 21, 2, 22, 23, 24, 25, 26, 27, 6, 28, 29, 30, 31, 32, 33, 34, 35, 36, 37, 38, 39, 40, 41, 42, 43, 44, 45, 46, 47, 48, 49, 50, 51, 52, 53, 54, 55, 56, 57, 58, 59, 60, 61, 62, 63, 64, 65, 66, 67, 68, 69, 70, 71, 72, 73, 74, 75, 76, 77, 78, 79, 80, 81, 82, 83, 84, 85, 86] (by decide +kernel) (by decide +kernel)
set_option maxRecDepth 20000 in
theorem gX9_promise_X9_find : GoodIn wsX9_promise (wsV RX9 149 RX9 yX9_find wsX9_find) := goodIn_app (goodIn_of _ (by decide +kernel)) ggX9_promise_X9_find
set_option maxRecDepth 20000 in
theorem ggX9_promise_X9_at : GoodIn wsX9_promise wsX9_at := goodIn_r _ [34] (by decide +kernel) (by decide +kernel)
set_option maxRecDepth 20000 in
theorem gX9_promise_X9_at : GoodIn wsX9_promise (va_wsS RX9 127 yX9_at wsX9_at) := goodIn_app (goodIn_of _ (by decide +kernel)) ggX9_promise_X9_at
theorem dX9_promise_0 : decode cX9_promise 0 = .ok (.aload_n 0, 1) := by decide +kernel
theorem dX9_promise_1 : decode cX9_promise 1 = .ok (.iconst 0, 1) := by decide +kernel
theorem dX9_promise_2 : decode cX9_promise 2 = .ok (.putfield 81, 3) := by decide +kernel
theorem dX9_promise_5 : decode cX9_promise 5 = .ok (.iload_n 1, 1) := by decide +kernel
theorem dX9_promise_6 : decode cX9_promise 6 = .ok (.iconst 0, 1) := by decide +kernel
theorem dX9_promise_7 : decode cX9_promise 7 = .ok (.iload_n 2, 1) := by decide +kernel
theorem dX9_promise_8 : decode cX9_promise 8 = .ok (.iload_n 3, 1) := by decide +kernel
theorem dX9_promise_9 : decode cX9_promise 9 = .ok (.invokestatic 143, 3) := by decide +kernel
theorem dX9_promise_12 : decode cX9_promise 12 = .ok (.ifCond .eq 16, 3) := by decide +kernel
theorem dX9_promise_15 : decode cX9_promise 15 = .ok (.iload 4, 2) := by decide +kernel
theorem dX9_promise_17 : decode cX9_promise 17 = .ok (.i2l, 1) := by decide +kernel
theorem dX9_promise_18 : decode cX9_promise 18 = .ok (.lconst 1, 1) := by decide +kernel
theorem dX9_promise_19 : decode cX9_promise 19 = .ok (.ldc2_w 93, 3) := by decide +kernel
theorem dX9_promise_22 : decode cX9_promise 22 = .ok (.invokestatic 89, 3) := by decide +kernel
theorem dX9_promise_25 : decode cX9_promise 25 = .ok (.ifCond .ne 5, 3) := by decide +kernel
theorem dX9_promise_28 : decode cX9_promise 28 = .ok (.iconst (-1), 1) := by decide +kernel
theorem dX9_promise_29 : decode cX9_promise 29 = .ok (.ireturn, 1) := by decide +kernel
theorem dX9_promise_30 : decode cX9_promise 30 = .ok (.aload_n 0, 1) := by decide +kernel
theorem dX9_promise_31 : decode cX9_promise 31 = .ok (.bipush 12, 2) := by decide +kernel
theorem dX9_promise_33 : decode cX9_promise 33 = .ok (.iload_n 2, 1) := by decide +kernel
theorem dX9_promise_34 : decode cX9_promise 34 = .ok (.iload_n 1, 1) := by decide +kernel
theorem dX9_promise_35 : decode cX9_promise 35 = .ok (.iload_n 3, 1) := by decide +kernel
theorem dX9_promise_36 : decode cX9_promise 36 = .ok (.invokevirtual 149, 3) := by decide +kernel
theorem dX9_promise_39 : decode cX9_promise 39 = .ok (.lconst 1, 1) := by decide +kernel
theorem dX9_promise_40 : decode cX9_promise 40 = .ok (.lstore 5, 2) := by decide +kernel
theorem dX9_promise_42 : decode cX9_promise 42 = .ok (.iconst 0, 1) := by decide +kernel
theorem dX9_promise_43 : decode cX9_promise 43 = .ok (.istore 7, 2) := by decide +kernel
theorem dX9_promise_45 : decode cX9_promise 45 = .ok (.iload 7, 2) := by decide +kernel
theorem dX9_promise_47 : decode cX9_promise 47 = .ok (.bipush 12, 2) := by decide +kernel
theorem dX9_promise_49 : decode cX9_promise 49 = .ok (.if_icmp .gt 46, 3) := by decide +kernel
theorem dX9_promise_52 : decode cX9_promise 52 = .ok (.aload_n 0, 1) := by decide +kernel
theorem dX9_promise_53 : decode cX9_promise 53 = .ok (.getfield 19, 3) := by decide +kernel
theorem dX9_promise_56 : decode cX9_promise 56 = .ok (.iload 7, 2) := by decide +kernel
theorem dX9_promise_58 : decode cX9_promise 58 = .ok (.iload_n 2, 1) := by decide +kernel
theorem dX9_promise_59 : decode cX9_promise 59 = .ok (.iload_n 1, 1) := by decide +kernel
theorem dX9_promise_60 : decode cX9_promise 60 = .ok (.invokestatic 127, 3) := by decide +kernel
theorem dX9_promise_63 : decode cX9_promise 63 = .ok (.laload, 1) := by decide +kernel
theorem dX9_promise_64 : decode cX9_promise 64 = .ok (.ldc2_w 93, 3) := by decide +kernel
theorem dX9_promise_67 : decode cX9_promise 67 = .ok (.lmul, 1) := by decide +kernel
theorem dX9_promise_68 : decode cX9_promise 68 = .ok (.iload 4, 2) := by decide +kernel
theorem dX9_promise_70 : decode cX9_promise 70 = .ok (.i2l, 1) := by decide +kernel
theorem dX9_promise_71 : decode cX9_promise 71 = .ok (.lload 5, 2) := by decide +kernel
theorem dX9_promise_73 : decode cX9_promise 73 = .ok (.lmul, 1) := by decide +kernel
theorem dX9_promise_74 : decode cX9_promise 74 = .ok (.lcmp, 1) := by decide +kernel
theorem dX9_promise_75 : decode cX9_promise 75 = .ok (.ifCond .lt 6, 3) := by decide +kernel
theorem dX9_promise_78 : decode cX9_promise 78 = .ok (.iload 7, 2) := by decide +kernel
theorem dX9_promise_80 : decode cX9_promise 80 = .ok (.ireturn, 1) := by decide +kernel
theorem dX9_promise_81 : decode cX9_promise 81 = .ok (.lload 5, 2) := by decide +kernel
theorem dX9_promise_83 : decode cX9_promise 83 = .ok (.ldc2_w 93, 3) := by decide +kernel
theorem dX9_promise_86 : decode cX9_promise 86 = .ok (.lmul, 1) := by decide +kernel
theorem dX9_promise_87 : decode cX9_promise 87 = .ok (.lstore 5, 2) := by decide +kernel
theorem dX9_promise_89 : decode cX9_promise 89 = .ok (.iinc 7 1, 3) := by decide +kernel
theorem dX9_promise_92 : decode cX9_promise 92 = .ok (.goto (-47), 3) := by decide +kernel
theorem dX9_promise_95 : decode cX9_promise 95 = .ok (.iconst (-1), 1) := by decide +kernel
theorem dX9_promise_96 : decode cX9_promise 96 = .ok (.ireturn, 1) := by decide +kernel
set_option maxRecDepth 20000 in
theorem ggX9_isLoad_X9_in : GoodIn wsX9_isLoad wsX9_in := goodIn_r _ [5] (by decide +kernel) (by decide +kernel)
set_option maxRecDepth 20000 in
theorem gX9_isLoad_X9_in : GoodIn wsX9_isLoad (va_wsS RX9 89 yX9_in wsX9_in) := goodIn_app (goodIn_of _ (by decide +kernel)) ggX9_isLoad_X9_in
theorem dX9_isLoad_0 : decode cX9_isLoad 0 = .ok (.iload_n 1, 1) := by decide +kernel
theorem dX9_isLoad_1 : decode cX9_isLoad 1 = .ok (.i2l, 1) := by decide +kernel
theorem dX9_isLoad_2 : decode cX9_isLoad 2 = .ok (.lconst 0, 1) := by decide +kernel
theorem dX9_isLoad_3 : decode cX9_isLoad 3 = .ok (.aload_n 0, 1) := by decide +kernel
theorem dX9_isLoad_4 : decode cX9_isLoad 4 = .ok (.getfield 153, 3) := by decide +kernel
theorem dX9_isLoad_7 : decode cX9_isLoad 7 = .ok (.i2l, 1) := by decide +kernel
theorem dX9_isLoad_8 : decode cX9_isLoad 8 = .ok (.lconst 1, 1) := by decide +kernel
theorem dX9_isLoad_9 : decode cX9_isLoad 9 = .ok (.lsub, 1) := by decide +kernel
theorem dX9_isLoad_10 : decode cX9_isLoad 10 = .ok (.invokestatic 89, 3) := by decide +kernel
theorem dX9_isLoad_13 : decode cX9_isLoad 13 = .ok (.ireturn, 1) := by decide +kernel
set_option maxRecDepth 20000 in
theorem ggX9_load_X9_in : GoodIn wsX9_load wsX9_in := goodIn_r _ [10] (by decide +kernel) (by decide +kernel)
set_option maxRecDepth 20000 in
theorem gX9_load_X9_in : GoodIn wsX9_load (va_wsS RX9 89 yX9_in wsX9_in) := goodIn_app (goodIn_of _ (by decide +kernel)) ggX9_load_X9_in
set_option maxRecDepth 20000 in
theorem ggX9_load_X9_told : GoodIn wsX9_load wsX9_told := goodIn_r _ [14, 15, 16, 17, 18, 19, 20, 21, 22, 23, 24, 25, 26, 27, 28, 29, 30, 31, 32, 33, 34, 35, 36, 37, 38, 39, 40, 41, 42, 43, 44, 45, 46, 47, 48, 49, 50, 51, 52, 53, 54, 55, 56] (by decide +kernel) (by decide +kernel)
set_option maxRecDepth 20000 in
theorem gX9_load_X9_told : GoodIn wsX9_load (wsV RX9 99 RX9 yX9_told wsX9_told) := goodIn_app (goodIn_of _ (by decide +kernel)) ggX9_load_X9_told
theorem dX9_load_0 : decode cX9_load 0 = .ok (.aload_n 0, 1) := by decide +kernel
theorem dX9_load_1 : decode cX9_load 1 = .ok (.iconst 0, 1) := by decide +kernel
theorem dX9_load_2 : decode cX9_load 2 = .ok (.putfield 81, 3) := by decide +kernel
theorem dX9_load_5 : decode cX9_load 5 = .ok (.iload_n 1, 1) := by decide +kernel
theorem dX9_load_6 : decode cX9_load 6 = .ok (.i2l, 1) := by decide +kernel
theorem dX9_load_7 : decode cX9_load 7 = .ok (.lconst 1, 1) := by decide +kernel
theorem dX9_load_8 : decode cX9_load 8 = .ok (.ldc2_w 156, 3) := by decide +kernel
theorem dX9_load_11 : decode cX9_load 11 = .ok (.invokestatic 89, 3) := by decide +kernel
theorem dX9_load_14 : decode cX9_load 14 = .ok (.ifCond .eq 15, 3) := by decide +kernel
theorem dX9_load_17 : decode cX9_load 17 = .ok (.iload_n 2, 1) := by decide +kernel
theorem dX9_load_18 : decode cX9_load 18 = .ok (.i2l, 1) := by decide +kernel
theorem dX9_load_19 : decode cX9_load 19 = .ok (.lconst 0, 1) := by decide +kernel
theorem dX9_load_20 : decode cX9_load 20 = .ok (.ldc2_w 158, 3) := by decide +kernel
theorem dX9_load_23 : decode cX9_load 23 = .ok (.invokestatic 89, 3) := by decide +kernel
theorem dX9_load_26 : decode cX9_load 26 = .ok (.ifCond .ne 9, 3) := by decide +kernel
theorem dX9_load_29 : decode cX9_load 29 = .ok (.aload_n 0, 1) := by decide +kernel
theorem dX9_load_30 : decode cX9_load 30 = .ok (.iconst (-1), 1) := by decide +kernel
theorem dX9_load_31 : decode cX9_load 31 = .ok (.invokevirtual 99, 3) := by decide +kernel
theorem dX9_load_34 : decode cX9_load 34 = .ok (.ireturn, 1) := by decide +kernel
theorem dX9_load_35 : decode cX9_load 35 = .ok (.aload_n 0, 1) := by decide +kernel
theorem dX9_load_36 : decode cX9_load 36 = .ok (.getfield 153, 3) := by decide +kernel
theorem dX9_load_39 : decode cX9_load 39 = .ok (.bipush 12, 2) := by decide +kernel
theorem dX9_load_41 : decode cX9_load 41 = .ok (.if_icmp .ne 10, 3) := by decide +kernel
theorem dX9_load_44 : decode cX9_load 44 = .ok (.aload_n 0, 1) := by decide +kernel
theorem dX9_load_45 : decode cX9_load 45 = .ok (.bipush (-5), 2) := by decide +kernel
theorem dX9_load_47 : decode cX9_load 47 = .ok (.invokevirtual 99, 3) := by decide +kernel
theorem dX9_load_50 : decode cX9_load 50 = .ok (.ireturn, 1) := by decide +kernel
theorem dX9_load_51 : decode cX9_load 51 = .ok (.aload_n 0, 1) := by decide +kernel
theorem dX9_load_52 : decode cX9_load 52 = .ok (.getfield 29, 3) := by decide +kernel
theorem dX9_load_55 : decode cX9_load 55 = .ok (.aload_n 0, 1) := by decide +kernel
theorem dX9_load_56 : decode cX9_load 56 = .ok (.getfield 153, 3) := by decide +kernel
theorem dX9_load_59 : decode cX9_load 59 = .ok (.iload_n 1, 1) := by decide +kernel
theorem dX9_load_60 : decode cX9_load 60 = .ok (.iastore, 1) := by decide +kernel
theorem dX9_load_61 : decode cX9_load 61 = .ok (.aload_n 0, 1) := by decide +kernel
theorem dX9_load_62 : decode cX9_load 62 = .ok (.getfield 32, 3) := by decide +kernel
theorem dX9_load_65 : decode cX9_load 65 = .ok (.aload_n 0, 1) := by decide +kernel
theorem dX9_load_66 : decode cX9_load 66 = .ok (.getfield 153, 3) := by decide +kernel
theorem dX9_load_69 : decode cX9_load 69 = .ok (.iload_n 2, 1) := by decide +kernel
theorem dX9_load_70 : decode cX9_load 70 = .ok (.iastore, 1) := by decide +kernel
theorem dX9_load_71 : decode cX9_load 71 = .ok (.aload_n 0, 1) := by decide +kernel
theorem dX9_load_72 : decode cX9_load 72 = .ok (.dup, 1) := by decide +kernel
theorem dX9_load_73 : decode cX9_load 73 = .ok (.getfield 153, 3) := by decide +kernel
theorem dX9_load_76 : decode cX9_load 76 = .ok (.iconst 1, 1) := by decide +kernel
theorem dX9_load_77 : decode cX9_load 77 = .ok (.iadd, 1) := by decide +kernel
theorem dX9_load_78 : decode cX9_load 78 = .ok (.putfield 153, 3) := by decide +kernel
theorem dX9_load_81 : decode cX9_load 81 = .ok (.aload_n 0, 1) := by decide +kernel
theorem dX9_load_82 : decode cX9_load 82 = .ok (.aload_n 0, 1) := by decide +kernel
theorem dX9_load_83 : decode cX9_load 83 = .ok (.getfield 153, 3) := by decide +kernel
theorem dX9_load_86 : decode cX9_load 86 = .ok (.iconst 1, 1) := by decide +kernel
theorem dX9_load_87 : decode cX9_load 87 = .ok (.isub, 1) := by decide +kernel
theorem dX9_load_88 : decode cX9_load 88 = .ok (.invokevirtual 99, 3) := by decide +kernel
theorem dX9_load_91 : decode cX9_load 91 = .ok (.ireturn, 1) := by decide +kernel
set_option maxRecDepth 20000 in
theorem ggX9_apart_X9_isLoad : GoodIn wsX9_apart wsX9_isLoad := goodIn_r _ [7, 8, 9, 10, 6, 11, 17, 18, 19, 20, 21, 22, 23, 24, 25, 26, 27, 28, 29, 30, 31, 32, 33, 34, 35, 36, 37, 38, 39, 40, 41, 42, 43, 44, 45, 46, 47, 48, 49, 50, 51, 52, 53, 54, 55, 56, 57] (by decide +kernel) (by decide +kernel)
set_option maxRecDepth 20000 in
theorem gX9_apart_X9_isLoad : GoodIn wsX9_apart (wsV RX9 160 RX9 yX9_isLoad wsX9_isLoad) := goodIn_app (goodIn_of _ (by decide +kernel)) ggX9_apart_X9_isLoad
set_option maxRecDepth 20000 in
theorem ggX9_apart_X9_told : GoodIn wsX9_apart wsX9_told := goodIn_r _ [15, 16, 17, 18, 19, 20, 21, 22, 23, 24, 25, 26, 27, 28, 29, 30, 31, 32, 33, 34, 35, 36, 37, 38, 39, 40, 41, 42, 43, 44, 45, 46, 47, 48, 49, 50, 51, 52, 53, 54, 55, 56, 57] (by decide +kernel) (by decide +kernel)
set_option maxRecDepth 20000 in
theorem gX9_apart_X9_told : GoodIn wsX9_apart (wsV RX9 99 RX9 yX9_told wsX9_told) := goodIn_app (goodIn_of _ (by decide +kernel)) ggX9_apart_X9_told
theorem dX9_apart_0 : decode cX9_apart 0 = .ok (.aload_n 0, 1) := by decide +kernel
theorem dX9_apart_1 : decode cX9_apart 1 = .ok (.iconst 0, 1) := by decide +kernel
theorem dX9_apart_2 : decode cX9_apart 2 = .ok (.putfield 81, 3) := by decide +kernel
theorem dX9_apart_5 : decode cX9_apart 5 = .ok (.aload_n 0, 1) := by decide +kernel
theorem dX9_apart_6 : decode cX9_apart 6 = .ok (.iload_n 1, 1) := by decide +kernel
theorem dX9_apart_7 : decode cX9_apart 7 = .ok (.invokevirtual 160, 3) := by decide +kernel
theorem dX9_apart_10 : decode cX9_apart 10 = .ok (.ifCond .eq 11, 3) := by decide +kernel
theorem dX9_apart_13 : decode cX9_apart 13 = .ok (.aload_n 0, 1) := by decide +kernel
theorem dX9_apart_14 : decode cX9_apart 14 = .ok (.iload_n 2, 1) := by decide +kernel
theorem dX9_apart_15 : decode cX9_apart 15 = .ok (.invokevirtual 160, 3) := by decide +kernel
theorem dX9_apart_18 : decode cX9_apart 18 = .ok (.ifCond .ne 10, 3) := by decide +kernel
theorem dX9_apart_21 : decode cX9_apart 21 = .ok (.aload_n 0, 1) := by decide +kernel
theorem dX9_apart_22 : decode cX9_apart 22 = .ok (.bipush (-2), 2) := by decide +kernel
theorem dX9_apart_24 : decode cX9_apart 24 = .ok (.invokevirtual 99, 3) := by decide +kernel
theorem dX9_apart_27 : decode cX9_apart 27 = .ok (.ireturn, 1) := by decide +kernel
theorem dX9_apart_28 : decode cX9_apart 28 = .ok (.iload_n 1, 1) := by decide +kernel
theorem dX9_apart_29 : decode cX9_apart 29 = .ok (.iload_n 2, 1) := by decide +kernel
theorem dX9_apart_30 : decode cX9_apart 30 = .ok (.if_icmp .ne 10, 3) := by decide +kernel
theorem dX9_apart_33 : decode cX9_apart 33 = .ok (.aload_n 0, 1) := by decide +kernel
theorem dX9_apart_34 : decode cX9_apart 34 = .ok (.bipush (-3), 2) := by decide +kernel
theorem dX9_apart_36 : decode cX9_apart 36 = .ok (.invokevirtual 99, 3) := by decide +kernel
theorem dX9_apart_39 : decode cX9_apart 39 = .ok (.ireturn, 1) := by decide +kernel
theorem dX9_apart_40 : decode cX9_apart 40 = .ok (.aload_n 0, 1) := by decide +kernel
theorem dX9_apart_41 : decode cX9_apart 41 = .ok (.getfield 35, 3) := by decide +kernel
theorem dX9_apart_44 : decode cX9_apart 44 = .ok (.iload_n 1, 1) := by decide +kernel
theorem dX9_apart_45 : decode cX9_apart 45 = .ok (.iload_n 3, 1) := by decide +kernel
theorem dX9_apart_46 : decode cX9_apart 46 = .ok (.ifCond .eq 16, 3) := by decide +kernel
theorem dX9_apart_49 : decode cX9_apart 49 = .ok (.aload_n 0, 1) := by decide +kernel
theorem dX9_apart_50 : decode cX9_apart 50 = .ok (.getfield 35, 3) := by decide +kernel
theorem dX9_apart_53 : decode cX9_apart 53 = .ok (.iload_n 1, 1) := by decide +kernel
theorem dX9_apart_54 : decode cX9_apart 54 = .ok (.iaload, 1) := by decide +kernel
theorem dX9_apart_55 : decode cX9_apart 55 = .ok (.iconst 1, 1) := by decide +kernel
theorem dX9_apart_56 : decode cX9_apart 56 = .ok (.iload_n 2, 1) := by decide +kernel
theorem dX9_apart_57 : decode cX9_apart 57 = .ok (.ishl, 1) := by decide +kernel
theorem dX9_apart_58 : decode cX9_apart 58 = .ok (.ior, 1) := by decide +kernel
theorem dX9_apart_59 : decode cX9_apart 59 = .ok (.goto 15, 3) := by decide +kernel
theorem dX9_apart_62 : decode cX9_apart 62 = .ok (.aload_n 0, 1) := by decide +kernel
theorem dX9_apart_63 : decode cX9_apart 63 = .ok (.getfield 35, 3) := by decide +kernel
theorem dX9_apart_66 : decode cX9_apart 66 = .ok (.iload_n 1, 1) := by decide +kernel
theorem dX9_apart_67 : decode cX9_apart 67 = .ok (.iaload, 1) := by decide +kernel
theorem dX9_apart_68 : decode cX9_apart 68 = .ok (.iconst 1, 1) := by decide +kernel
theorem dX9_apart_69 : decode cX9_apart 69 = .ok (.iload_n 2, 1) := by decide +kernel
theorem dX9_apart_70 : decode cX9_apart 70 = .ok (.ishl, 1) := by decide +kernel
theorem dX9_apart_71 : decode cX9_apart 71 = .ok (.iconst (-1), 1) := by decide +kernel
theorem dX9_apart_72 : decode cX9_apart 72 = .ok (.ixor, 1) := by decide +kernel
theorem dX9_apart_73 : decode cX9_apart 73 = .ok (.iand, 1) := by decide +kernel
theorem dX9_apart_74 : decode cX9_apart 74 = .ok (.iastore, 1) := by decide +kernel
theorem dX9_apart_75 : decode cX9_apart 75 = .ok (.aload_n 0, 1) := by decide +kernel
theorem dX9_apart_76 : decode cX9_apart 76 = .ok (.getfield 35, 3) := by decide +kernel
theorem dX9_apart_79 : decode cX9_apart 79 = .ok (.iload_n 2, 1) := by decide +kernel
theorem dX9_apart_80 : decode cX9_apart 80 = .ok (.iload_n 3, 1) := by decide +kernel
theorem dX9_apart_81 : decode cX9_apart 81 = .ok (.ifCond .eq 16, 3) := by decide +kernel
theorem dX9_apart_84 : decode cX9_apart 84 = .ok (.aload_n 0, 1) := by decide +kernel
theorem dX9_apart_85 : decode cX9_apart 85 = .ok (.getfield 35, 3) := by decide +kernel
theorem dX9_apart_88 : decode cX9_apart 88 = .ok (.iload_n 2, 1) := by decide +kernel
theorem dX9_apart_89 : decode cX9_apart 89 = .ok (.iaload, 1) := by decide +kernel
theorem dX9_apart_90 : decode cX9_apart 90 = .ok (.iconst 1, 1) := by decide +kernel
theorem dX9_apart_91 : decode cX9_apart 91 = .ok (.iload_n 1, 1) := by decide +kernel
theorem dX9_apart_92 : decode cX9_apart 92 = .ok (.ishl, 1) := by decide +kernel
theorem dX9_apart_93 : decode cX9_apart 93 = .ok (.ior, 1) := by decide +kernel
theorem dX9_apart_94 : decode cX9_apart 94 = .ok (.goto 15, 3) := by decide +kernel
theorem dX9_apart_97 : decode cX9_apart 97 = .ok (.aload_n 0, 1) := by decide +kernel
theorem dX9_apart_98 : decode cX9_apart 98 = .ok (.getfield 35, 3) := by decide +kernel
theorem dX9_apart_101 : decode cX9_apart 101 = .ok (.iload_n 2, 1) := by decide +kernel
theorem dX9_apart_102 : decode cX9_apart 102 = .ok (.iaload, 1) := by decide +kernel
theorem dX9_apart_103 : decode cX9_apart 103 = .ok (.iconst 1, 1) := by decide +kernel
theorem dX9_apart_104 : decode cX9_apart 104 = .ok (.iload_n 1, 1) := by decide +kernel
theorem dX9_apart_105 : decode cX9_apart 105 = .ok (.ishl, 1) := by decide +kernel
theorem dX9_apart_106 : decode cX9_apart 106 = .ok (.iconst (-1), 1) := by decide +kernel
theorem dX9_apart_107 : decode cX9_apart 107 = .ok (.ixor, 1) := by decide +kernel
theorem dX9_apart_108 : decode cX9_apart 108 = .ok (.iand, 1) := by decide +kernel
theorem dX9_apart_109 : decode cX9_apart 109 = .ok (.iastore, 1) := by decide +kernel
theorem dX9_apart_110 : decode cX9_apart 110 = .ok (.aload_n 0, 1) := by decide +kernel
theorem dX9_apart_111 : decode cX9_apart 111 = .ok (.iconst 0, 1) := by decide +kernel
theorem dX9_apart_112 : decode cX9_apart 112 = .ok (.invokevirtual 99, 3) := by decide +kernel
theorem dX9_apart_115 : decode cX9_apart 115 = .ok (.ireturn, 1) := by decide +kernel
set_option maxRecDepth 20000 in
theorem ggX9_stow_X9_in : GoodIn wsX9_stow wsX9_in := goodIn_r _ [11] (by decide +kernel) (by decide +kernel)
set_option maxRecDepth 20000 in
theorem gX9_stow_X9_in : GoodIn wsX9_stow (va_wsS RX9 89 yX9_in wsX9_in) := goodIn_app (goodIn_of _ (by decide +kernel)) ggX9_stow_X9_in
theorem dX9_stow_0 : decode cX9_stow 0 = .ok (.aload_n 0, 1) := by decide +kernel
theorem dX9_stow_1 : decode cX9_stow 1 = .ok (.iconst 0, 1) := by decide +kernel
theorem dX9_stow_2 : decode cX9_stow 2 = .ok (.putfield 81, 3) := by decide +kernel
theorem dX9_stow_5 : decode cX9_stow 5 = .ok (.iload_n 1, 1) := by decide +kernel
theorem dX9_stow_6 : decode cX9_stow 6 = .ok (.i2l, 1) := by decide +kernel
theorem dX9_stow_7 : decode cX9_stow 7 = .ok (.lconst 0, 1) := by decide +kernel
theorem dX9_stow_8 : decode cX9_stow 8 = .ok (.ldc2_w 87, 3) := by decide +kernel
theorem dX9_stow_11 : decode cX9_stow 11 = .ok (.invokestatic 89, 3) := by decide +kernel
theorem dX9_stow_14 : decode cX9_stow 14 = .ok (.ifCond .eq 15, 3) := by decide +kernel
theorem dX9_stow_17 : decode cX9_stow 17 = .ok (.iload_n 2, 1) := by decide +kernel
theorem dX9_stow_18 : decode cX9_stow 18 = .ok (.i2l, 1) := by decide +kernel
theorem dX9_stow_19 : decode cX9_stow 19 = .ok (.lconst 0, 1) := by decide +kernel
theorem dX9_stow_20 : decode cX9_stow 20 = .ok (.ldc2_w 163, 3) := by decide +kernel
theorem dX9_stow_23 : decode cX9_stow 23 = .ok (.invokestatic 89, 3) := by decide +kernel
theorem dX9_stow_26 : decode cX9_stow 26 = .ok (.ifCond .ne 5, 3) := by decide +kernel
theorem dX9_stow_29 : decode cX9_stow 29 = .ok (.iconst (-1), 1) := by decide +kernel
theorem dX9_stow_30 : decode cX9_stow 30 = .ok (.ireturn, 1) := by decide +kernel
theorem dX9_stow_31 : decode cX9_stow 31 = .ok (.iconst 0, 1) := by decide +kernel
theorem dX9_stow_32 : decode cX9_stow 32 = .ok (.istore_n 3, 1) := by decide +kernel
theorem dX9_stow_33 : decode cX9_stow 33 = .ok (.iconst 0, 1) := by decide +kernel
theorem dX9_stow_34 : decode cX9_stow 34 = .ok (.istore 4, 2) := by decide +kernel
theorem dX9_stow_36 : decode cX9_stow 36 = .ok (.iconst 0, 1) := by decide +kernel
theorem dX9_stow_37 : decode cX9_stow 37 = .ok (.istore 5, 2) := by decide +kernel
theorem dX9_stow_39 : decode cX9_stow 39 = .ok (.iconst 0, 1) := by decide +kernel
theorem dX9_stow_40 : decode cX9_stow 40 = .ok (.istore 6, 2) := by decide +kernel
theorem dX9_stow_42 : decode cX9_stow 42 = .ok (.iload 6, 2) := by decide +kernel
theorem dX9_stow_44 : decode cX9_stow 44 = .ok (.iconst 1, 1) := by decide +kernel
theorem dX9_stow_45 : decode cX9_stow 45 = .ok (.aload_n 0, 1) := by decide +kernel
theorem dX9_stow_46 : decode cX9_stow 46 = .ok (.getfield 153, 3) := by decide +kernel
theorem dX9_stow_49 : decode cX9_stow 49 = .ok (.ishl, 1) := by decide +kernel
theorem dX9_stow_50 : decode cX9_stow 50 = .ok (.if_icmp .ge 139, 3) := by decide +kernel
theorem dX9_stow_53 : decode cX9_stow 53 = .ok (.iconst 0, 1) := by decide +kernel
theorem dX9_stow_54 : decode cX9_stow 54 = .ok (.istore 7, 2) := by decide +kernel
theorem dX9_stow_56 : decode cX9_stow 56 = .ok (.iconst 0, 1) := by decide +kernel
theorem dX9_stow_57 : decode cX9_stow 57 = .ok (.istore 8, 2) := by decide +kernel
theorem dX9_stow_59 : decode cX9_stow 59 = .ok (.iconst 1, 1) := by decide +kernel
theorem dX9_stow_60 : decode cX9_stow 60 = .ok (.istore 9, 2) := by decide +kernel
theorem dX9_stow_62 : decode cX9_stow 62 = .ok (.iconst 0, 1) := by decide +kernel
theorem dX9_stow_63 : decode cX9_stow 63 = .ok (.istore 10, 2) := by decide +kernel
theorem dX9_stow_65 : decode cX9_stow 65 = .ok (.iload 10, 2) := by decide +kernel
theorem dX9_stow_67 : decode cX9_stow 67 = .ok (.aload_n 0, 1) := by decide +kernel
theorem dX9_stow_68 : decode cX9_stow 68 = .ok (.getfield 153, 3) := by decide +kernel
theorem dX9_stow_71 : decode cX9_stow 71 = .ok (.if_icmp .ge 69, 3) := by decide +kernel
theorem dX9_stow_74 : decode cX9_stow 74 = .ok (.iload 6, 2) := by decide +kernel
theorem dX9_stow_76 : decode cX9_stow 76 = .ok (.iload 10, 2) := by decide +kernel
theorem dX9_stow_78 : decode cX9_stow 78 = .ok (.ishr, 1) := by decide +kernel
theorem dX9_stow_79 : decode cX9_stow 79 = .ok (.iconst 1, 1) := by decide +kernel
theorem dX9_stow_80 : decode cX9_stow 80 = .ok (.iand, 1) := by decide +kernel
theorem dX9_stow_81 : decode cX9_stow 81 = .ok (.iconst 1, 1) := by decide +kernel
theorem dX9_stow_82 : decode cX9_stow 82 = .ok (.if_icmp .ne 52, 3) := by decide +kernel
theorem dX9_stow_85 : decode cX9_stow 85 = .ok (.iload 7, 2) := by decide +kernel
theorem dX9_stow_87 : decode cX9_stow 87 = .ok (.aload_n 0, 1) := by decide +kernel
theorem dX9_stow_88 : decode cX9_stow 88 = .ok (.getfield 29, 3) := by decide +kernel
theorem dX9_stow_91 : decode cX9_stow 91 = .ok (.iload 10, 2) := by decide +kernel
theorem dX9_stow_93 : decode cX9_stow 93 = .ok (.iaload, 1) := by decide +kernel
theorem dX9_stow_94 : decode cX9_stow 94 = .ok (.iadd, 1) := by decide +kernel
theorem dX9_stow_95 : decode cX9_stow 95 = .ok (.istore 7, 2) := by decide +kernel
theorem dX9_stow_97 : decode cX9_stow 97 = .ok (.iload 8, 2) := by decide +kernel
theorem dX9_stow_99 : decode cX9_stow 99 = .ok (.aload_n 0, 1) := by decide +kernel
theorem dX9_stow_100 : decode cX9_stow 100 = .ok (.getfield 32, 3) := by decide +kernel
theorem dX9_stow_103 : decode cX9_stow 103 = .ok (.iload 10, 2) := by decide +kernel
theorem dX9_stow_105 : decode cX9_stow 105 = .ok (.iaload, 1) := by decide +kernel
theorem dX9_stow_106 : decode cX9_stow 106 = .ok (.iadd, 1) := by decide +kernel
theorem dX9_stow_107 : decode cX9_stow 107 = .ok (.istore 8, 2) := by decide +kernel
theorem dX9_stow_109 : decode cX9_stow 109 = .ok (.iload 9, 2) := by decide +kernel
theorem dX9_stow_111 : decode cX9_stow 111 = .ok (.ifCond .eq 20, 3) := by decide +kernel
theorem dX9_stow_114 : decode cX9_stow 114 = .ok (.aload_n 0, 1) := by decide +kernel
theorem dX9_stow_115 : decode cX9_stow 115 = .ok (.getfield 35, 3) := by decide +kernel
theorem dX9_stow_118 : decode cX9_stow 118 = .ok (.iload 10, 2) := by decide +kernel
theorem dX9_stow_120 : decode cX9_stow 120 = .ok (.iaload, 1) := by decide +kernel
theorem dX9_stow_121 : decode cX9_stow 121 = .ok (.iload 6, 2) := by decide +kernel
theorem dX9_stow_123 : decode cX9_stow 123 = .ok (.iand, 1) := by decide +kernel
theorem dX9_stow_124 : decode cX9_stow 124 = .ok (.ifCond .ne 7, 3) := by decide +kernel
theorem dX9_stow_127 : decode cX9_stow 127 = .ok (.iconst 1, 1) := by decide +kernel
theorem dX9_stow_128 : decode cX9_stow 128 = .ok (.goto 4, 3) := by decide +kernel
theorem dX9_stow_131 : decode cX9_stow 131 = .ok (.iconst 0, 1) := by decide +kernel
theorem dX9_stow_132 : decode cX9_stow 132 = .ok (.istore 9, 2) := by decide +kernel
theorem dX9_stow_134 : decode cX9_stow 134 = .ok (.iinc 10 1, 3) := by decide +kernel
theorem dX9_stow_137 : decode cX9_stow 137 = .ok (.goto (-72), 3) := by decide +kernel
theorem dX9_stow_140 : decode cX9_stow 140 = .ok (.iload 9, 2) := by decide +kernel
theorem dX9_stow_142 : decode cX9_stow 142 = .ok (.ifCond .eq 41, 3) := by decide +kernel
theorem dX9_stow_145 : decode cX9_stow 145 = .ok (.iload 7, 2) := by decide +kernel
theorem dX9_stow_147 : decode cX9_stow 147 = .ok (.iload_n 1, 1) := by decide +kernel
theorem dX9_stow_148 : decode cX9_stow 148 = .ok (.if_icmp .gt 35, 3) := by decide +kernel
theorem dX9_stow_151 : decode cX9_stow 151 = .ok (.iload 8, 2) := by decide +kernel
theorem dX9_stow_153 : decode cX9_stow 153 = .ok (.iload 5, 2) := by decide +kernel
theorem dX9_stow_155 : decode cX9_stow 155 = .ok (.if_icmp .gt 17, 3) := by decide +kernel
theorem dX9_stow_158 : decode cX9_stow 158 = .ok (.iload 8, 2) := by decide +kernel
theorem dX9_stow_160 : decode cX9_stow 160 = .ok (.iload 5, 2) := by decide +kernel
theorem dX9_stow_162 : decode cX9_stow 162 = .ok (.if_icmp .ne 21, 3) := by decide +kernel
theorem dX9_stow_165 : decode cX9_stow 165 = .ok (.iload 7, 2) := by decide +kernel
theorem dX9_stow_167 : decode cX9_stow 167 = .ok (.iload 4, 2) := by decide +kernel
theorem dX9_stow_169 : decode cX9_stow 169 = .ok (.if_icmp .ge 14, 3) := by decide +kernel
theorem dX9_stow_172 : decode cX9_stow 172 = .ok (.iload 6, 2) := by decide +kernel
theorem dX9_stow_174 : decode cX9_stow 174 = .ok (.istore_n 3, 1) := by decide +kernel
theorem dX9_stow_175 : decode cX9_stow 175 = .ok (.iload 7, 2) := by decide +kernel
theorem dX9_stow_177 : decode cX9_stow 177 = .ok (.istore 4, 2) := by decide +kernel
theorem dX9_stow_179 : decode cX9_stow 179 = .ok (.iload 8, 2) := by decide +kernel
theorem dX9_stow_181 : decode cX9_stow 181 = .ok (.istore 5, 2) := by decide +kernel
theorem dX9_stow_183 : decode cX9_stow 183 = .ok (.iinc 6 1, 3) := by decide +kernel
theorem dX9_stow_186 : decode cX9_stow 186 = .ok (.goto (-144), 3) := by decide +kernel
theorem dX9_stow_189 : decode cX9_stow 189 = .ok (.iload_n 2, 1) := by decide +kernel
theorem dX9_stow_190 : decode cX9_stow 190 = .ok (.ifCond .ne 7, 3) := by decide +kernel
theorem dX9_stow_193 : decode cX9_stow 193 = .ok (.iload_n 3, 1) := by decide +kernel
theorem dX9_stow_194 : decode cX9_stow 194 = .ok (.goto 15, 3) := by decide +kernel
theorem dX9_stow_197 : decode cX9_stow 197 = .ok (.iload_n 2, 1) := by decide +kernel
theorem dX9_stow_198 : decode cX9_stow 198 = .ok (.iconst 1, 1) := by decide +kernel
theorem dX9_stow_199 : decode cX9_stow 199 = .ok (.if_icmp .ne 8, 3) := by decide +kernel
theorem dX9_stow_202 : decode cX9_stow 202 = .ok (.iload 4, 2) := by decide +kernel
theorem dX9_stow_204 : decode cX9_stow 204 = .ok (.goto 5, 3) := by decide +kernel
theorem dX9_stow_207 : decode cX9_stow 207 = .ok (.iload 5, 2) := by decide +kernel
theorem dX9_stow_209 : decode cX9_stow 209 = .ok (.ireturn, 1) := by decide +kernel
set_option maxRecDepth 20000 in
theorem ggX9_isPort_X9_in : GoodIn wsX9_isPort wsX9_in := goodIn_r _ [5] (by decide +kernel) (by decide +kernel)
set_option maxRecDepth 20000 in
theorem gX9_isPort_X9_in : GoodIn wsX9_isPort (va_wsS RX9 89 yX9_in wsX9_in) := goodIn_app (goodIn_of _ (by decide +kernel)) ggX9_isPort_X9_in
theorem dX9_isPort_0 : decode cX9_isPort 0 = .ok (.iload_n 0, 1) := by decide +kernel
theorem dX9_isPort_1 : decode cX9_isPort 1 = .ok (.i2l, 1) := by decide +kernel
theorem dX9_isPort_2 : decode cX9_isPort 2 = .ok (.lconst 0, 1) := by decide +kernel
theorem dX9_isPort_3 : decode cX9_isPort 3 = .ok (.ldc2_w 165, 3) := by decide +kernel
theorem dX9_isPort_6 : decode cX9_isPort 6 = .ok (.invokestatic 89, 3) := by decide +kernel
theorem dX9_isPort_9 : decode cX9_isPort 9 = .ok (.ireturn, 1) := by decide +kernel
set_option maxRecDepth 20000 in
theorem ggX9_isSlot_X9_in : GoodIn wsX9_isSlot wsX9_in := goodIn_r _ [6] (by decide +kernel) (by decide +kernel)
set_option maxRecDepth 20000 in
theorem gX9_isSlot_X9_in : GoodIn wsX9_isSlot (va_wsS RX9 89 yX9_in wsX9_in) := goodIn_app (goodIn_of _ (by decide +kernel)) ggX9_isSlot_X9_in
theorem dX9_isSlot_0 : decode cX9_isSlot 0 = .ok (.iload_n 1, 1) := by decide +kernel
theorem dX9_isSlot_1 : decode cX9_isSlot 1 = .ok (.i2l, 1) := by decide +kernel
theorem dX9_isSlot_2 : decode cX9_isSlot 2 = .ok (.lconst 0, 1) := by decide +kernel
theorem dX9_isSlot_3 : decode cX9_isSlot 3 = .ok (.aload_n 0, 1) := by decide +kernel
theorem dX9_isSlot_4 : decode cX9_isSlot 4 = .ok (.getfield 167, 3) := by decide +kernel
theorem dX9_isSlot_7 : decode cX9_isSlot 7 = .ok (.i2l, 1) := by decide +kernel
theorem dX9_isSlot_8 : decode cX9_isSlot 8 = .ok (.lconst 1, 1) := by decide +kernel
theorem dX9_isSlot_9 : decode cX9_isSlot 9 = .ok (.lsub, 1) := by decide +kernel
theorem dX9_isSlot_10 : decode cX9_isSlot 10 = .ok (.invokestatic 89, 3) := by decide +kernel
theorem dX9_isSlot_13 : decode cX9_isSlot 13 = .ok (.ifCond .eq 17, 3) := by decide +kernel
theorem dX9_isSlot_16 : decode cX9_isSlot 16 = .ok (.aload_n 0, 1) := by decide +kernel
theorem dX9_isSlot_17 : decode cX9_isSlot 17 = .ok (.getfield 47, 3) := by decide +kernel
theorem dX9_isSlot_20 : decode cX9_isSlot 20 = .ok (.iload_n 1, 1) := by decide +kernel
theorem dX9_isSlot_21 : decode cX9_isSlot 21 = .ok (.iaload, 1) := by decide +kernel
theorem dX9_isSlot_22 : decode cX9_isSlot 22 = .ok (.iconst (-1), 1) := by decide +kernel
theorem dX9_isSlot_23 : decode cX9_isSlot 23 = .ok (.if_icmp .eq 7, 3) := by decide +kernel
theorem dX9_isSlot_26 : decode cX9_isSlot 26 = .ok (.iconst 1, 1) := by decide +kernel
theorem dX9_isSlot_27 : decode cX9_isSlot 27 = .ok (.goto 4, 3) := by decide +kernel
theorem dX9_isSlot_30 : decode cX9_isSlot 30 = .ok (.iconst 0, 1) := by decide +kernel
theorem dX9_isSlot_31 : decode cX9_isSlot 31 = .ok (.ireturn, 1) := by decide +kernel
set_option maxRecDepth 20000 in
theorem ggX9_berths_X9_in : GoodIn wsX9_berths wsX9_in := goodIn_r _ [10] (by decide +kernel) (by decide +kernel)
set_option maxRecDepth 20000 in
theorem gX9_berths_X9_in : GoodIn wsX9_berths (va_wsS RX9 89 yX9_in wsX9_in) := goodIn_app (goodIn_of _ (by decide +kernel)) ggX9_berths_X9_in
set_option maxRecDepth 20000 in
theorem ggX9_berths_X9_told : GoodIn wsX9_berths wsX9_told := goodIn_r _ [14, 15, 20, 21, 22, 23, 24, 25, 26, 27, 28, 29, 30, 31, 32, 33, 34, 35, 36, 37, 38, 39, 40, 41, 42, 43, 44, 45, 46, 47, 48, 49, 50, 51, 52, 53, 54, 55, 56, 57, 58, 59, 60] (by decide +kernel) (by decide +kernel)
set_option maxRecDepth 20000 in
theorem gX9_berths_X9_told : GoodIn wsX9_berths (wsV RX9 99 RX9 yX9_told wsX9_told) := goodIn_app (goodIn_of _ (by decide +kernel)) ggX9_berths_X9_told
set_option maxRecDepth 20000 in
theorem ggX9_berths_X9_isPort : GoodIn wsX9_berths wsX9_isPort := goodIn_r _ [18, 19, 7, 8, 9, 10] (by decide +kernel) (by decide +kernel)
set_option maxRecDepth 20000 in
theorem gX9_berths_X9_isPort : GoodIn wsX9_berths (va_wsS RX9 170 yX9_isPort wsX9_isPort) := goodIn_app (goodIn_of _ (by decide +kernel)) ggX9_berths_X9_isPort
theorem dX9_berths_0 : decode cX9_berths 0 = .ok (.aload_n 0, 1) := by decide +kernel
theorem dX9_berths_1 : decode cX9_berths 1 = .ok (.iconst 0, 1) := by decide +kernel
theorem dX9_berths_2 : decode cX9_berths 2 = .ok (.putfield 81, 3) := by decide +kernel
theorem dX9_berths_5 : decode cX9_berths 5 = .ok (.iload_n 2, 1) := by decide +kernel
theorem dX9_berths_6 : decode cX9_berths 6 = .ok (.i2l, 1) := by decide +kernel
theorem dX9_berths_7 : decode cX9_berths 7 = .ok (.lconst 1, 1) := by decide +kernel
theorem dX9_berths_8 : decode cX9_berths 8 = .ok (.ldc2_w 106, 3) := by decide +kernel
theorem dX9_berths_11 : decode cX9_berths 11 = .ok (.invokestatic 89, 3) := by decide +kernel
theorem dX9_berths_14 : decode cX9_berths 14 = .ok (.ifCond .ne 9, 3) := by decide +kernel
theorem dX9_berths_17 : decode cX9_berths 17 = .ok (.aload_n 0, 1) := by decide +kernel
theorem dX9_berths_18 : decode cX9_berths 18 = .ok (.iconst (-1), 1) := by decide +kernel
theorem dX9_berths_19 : decode cX9_berths 19 = .ok (.invokevirtual 99, 3) := by decide +kernel
theorem dX9_berths_22 : decode cX9_berths 22 = .ok (.ireturn, 1) := by decide +kernel
theorem dX9_berths_23 : decode cX9_berths 23 = .ok (.iload_n 1, 1) := by decide +kernel
theorem dX9_berths_24 : decode cX9_berths 24 = .ok (.invokestatic 170, 3) := by decide +kernel
theorem dX9_berths_27 : decode cX9_berths 27 = .ok (.ifCond .ne 10, 3) := by decide +kernel
theorem dX9_berths_30 : decode cX9_berths 30 = .ok (.aload_n 0, 1) := by decide +kernel
theorem dX9_berths_31 : decode cX9_berths 31 = .ok (.bipush (-2), 2) := by decide +kernel
theorem dX9_berths_33 : decode cX9_berths 33 = .ok (.invokevirtual 99, 3) := by decide +kernel
theorem dX9_berths_36 : decode cX9_berths 36 = .ok (.ireturn, 1) := by decide +kernel
theorem dX9_berths_37 : decode cX9_berths 37 = .ok (.iconst 0, 1) := by decide +kernel
theorem dX9_berths_38 : decode cX9_berths 38 = .ok (.istore_n 3, 1) := by decide +kernel
theorem dX9_berths_39 : decode cX9_berths 39 = .ok (.iload_n 3, 1) := by decide +kernel
theorem dX9_berths_40 : decode cX9_berths 40 = .ok (.aload_n 0, 1) := by decide +kernel
theorem dX9_berths_41 : decode cX9_berths 41 = .ok (.getfield 167, 3) := by decide +kernel
theorem dX9_berths_44 : decode cX9_berths 44 = .ok (.if_icmp .ge 36, 3) := by decide +kernel
theorem dX9_berths_47 : decode cX9_berths 47 = .ok (.aload_n 0, 1) := by decide +kernel
theorem dX9_berths_48 : decode cX9_berths 48 = .ok (.getfield 47, 3) := by decide +kernel
theorem dX9_berths_51 : decode cX9_berths 51 = .ok (.iload_n 3, 1) := by decide +kernel
theorem dX9_berths_52 : decode cX9_berths 52 = .ok (.iaload, 1) := by decide +kernel
theorem dX9_berths_53 : decode cX9_berths 53 = .ok (.iload_n 1, 1) := by decide +kernel
theorem dX9_berths_54 : decode cX9_berths 54 = .ok (.if_icmp .ne 20, 3) := by decide +kernel
theorem dX9_berths_57 : decode cX9_berths 57 = .ok (.aload_n 0, 1) := by decide +kernel
theorem dX9_berths_58 : decode cX9_berths 58 = .ok (.getfield 50, 3) := by decide +kernel
theorem dX9_berths_61 : decode cX9_berths 61 = .ok (.iload_n 3, 1) := by decide +kernel
theorem dX9_berths_62 : decode cX9_berths 62 = .ok (.iaload, 1) := by decide +kernel
theorem dX9_berths_63 : decode cX9_berths 63 = .ok (.iload_n 2, 1) := by decide +kernel
theorem dX9_berths_64 : decode cX9_berths 64 = .ok (.if_icmp .lt 10, 3) := by decide +kernel
theorem dX9_berths_67 : decode cX9_berths 67 = .ok (.aload_n 0, 1) := by decide +kernel
theorem dX9_berths_68 : decode cX9_berths 68 = .ok (.bipush (-3), 2) := by decide +kernel
theorem dX9_berths_70 : decode cX9_berths 70 = .ok (.invokevirtual 99, 3) := by decide +kernel
theorem dX9_berths_73 : decode cX9_berths 73 = .ok (.ireturn, 1) := by decide +kernel
theorem dX9_berths_74 : decode cX9_berths 74 = .ok (.iinc 3 1, 3) := by decide +kernel
theorem dX9_berths_77 : decode cX9_berths 77 = .ok (.goto (-38), 3) := by decide +kernel
theorem dX9_berths_80 : decode cX9_berths 80 = .ok (.aload_n 0, 1) := by decide +kernel
theorem dX9_berths_81 : decode cX9_berths 81 = .ok (.getfield 44, 3) := by decide +kernel
theorem dX9_berths_84 : decode cX9_berths 84 = .ok (.iload_n 1, 1) := by decide +kernel
theorem dX9_berths_85 : decode cX9_berths 85 = .ok (.iaload, 1) := by decide +kernel
theorem dX9_berths_86 : decode cX9_berths 86 = .ok (.istore_n 3, 1) := by decide +kernel
theorem dX9_berths_87 : decode cX9_berths 87 = .ok (.aload_n 0, 1) := by decide +kernel
theorem dX9_berths_88 : decode cX9_berths 88 = .ok (.getfield 44, 3) := by decide +kernel
theorem dX9_berths_91 : decode cX9_berths 91 = .ok (.iload_n 1, 1) := by decide +kernel
theorem dX9_berths_92 : decode cX9_berths 92 = .ok (.iload_n 2, 1) := by decide +kernel
theorem dX9_berths_93 : decode cX9_berths 93 = .ok (.iastore, 1) := by decide +kernel
theorem dX9_berths_94 : decode cX9_berths 94 = .ok (.aload_n 0, 1) := by decide +kernel
theorem dX9_berths_95 : decode cX9_berths 95 = .ok (.iload_n 3, 1) := by decide +kernel
theorem dX9_berths_96 : decode cX9_berths 96 = .ok (.invokevirtual 99, 3) := by decide +kernel
theorem dX9_berths_99 : decode cX9_berths 99 = .ok (.ireturn, 1) := by decide +kernel
theorem dX9_isFree_0 : decode cX9_isFree 0 = .ok (.iconst 1, 1) := by decide +kernel
theorem dX9_isFree_1 : decode cX9_isFree 1 = .ok (.istore 5, 2) := by decide +kernel
theorem dX9_isFree_3 : decode cX9_isFree 3 = .ok (.iconst 0, 1) := by decide +kernel
theorem dX9_isFree_4 : decode cX9_isFree 4 = .ok (.istore 6, 2) := by decide +kernel
theorem dX9_isFree_6 : decode cX9_isFree 6 = .ok (.iload 6, 2) := by decide +kernel
theorem dX9_isFree_8 : decode cX9_isFree 8 = .ok (.aload_n 0, 1) := by decide +kernel
theorem dX9_isFree_9 : decode cX9_isFree 9 = .ok (.getfield 167, 3) := by decide +kernel
theorem dX9_isFree_12 : decode cX9_isFree 12 = .ok (.if_icmp .ge 66, 3) := by decide +kernel
theorem dX9_isFree_15 : decode cX9_isFree 15 = .ok (.iload 5, 2) := by decide +kernel
theorem dX9_isFree_17 : decode cX9_isFree 17 = .ok (.ifCond .eq 52, 3) := by decide +kernel
theorem dX9_isFree_20 : decode cX9_isFree 20 = .ok (.aload_n 0, 1) := by decide +kernel
theorem dX9_isFree_21 : decode cX9_isFree 21 = .ok (.getfield 47, 3) := by decide +kernel
theorem dX9_isFree_24 : decode cX9_isFree 24 = .ok (.iload 6, 2) := by decide +kernel
theorem dX9_isFree_26 : decode cX9_isFree 26 = .ok (.iaload, 1) := by decide +kernel
theorem dX9_isFree_27 : decode cX9_isFree 27 = .ok (.iload_n 1, 1) := by decide +kernel
theorem dX9_isFree_28 : decode cX9_isFree 28 = .ok (.if_icmp .ne 37, 3) := by decide +kernel
theorem dX9_isFree_31 : decode cX9_isFree 31 = .ok (.aload_n 0, 1) := by decide +kernel
theorem dX9_isFree_32 : decode cX9_isFree 32 = .ok (.getfield 50, 3) := by decide +kernel
theorem dX9_isFree_35 : decode cX9_isFree 35 = .ok (.iload 6, 2) := by decide +kernel
theorem dX9_isFree_37 : decode cX9_isFree 37 = .ok (.iaload, 1) := by decide +kernel
theorem dX9_isFree_38 : decode cX9_isFree 38 = .ok (.iload_n 2, 1) := by decide +kernel
theorem dX9_isFree_39 : decode cX9_isFree 39 = .ok (.if_icmp .ne 26, 3) := by decide +kernel
theorem dX9_isFree_42 : decode cX9_isFree 42 = .ok (.aload_n 0, 1) := by decide +kernel
theorem dX9_isFree_43 : decode cX9_isFree 43 = .ok (.getfield 53, 3) := by decide +kernel
theorem dX9_isFree_46 : decode cX9_isFree 46 = .ok (.iload 6, 2) := by decide +kernel
theorem dX9_isFree_48 : decode cX9_isFree 48 = .ok (.iaload, 1) := by decide +kernel
theorem dX9_isFree_49 : decode cX9_isFree 49 = .ok (.iload 4, 2) := by decide +kernel
theorem dX9_isFree_51 : decode cX9_isFree 51 = .ok (.if_icmp .gt 14, 3) := by decide +kernel
theorem dX9_isFree_54 : decode cX9_isFree 54 = .ok (.iload_n 3, 1) := by decide +kernel
theorem dX9_isFree_55 : decode cX9_isFree 55 = .ok (.aload_n 0, 1) := by decide +kernel
theorem dX9_isFree_56 : decode cX9_isFree 56 = .ok (.getfield 56, 3) := by decide +kernel
theorem dX9_isFree_59 : decode cX9_isFree 59 = .ok (.iload 6, 2) := by decide +kernel
theorem dX9_isFree_61 : decode cX9_isFree 61 = .ok (.iaload, 1) := by decide +kernel
theorem dX9_isFree_62 : decode cX9_isFree 62 = .ok (.if_icmp .le 7, 3) := by decide +kernel
theorem dX9_isFree_65 : decode cX9_isFree 65 = .ok (.iconst 1, 1) := by decide +kernel
theorem dX9_isFree_66 : decode cX9_isFree 66 = .ok (.goto 4, 3) := by decide +kernel
theorem dX9_isFree_69 : decode cX9_isFree 69 = .ok (.iconst 0, 1) := by decide +kernel
theorem dX9_isFree_70 : decode cX9_isFree 70 = .ok (.istore 5, 2) := by decide +kernel
theorem dX9_isFree_72 : decode cX9_isFree 72 = .ok (.iinc 6 1, 3) := by decide +kernel
theorem dX9_isFree_75 : decode cX9_isFree 75 = .ok (.goto (-69), 3) := by decide +kernel
theorem dX9_isFree_78 : decode cX9_isFree 78 = .ok (.iload 5, 2) := by decide +kernel
theorem dX9_isFree_80 : decode cX9_isFree 80 = .ok (.ireturn, 1) := by decide +kernel
set_option maxRecDepth 20000 in
theorem ggX9_slot_X9_in : GoodIn wsX9_slot wsX9_in := goodIn_r _ [13] (by decide +kernel) (by decide +kernel)
set_option maxRecDepth 20000 in
theorem gX9_slot_X9_in : GoodIn wsX9_slot (va_wsS RX9 89 yX9_in wsX9_in) := goodIn_app (goodIn_of _ (by decide +kernel)) ggX9_slot_X9_in
set_option maxRecDepth 20000 in
theorem ggX9_slot_X9_told : GoodIn wsX9_slot wsX9_told := goodIn_r _ [17, 18, 27, 28, 29, 30, 31, 32, 33, 34, 35, 36, 37, 38, 39, 40, 41, 42, 43, 44, 45, 46, 47, 48, 49, 50, 51, 52, 53, 54, 55, 56, 57, 58, 59, 60, 61, 62, 63, 64, 65, 66, 67] (by decide +kernel) (by decide +kernel)
set_option maxRecDepth 20000 in
theorem gX9_slot_X9_told : GoodIn wsX9_slot (wsV RX9 99 RX9 yX9_told wsX9_told) := goodIn_app (goodIn_of _ (by decide +kernel)) ggX9_slot_X9_told
set_option maxRecDepth 20000 in
theorem ggX9_slot_X9_isPort : GoodIn wsX9_slot wsX9_isPort := goodIn_r _ [21, 22, 10, 11, 12, 13] (by decide +kernel) (by decide +kernel)
set_option maxRecDepth 20000 in
theorem gX9_slot_X9_isPort : GoodIn wsX9_slot (va_wsS RX9 170 yX9_isPort wsX9_isPort) := goodIn_app (goodIn_of _ (by decide +kernel)) ggX9_slot_X9_isPort
set_option maxRecDepth 20000 in
theorem ggX9_slot_X9_isFree : GoodIn wsX9_slot wsX9_isFree := goodIn_r _ [26, 5, 6, 7, 8, 9, 27, 28, 29, 30, 31, 32, 33, 34, 35, 36, 37, 38, 39, 40, 41, 42, 43, 44, 45, 46, 47, 48, 49, 50, 51, 52, 53, 54, 55, 56, 57, 58, 59, 60, 61, 62, 63, 64, 65, 66, 67] (by decide +kernel) (by decide +kernel)
set_option maxRecDepth 20000 in
theorem gX9_slot_X9_isFree : GoodIn wsX9_slot (wsV RX9 177 RX9 yX9_isFree wsX9_isFree) := goodIn_app (goodIn_of _ (by decide +kernel)) ggX9_slot_X9_isFree
theorem dX9_slot_0 : decode cX9_slot 0 = .ok (.aload_n 0, 1) := by decide +kernel
theorem dX9_slot_1 : decode cX9_slot 1 = .ok (.iconst 0, 1) := by decide +kernel
theorem dX9_slot_2 : decode cX9_slot 2 = .ok (.putfield 81, 3) := by decide +kernel
theorem dX9_slot_5 : decode cX9_slot 5 = .ok (.iload_n 2, 1) := by decide +kernel
theorem dX9_slot_6 : decode cX9_slot 6 = .ok (.i2l, 1) := by decide +kernel
theorem dX9_slot_7 : decode cX9_slot 7 = .ok (.lconst 0, 1) := by decide +kernel
theorem dX9_slot_8 : decode cX9_slot 8 = .ok (.ldc2_w 173, 3) := by decide +kernel
theorem dX9_slot_11 : decode cX9_slot 11 = .ok (.invokestatic 89, 3) := by decide +kernel
theorem dX9_slot_14 : decode cX9_slot 14 = .ok (.ifCond .eq 15, 3) := by decide +kernel
theorem dX9_slot_17 : decode cX9_slot 17 = .ok (.iload_n 3, 1) := by decide +kernel
theorem dX9_slot_18 : decode cX9_slot 18 = .ok (.i2l, 1) := by decide +kernel
theorem dX9_slot_19 : decode cX9_slot 19 = .ok (.lconst 1, 1) := by decide +kernel
theorem dX9_slot_20 : decode cX9_slot 20 = .ok (.ldc2_w 175, 3) := by decide +kernel
theorem dX9_slot_23 : decode cX9_slot 23 = .ok (.invokestatic 89, 3) := by decide +kernel
theorem dX9_slot_26 : decode cX9_slot 26 = .ok (.ifCond .ne 9, 3) := by decide +kernel
theorem dX9_slot_29 : decode cX9_slot 29 = .ok (.aload_n 0, 1) := by decide +kernel
theorem dX9_slot_30 : decode cX9_slot 30 = .ok (.iconst (-1), 1) := by decide +kernel
theorem dX9_slot_31 : decode cX9_slot 31 = .ok (.invokevirtual 99, 3) := by decide +kernel
theorem dX9_slot_34 : decode cX9_slot 34 = .ok (.ireturn, 1) := by decide +kernel
theorem dX9_slot_35 : decode cX9_slot 35 = .ok (.iload_n 1, 1) := by decide +kernel
theorem dX9_slot_36 : decode cX9_slot 36 = .ok (.invokestatic 170, 3) := by decide +kernel
theorem dX9_slot_39 : decode cX9_slot 39 = .ok (.ifCond .ne 10, 3) := by decide +kernel
theorem dX9_slot_42 : decode cX9_slot 42 = .ok (.aload_n 0, 1) := by decide +kernel
theorem dX9_slot_43 : decode cX9_slot 43 = .ok (.bipush (-2), 2) := by decide +kernel
theorem dX9_slot_45 : decode cX9_slot 45 = .ok (.invokevirtual 99, 3) := by decide +kernel
theorem dX9_slot_48 : decode cX9_slot 48 = .ok (.ireturn, 1) := by decide +kernel
theorem dX9_slot_49 : decode cX9_slot 49 = .ok (.iconst (-1), 1) := by decide +kernel
theorem dX9_slot_50 : decode cX9_slot 50 = .ok (.istore 4, 2) := by decide +kernel
theorem dX9_slot_52 : decode cX9_slot 52 = .ok (.iconst 0, 1) := by decide +kernel
theorem dX9_slot_53 : decode cX9_slot 53 = .ok (.istore 5, 2) := by decide +kernel
theorem dX9_slot_55 : decode cX9_slot 55 = .ok (.iload_n 2, 1) := by decide +kernel
theorem dX9_slot_56 : decode cX9_slot 56 = .ok (.istore 6, 2) := by decide +kernel
theorem dX9_slot_58 : decode cX9_slot 58 = .ok (.iload 6, 2) := by decide +kernel
theorem dX9_slot_60 : decode cX9_slot 60 = .ok (.iload_n 3, 1) := by decide +kernel
theorem dX9_slot_61 : decode cX9_slot 61 = .ok (.iadd, 1) := by decide +kernel
theorem dX9_slot_62 : decode cX9_slot 62 = .ok (.iconst 1, 1) := by decide +kernel
theorem dX9_slot_63 : decode cX9_slot 63 = .ok (.isub, 1) := by decide +kernel
theorem dX9_slot_64 : decode cX9_slot 64 = .ok (.sipush 400, 3) := by decide +kernel
theorem dX9_slot_67 : decode cX9_slot 67 = .ok (.if_icmp .gt 65, 3) := by decide +kernel
theorem dX9_slot_70 : decode cX9_slot 70 = .ok (.iload 4, 2) := by decide +kernel
theorem dX9_slot_72 : decode cX9_slot 72 = .ok (.ifCond .ge 60, 3) := by decide +kernel
theorem dX9_slot_75 : decode cX9_slot 75 = .ok (.iconst 0, 1) := by decide +kernel
theorem dX9_slot_76 : decode cX9_slot 76 = .ok (.istore 7, 2) := by decide +kernel
theorem dX9_slot_78 : decode cX9_slot 78 = .ok (.iload 7, 2) := by decide +kernel
theorem dX9_slot_80 : decode cX9_slot 80 = .ok (.aload_n 0, 1) := by decide +kernel
theorem dX9_slot_81 : decode cX9_slot 81 = .ok (.getfield 44, 3) := by decide +kernel
theorem dX9_slot_84 : decode cX9_slot 84 = .ok (.iload_n 1, 1) := by decide +kernel
theorem dX9_slot_85 : decode cX9_slot 85 = .ok (.iaload, 1) := by decide +kernel
theorem dX9_slot_86 : decode cX9_slot 86 = .ok (.if_icmp .ge 40, 3) := by decide +kernel
theorem dX9_slot_89 : decode cX9_slot 89 = .ok (.iload 4, 2) := by decide +kernel
theorem dX9_slot_91 : decode cX9_slot 91 = .ok (.ifCond .ge 35, 3) := by decide +kernel
theorem dX9_slot_94 : decode cX9_slot 94 = .ok (.aload_n 0, 1) := by decide +kernel
theorem dX9_slot_95 : decode cX9_slot 95 = .ok (.iload_n 1, 1) := by decide +kernel
theorem dX9_slot_96 : decode cX9_slot 96 = .ok (.iload 7, 2) := by decide +kernel
theorem dX9_slot_98 : decode cX9_slot 98 = .ok (.iload 6, 2) := by decide +kernel
theorem dX9_slot_100 : decode cX9_slot 100 = .ok (.iload 6, 2) := by decide +kernel
theorem dX9_slot_102 : decode cX9_slot 102 = .ok (.iload_n 3, 1) := by decide +kernel
theorem dX9_slot_103 : decode cX9_slot 103 = .ok (.iadd, 1) := by decide +kernel
theorem dX9_slot_104 : decode cX9_slot 104 = .ok (.iconst 1, 1) := by decide +kernel
theorem dX9_slot_105 : decode cX9_slot 105 = .ok (.isub, 1) := by decide +kernel
theorem dX9_slot_106 : decode cX9_slot 106 = .ok (.invokevirtual 177, 3) := by decide +kernel
theorem dX9_slot_109 : decode cX9_slot 109 = .ok (.ifCond .eq 11, 3) := by decide +kernel
theorem dX9_slot_112 : decode cX9_slot 112 = .ok (.iload 6, 2) := by decide +kernel
theorem dX9_slot_114 : decode cX9_slot 114 = .ok (.istore 4, 2) := by decide +kernel
theorem dX9_slot_116 : decode cX9_slot 116 = .ok (.iload 7, 2) := by decide +kernel
theorem dX9_slot_118 : decode cX9_slot 118 = .ok (.istore 5, 2) := by decide +kernel
theorem dX9_slot_120 : decode cX9_slot 120 = .ok (.iinc 7 1, 3) := by decide +kernel
theorem dX9_slot_123 : decode cX9_slot 123 = .ok (.goto (-45), 3) := by decide +kernel
theorem dX9_slot_126 : decode cX9_slot 126 = .ok (.iinc 6 1, 3) := by decide +kernel
theorem dX9_slot_129 : decode cX9_slot 129 = .ok (.goto (-71), 3) := by decide +kernel
theorem dX9_slot_132 : decode cX9_slot 132 = .ok (.iload 4, 2) := by decide +kernel
theorem dX9_slot_134 : decode cX9_slot 134 = .ok (.ifCond .ge 10, 3) := by decide +kernel
theorem dX9_slot_137 : decode cX9_slot 137 = .ok (.aload_n 0, 1) := by decide +kernel
theorem dX9_slot_138 : decode cX9_slot 138 = .ok (.bipush (-3), 2) := by decide +kernel
theorem dX9_slot_140 : decode cX9_slot 140 = .ok (.invokevirtual 99, 3) := by decide +kernel
theorem dX9_slot_143 : decode cX9_slot 143 = .ok (.ireturn, 1) := by decide +kernel
theorem dX9_slot_144 : decode cX9_slot 144 = .ok (.aload_n 0, 1) := by decide +kernel
theorem dX9_slot_145 : decode cX9_slot 145 = .ok (.getfield 167, 3) := by decide +kernel
theorem dX9_slot_148 : decode cX9_slot 148 = .ok (.bipush 60, 2) := by decide +kernel
theorem dX9_slot_150 : decode cX9_slot 150 = .ok (.if_icmp .ne 10, 3) := by decide +kernel
theorem dX9_slot_153 : decode cX9_slot 153 = .ok (.aload_n 0, 1) := by decide +kernel
theorem dX9_slot_154 : decode cX9_slot 154 = .ok (.bipush (-5), 2) := by decide +kernel
theorem dX9_slot_156 : decode cX9_slot 156 = .ok (.invokevirtual 99, 3) := by decide +kernel
theorem dX9_slot_159 : decode cX9_slot 159 = .ok (.ireturn, 1) := by decide +kernel
theorem dX9_slot_160 : decode cX9_slot 160 = .ok (.aload_n 0, 1) := by decide +kernel
theorem dX9_slot_161 : decode cX9_slot 161 = .ok (.getfield 47, 3) := by decide +kernel
theorem dX9_slot_164 : decode cX9_slot 164 = .ok (.aload_n 0, 1) := by decide +kernel
theorem dX9_slot_165 : decode cX9_slot 165 = .ok (.getfield 167, 3) := by decide +kernel
theorem dX9_slot_168 : decode cX9_slot 168 = .ok (.iload_n 1, 1) := by decide +kernel
theorem dX9_slot_169 : decode cX9_slot 169 = .ok (.iastore, 1) := by decide +kernel
theorem dX9_slot_170 : decode cX9_slot 170 = .ok (.aload_n 0, 1) := by decide +kernel
theorem dX9_slot_171 : decode cX9_slot 171 = .ok (.getfield 50, 3) := by decide +kernel
theorem dX9_slot_174 : decode cX9_slot 174 = .ok (.aload_n 0, 1) := by decide +kernel
theorem dX9_slot_175 : decode cX9_slot 175 = .ok (.getfield 167, 3) := by decide +kernel
theorem dX9_slot_178 : decode cX9_slot 178 = .ok (.iload 5, 2) := by decide +kernel
theorem dX9_slot_180 : decode cX9_slot 180 = .ok (.iastore, 1) := by decide +kernel
theorem dX9_slot_181 : decode cX9_slot 181 = .ok (.aload_n 0, 1) := by decide +kernel
theorem dX9_slot_182 : decode cX9_slot 182 = .ok (.getfield 53, 3) := by decide +kernel
theorem dX9_slot_185 : decode cX9_slot 185 = .ok (.aload_n 0, 1) := by decide +kernel
theorem dX9_slot_186 : decode cX9_slot 186 = .ok (.getfield 167, 3) := by decide +kernel
theorem dX9_slot_189 : decode cX9_slot 189 = .ok (.iload 4, 2) := by decide +kernel
theorem dX9_slot_191 : decode cX9_slot 191 = .ok (.iastore, 1) := by decide +kernel
theorem dX9_slot_192 : decode cX9_slot 192 = .ok (.aload_n 0, 1) := by decide +kernel
theorem dX9_slot_193 : decode cX9_slot 193 = .ok (.getfield 56, 3) := by decide +kernel
theorem dX9_slot_196 : decode cX9_slot 196 = .ok (.aload_n 0, 1) := by decide +kernel
theorem dX9_slot_197 : decode cX9_slot 197 = .ok (.getfield 167, 3) := by decide +kernel
theorem dX9_slot_200 : decode cX9_slot 200 = .ok (.iload 4, 2) := by decide +kernel
theorem dX9_slot_202 : decode cX9_slot 202 = .ok (.iload_n 3, 1) := by decide +kernel
theorem dX9_slot_203 : decode cX9_slot 203 = .ok (.iadd, 1) := by decide +kernel
theorem dX9_slot_204 : decode cX9_slot 204 = .ok (.iconst 1, 1) := by decide +kernel
theorem dX9_slot_205 : decode cX9_slot 205 = .ok (.isub, 1) := by decide +kernel
theorem dX9_slot_206 : decode cX9_slot 206 = .ok (.iastore, 1) := by decide +kernel
theorem dX9_slot_207 : decode cX9_slot 207 = .ok (.aload_n 0, 1) := by decide +kernel
theorem dX9_slot_208 : decode cX9_slot 208 = .ok (.dup, 1) := by decide +kernel
theorem dX9_slot_209 : decode cX9_slot 209 = .ok (.getfield 167, 3) := by decide +kernel
theorem dX9_slot_212 : decode cX9_slot 212 = .ok (.iconst 1, 1) := by decide +kernel
theorem dX9_slot_213 : decode cX9_slot 213 = .ok (.iadd, 1) := by decide +kernel
theorem dX9_slot_214 : decode cX9_slot 214 = .ok (.putfield 167, 3) := by decide +kernel
theorem dX9_slot_217 : decode cX9_slot 217 = .ok (.aload_n 0, 1) := by decide +kernel
theorem dX9_slot_218 : decode cX9_slot 218 = .ok (.aload_n 0, 1) := by decide +kernel
theorem dX9_slot_219 : decode cX9_slot 219 = .ok (.getfield 167, 3) := by decide +kernel
theorem dX9_slot_222 : decode cX9_slot 222 = .ok (.iconst 1, 1) := by decide +kernel
theorem dX9_slot_223 : decode cX9_slot 223 = .ok (.isub, 1) := by decide +kernel
theorem dX9_slot_224 : decode cX9_slot 224 = .ok (.invokevirtual 99, 3) := by decide +kernel
theorem dX9_slot_227 : decode cX9_slot 227 = .ok (.ireturn, 1) := by decide +kernel
set_option maxRecDepth 20000 in
theorem ggX9_of_X9_isSlot : GoodIn wsX9_of wsX9_isSlot := goodIn_r _ [10, 11, 2, 12, 13, 9, 14, 15, 16, 17, 18, 19, 20, 21, 22, 23, 24, 25, 26, 27, 28, 29, 30, 31, 32, 33, 34, 35, 36, 37, 38, 39, 40, 41, 42, 43, 44, 45, 46, 47, 48, 49, 50, 51, 52, 53, 54, 55] (by decide +kernel) (by decide +kernel)
set_option maxRecDepth 20000 in
theorem gX9_of_X9_isSlot : GoodIn wsX9_of (wsV RX9 180 RX9 yX9_isSlot wsX9_isSlot) := goodIn_app (goodIn_of _ (by decide +kernel)) ggX9_of_X9_isSlot
theorem dX9_of_0 : decode cX9_of 0 = .ok (.aload_n 0, 1) := by decide +kernel
theorem dX9_of_1 : decode cX9_of 1 = .ok (.iconst 0, 1) := by decide +kernel
theorem dX9_of_2 : decode cX9_of 2 = .ok (.putfield 81, 3) := by decide +kernel
theorem dX9_of_5 : decode cX9_of 5 = .ok (.aload_n 0, 1) := by decide +kernel
theorem dX9_of_6 : decode cX9_of 6 = .ok (.iload_n 1, 1) := by decide +kernel
theorem dX9_of_7 : decode cX9_of 7 = .ok (.invokevirtual 180, 3) := by decide +kernel
theorem dX9_of_10 : decode cX9_of 10 = .ok (.ifCond .ne 5, 3) := by decide +kernel
theorem dX9_of_13 : decode cX9_of 13 = .ok (.iconst (-1), 1) := by decide +kernel
theorem dX9_of_14 : decode cX9_of 14 = .ok (.ireturn, 1) := by decide +kernel
theorem dX9_of_15 : decode cX9_of 15 = .ok (.iload_n 2, 1) := by decide +kernel
theorem dX9_of_16 : decode cX9_of 16 = .ok (.ifCond .ne 12, 3) := by decide +kernel
theorem dX9_of_19 : decode cX9_of 19 = .ok (.aload_n 0, 1) := by decide +kernel
theorem dX9_of_20 : decode cX9_of 20 = .ok (.getfield 47, 3) := by decide +kernel
theorem dX9_of_23 : decode cX9_of 23 = .ok (.iload_n 1, 1) := by decide +kernel
theorem dX9_of_24 : decode cX9_of 24 = .ok (.iaload, 1) := by decide +kernel
theorem dX9_of_25 : decode cX9_of 25 = .ok (.goto 46, 3) := by decide +kernel
theorem dX9_of_28 : decode cX9_of 28 = .ok (.iload_n 2, 1) := by decide +kernel
theorem dX9_of_29 : decode cX9_of 29 = .ok (.iconst 1, 1) := by decide +kernel
theorem dX9_of_30 : decode cX9_of 30 = .ok (.if_icmp .ne 12, 3) := by decide +kernel
theorem dX9_of_33 : decode cX9_of 33 = .ok (.aload_n 0, 1) := by decide +kernel
theorem dX9_of_34 : decode cX9_of 34 = .ok (.getfield 50, 3) := by decide +kernel
theorem dX9_of_37 : decode cX9_of 37 = .ok (.iload_n 1, 1) := by decide +kernel
theorem dX9_of_38 : decode cX9_of 38 = .ok (.iaload, 1) := by decide +kernel
theorem dX9_of_39 : decode cX9_of 39 = .ok (.goto 32, 3) := by decide +kernel
theorem dX9_of_42 : decode cX9_of 42 = .ok (.iload_n 2, 1) := by decide +kernel
theorem dX9_of_43 : decode cX9_of 43 = .ok (.iconst 2, 1) := by decide +kernel
theorem dX9_of_44 : decode cX9_of 44 = .ok (.if_icmp .ne 12, 3) := by decide +kernel
theorem dX9_of_47 : decode cX9_of 47 = .ok (.aload_n 0, 1) := by decide +kernel
theorem dX9_of_48 : decode cX9_of 48 = .ok (.getfield 53, 3) := by decide +kernel
theorem dX9_of_51 : decode cX9_of 51 = .ok (.iload_n 1, 1) := by decide +kernel
theorem dX9_of_52 : decode cX9_of 52 = .ok (.iaload, 1) := by decide +kernel
theorem dX9_of_53 : decode cX9_of 53 = .ok (.goto 18, 3) := by decide +kernel
theorem dX9_of_56 : decode cX9_of 56 = .ok (.iload_n 2, 1) := by decide +kernel
theorem dX9_of_57 : decode cX9_of 57 = .ok (.iconst 3, 1) := by decide +kernel
theorem dX9_of_58 : decode cX9_of 58 = .ok (.if_icmp .ne 12, 3) := by decide +kernel
theorem dX9_of_61 : decode cX9_of 61 = .ok (.aload_n 0, 1) := by decide +kernel
theorem dX9_of_62 : decode cX9_of 62 = .ok (.getfield 56, 3) := by decide +kernel
theorem dX9_of_65 : decode cX9_of 65 = .ok (.iload_n 1, 1) := by decide +kernel
theorem dX9_of_66 : decode cX9_of 66 = .ok (.iaload, 1) := by decide +kernel
theorem dX9_of_67 : decode cX9_of 67 = .ok (.goto 4, 3) := by decide +kernel
theorem dX9_of_70 : decode cX9_of 70 = .ok (.iconst (-1), 1) := by decide +kernel
theorem dX9_of_71 : decode cX9_of 71 = .ok (.ireturn, 1) := by decide +kernel
set_option maxRecDepth 20000 in
theorem ggX9_free_X9_isSlot : GoodIn wsX9_free wsX9_isSlot := goodIn_r _ [7, 8, 2, 9, 10, 6, 11, 17, 18, 19, 20, 21, 22, 23, 24, 25, 26, 27, 28, 29, 30, 31, 32, 33, 34, 35, 36, 37, 38, 39, 40, 41, 42, 43, 44, 45, 46, 47, 48, 49, 50, 51, 52, 53, 54, 55, 56, 57] (by decide +kernel) (by decide +kernel)
set_option maxRecDepth 20000 in
theorem gX9_free_X9_isSlot : GoodIn wsX9_free (wsV RX9 180 RX9 yX9_isSlot wsX9_isSlot) := goodIn_app (goodIn_of _ (by decide +kernel)) ggX9_free_X9_isSlot
set_option maxRecDepth 20000 in
theorem ggX9_free_X9_told : GoodIn wsX9_free wsX9_told := goodIn_r _ [15, 16, 17, 18, 19, 20, 21, 22, 23, 24, 25, 26, 27, 28, 29, 30, 31, 32, 33, 34, 35, 36, 37, 38, 39, 40, 41, 42, 43, 44, 45, 46, 47, 48, 49, 50, 51, 52, 53, 54, 55, 56, 57] (by decide +kernel) (by decide +kernel)
set_option maxRecDepth 20000 in
theorem gX9_free_X9_told : GoodIn wsX9_free (wsV RX9 99 RX9 yX9_told wsX9_told) := goodIn_app (goodIn_of _ (by decide +kernel)) ggX9_free_X9_told
theorem dX9_free_0 : decode cX9_free 0 = .ok (.aload_n 0, 1) := by decide +kernel
theorem dX9_free_1 : decode cX9_free 1 = .ok (.iconst 0, 1) := by decide +kernel
theorem dX9_free_2 : decode cX9_free 2 = .ok (.putfield 81, 3) := by decide +kernel
theorem dX9_free_5 : decode cX9_free 5 = .ok (.aload_n 0, 1) := by decide +kernel
theorem dX9_free_6 : decode cX9_free 6 = .ok (.iload_n 1, 1) := by decide +kernel
theorem dX9_free_7 : decode cX9_free 7 = .ok (.invokevirtual 180, 3) := by decide +kernel
theorem dX9_free_10 : decode cX9_free 10 = .ok (.ifCond .ne 10, 3) := by decide +kernel
theorem dX9_free_13 : decode cX9_free 13 = .ok (.aload_n 0, 1) := by decide +kernel
theorem dX9_free_14 : decode cX9_free 14 = .ok (.bipush (-2), 2) := by decide +kernel
theorem dX9_free_16 : decode cX9_free 16 = .ok (.invokevirtual 99, 3) := by decide +kernel
