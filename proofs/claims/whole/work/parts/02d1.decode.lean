theorem dX0_init_0 : decode cX0_init 0 = .ok (.aload_n 0, 1) := by decide +kernel
theorem dX0_init_1 : decode cX0_init 1 = .ok (.invokespecial 3, 3) := by decide +kernel
theorem dX0_init_4 : decode cX0_init 4 = .ok (.aload_n 0, 1) := by decide +kernel
theorem dX0_init_5 : decode cX0_init 5 = .ok (.bipush 20, 2) := by decide +kernel
theorem dX0_init_7 : decode cX0_init 7 = .ok (.newarray .int, 2) := by decide +kernel
theorem dX0_init_9 : decode cX0_init 9 = .ok (.putfield 11, 3) := by decide +kernel
theorem dX0_init_12 : decode cX0_init 12 = .ok (.return_, 1) := by decide +kernel
theorem dX0_perform_0 : decode cX0_perform 0 = .ok (.iload 5, 2) := by decide +kernel
theorem dX0_perform_2 : decode cX0_perform 2 = .ok (.bipush 20, 2) := by decide +kernel
theorem dX0_perform_4 : decode cX0_perform 4 = .ok (.if_icmp .le 5, 3) := by decide +kernel
theorem dX0_perform_7 : decode cX0_perform 7 = .ok (.iconst 0, 1) := by decide +kernel
theorem dX0_perform_8 : decode cX0_perform 8 = .ok (.ireturn, 1) := by decide +kernel
theorem dX0_perform_9 : decode cX0_perform 9 = .ok (.iload_n 2, 1) := by decide +kernel
theorem dX0_perform_10 : decode cX0_perform 10 = .ok (.iload_n 3, 1) := by decide +kernel
theorem dX0_perform_11 : decode cX0_perform 11 = .ok (.invokestatic 15, 3) := by decide +kernel
theorem dX0_perform_14 : decode cX0_perform 14 = .ok (.istore 6, 2) := by decide +kernel
theorem dX0_perform_16 : decode cX0_perform 16 = .ok (.aload_n 0, 1) := by decide +kernel
theorem dX0_perform_17 : decode cX0_perform 17 = .ok (.iload 6, 2) := by decide +kernel
theorem dX0_perform_19 : decode cX0_perform 19 = .ok (.invokevirtual 19, 3) := by decide +kernel
theorem dX0_perform_22 : decode cX0_perform 22 = .ok (.iload 5, 2) := by decide +kernel
theorem dX0_perform_24 : decode cX0_perform 24 = .ok (.iconst 1, 1) := by decide +kernel
theorem dX0_perform_25 : decode cX0_perform 25 = .ok (.iadd, 1) := by decide +kernel
theorem dX0_perform_26 : decode cX0_perform 26 = .ok (.istore 7, 2) := by decide +kernel
theorem dX0_perform_28 : decode cX0_perform 28 = .ok (.iload 6, 2) := by decide +kernel
theorem dX0_perform_30 : decode cX0_perform 30 = .ok (.lookupswitch 282 #[(10, 98), (11, 106), (12, 126), (20, 143), (30, 158), (40, 172), (50, 198), (51, 211), (60, 225), (70, 242), (71, 265)], 98) := by decide +kernel
theorem dX0_perform_128 : decode cX0_perform 128 = .ok (.iload 4, 2) := by decide +kernel
theorem dX0_perform_130 : decode cX0_perform 130 = .ok (.aload_n 1, 1) := by decide +kernel
theorem dX0_perform_131 : decode cX0_perform 131 = .ok (.getfield 23, 3) := by decide +kernel
theorem dX0_perform_134 : decode cX0_perform 134 = .ok (.iadd, 1) := by decide +kernel
theorem dX0_perform_135 : decode cX0_perform 135 = .ok (.ireturn, 1) := by decide +kernel
theorem dX0_perform_136 : decode cX0_perform 136 = .ok (.aload_n 0, 1) := by decide +kernel
theorem dX0_perform_137 : decode cX0_perform 137 = .ok (.aload_n 1, 1) := by decide +kernel
theorem dX0_perform_138 : decode cX0_perform 138 = .ok (.aload_n 1, 1) := by decide +kernel
theorem dX0_perform_139 : decode cX0_perform 139 = .ok (.getfield 29, 3) := by decide +kernel
theorem dX0_perform_142 : decode cX0_perform 142 = .ok (.iconst 0, 1) := by decide +kernel
theorem dX0_perform_143 : decode cX0_perform 143 = .ok (.iload 4, 2) := by decide +kernel
theorem dX0_perform_145 : decode cX0_perform 145 = .ok (.iload 7, 2) := by decide +kernel
theorem dX0_perform_147 : decode cX0_perform 147 = .ok (.invokestatic 32, 3) := by decide +kernel
theorem dX0_perform_150 : decode cX0_perform 150 = .ok (.aload_n 1, 1) := by decide +kernel
theorem dX0_perform_151 : decode cX0_perform 151 = .ok (.getfield 36, 3) := by decide +kernel
theorem dX0_perform_154 : decode cX0_perform 154 = .ok (.isub, 1) := by decide +kernel
theorem dX0_perform_155 : decode cX0_perform 155 = .ok (.ireturn, 1) := by decide +kernel
theorem dX0_perform_156 : decode cX0_perform 156 = .ok (.aload_n 0, 1) := by decide +kernel
theorem dX0_perform_157 : decode cX0_perform 157 = .ok (.aload_n 1, 1) := by decide +kernel
theorem dX0_perform_158 : decode cX0_perform 158 = .ok (.aload_n 1, 1) := by decide +kernel
theorem dX0_perform_159 : decode cX0_perform 159 = .ok (.getfield 29, 3) := by decide +kernel
theorem dX0_perform_162 : decode cX0_perform 162 = .ok (.iconst 1, 1) := by decide +kernel
theorem dX0_perform_163 : decode cX0_perform 163 = .ok (.iload 4, 2) := by decide +kernel
theorem dX0_perform_165 : decode cX0_perform 165 = .ok (.iload 7, 2) := by decide +kernel
theorem dX0_perform_167 : decode cX0_perform 167 = .ok (.invokestatic 32, 3) := by decide +kernel
theorem dX0_perform_170 : decode cX0_perform 170 = .ok (.iconst 2, 1) := by decide +kernel
theorem dX0_perform_171 : decode cX0_perform 171 = .ok (.imul, 1) := by decide +kernel
theorem dX0_perform_172 : decode cX0_perform 172 = .ok (.ireturn, 1) := by decide +kernel
theorem dX0_perform_173 : decode cX0_perform 173 = .ok (.aload_n 0, 1) := by decide +kernel
theorem dX0_perform_174 : decode cX0_perform 174 = .ok (.aload_n 1, 1) := by decide +kernel
theorem dX0_perform_175 : decode cX0_perform 175 = .ok (.iconst 0, 1) := by decide +kernel
theorem dX0_perform_176 : decode cX0_perform 176 = .ok (.iconst 1, 1) := by decide +kernel
theorem dX0_perform_177 : decode cX0_perform 177 = .ok (.iload 4, 2) := by decide +kernel
theorem dX0_perform_179 : decode cX0_perform 179 = .ok (.iload 7, 2) := by decide +kernel
theorem dX0_perform_181 : decode cX0_perform 181 = .ok (.invokestatic 32, 3) := by decide +kernel
theorem dX0_perform_184 : decode cX0_perform 184 = .ok (.bipush 6, 2) := by decide +kernel
theorem dX0_perform_186 : decode cX0_perform 186 = .ok (.ixor, 1) := by decide +kernel
theorem dX0_perform_187 : decode cX0_perform 187 = .ok (.ireturn, 1) := by decide +kernel
theorem dX0_perform_188 : decode cX0_perform 188 = .ok (.aload_n 0, 1) := by decide +kernel
theorem dX0_perform_189 : decode cX0_perform 189 = .ok (.aload_n 1, 1) := by decide +kernel
theorem dX0_perform_190 : decode cX0_perform 190 = .ok (.iconst 0, 1) := by decide +kernel
theorem dX0_perform_191 : decode cX0_perform 191 = .ok (.iconst 0, 1) := by decide +kernel
theorem dX0_perform_192 : decode cX0_perform 192 = .ok (.iload 4, 2) := by decide +kernel
theorem dX0_perform_194 : decode cX0_perform 194 = .ok (.iconst 3, 1) := by decide +kernel
theorem dX0_perform_195 : decode cX0_perform 195 = .ok (.imul, 1) := by decide +kernel
theorem dX0_perform_196 : decode cX0_perform 196 = .ok (.iload 7, 2) := by decide +kernel
theorem dX0_perform_198 : decode cX0_perform 198 = .ok (.invokestatic 32, 3) := by decide +kernel
theorem dX0_perform_201 : decode cX0_perform 201 = .ok (.ireturn, 1) := by decide +kernel
theorem dX0_perform_202 : decode cX0_perform 202 = .ok (.aload_n 0, 1) := by decide +kernel
theorem dX0_perform_203 : decode cX0_perform 203 = .ok (.aload_n 1, 1) := by decide +kernel
theorem dX0_perform_204 : decode cX0_perform 204 = .ok (.iconst 0, 1) := by decide +kernel
theorem dX0_perform_205 : decode cX0_perform 205 = .ok (.iconst 2, 1) := by decide +kernel
theorem dX0_perform_206 : decode cX0_perform 206 = .ok (.iload 4, 2) := by decide +kernel
theorem dX0_perform_208 : decode cX0_perform 208 = .ok (.iload 7, 2) := by decide +kernel
theorem dX0_perform_210 : decode cX0_perform 210 = .ok (.invokestatic 32, 3) := by decide +kernel
theorem dX0_perform_213 : decode cX0_perform 213 = .ok (.aload_n 0, 1) := by decide +kernel
theorem dX0_perform_214 : decode cX0_perform 214 = .ok (.aload_n 1, 1) := by decide +kernel
theorem dX0_perform_215 : decode cX0_perform 215 = .ok (.aload_n 1, 1) := by decide +kernel
theorem dX0_perform_216 : decode cX0_perform 216 = .ok (.getfield 29, 3) := by decide +kernel
theorem dX0_perform_219 : decode cX0_perform 219 = .ok (.iconst 1, 1) := by decide +kernel
theorem dX0_perform_220 : decode cX0_perform 220 = .ok (.iconst 1, 1) := by decide +kernel
theorem dX0_perform_221 : decode cX0_perform 221 = .ok (.iload 7, 2) := by decide +kernel
theorem dX0_perform_223 : decode cX0_perform 223 = .ok (.invokestatic 32, 3) := by decide +kernel
theorem dX0_perform_226 : decode cX0_perform 226 = .ok (.iadd, 1) := by decide +kernel
theorem dX0_perform_227 : decode cX0_perform 227 = .ok (.ireturn, 1) := by decide +kernel
theorem dX0_perform_228 : decode cX0_perform 228 = .ok (.aload_n 0, 1) := by decide +kernel
theorem dX0_perform_229 : decode cX0_perform 229 = .ok (.aload_n 1, 1) := by decide +kernel
theorem dX0_perform_230 : decode cX0_perform 230 = .ok (.iconst 1, 1) := by decide +kernel
theorem dX0_perform_231 : decode cX0_perform 231 = .ok (.iconst 0, 1) := by decide +kernel
theorem dX0_perform_232 : decode cX0_perform 232 = .ok (.iload 4, 2) := by decide +kernel
theorem dX0_perform_234 : decode cX0_perform 234 = .ok (.iload 7, 2) := by decide +kernel
theorem dX0_perform_236 : decode cX0_perform 236 = .ok (.invokestatic 32, 3) := by decide +kernel
theorem dX0_perform_239 : decode cX0_perform 239 = .ok (.ineg, 1) := by decide +kernel
theorem dX0_perform_240 : decode cX0_perform 240 = .ok (.ireturn, 1) := by decide +kernel
theorem dX0_perform_241 : decode cX0_perform 241 = .ok (.aload_n 0, 1) := by decide +kernel
theorem dX0_perform_242 : decode cX0_perform 242 = .ok (.aload_n 1, 1) := by decide +kernel
theorem dX0_perform_243 : decode cX0_perform 243 = .ok (.iconst 1, 1) := by decide +kernel
theorem dX0_perform_244 : decode cX0_perform 244 = .ok (.iconst 1, 1) := by decide +kernel
theorem dX0_perform_245 : decode cX0_perform 245 = .ok (.iload 4, 2) := by decide +kernel
theorem dX0_perform_247 : decode cX0_perform 247 = .ok (.iconst 1, 1) := by decide +kernel
theorem dX0_perform_248 : decode cX0_perform 248 = .ok (.iadd, 1) := by decide +kernel
theorem dX0_perform_249 : decode cX0_perform 249 = .ok (.iload 7, 2) := by decide +kernel
theorem dX0_perform_251 : decode cX0_perform 251 = .ok (.invokestatic 32, 3) := by decide +kernel
theorem dX0_perform_254 : decode cX0_perform 254 = .ok (.ireturn, 1) := by decide +kernel
theorem dX0_perform_255 : decode cX0_perform 255 = .ok (.aload_n 0, 1) := by decide +kernel
theorem dX0_perform_256 : decode cX0_perform 256 = .ok (.aload_n 1, 1) := by decide +kernel
theorem dX0_perform_257 : decode cX0_perform 257 = .ok (.iconst 1, 1) := by decide +kernel
theorem dX0_perform_258 : decode cX0_perform 258 = .ok (.iconst 2, 1) := by decide +kernel
theorem dX0_perform_259 : decode cX0_perform 259 = .ok (.iload 4, 2) := by decide +kernel
theorem dX0_perform_261 : decode cX0_perform 261 = .ok (.aload_n 1, 1) := by decide +kernel
theorem dX0_perform_262 : decode cX0_perform 262 = .ok (.getfield 23, 3) := by decide +kernel
theorem dX0_perform_265 : decode cX0_perform 265 = .ok (.isub, 1) := by decide +kernel
theorem dX0_perform_266 : decode cX0_perform 266 = .ok (.iload 7, 2) := by decide +kernel
theorem dX0_perform_268 : decode cX0_perform 268 = .ok (.invokestatic 32, 3) := by decide +kernel
theorem dX0_perform_271 : decode cX0_perform 271 = .ok (.ireturn, 1) := by decide +kernel
theorem dX0_perform_272 : decode cX0_perform 272 = .ok (.aload_n 0, 1) := by decide +kernel
theorem dX0_perform_273 : decode cX0_perform 273 = .ok (.aload_n 1, 1) := by decide +kernel
theorem dX0_perform_274 : decode cX0_perform 274 = .ok (.iconst 2, 1) := by decide +kernel
theorem dX0_perform_275 : decode cX0_perform 275 = .ok (.iconst 1, 1) := by decide +kernel
theorem dX0_perform_276 : decode cX0_perform 276 = .ok (.iload 4, 2) := by decide +kernel
theorem dX0_perform_278 : decode cX0_perform 278 = .ok (.iload 7, 2) := by decide +kernel
theorem dX0_perform_280 : decode cX0_perform 280 = .ok (.invokestatic 32, 3) := by decide +kernel
theorem dX0_perform_283 : decode cX0_perform 283 = .ok (.aload_n 0, 1) := by decide +kernel
theorem dX0_perform_284 : decode cX0_perform 284 = .ok (.aload_n 1, 1) := by decide +kernel
theorem dX0_perform_285 : decode cX0_perform 285 = .ok (.iconst 2, 1) := by decide +kernel
theorem dX0_perform_286 : decode cX0_perform 286 = .ok (.iconst 0, 1) := by decide +kernel
theorem dX0_perform_287 : decode cX0_perform 287 = .ok (.iconst 2, 1) := by decide +kernel
theorem dX0_perform_288 : decode cX0_perform 288 = .ok (.iload 7, 2) := by decide +kernel
theorem dX0_perform_290 : decode cX0_perform 290 = .ok (.invokestatic 32, 3) := by decide +kernel
theorem dX0_perform_293 : decode cX0_perform 293 = .ok (.iadd, 1) := by decide +kernel
theorem dX0_perform_294 : decode cX0_perform 294 = .ok (.ireturn, 1) := by decide +kernel
theorem dX0_perform_295 : decode cX0_perform 295 = .ok (.aload_n 0, 1) := by decide +kernel
theorem dX0_perform_296 : decode cX0_perform 296 = .ok (.aload_n 1, 1) := by decide +kernel
theorem dX0_perform_297 : decode cX0_perform 297 = .ok (.iconst 2, 1) := by decide +kernel
theorem dX0_perform_298 : decode cX0_perform 298 = .ok (.iconst 0, 1) := by decide +kernel
theorem dX0_perform_299 : decode cX0_perform 299 = .ok (.iload 4, 2) := by decide +kernel
theorem dX0_perform_301 : decode cX0_perform 301 = .ok (.iload 7, 2) := by decide +kernel
theorem dX0_perform_303 : decode cX0_perform 303 = .ok (.invokestatic 32, 3) := by decide +kernel
theorem dX0_perform_306 : decode cX0_perform 306 = .ok (.aload_n 1, 1) := by decide +kernel
theorem dX0_perform_307 : decode cX0_perform 307 = .ok (.getfield 36, 3) := by decide +kernel
theorem dX0_perform_310 : decode cX0_perform 310 = .ok (.ixor, 1) := by decide +kernel
theorem dX0_perform_311 : decode cX0_perform 311 = .ok (.ireturn, 1) := by decide +kernel
theorem dX0_perform_312 : decode cX0_perform 312 = .ok (.iconst 0, 1) := by decide +kernel
theorem dX0_perform_313 : decode cX0_perform 313 = .ok (.ireturn, 1) := by decide +kernel
theorem dX0_bodyOf_0 : decode cX0_bodyOf 0 = .ok (.iload_n 0, 1) := by decide +kernel
theorem dX0_bodyOf_1 : decode cX0_bodyOf 1 = .ok (.istore_n 2, 1) := by decide +kernel
theorem dX0_bodyOf_2 : decode cX0_bodyOf 2 = .ok (.iconst 0, 1) := by decide +kernel
theorem dX0_bodyOf_3 : decode cX0_bodyOf 3 = .ok (.istore_n 3, 1) := by decide +kernel
theorem dX0_bodyOf_4 : decode cX0_bodyOf 4 = .ok (.iload_n 3, 1) := by decide +kernel
theorem dX0_bodyOf_5 : decode cX0_bodyOf 5 = .ok (.getstatic 39, 3) := by decide +kernel
theorem dX0_bodyOf_8 : decode cX0_bodyOf 8 = .ok (.arraylength, 1) := by decide +kernel
theorem dX0_bodyOf_9 : decode cX0_bodyOf 9 = .ok (.if_icmp .ge 31, 3) := by decide +kernel
theorem dX0_bodyOf_12 : decode cX0_bodyOf 12 = .ok (.iload_n 2, 1) := by decide +kernel
theorem dX0_bodyOf_13 : decode cX0_bodyOf 13 = .ok (.ifCond .le 27, 3) := by decide +kernel
theorem dX0_bodyOf_16 : decode cX0_bodyOf 16 = .ok (.getstatic 42, 3) := by decide +kernel
theorem dX0_bodyOf_19 : decode cX0_bodyOf 19 = .ok (.iload_n 2, 1) := by decide +kernel
theorem dX0_bodyOf_20 : decode cX0_bodyOf 20 = .ok (.iconst 3, 1) := by decide +kernel
theorem dX0_bodyOf_21 : decode cX0_bodyOf 21 = .ok (.imul, 1) := by decide +kernel
theorem dX0_bodyOf_22 : decode cX0_bodyOf 22 = .ok (.iload_n 1, 1) := by decide +kernel
theorem dX0_bodyOf_23 : decode cX0_bodyOf 23 = .ok (.iadd, 1) := by decide +kernel
theorem dX0_bodyOf_24 : decode cX0_bodyOf 24 = .ok (.iaload, 1) := by decide +kernel
theorem dX0_bodyOf_25 : decode cX0_bodyOf 25 = .ok (.ifCond .ne 15, 3) := by decide +kernel
theorem dX0_bodyOf_28 : decode cX0_bodyOf 28 = .ok (.getstatic 39, 3) := by decide +kernel
theorem dX0_bodyOf_31 : decode cX0_bodyOf 31 = .ok (.iload_n 2, 1) := by decide +kernel
theorem dX0_bodyOf_32 : decode cX0_bodyOf 32 = .ok (.iaload, 1) := by decide +kernel
theorem dX0_bodyOf_33 : decode cX0_bodyOf 33 = .ok (.istore_n 2, 1) := by decide +kernel
theorem dX0_bodyOf_34 : decode cX0_bodyOf 34 = .ok (.iinc 3 1, 3) := by decide +kernel
theorem dX0_bodyOf_37 : decode cX0_bodyOf 37 = .ok (.goto (-33), 3) := by decide +kernel
theorem dX0_bodyOf_40 : decode cX0_bodyOf 40 = .ok (.getstatic 42, 3) := by decide +kernel
theorem dX0_bodyOf_43 : decode cX0_bodyOf 43 = .ok (.iload_n 2, 1) := by decide +kernel
theorem dX0_bodyOf_44 : decode cX0_bodyOf 44 = .ok (.iconst 3, 1) := by decide +kernel
theorem dX0_bodyOf_45 : decode cX0_bodyOf 45 = .ok (.imul, 1) := by decide +kernel
theorem dX0_bodyOf_46 : decode cX0_bodyOf 46 = .ok (.iload_n 1, 1) := by decide +kernel
theorem dX0_bodyOf_47 : decode cX0_bodyOf 47 = .ok (.iadd, 1) := by decide +kernel
theorem dX0_bodyOf_48 : decode cX0_bodyOf 48 = .ok (.iaload, 1) := by decide +kernel
theorem dX0_bodyOf_49 : decode cX0_bodyOf 49 = .ok (.ireturn, 1) := by decide +kernel
theorem dX0_note_0 : decode cX0_note 0 = .ok (.aload_n 0, 1) := by decide +kernel
theorem dX0_note_1 : decode cX0_note 1 = .ok (.getfield 45, 3) := by decide +kernel
theorem dX0_note_4 : decode cX0_note 4 = .ok (.bipush 20, 2) := by decide +kernel
theorem dX0_note_6 : decode cX0_note 6 = .ok (.if_icmp .ge 13, 3) := by decide +kernel
theorem dX0_note_9 : decode cX0_note 9 = .ok (.aload_n 0, 1) := by decide +kernel
theorem dX0_note_10 : decode cX0_note 10 = .ok (.getfield 11, 3) := by decide +kernel
theorem dX0_note_13 : decode cX0_note 13 = .ok (.aload_n 0, 1) := by decide +kernel
theorem dX0_note_14 : decode cX0_note 14 = .ok (.getfield 45, 3) := by decide +kernel
theorem dX0_note_17 : decode cX0_note 17 = .ok (.iload_n 1, 1) := by decide +kernel
theorem dX0_note_18 : decode cX0_note 18 = .ok (.iastore, 1) := by decide +kernel
theorem dX0_note_19 : decode cX0_note 19 = .ok (.aload_n 0, 1) := by decide +kernel
theorem dX0_note_20 : decode cX0_note 20 = .ok (.dup, 1) := by decide +kernel
theorem dX0_note_21 : decode cX0_note 21 = .ok (.getfield 45, 3) := by decide +kernel
theorem dX0_note_24 : decode cX0_note 24 = .ok (.iconst 1, 1) := by decide +kernel
theorem dX0_note_25 : decode cX0_note 25 = .ok (.iadd, 1) := by decide +kernel
theorem dX0_note_26 : decode cX0_note 26 = .ok (.putfield 45, 3) := by decide +kernel
theorem dX0_note_29 : decode cX0_note 29 = .ok (.return_, 1) := by decide +kernel
theorem dX1_init_0 : decode cX1_init 0 = .ok (.aload_n 0, 1) := by decide +kernel
theorem dX1_init_1 : decode cX1_init 1 = .ok (.invokespecial 1, 3) := by decide +kernel
theorem dX1_init_4 : decode cX1_init 4 = .ok (.aload_n 0, 1) := by decide +kernel
theorem dX1_init_5 : decode cX1_init 5 = .ok (.aconst_null, 1) := by decide +kernel
theorem dX1_init_6 : decode cX1_init 6 = .ok (.putfield 7, 3) := by decide +kernel
theorem dX1_init_9 : decode cX1_init 9 = .ok (.return_, 1) := by decide +kernel
theorem dX1_become_0 : decode cX1_become 0 = .ok (.aload_n 0, 1) := by decide +kernel
theorem dX1_become_1 : decode cX1_become 1 = .ok (.iload_n 1, 1) := by decide +kernel
theorem dX1_become_2 : decode cX1_become 2 = .ok (.putfield 13, 3) := by decide +kernel
theorem dX1_become_5 : decode cX1_become 5 = .ok (.aload_n 0, 1) := by decide +kernel
theorem dX1_become_6 : decode cX1_become 6 = .ok (.iload_n 2, 1) := by decide +kernel
theorem dX1_become_7 : decode cX1_become 7 = .ok (.putfield 17, 3) := by decide +kernel
theorem dX1_become_10 : decode cX1_become 10 = .ok (.aload_n 0, 1) := by decide +kernel
theorem dX1_become_11 : decode cX1_become 11 = .ok (.aload_n 3, 1) := by decide +kernel
theorem dX1_become_12 : decode cX1_become 12 = .ok (.putfield 7, 3) := by decide +kernel
theorem dX1_become_15 : decode cX1_become 15 = .ok (.return_, 1) := by decide +kernel
theorem dX2_init_0 : decode cX2_init 0 = .ok (.aload_n 0, 1) := by decide +kernel
theorem dX2_init_1 : decode cX2_init 1 = .ok (.invokespecial 3, 3) := by decide +kernel
theorem dX2_init_4 : decode cX2_init 4 = .ok (.aload_n 0, 1) := by decide +kernel
theorem dX2_init_5 : decode cX2_init 5 = .ok (.iconst 3, 1) := by decide +kernel
theorem dX2_init_6 : decode cX2_init 6 = .ok (.newarray .int, 2) := by decide +kernel
theorem dX2_init_8 : decode cX2_init 8 = .ok (.putfield 9, 3) := by decide +kernel
theorem dX2_init_11 : decode cX2_init 11 = .ok (.return_, 1) := by decide +kernel
theorem dX2_begin_0 : decode cX2_begin 0 = .ok (.aload_n 0, 1) := by decide +kernel
theorem dX2_begin_1 : decode cX2_begin 1 = .ok (.iconst 0, 1) := by decide +kernel
theorem dX2_begin_2 : decode cX2_begin 2 = .ok (.putfield 15, 3) := by decide +kernel
theorem dX2_begin_5 : decode cX2_begin 5 = .ok (.aload_n 0, 1) := by decide +kernel
theorem dX2_begin_6 : decode cX2_begin 6 = .ok (.bipush (-5), 2) := by decide +kernel
theorem dX2_begin_8 : decode cX2_begin 8 = .ok (.putfield 19, 3) := by decide +kernel
theorem dX2_begin_11 : decode cX2_begin 11 = .ok (.iconst 0, 1) := by decide +kernel
theorem dX2_begin_12 : decode cX2_begin 12 = .ok (.istore_n 1, 1) := by decide +kernel
theorem dX2_begin_13 : decode cX2_begin 13 = .ok (.iload_n 1, 1) := by decide +kernel
theorem dX2_begin_14 : decode cX2_begin 14 = .ok (.iconst 3, 1) := by decide +kernel
theorem dX2_begin_15 : decode cX2_begin 15 = .ok (.if_icmp .ge 17, 3) := by decide +kernel
theorem dX2_begin_18 : decode cX2_begin 18 = .ok (.aload_n 0, 1) := by decide +kernel
theorem dX2_begin_19 : decode cX2_begin 19 = .ok (.getfield 9, 3) := by decide +kernel
theorem dX2_begin_22 : decode cX2_begin 22 = .ok (.iload_n 1, 1) := by decide +kernel
theorem dX2_begin_23 : decode cX2_begin 23 = .ok (.bipush (-5), 2) := by decide +kernel
theorem dX2_begin_25 : decode cX2_begin 25 = .ok (.iastore, 1) := by decide +kernel
theorem dX2_begin_26 : decode cX2_begin 26 = .ok (.iinc 1 1, 3) := by decide +kernel
theorem dX2_begin_29 : decode cX2_begin 29 = .ok (.goto (-16), 3) := by decide +kernel
theorem dX2_begin_32 : decode cX2_begin 32 = .ok (.return_, 1) := by decide +kernel
theorem dX2_note_0 : decode cX2_note 0 = .ok (.aload_n 0, 1) := by decide +kernel
theorem dX2_note_1 : decode cX2_note 1 = .ok (.getfield 9, 3) := by decide +kernel
theorem dX2_note_4 : decode cX2_note 4 = .ok (.iload_n 1, 1) := by decide +kernel
theorem dX2_note_5 : decode cX2_note 5 = .ok (.iload_n 2, 1) := by decide +kernel
theorem dX2_note_6 : decode cX2_note 6 = .ok (.iastore, 1) := by decide +kernel
theorem dX2_note_7 : decode cX2_note 7 = .ok (.aload_n 0, 1) := by decide +kernel
theorem dX2_note_8 : decode cX2_note 8 = .ok (.dup, 1) := by decide +kernel
theorem dX2_note_9 : decode cX2_note 9 = .ok (.getfield 15, 3) := by decide +kernel
theorem dX2_note_12 : decode cX2_note 12 = .ok (.iload_n 3, 1) := by decide +kernel
theorem dX2_note_13 : decode cX2_note 13 = .ok (.iadd, 1) := by decide +kernel
theorem dX2_note_14 : decode cX2_note 14 = .ok (.putfield 15, 3) := by decide +kernel
theorem dX2_note_17 : decode cX2_note 17 = .ok (.aload_n 0, 1) := by decide +kernel
theorem dX2_note_18 : decode cX2_note 18 = .ok (.aload_n 0, 1) := by decide +kernel
theorem dX2_note_19 : decode cX2_note 19 = .ok (.getfield 19, 3) := by decide +kernel
theorem dX2_note_22 : decode cX2_note 22 = .ok (.iload_n 2, 1) := by decide +kernel
theorem dX2_note_23 : decode cX2_note 23 = .ok (.invokestatic 22, 3) := by decide +kernel
theorem dX2_note_26 : decode cX2_note 26 = .ok (.putfield 19, 3) := by decide +kernel
theorem dX2_note_29 : decode cX2_note 29 = .ok (.return_, 1) := by decide +kernel
theorem dX2_tell_0 : decode cX2_tell 0 = .ok (.iload_n 1, 1) := by decide +kernel
theorem dX2_tell_1 : decode cX2_tell 1 = .ok (.iconst 2, 1) := by decide +kernel
theorem dX2_tell_2 : decode cX2_tell 2 = .ok (.if_icmp .ge 19, 3) := by decide +kernel
theorem dX2_tell_5 : decode cX2_tell 5 = .ok (.iload_n 1, 1) := by decide +kernel
theorem dX2_tell_6 : decode cX2_tell 6 = .ok (.ifCond .ne 10, 3) := by decide +kernel
theorem dX2_tell_9 : decode cX2_tell 9 = .ok (.aload_n 0, 1) := by decide +kernel
theorem dX2_tell_10 : decode cX2_tell 10 = .ok (.getfield 15, 3) := by decide +kernel
theorem dX2_tell_13 : decode cX2_tell 13 = .ok (.goto 7, 3) := by decide +kernel
theorem dX2_tell_16 : decode cX2_tell 16 = .ok (.aload_n 0, 1) := by decide +kernel
theorem dX2_tell_17 : decode cX2_tell 17 = .ok (.getfield 19, 3) := by decide +kernel
theorem dX2_tell_20 : decode cX2_tell 20 = .ok (.ireturn, 1) := by decide +kernel
theorem dX2_tell_21 : decode cX2_tell 21 = .ok (.iload_n 1, 1) := by decide +kernel
theorem dX2_tell_22 : decode cX2_tell 22 = .ok (.bipush 10, 2) := by decide +kernel
theorem dX2_tell_24 : decode cX2_tell 24 = .ok (.if_icmp .lt 21, 3) := by decide +kernel
theorem dX2_tell_27 : decode cX2_tell 27 = .ok (.iload_n 1, 1) := by decide +kernel
theorem dX2_tell_28 : decode cX2_tell 28 = .ok (.bipush 13, 2) := by decide +kernel
theorem dX2_tell_30 : decode cX2_tell 30 = .ok (.if_icmp .ge 15, 3) := by decide +kernel
theorem dX2_tell_33 : decode cX2_tell 33 = .ok (.aload_n 0, 1) := by decide +kernel
theorem dX2_tell_34 : decode cX2_tell 34 = .ok (.getfield 9, 3) := by decide +kernel
theorem dX2_tell_37 : decode cX2_tell 37 = .ok (.iload_n 1, 1) := by decide +kernel
theorem dX2_tell_38 : decode cX2_tell 38 = .ok (.bipush 10, 2) := by decide +kernel
theorem dX2_tell_40 : decode cX2_tell 40 = .ok (.isub, 1) := by decide +kernel
theorem dX2_tell_41 : decode cX2_tell 41 = .ok (.iaload, 1) := by decide +kernel
theorem dX2_tell_42 : decode cX2_tell 42 = .ok (.goto 4, 3) := by decide +kernel
theorem dX2_tell_45 : decode cX2_tell 45 = .ok (.iconst (-1), 1) := by decide +kernel
theorem dX2_tell_46 : decode cX2_tell 46 = .ok (.ireturn, 1) := by decide +kernel
theorem dX2_forgetOrder_0 : decode cX2_forgetOrder 0 = .ok (.aload_n 0, 1) := by decide +kernel
theorem dX2_forgetOrder_1 : decode cX2_forgetOrder 1 = .ok (.iconst (-1), 1) := by decide +kernel
theorem dX2_forgetOrder_2 : decode cX2_forgetOrder 2 = .ok (.putfield 28, 3) := by decide +kernel
theorem dX2_forgetOrder_5 : decode cX2_forgetOrder 5 = .ok (.return_, 1) := by decide +kernel
theorem dX2_compare_0 : decode cX2_compare 0 = .ok (.aload_n 0, 1) := by decide +kernel
theorem dX2_compare_1 : decode cX2_compare 1 = .ok (.getfield 19, 3) := by decide +kernel
theorem dX2_compare_4 : decode cX2_compare 4 = .ok (.bipush (-5), 2) := by decide +kernel
theorem dX2_compare_6 : decode cX2_compare 6 = .ok (.if_icmp .eq 27, 3) := by decide +kernel
theorem dX2_compare_9 : decode cX2_compare 9 = .ok (.aload_n 0, 1) := by decide +kernel
theorem dX2_compare_10 : decode cX2_compare 10 = .ok (.getfield 31, 3) := by decide +kernel
theorem dX2_compare_13 : decode cX2_compare 13 = .ok (.bipush (-5), 2) := by decide +kernel
theorem dX2_compare_15 : decode cX2_compare 15 = .ok (.if_icmp .eq 14, 3) := by decide +kernel
theorem dX2_compare_18 : decode cX2_compare 18 = .ok (.aload_n 0, 1) := by decide +kernel
theorem dX2_compare_19 : decode cX2_compare 19 = .ok (.getfield 19, 3) := by decide +kernel
theorem dX2_compare_22 : decode cX2_compare 22 = .ok (.aload_n 0, 1) := by decide +kernel
theorem dX2_compare_23 : decode cX2_compare 23 = .ok (.getfield 31, 3) := by decide +kernel
theorem dX2_compare_26 : decode cX2_compare 26 = .ok (.if_icmp .ge 7, 3) := by decide +kernel
theorem dX2_compare_29 : decode cX2_compare 29 = .ok (.iconst 1, 1) := by decide +kernel
theorem dX2_compare_30 : decode cX2_compare 30 = .ok (.goto 4, 3) := by decide +kernel
theorem dX2_compare_33 : decode cX2_compare 33 = .ok (.iconst 0, 1) := by decide +kernel
theorem dX2_compare_34 : decode cX2_compare 34 = .ok (.istore_n 2, 1) := by decide +kernel
theorem dX2_compare_35 : decode cX2_compare 35 = .ok (.aload_n 0, 1) := by decide +kernel
theorem dX2_compare_36 : decode cX2_compare 36 = .ok (.getfield 28, 3) := by decide +kernel
theorem dX2_compare_39 : decode cX2_compare 39 = .ok (.iconst (-1), 1) := by decide +kernel
theorem dX2_compare_40 : decode cX2_compare 40 = .ok (.if_icmp .eq 29, 3) := by decide +kernel
theorem dX2_compare_43 : decode cX2_compare 43 = .ok (.aload_n 0, 1) := by decide +kernel
theorem dX2_compare_44 : decode cX2_compare 44 = .ok (.getfield 15, 3) := by decide +kernel
theorem dX2_compare_47 : decode cX2_compare 47 = .ok (.aload_n 0, 1) := by decide +kernel
theorem dX2_compare_48 : decode cX2_compare 48 = .ok (.getfield 34, 3) := by decide +kernel
theorem dX2_compare_51 : decode cX2_compare 51 = .ok (.if_icmp .gt 18, 3) := by decide +kernel
theorem dX2_compare_54 : decode cX2_compare 54 = .ok (.aload_n 0, 1) := by decide +kernel
theorem dX2_compare_55 : decode cX2_compare 55 = .ok (.getfield 15, 3) := by decide +kernel
theorem dX2_compare_58 : decode cX2_compare 58 = .ok (.aload_n 0, 1) := by decide +kernel
theorem dX2_compare_59 : decode cX2_compare 59 = .ok (.getfield 34, 3) := by decide +kernel
theorem dX2_compare_62 : decode cX2_compare 62 = .ok (.if_icmp .ne 28, 3) := by decide +kernel
theorem dX2_compare_65 : decode cX2_compare 65 = .ok (.iload_n 2, 1) := by decide +kernel
theorem dX2_compare_66 : decode cX2_compare 66 = .ok (.ifCond .eq 24, 3) := by decide +kernel
theorem dX2_compare_69 : decode cX2_compare 69 = .ok (.aload_n 0, 1) := by decide +kernel
theorem dX2_compare_70 : decode cX2_compare 70 = .ok (.iload_n 1, 1) := by decide +kernel
theorem dX2_compare_71 : decode cX2_compare 71 = .ok (.putfield 28, 3) := by decide +kernel
theorem dX2_compare_74 : decode cX2_compare 74 = .ok (.aload_n 0, 1) := by decide +kernel
theorem dX2_compare_75 : decode cX2_compare 75 = .ok (.aload_n 0, 1) := by decide +kernel
theorem dX2_compare_76 : decode cX2_compare 76 = .ok (.getfield 15, 3) := by decide +kernel
theorem dX2_compare_79 : decode cX2_compare 79 = .ok (.putfield 34, 3) := by decide +kernel
theorem dX2_compare_82 : decode cX2_compare 82 = .ok (.aload_n 0, 1) := by decide +kernel
theorem dX2_compare_83 : decode cX2_compare 83 = .ok (.aload_n 0, 1) := by decide +kernel
theorem dX2_compare_84 : decode cX2_compare 84 = .ok (.getfield 19, 3) := by decide +kernel
theorem dX2_compare_87 : decode cX2_compare 87 = .ok (.putfield 31, 3) := by decide +kernel
theorem dX2_compare_90 : decode cX2_compare 90 = .ok (.return_, 1) := by decide +kernel
theorem dX2_placeAt_0 : decode cX2_placeAt 0 = .ok (.aload_n 0, 1) := by decide +kernel
theorem dX2_placeAt_1 : decode cX2_placeAt 1 = .ok (.getfield 28, 3) := by decide +kernel
theorem dX2_placeAt_4 : decode cX2_placeAt 4 = .ok (.iconst 3, 1) := by decide +kernel
theorem dX2_placeAt_5 : decode cX2_placeAt 5 = .ok (.imul, 1) := by decide +kernel
theorem dX2_placeAt_6 : decode cX2_placeAt 6 = .ok (.iload_n 1, 1) := by decide +kernel
theorem dX2_placeAt_7 : decode cX2_placeAt 7 = .ok (.iadd, 1) := by decide +kernel
theorem dX2_placeAt_8 : decode cX2_placeAt 8 = .ok (.istore_n 3, 1) := by decide +kernel
theorem dX2_placeAt_9 : decode cX2_placeAt 9 = .ok (.iload_n 1, 1) := by decide +kernel
theorem dX2_placeAt_10 : decode cX2_placeAt 10 = .ok (.ifCond .lt 28, 3) := by decide +kernel
theorem dX2_placeAt_13 : decode cX2_placeAt 13 = .ok (.iload_n 1, 1) := by decide +kernel
theorem dX2_placeAt_14 : decode cX2_placeAt 14 = .ok (.iload_n 2, 1) := by decide +kernel
theorem dX2_placeAt_15 : decode cX2_placeAt 15 = .ok (.if_icmp .ge 23, 3) := by decide +kernel
theorem dX2_placeAt_18 : decode cX2_placeAt 18 = .ok (.iload_n 3, 1) := by decide +kernel
theorem dX2_placeAt_19 : decode cX2_placeAt 19 = .ok (.ifCond .lt 19, 3) := by decide +kernel
theorem dX2_placeAt_22 : decode cX2_placeAt 22 = .ok (.iload_n 3, 1) := by decide +kernel
theorem dX2_placeAt_23 : decode cX2_placeAt 23 = .ok (.getstatic 37, 3) := by decide +kernel
theorem dX2_placeAt_26 : decode cX2_placeAt 26 = .ok (.arraylength, 1) := by decide +kernel
theorem dX2_placeAt_27 : decode cX2_placeAt 27 = .ok (.if_icmp .ge 11, 3) := by decide +kernel
theorem dX2_placeAt_30 : decode cX2_placeAt 30 = .ok (.getstatic 37, 3) := by decide +kernel
theorem dX2_placeAt_33 : decode cX2_placeAt 33 = .ok (.iload_n 3, 1) := by decide +kernel
theorem dX2_placeAt_34 : decode cX2_placeAt 34 = .ok (.iaload, 1) := by decide +kernel
theorem dX2_placeAt_35 : decode cX2_placeAt 35 = .ok (.goto 5, 3) := by decide +kernel
theorem dX2_placeAt_38 : decode cX2_placeAt 38 = .ok (.bipush (-5), 2) := by decide +kernel
theorem dX2_placeAt_40 : decode cX2_placeAt 40 = .ok (.ireturn, 1) := by decide +kernel
theorem dX3_init_0 : decode cX3_init 0 = .ok (.aload_n 0, 1) := by decide +kernel
theorem dX3_init_1 : decode cX3_init 1 = .ok (.invokespecial 3, 3) := by decide +kernel
theorem dX3_init_4 : decode cX3_init 4 = .ok (.aload_n 0, 1) := by decide +kernel
theorem dX3_init_5 : decode cX3_init 5 = .ok (.iconst 5, 1) := by decide +kernel
theorem dX3_init_6 : decode cX3_init 6 = .ok (.newarray .int, 2) := by decide +kernel
theorem dX3_init_8 : decode cX3_init 8 = .ok (.putfield 9, 3) := by decide +kernel
theorem dX3_init_11 : decode cX3_init 11 = .ok (.aload_n 0, 1) := by decide +kernel
theorem dX3_init_12 : decode cX3_init 12 = .ok (.bipush 6, 2) := by decide +kernel
theorem dX3_init_14 : decode cX3_init 14 = .ok (.newarray .int, 2) := by decide +kernel
theorem dX3_init_16 : decode cX3_init 16 = .ok (.putfield 15, 3) := by decide +kernel
theorem dX3_init_19 : decode cX3_init 19 = .ok (.aload_n 0, 1) := by decide +kernel
theorem dX3_init_20 : decode cX3_init 20 = .ok (.sipush 186, 3) := by decide +kernel
theorem dX3_init_23 : decode cX3_init 23 = .ok (.newarray .int, 2) := by decide +kernel
theorem dX3_init_25 : decode cX3_init 25 = .ok (.putfield 18, 3) := by decide +kernel
theorem dX3_init_28 : decode cX3_init 28 = .ok (.aload_n 0, 1) := by decide +kernel
theorem dX3_init_29 : decode cX3_init 29 = .ok (.sipush 186, 3) := by decide +kernel
theorem dX3_init_32 : decode cX3_init 32 = .ok (.newarray .int, 2) := by decide +kernel
theorem dX3_init_34 : decode cX3_init 34 = .ok (.putfield 21, 3) := by decide +kernel
theorem dX3_init_37 : decode cX3_init 37 = .ok (.aload_n 0, 1) := by decide +kernel
theorem dX3_init_38 : decode cX3_init 38 = .ok (.aconst_null, 1) := by decide +kernel
theorem dX3_init_39 : decode cX3_init 39 = .ok (.putfield 24, 3) := by decide +kernel
theorem dX3_init_42 : decode cX3_init 42 = .ok (.aload_n 0, 1) := by decide +kernel
theorem dX3_init_43 : decode cX3_init 43 = .ok (.aconst_null, 1) := by decide +kernel
theorem dX3_init_44 : decode cX3_init 44 = .ok (.putfield 28, 3) := by decide +kernel
theorem dX3_init_47 : decode cX3_init 47 = .ok (.return_, 1) := by decide +kernel
theorem dX3_earliest_0 : decode cX3_earliest 0 = .ok (.aload_n 0, 1) := by decide +kernel
theorem dX3_earliest_1 : decode cX3_earliest 1 = .ok (.aload_n 1, 1) := by decide +kernel
theorem dX3_earliest_2 : decode cX3_earliest 2 = .ok (.putfield 24, 3) := by decide +kernel
theorem dX3_earliest_5 : decode cX3_earliest 5 = .ok (.aload_n 0, 1) := by decide +kernel
theorem dX3_earliest_6 : decode cX3_earliest 6 = .ok (.aload_n 2, 1) := by decide +kernel
theorem dX3_earliest_7 : decode cX3_earliest 7 = .ok (.putfield 28, 3) := by decide +kernel
theorem dX3_earliest_10 : decode cX3_earliest 10 = .ok (.aload_n 0, 1) := by decide +kernel
theorem dX3_earliest_11 : decode cX3_earliest 11 = .ok (.aload_n 3, 1) := by decide +kernel
theorem dX3_earliest_12 : decode cX3_earliest 12 = .ok (.getfield 32, 3) := by decide +kernel
theorem dX3_earliest_15 : decode cX3_earliest 15 = .ok (.putfield 38, 3) := by decide +kernel
theorem dX3_earliest_18 : decode cX3_earliest 18 = .ok (.aload_n 0, 1) := by decide +kernel
theorem dX3_earliest_19 : decode cX3_earliest 19 = .ok (.aload_n 0, 1) := by decide +kernel
theorem dX3_earliest_20 : decode cX3_earliest 20 = .ok (.getfield 24, 3) := by decide +kernel
theorem dX3_earliest_23 : decode cX3_earliest 23 = .ok (.getfield 39, 3) := by decide +kernel
theorem dX3_earliest_26 : decode cX3_earliest 26 = .ok (.aload_n 0, 1) := by decide +kernel
theorem dX3_earliest_27 : decode cX3_earliest 27 = .ok (.getfield 38, 3) := by decide +kernel
theorem dX3_earliest_30 : decode cX3_earliest 30 = .ok (.imul, 1) := by decide +kernel
theorem dX3_earliest_31 : decode cX3_earliest 31 = .ok (.putfield 44, 3) := by decide +kernel
theorem dX3_earliest_34 : decode cX3_earliest 34 = .ok (.aload_n 0, 1) := by decide +kernel
theorem dX3_earliest_35 : decode cX3_earliest 35 = .ok (.aload_n 0, 1) := by decide +kernel
theorem dX3_earliest_36 : decode cX3_earliest 36 = .ok (.getfield 24, 3) := by decide +kernel
theorem dX3_earliest_39 : decode cX3_earliest 39 = .ok (.getfield 47, 3) := by decide +kernel
theorem dX3_earliest_42 : decode cX3_earliest 42 = .ok (.aload_n 0, 1) := by decide +kernel
theorem dX3_earliest_43 : decode cX3_earliest 43 = .ok (.getfield 38, 3) := by decide +kernel
theorem dX3_earliest_46 : decode cX3_earliest 46 = .ok (.imul, 1) := by decide +kernel
theorem dX3_earliest_47 : decode cX3_earliest 47 = .ok (.putfield 50, 3) := by decide +kernel
theorem dX3_earliest_50 : decode cX3_earliest 50 = .ok (.aload_n 0, 1) := by decide +kernel
theorem dX3_earliest_51 : decode cX3_earliest 51 = .ok (.aload_n 3, 1) := by decide +kernel
theorem dX3_earliest_52 : decode cX3_earliest 52 = .ok (.getfield 53, 3) := by decide +kernel
theorem dX3_earliest_55 : decode cX3_earliest 55 = .ok (.invokevirtual 56, 3) := by decide +kernel
theorem dX3_earliest_58 : decode cX3_earliest 58 = .ok (.iconst 0, 1) := by decide +kernel
theorem dX3_earliest_59 : decode cX3_earliest 59 = .ok (.istore 4, 2) := by decide +kernel
theorem dX3_earliest_61 : decode cX3_earliest 61 = .ok (.iload 4, 2) := by decide +kernel
theorem dX3_earliest_63 : decode cX3_earliest 63 = .ok (.aload_n 0, 1) := by decide +kernel
theorem dX3_earliest_64 : decode cX3_earliest 64 = .ok (.getfield 24, 3) := by decide +kernel
theorem dX3_earliest_67 : decode cX3_earliest 67 = .ok (.getfield 60, 3) := by decide +kernel
theorem dX3_earliest_70 : decode cX3_earliest 70 = .ok (.if_icmp .ge 36, 3) := by decide +kernel
theorem dX3_earliest_73 : decode cX3_earliest 73 = .ok (.iconst 0, 1) := by decide +kernel
theorem dX3_earliest_74 : decode cX3_earliest 74 = .ok (.istore 5, 2) := by decide +kernel
theorem dX3_earliest_76 : decode cX3_earliest 76 = .ok (.iload 5, 2) := by decide +kernel
theorem dX3_earliest_78 : decode cX3_earliest 78 = .ok (.iload 4, 2) := by decide +kernel
theorem dX3_earliest_80 : decode cX3_earliest 80 = .ok (.bipush 6, 2) := by decide +kernel
theorem dX3_earliest_82 : decode cX3_earliest 82 = .ok (.imul, 1) := by decide +kernel
theorem dX3_earliest_83 : decode cX3_earliest 83 = .ok (.if_icmp .gt 17, 3) := by decide +kernel
theorem dX3_earliest_86 : decode cX3_earliest 86 = .ok (.aload_n 0, 1) := by decide +kernel
theorem dX3_earliest_87 : decode cX3_earliest 87 = .ok (.iload 4, 2) := by decide +kernel
theorem dX3_earliest_89 : decode cX3_earliest 89 = .ok (.iload 5, 2) := by decide +kernel
theorem dX3_earliest_91 : decode cX3_earliest 91 = .ok (.invokevirtual 62, 3) := by decide +kernel
theorem dX3_earliest_94 : decode cX3_earliest 94 = .ok (.iinc 5 1, 3) := by decide +kernel
theorem dX3_earliest_97 : decode cX3_earliest 97 = .ok (.goto (-21), 3) := by decide +kernel
theorem dX3_earliest_100 : decode cX3_earliest 100 = .ok (.iinc 4 1, 3) := by decide +kernel
theorem dX3_earliest_103 : decode cX3_earliest 103 = .ok (.goto (-42), 3) := by decide +kernel
theorem dX3_earliest_106 : decode cX3_earliest 106 = .ok (.aload_n 0, 1) := by decide +kernel
theorem dX3_earliest_107 : decode cX3_earliest 107 = .ok (.bipush (-5), 2) := by decide +kernel
theorem dX3_earliest_109 : decode cX3_earliest 109 = .ok (.putfield 66, 3) := by decide +kernel
theorem dX3_earliest_112 : decode cX3_earliest 112 = .ok (.bipush 30, 2) := by decide +kernel
theorem dX3_earliest_114 : decode cX3_earliest 114 = .ok (.istore 4, 2) := by decide +kernel
theorem dX3_earliest_116 : decode cX3_earliest 116 = .ok (.iload 4, 2) := by decide +kernel
theorem dX3_earliest_118 : decode cX3_earliest 118 = .ok (.ifCond .lt 49, 3) := by decide +kernel
theorem dX3_earliest_121 : decode cX3_earliest 121 = .ok (.aload_n 0, 1) := by decide +kernel
theorem dX3_earliest_122 : decode cX3_earliest 122 = .ok (.getfield 18, 3) := by decide +kernel
theorem dX3_earliest_125 : decode cX3_earliest 125 = .ok (.aload_n 0, 1) := by decide +kernel
theorem dX3_earliest_126 : decode cX3_earliest 126 = .ok (.getfield 24, 3) := by decide +kernel
theorem dX3_earliest_129 : decode cX3_earliest 129 = .ok (.getfield 60, 3) := by decide +kernel
theorem dX3_earliest_132 : decode cX3_earliest 132 = .ok (.bipush 31, 2) := by decide +kernel
theorem dX3_earliest_134 : decode cX3_earliest 134 = .ok (.imul, 1) := by decide +kernel
theorem dX3_earliest_135 : decode cX3_earliest 135 = .ok (.iload 4, 2) := by decide +kernel
theorem dX3_earliest_137 : decode cX3_earliest 137 = .ok (.iadd, 1) := by decide +kernel
theorem dX3_earliest_138 : decode cX3_earliest 138 = .ok (.iaload, 1) := by decide +kernel
theorem dX3_earliest_139 : decode cX3_earliest 139 = .ok (.ifCond .lt 22, 3) := by decide +kernel
theorem dX3_earliest_142 : decode cX3_earliest 142 = .ok (.aload_n 0, 1) := by decide +kernel
theorem dX3_earliest_143 : decode cX3_earliest 143 = .ok (.aload_n 0, 1) := by decide +kernel
theorem dX3_earliest_144 : decode cX3_earliest 144 = .ok (.getfield 15, 3) := by decide +kernel
theorem dX3_earliest_147 : decode cX3_earliest 147 = .ok (.aload_n 0, 1) := by decide +kernel
theorem dX3_earliest_148 : decode cX3_earliest 148 = .ok (.getfield 24, 3) := by decide +kernel
theorem dX3_earliest_151 : decode cX3_earliest 151 = .ok (.getfield 60, 3) := by decide +kernel
theorem dX3_earliest_154 : decode cX3_earliest 154 = .ok (.iaload, 1) := by decide +kernel
theorem dX3_earliest_155 : decode cX3_earliest 155 = .ok (.iload 4, 2) := by decide +kernel
theorem dX3_earliest_157 : decode cX3_earliest 157 = .ok (.iadd, 1) := by decide +kernel
theorem dX3_earliest_158 : decode cX3_earliest 158 = .ok (.putfield 66, 3) := by decide +kernel
theorem dX3_earliest_161 : decode cX3_earliest 161 = .ok (.iinc 4 (-1), 3) := by decide +kernel
theorem dX3_earliest_164 : decode cX3_earliest 164 = .ok (.goto (-48), 3) := by decide +kernel
theorem dX3_earliest_167 : decode cX3_earliest 167 = .ok (.aload_n 0, 1) := by decide +kernel
theorem dX3_earliest_168 : decode cX3_earliest 168 = .ok (.getfield 66, 3) := by decide +kernel
theorem dX3_earliest_171 : decode cX3_earliest 171 = .ok (.ireturn, 1) := by decide +kernel
theorem dX3_plan_0 : decode cX3_plan 0 = .ok (.iconst 0, 1) := by decide +kernel
theorem dX3_plan_1 : decode cX3_plan 1 = .ok (.istore_n 1, 1) := by decide +kernel
theorem dX3_plan_2 : decode cX3_plan 2 = .ok (.iload_n 1, 1) := by decide +kernel
theorem dX3_plan_3 : decode cX3_plan 3 = .ok (.iconst 5, 1) := by decide +kernel
theorem dX3_plan_4 : decode cX3_plan 4 = .ok (.if_icmp .ge 16, 3) := by decide +kernel
theorem dX3_plan_7 : decode cX3_plan 7 = .ok (.aload_n 0, 1) := by decide +kernel
theorem dX3_plan_8 : decode cX3_plan 8 = .ok (.getfield 9, 3) := by decide +kernel
theorem dX3_plan_11 : decode cX3_plan 11 = .ok (.iload_n 1, 1) := by decide +kernel
theorem dX3_plan_12 : decode cX3_plan 12 = .ok (.iconst 0, 1) := by decide +kernel
theorem dX3_plan_13 : decode cX3_plan 13 = .ok (.iastore, 1) := by decide +kernel
theorem dX3_plan_14 : decode cX3_plan 14 = .ok (.iinc 1 1, 3) := by decide +kernel
theorem dX3_plan_17 : decode cX3_plan 17 = .ok (.goto (-15), 3) := by decide +kernel
theorem dX3_plan_20 : decode cX3_plan 20 = .ok (.aload_n 0, 1) := by decide +kernel
theorem dX3_plan_21 : decode cX3_plan 21 = .ok (.getfield 24, 3) := by decide +kernel
theorem dX3_plan_24 : decode cX3_plan 24 = .ok (.ifnull 19, 3) := by decide +kernel
theorem dX3_plan_27 : decode cX3_plan 27 = .ok (.aload_n 0, 1) := by decide +kernel
theorem dX3_plan_28 : decode cX3_plan 28 = .ok (.getfield 28, 3) := by decide +kernel
theorem dX3_plan_31 : decode cX3_plan 31 = .ok (.ifnull 12, 3) := by decide +kernel
theorem dX3_plan_34 : decode cX3_plan 34 = .ok (.aload_n 0, 1) := by decide +kernel
theorem dX3_plan_35 : decode cX3_plan 35 = .ok (.getfield 66, 3) := by decide +kernel
theorem dX3_plan_38 : decode cX3_plan 38 = .ok (.bipush (-5), 2) := by decide +kernel
theorem dX3_plan_40 : decode cX3_plan 40 = .ok (.if_icmp .ne 4, 3) := by decide +kernel
theorem dX3_plan_43 : decode cX3_plan 43 = .ok (.return_, 1) := by decide +kernel
theorem dX3_plan_44 : decode cX3_plan 44 = .ok (.iconst 0, 1) := by decide +kernel
theorem dX3_plan_45 : decode cX3_plan 45 = .ok (.istore_n 1, 1) := by decide +kernel
theorem dX3_plan_46 : decode cX3_plan 46 = .ok (.iload_n 1, 1) := by decide +kernel
theorem dX3_plan_47 : decode cX3_plan 47 = .ok (.bipush 31, 2) := by decide +kernel
theorem dX3_plan_49 : decode cX3_plan 49 = .ok (.if_icmp .ge 53, 3) := by decide +kernel
theorem dX3_plan_52 : decode cX3_plan 52 = .ok (.aload_n 0, 1) := by decide +kernel
theorem dX3_plan_53 : decode cX3_plan 53 = .ok (.getfield 21, 3) := by decide +kernel
theorem dX3_plan_56 : decode cX3_plan 56 = .ok (.aload_n 0, 1) := by decide +kernel
theorem dX3_plan_57 : decode cX3_plan 57 = .ok (.getfield 24, 3) := by decide +kernel
theorem dX3_plan_60 : decode cX3_plan 60 = .ok (.getfield 60, 3) := by decide +kernel
theorem dX3_plan_63 : decode cX3_plan 63 = .ok (.bipush 31, 2) := by decide +kernel
theorem dX3_plan_65 : decode cX3_plan 65 = .ok (.imul, 1) := by decide +kernel
theorem dX3_plan_66 : decode cX3_plan 66 = .ok (.iload_n 1, 1) := by decide +kernel
theorem dX3_plan_67 : decode cX3_plan 67 = .ok (.iadd, 1) := by decide +kernel
theorem dX3_plan_68 : decode cX3_plan 68 = .ok (.aload_n 0, 1) := by decide +kernel
theorem dX3_plan_69 : decode cX3_plan 69 = .ok (.getfield 15, 3) := by decide +kernel
theorem dX3_plan_72 : decode cX3_plan 72 = .ok (.aload_n 0, 1) := by decide +kernel
theorem dX3_plan_73 : decode cX3_plan 73 = .ok (.getfield 24, 3) := by decide +kernel
theorem dX3_plan_76 : decode cX3_plan 76 = .ok (.getfield 60, 3) := by decide +kernel
theorem dX3_plan_79 : decode cX3_plan 79 = .ok (.iaload, 1) := by decide +kernel
theorem dX3_plan_80 : decode cX3_plan 80 = .ok (.iload_n 1, 1) := by decide +kernel
theorem dX3_plan_81 : decode cX3_plan 81 = .ok (.iadd, 1) := by decide +kernel
theorem dX3_plan_82 : decode cX3_plan 82 = .ok (.aload_n 0, 1) := by decide +kernel
theorem dX3_plan_83 : decode cX3_plan 83 = .ok (.getfield 66, 3) := by decide +kernel
theorem dX3_plan_86 : decode cX3_plan 86 = .ok (.if_icmp .ne 7, 3) := by decide +kernel
theorem dX3_plan_89 : decode cX3_plan 89 = .ok (.iconst 0, 1) := by decide +kernel
theorem dX3_plan_90 : decode cX3_plan 90 = .ok (.goto 5, 3) := by decide +kernel
theorem dX3_plan_93 : decode cX3_plan 93 = .ok (.ldc 69, 2) := by decide +kernel
theorem dX3_plan_95 : decode cX3_plan 95 = .ok (.iastore, 1) := by decide +kernel
theorem dX3_plan_96 : decode cX3_plan 96 = .ok (.iinc 1 1, 3) := by decide +kernel
theorem dX3_plan_99 : decode cX3_plan 99 = .ok (.goto (-53), 3) := by decide +kernel
theorem dX3_plan_102 : decode cX3_plan 102 = .ok (.aload_n 0, 1) := by decide +kernel
theorem dX3_plan_103 : decode cX3_plan 103 = .ok (.getfield 24, 3) := by decide +kernel
theorem dX3_plan_106 : decode cX3_plan 106 = .ok (.getfield 60, 3) := by decide +kernel
theorem dX3_plan_109 : decode cX3_plan 109 = .ok (.iconst 1, 1) := by decide +kernel
theorem dX3_plan_110 : decode cX3_plan 110 = .ok (.isub, 1) := by decide +kernel
theorem dX3_plan_111 : decode cX3_plan 111 = .ok (.istore_n 1, 1) := by decide +kernel
theorem dX3_plan_112 : decode cX3_plan 112 = .ok (.iload_n 1, 1) := by decide +kernel
theorem dX3_plan_113 : decode cX3_plan 113 = .ok (.ifCond .le 42, 3) := by decide +kernel
theorem dX3_plan_116 : decode cX3_plan 116 = .ok (.iconst 0, 1) := by decide +kernel
theorem dX3_plan_117 : decode cX3_plan 117 = .ok (.istore_n 2, 1) := by decide +kernel
theorem dX3_plan_118 : decode cX3_plan 118 = .ok (.iload_n 2, 1) := by decide +kernel
theorem dX3_plan_119 : decode cX3_plan 119 = .ok (.iload_n 1, 1) := by decide +kernel
theorem dX3_plan_120 : decode cX3_plan 120 = .ok (.bipush 6, 2) := by decide +kernel
theorem dX3_plan_122 : decode cX3_plan 122 = .ok (.imul, 1) := by decide +kernel
theorem dX3_plan_123 : decode cX3_plan 123 = .ok (.if_icmp .gt 26, 3) := by decide +kernel
theorem dX3_plan_126 : decode cX3_plan 126 = .ok (.aload_n 0, 1) := by decide +kernel
theorem dX3_plan_127 : decode cX3_plan 127 = .ok (.getfield 21, 3) := by decide +kernel
theorem dX3_plan_130 : decode cX3_plan 130 = .ok (.iload_n 1, 1) := by decide +kernel
theorem dX3_plan_131 : decode cX3_plan 131 = .ok (.bipush 31, 2) := by decide +kernel
theorem dX3_plan_133 : decode cX3_plan 133 = .ok (.imul, 1) := by decide +kernel
theorem dX3_plan_134 : decode cX3_plan 134 = .ok (.iload_n 2, 1) := by decide +kernel
theorem dX3_plan_135 : decode cX3_plan 135 = .ok (.iadd, 1) := by decide +kernel
theorem dX3_plan_136 : decode cX3_plan 136 = .ok (.aload_n 0, 1) := by decide +kernel
theorem dX3_plan_137 : decode cX3_plan 137 = .ok (.iload_n 1, 1) := by decide +kernel
theorem dX3_plan_138 : decode cX3_plan 138 = .ok (.iload_n 2, 1) := by decide +kernel
theorem dX3_plan_139 : decode cX3_plan 139 = .ok (.invokevirtual 70, 3) := by decide +kernel
theorem dX3_plan_142 : decode cX3_plan 142 = .ok (.iastore, 1) := by decide +kernel
theorem dX3_plan_143 : decode cX3_plan 143 = .ok (.iinc 2 1, 3) := by decide +kernel
theorem dX3_plan_146 : decode cX3_plan 146 = .ok (.goto (-28), 3) := by decide +kernel
theorem dX3_plan_149 : decode cX3_plan 149 = .ok (.iinc 1 (-1), 3) := by decide +kernel
theorem dX3_plan_152 : decode cX3_plan 152 = .ok (.goto (-40), 3) := by decide +kernel
theorem dX3_plan_155 : decode cX3_plan 155 = .ok (.iconst 0, 1) := by decide +kernel
theorem dX3_plan_156 : decode cX3_plan 156 = .ok (.istore_n 1, 1) := by decide +kernel
theorem dX3_plan_157 : decode cX3_plan 157 = .ok (.aload_n 0, 1) := by decide +kernel
theorem dX3_plan_158 : decode cX3_plan 158 = .ok (.getfield 18, 3) := by decide +kernel
theorem dX3_plan_161 : decode cX3_plan 161 = .ok (.iconst 0, 1) := by decide +kernel
theorem dX3_plan_162 : decode cX3_plan 162 = .ok (.iaload, 1) := by decide +kernel
theorem dX3_plan_163 : decode cX3_plan 163 = .ok (.istore_n 2, 1) := by decide +kernel
theorem dX3_plan_164 : decode cX3_plan 164 = .ok (.iconst 0, 1) := by decide +kernel
theorem dX3_plan_165 : decode cX3_plan 165 = .ok (.istore_n 3, 1) := by decide +kernel
theorem dX3_plan_166 : decode cX3_plan 166 = .ok (.iload_n 3, 1) := by decide +kernel
theorem dX3_plan_167 : decode cX3_plan 167 = .ok (.aload_n 0, 1) := by decide +kernel
theorem dX3_plan_168 : decode cX3_plan 168 = .ok (.getfield 24, 3) := by decide +kernel
theorem dX3_plan_171 : decode cX3_plan 171 = .ok (.getfield 60, 3) := by decide +kernel
theorem dX3_plan_174 : decode cX3_plan 174 = .ok (.if_icmp .ge 81, 3) := by decide +kernel
theorem dX3_plan_177 : decode cX3_plan 177 = .ok (.aload_n 0, 1) := by decide +kernel
theorem dX3_plan_178 : decode cX3_plan 178 = .ok (.getfield 9, 3) := by decide +kernel
theorem dX3_plan_181 : decode cX3_plan 181 = .ok (.iload_n 3, 1) := by decide +kernel
theorem dX3_plan_182 : decode cX3_plan 182 = .ok (.iaload, 1) := by decide +kernel
theorem dX3_plan_183 : decode cX3_plan 183 = .ok (.bipush 6, 2) := by decide +kernel
theorem dX3_plan_185 : decode cX3_plan 185 = .ok (.if_icmp .ge 32, 3) := by decide +kernel
theorem dX3_plan_188 : decode cX3_plan 188 = .ok (.aload_n 0, 1) := by decide +kernel
theorem dX3_plan_189 : decode cX3_plan 189 = .ok (.iload_n 3, 1) := by decide +kernel
theorem dX3_plan_190 : decode cX3_plan 190 = .ok (.iload_n 1, 1) := by decide +kernel
theorem dX3_plan_191 : decode cX3_plan 191 = .ok (.aload_n 0, 1) := by decide +kernel
theorem dX3_plan_192 : decode cX3_plan 192 = .ok (.getfield 9, 3) := by decide +kernel
theorem dX3_plan_195 : decode cX3_plan 195 = .ok (.iload_n 3, 1) := by decide +kernel
theorem dX3_plan_196 : decode cX3_plan 196 = .ok (.iaload, 1) := by decide +kernel
theorem dX3_plan_197 : decode cX3_plan 197 = .ok (.iload_n 2, 1) := by decide +kernel
theorem dX3_plan_198 : decode cX3_plan 198 = .ok (.invokevirtual 74, 3) := by decide +kernel
theorem dX3_plan_201 : decode cX3_plan 201 = .ok (.ifCond .ne 16, 3) := by decide +kernel
theorem dX3_plan_204 : decode cX3_plan 204 = .ok (.aload_n 0, 1) := by decide +kernel
theorem dX3_plan_205 : decode cX3_plan 205 = .ok (.getfield 9, 3) := by decide +kernel
theorem dX3_plan_208 : decode cX3_plan 208 = .ok (.iload_n 3, 1) := by decide +kernel
theorem dX3_plan_209 : decode cX3_plan 209 = .ok (.dup2, 1) := by decide +kernel
theorem dX3_plan_210 : decode cX3_plan 210 = .ok (.iaload, 1) := by decide +kernel
theorem dX3_plan_211 : decode cX3_plan 211 = .ok (.iconst 1, 1) := by decide +kernel
theorem dX3_plan_212 : decode cX3_plan 212 = .ok (.iadd, 1) := by decide +kernel
theorem dX3_plan_213 : decode cX3_plan 213 = .ok (.iastore, 1) := by decide +kernel
theorem dX3_plan_214 : decode cX3_plan 214 = .ok (.goto (-37), 3) := by decide +kernel
theorem dX3_plan_217 : decode cX3_plan 217 = .ok (.aload_n 0, 1) := by decide +kernel
theorem dX3_plan_218 : decode cX3_plan 218 = .ok (.iload_n 3, 1) := by decide +kernel
theorem dX3_plan_219 : decode cX3_plan 219 = .ok (.iload_n 1, 1) := by decide +kernel
theorem dX3_plan_220 : decode cX3_plan 220 = .ok (.aload_n 0, 1) := by decide +kernel
theorem dX3_plan_221 : decode cX3_plan 221 = .ok (.getfield 9, 3) := by decide +kernel
theorem dX3_plan_224 : decode cX3_plan 224 = .ok (.iload_n 3, 1) := by decide +kernel
theorem dX3_plan_225 : decode cX3_plan 225 = .ok (.iaload, 1) := by decide +kernel
theorem dX3_plan_226 : decode cX3_plan 226 = .ok (.invokevirtual 78, 3) := by decide +kernel
theorem dX3_plan_229 : decode cX3_plan 229 = .ok (.istore 4, 2) := by decide +kernel
theorem dX3_plan_231 : decode cX3_plan 231 = .ok (.aload_n 0, 1) := by decide +kernel
theorem dX3_plan_232 : decode cX3_plan 232 = .ok (.iload_n 3, 1) := by decide +kernel
theorem dX3_plan_233 : decode cX3_plan 233 = .ok (.iload_n 1, 1) := by decide +kernel
theorem dX3_plan_234 : decode cX3_plan 234 = .ok (.iload 4, 2) := by decide +kernel
theorem dX3_plan_236 : decode cX3_plan 236 = .ok (.iload_n 2, 1) := by decide +kernel
theorem dX3_plan_237 : decode cX3_plan 237 = .ok (.invokevirtual 82, 3) := by decide +kernel
theorem dX3_plan_240 : decode cX3_plan 240 = .ok (.istore_n 2, 1) := by decide +kernel
theorem dX3_plan_241 : decode cX3_plan 241 = .ok (.aload_n 0, 1) := by decide +kernel
theorem dX3_plan_242 : decode cX3_plan 242 = .ok (.iload_n 3, 1) := by decide +kernel
theorem dX3_plan_243 : decode cX3_plan 243 = .ok (.iload 4, 2) := by decide +kernel
theorem dX3_plan_245 : decode cX3_plan 245 = .ok (.invokevirtual 86, 3) := by decide +kernel
theorem dX3_plan_248 : decode cX3_plan 248 = .ok (.istore_n 1, 1) := by decide +kernel
theorem dX3_plan_249 : decode cX3_plan 249 = .ok (.iinc 3 1, 3) := by decide +kernel
theorem dX3_plan_252 : decode cX3_plan 252 = .ok (.goto (-86), 3) := by decide +kernel
theorem dX3_plan_255 : decode cX3_plan 255 = .ok (.return_, 1) := by decide +kernel
theorem dX3_begin_0 : decode cX3_begin 0 = .ok (.iconst 0, 1) := by decide +kernel
theorem dX3_begin_1 : decode cX3_begin 1 = .ok (.istore_n 2, 1) := by decide +kernel
theorem dX3_begin_2 : decode cX3_begin 2 = .ok (.iload_n 2, 1) := by decide +kernel
theorem dX3_begin_3 : decode cX3_begin 3 = .ok (.aload_n 0, 1) := by decide +kernel
theorem dX3_begin_4 : decode cX3_begin 4 = .ok (.getfield 18, 3) := by decide +kernel
theorem dX3_begin_7 : decode cX3_begin 7 = .ok (.arraylength, 1) := by decide +kernel
theorem dX3_begin_8 : decode cX3_begin 8 = .ok (.if_icmp .ge 16, 3) := by decide +kernel
theorem dX3_begin_11 : decode cX3_begin 11 = .ok (.aload_n 0, 1) := by decide +kernel
theorem dX3_begin_12 : decode cX3_begin 12 = .ok (.getfield 18, 3) := by decide +kernel
theorem dX3_begin_15 : decode cX3_begin 15 = .ok (.iload_n 2, 1) := by decide +kernel
theorem dX3_begin_16 : decode cX3_begin 16 = .ok (.iconst (-1), 1) := by decide +kernel
theorem dX3_begin_17 : decode cX3_begin 17 = .ok (.iastore, 1) := by decide +kernel
theorem dX3_begin_18 : decode cX3_begin 18 = .ok (.iinc 2 1, 3) := by decide +kernel
theorem dX3_begin_21 : decode cX3_begin 21 = .ok (.goto (-19), 3) := by decide +kernel
theorem dX3_begin_24 : decode cX3_begin 24 = .ok (.aload_n 0, 1) := by decide +kernel
theorem dX3_begin_25 : decode cX3_begin 25 = .ok (.getfield 15, 3) := by decide +kernel
theorem dX3_begin_28 : decode cX3_begin 28 = .ok (.iconst 0, 1) := by decide +kernel
theorem dX3_begin_29 : decode cX3_begin 29 = .ok (.iload_n 1, 1) := by decide +kernel
theorem dX3_begin_30 : decode cX3_begin 30 = .ok (.aload_n 0, 1) := by decide +kernel
theorem dX3_begin_31 : decode cX3_begin 31 = .ok (.getfield 24, 3) := by decide +kernel
theorem dX3_begin_34 : decode cX3_begin 34 = .ok (.getfield 89, 3) := by decide +kernel
theorem dX3_begin_37 : decode cX3_begin 37 = .ok (.iconst 0, 1) := by decide +kernel
theorem dX3_begin_38 : decode cX3_begin 38 = .ok (.iaload, 1) := by decide +kernel
theorem dX3_begin_39 : decode cX3_begin 39 = .ok (.iadd, 1) := by decide +kernel
theorem dX3_begin_40 : decode cX3_begin 40 = .ok (.iastore, 1) := by decide +kernel
theorem dX3_begin_41 : decode cX3_begin 41 = .ok (.iconst 0, 1) := by decide +kernel
theorem dX3_begin_42 : decode cX3_begin 42 = .ok (.istore_n 2, 1) := by decide +kernel
theorem dX3_begin_43 : decode cX3_begin 43 = .ok (.iload_n 2, 1) := by decide +kernel
theorem dX3_begin_44 : decode cX3_begin 44 = .ok (.aload_n 0, 1) := by decide +kernel
theorem dX3_begin_45 : decode cX3_begin 45 = .ok (.getfield 24, 3) := by decide +kernel
theorem dX3_begin_48 : decode cX3_begin 48 = .ok (.getfield 60, 3) := by decide +kernel
theorem dX3_begin_51 : decode cX3_begin 51 = .ok (.if_icmp .ge 47, 3) := by decide +kernel
theorem dX3_begin_54 : decode cX3_begin 54 = .ok (.aload_n 0, 1) := by decide +kernel
theorem dX3_begin_55 : decode cX3_begin 55 = .ok (.getfield 15, 3) := by decide +kernel
theorem dX3_begin_58 : decode cX3_begin 58 = .ok (.iload_n 2, 1) := by decide +kernel
theorem dX3_begin_59 : decode cX3_begin 59 = .ok (.iconst 1, 1) := by decide +kernel
theorem dX3_begin_60 : decode cX3_begin 60 = .ok (.iadd, 1) := by decide +kernel
theorem dX3_begin_61 : decode cX3_begin 61 = .ok (.aload_n 0, 1) := by decide +kernel
theorem dX3_begin_62 : decode cX3_begin 62 = .ok (.getfield 15, 3) := by decide +kernel
theorem dX3_begin_65 : decode cX3_begin 65 = .ok (.iload_n 2, 1) := by decide +kernel
theorem dX3_begin_66 : decode cX3_begin 66 = .ok (.iaload, 1) := by decide +kernel
theorem dX3_begin_67 : decode cX3_begin 67 = .ok (.aload_n 0, 1) := by decide +kernel
theorem dX3_begin_68 : decode cX3_begin 68 = .ok (.getfield 28, 3) := by decide +kernel
theorem dX3_begin_71 : decode cX3_begin 71 = .ok (.getfield 92, 3) := by decide +kernel
theorem dX3_begin_74 : decode cX3_begin 74 = .ok (.iload_n 2, 1) := by decide +kernel
theorem dX3_begin_75 : decode cX3_begin 75 = .ok (.iaload, 1) := by decide +kernel
theorem dX3_begin_76 : decode cX3_begin 76 = .ok (.invokestatic 97, 3) := by decide +kernel
theorem dX3_begin_79 : decode cX3_begin 79 = .ok (.aload_n 0, 1) := by decide +kernel
theorem dX3_begin_80 : decode cX3_begin 80 = .ok (.getfield 24, 3) := by decide +kernel
theorem dX3_begin_83 : decode cX3_begin 83 = .ok (.getfield 89, 3) := by decide +kernel
theorem dX3_begin_86 : decode cX3_begin 86 = .ok (.iload_n 2, 1) := by decide +kernel
theorem dX3_begin_87 : decode cX3_begin 87 = .ok (.iconst 1, 1) := by decide +kernel
theorem dX3_begin_88 : decode cX3_begin 88 = .ok (.iadd, 1) := by decide +kernel
theorem dX3_begin_89 : decode cX3_begin 89 = .ok (.iaload, 1) := by decide +kernel
theorem dX3_begin_90 : decode cX3_begin 90 = .ok (.iadd, 1) := by decide +kernel
theorem dX3_begin_91 : decode cX3_begin 91 = .ok (.iastore, 1) := by decide +kernel
theorem dX3_begin_92 : decode cX3_begin 92 = .ok (.iinc 2 1, 3) := by decide +kernel
theorem dX3_begin_95 : decode cX3_begin 95 = .ok (.goto (-52), 3) := by decide +kernel
theorem dX3_begin_98 : decode cX3_begin 98 = .ok (.aload_n 0, 1) := by decide +kernel
theorem dX3_begin_99 : decode cX3_begin 99 = .ok (.getfield 18, 3) := by decide +kernel
theorem dX3_begin_102 : decode cX3_begin 102 = .ok (.iconst 0, 1) := by decide +kernel
theorem dX3_begin_103 : decode cX3_begin 103 = .ok (.iconst (-1), 1) := by decide +kernel
theorem dX3_begin_104 : decode cX3_begin 104 = .ok (.aload_n 0, 1) := by decide +kernel
theorem dX3_begin_105 : decode cX3_begin 105 = .ok (.getfield 44, 3) := by decide +kernel
theorem dX3_begin_108 : decode cX3_begin 108 = .ok (.aload_n 0, 1) := by decide +kernel
theorem dX3_begin_109 : decode cX3_begin 109 = .ok (.getfield 24, 3) := by decide +kernel
theorem dX3_begin_112 : decode cX3_begin 112 = .ok (.iconst 0, 1) := by decide +kernel
theorem dX3_begin_113 : decode cX3_begin 113 = .ok (.iload_n 1, 1) := by decide +kernel
theorem dX3_begin_114 : decode cX3_begin 114 = .ok (.aload_n 0, 1) := by decide +kernel
theorem dX3_begin_115 : decode cX3_begin 115 = .ok (.getfield 38, 3) := by decide +kernel
theorem dX3_begin_118 : decode cX3_begin 118 = .ok (.invokevirtual 102, 3) := by decide +kernel
theorem dX3_begin_121 : decode cX3_begin 121 = .ok (.isub, 1) := by decide +kernel
theorem dX3_begin_122 : decode cX3_begin 122 = .ok (.invokestatic 97, 3) := by decide +kernel
theorem dX3_begin_125 : decode cX3_begin 125 = .ok (.iastore, 1) := by decide +kernel
theorem dX3_begin_126 : decode cX3_begin 126 = .ok (.return_, 1) := by decide +kernel
theorem dX3_leaving_0 : decode cX3_leaving 0 = .ok (.aload_n 0, 1) := by decide +kernel
theorem dX3_leaving_1 : decode cX3_leaving 1 = .ok (.getfield 15, 3) := by decide +kernel
theorem dX3_leaving_4 : decode cX3_leaving 4 = .ok (.iload_n 1, 1) := by decide +kernel
theorem dX3_leaving_5 : decode cX3_leaving 5 = .ok (.iaload, 1) := by decide +kernel
theorem dX3_leaving_6 : decode cX3_leaving 6 = .ok (.iload_n 2, 1) := by decide +kernel
theorem dX3_leaving_7 : decode cX3_leaving 7 = .ok (.iadd, 1) := by decide +kernel
theorem dX3_leaving_8 : decode cX3_leaving 8 = .ok (.aload_n 0, 1) := by decide +kernel
theorem dX3_leaving_9 : decode cX3_leaving 9 = .ok (.getfield 28, 3) := by decide +kernel
theorem dX3_leaving_12 : decode cX3_leaving 12 = .ok (.getfield 92, 3) := by decide +kernel
theorem dX3_leaving_15 : decode cX3_leaving 15 = .ok (.iload_n 1, 1) := by decide +kernel
theorem dX3_leaving_16 : decode cX3_leaving 16 = .ok (.iaload, 1) := by decide +kernel
theorem dX3_leaving_17 : decode cX3_leaving 17 = .ok (.invokestatic 97, 3) := by decide +kernel
theorem dX3_leaving_20 : decode cX3_leaving 20 = .ok (.iload_n 3, 1) := by decide +kernel
theorem dX3_leaving_21 : decode cX3_leaving 21 = .ok (.iadd, 1) := by decide +kernel
theorem dX3_leaving_22 : decode cX3_leaving 22 = .ok (.ireturn, 1) := by decide +kernel
theorem dX3_nextOf_0 : decode cX3_nextOf 0 = .ok (.iload_n 2, 1) := by decide +kernel
theorem dX3_nextOf_1 : decode cX3_nextOf 1 = .ok (.aload_n 0, 1) := by decide +kernel
theorem dX3_nextOf_2 : decode cX3_nextOf 2 = .ok (.getfield 24, 3) := by decide +kernel
theorem dX3_nextOf_5 : decode cX3_nextOf 5 = .ok (.getfield 89, 3) := by decide +kernel
theorem dX3_nextOf_8 : decode cX3_nextOf 8 = .ok (.iload_n 1, 1) := by decide +kernel
theorem dX3_nextOf_9 : decode cX3_nextOf 9 = .ok (.iconst 1, 1) := by decide +kernel
theorem dX3_nextOf_10 : decode cX3_nextOf 10 = .ok (.iadd, 1) := by decide +kernel
theorem dX3_nextOf_11 : decode cX3_nextOf 11 = .ok (.iaload, 1) := by decide +kernel
theorem dX3_nextOf_12 : decode cX3_nextOf 12 = .ok (.iadd, 1) := by decide +kernel
theorem dX3_nextOf_13 : decode cX3_nextOf 13 = .ok (.aload_n 0, 1) := by decide +kernel
theorem dX3_nextOf_14 : decode cX3_nextOf 14 = .ok (.getfield 15, 3) := by decide +kernel
theorem dX3_nextOf_17 : decode cX3_nextOf 17 = .ok (.iload_n 1, 1) := by decide +kernel
theorem dX3_nextOf_18 : decode cX3_nextOf 18 = .ok (.iconst 1, 1) := by decide +kernel
theorem dX3_nextOf_19 : decode cX3_nextOf 19 = .ok (.iadd, 1) := by decide +kernel
theorem dX3_nextOf_20 : decode cX3_nextOf 20 = .ok (.iaload, 1) := by decide +kernel
theorem dX3_nextOf_21 : decode cX3_nextOf 21 = .ok (.isub, 1) := by decide +kernel
theorem dX3_nextOf_22 : decode cX3_nextOf 22 = .ok (.ireturn, 1) := by decide +kernel
theorem dX3_brought_0 : decode cX3_brought 0 = .ok (.iload 4, 2) := by decide +kernel
theorem dX3_brought_2 : decode cX3_brought 2 = .ok (.iload_n 3, 1) := by decide +kernel
theorem dX3_brought_3 : decode cX3_brought 3 = .ok (.aload_n 0, 1) := by decide +kernel
theorem dX3_brought_4 : decode cX3_brought 4 = .ok (.getfield 15, 3) := by decide +kernel
theorem dX3_brought_7 : decode cX3_brought 7 = .ok (.iload_n 1, 1) := by decide +kernel
theorem dX3_brought_8 : decode cX3_brought 8 = .ok (.iaload, 1) := by decide +kernel
theorem dX3_brought_9 : decode cX3_brought 9 = .ok (.isub, 1) := by decide +kernel
theorem dX3_brought_10 : decode cX3_brought 10 = .ok (.iload_n 2, 1) := by decide +kernel
theorem dX3_brought_11 : decode cX3_brought 11 = .ok (.isub, 1) := by decide +kernel
theorem dX3_brought_12 : decode cX3_brought 12 = .ok (.aload_n 0, 1) := by decide +kernel
theorem dX3_brought_13 : decode cX3_brought 13 = .ok (.getfield 50, 3) := by decide +kernel
theorem dX3_brought_16 : decode cX3_brought 16 = .ok (.imul, 1) := by decide +kernel
theorem dX3_brought_17 : decode cX3_brought 17 = .ok (.isub, 1) := by decide +kernel
theorem dX3_brought_18 : decode cX3_brought 18 = .ok (.istore 5, 2) := by decide +kernel
theorem dX3_brought_20 : decode cX3_brought 20 = .ok (.iload 5, 2) := by decide +kernel
theorem dX3_brought_22 : decode cX3_brought 22 = .ok (.ifCond .ge 5, 3) := by decide +kernel
theorem dX3_brought_25 : decode cX3_brought 25 = .ok (.iconst (-1), 1) := by decide +kernel
theorem dX3_brought_26 : decode cX3_brought 26 = .ok (.ireturn, 1) := by decide +kernel
theorem dX3_brought_27 : decode cX3_brought 27 = .ok (.aload_n 0, 1) := by decide +kernel
theorem dX3_brought_28 : decode cX3_brought 28 = .ok (.getfield 44, 3) := by decide +kernel
theorem dX3_brought_31 : decode cX3_brought 31 = .ok (.iload 5, 2) := by decide +kernel
theorem dX3_brought_33 : decode cX3_brought 33 = .ok (.aload_n 0, 1) := by decide +kernel
theorem dX3_brought_34 : decode cX3_brought 34 = .ok (.getfield 28, 3) := by decide +kernel
theorem dX3_brought_37 : decode cX3_brought 37 = .ok (.iload_n 1, 1) := by decide +kernel
theorem dX3_brought_38 : decode cX3_brought 38 = .ok (.iload_n 3, 1) := by decide +kernel
theorem dX3_brought_39 : decode cX3_brought 39 = .ok (.invokevirtual 105, 3) := by decide +kernel
theorem dX3_brought_42 : decode cX3_brought 42 = .ok (.iadd, 1) := by decide +kernel
theorem dX3_brought_43 : decode cX3_brought 43 = .ok (.invokestatic 108, 3) := by decide +kernel
theorem dX3_brought_46 : decode cX3_brought 46 = .ok (.istore 6, 2) := by decide +kernel
theorem dX3_brought_48 : decode cX3_brought 48 = .ok (.iload 6, 2) := by decide +kernel
theorem dX3_brought_50 : decode cX3_brought 50 = .ok (.aload_n 0, 1) := by decide +kernel
theorem dX3_brought_51 : decode cX3_brought 51 = .ok (.getfield 24, 3) := by decide +kernel
theorem dX3_brought_54 : decode cX3_brought 54 = .ok (.iload_n 1, 1) := by decide +kernel
theorem dX3_brought_55 : decode cX3_brought 55 = .ok (.iconst 1, 1) := by decide +kernel
theorem dX3_brought_56 : decode cX3_brought 56 = .ok (.iadd, 1) := by decide +kernel
theorem dX3_brought_57 : decode cX3_brought 57 = .ok (.iload_n 3, 1) := by decide +kernel
theorem dX3_brought_58 : decode cX3_brought 58 = .ok (.aload_n 0, 1) := by decide +kernel
theorem dX3_brought_59 : decode cX3_brought 59 = .ok (.getfield 38, 3) := by decide +kernel
theorem dX3_brought_62 : decode cX3_brought 62 = .ok (.invokevirtual 102, 3) := by decide +kernel
theorem dX3_brought_65 : decode cX3_brought 65 = .ok (.isub, 1) := by decide +kernel
theorem dX3_brought_66 : decode cX3_brought 66 = .ok (.ireturn, 1) := by decide +kernel
theorem dX3_spread_0 : decode cX3_spread 0 = .ok (.aload_n 0, 1) := by decide +kernel
theorem dX3_spread_1 : decode cX3_spread 1 = .ok (.getfield 18, 3) := by decide +kernel
theorem dX3_spread_4 : decode cX3_spread 4 = .ok (.iload_n 1, 1) := by decide +kernel
theorem dX3_spread_5 : decode cX3_spread 5 = .ok (.bipush 31, 2) := by decide +kernel
theorem dX3_spread_7 : decode cX3_spread 7 = .ok (.imul, 1) := by decide +kernel
theorem dX3_spread_8 : decode cX3_spread 8 = .ok (.iload_n 2, 1) := by decide +kernel
theorem dX3_spread_9 : decode cX3_spread 9 = .ok (.iadd, 1) := by decide +kernel
theorem dX3_spread_10 : decode cX3_spread 10 = .ok (.iaload, 1) := by decide +kernel
theorem dX3_spread_11 : decode cX3_spread 11 = .ok (.istore_n 3, 1) := by decide +kernel
theorem dX3_spread_12 : decode cX3_spread 12 = .ok (.iconst 0, 1) := by decide +kernel
theorem dX3_spread_13 : decode cX3_spread 13 = .ok (.istore 4, 2) := by decide +kernel
theorem dX3_spread_15 : decode cX3_spread 15 = .ok (.iload 4, 2) := by decide +kernel
theorem dX3_spread_17 : decode cX3_spread 17 = .ok (.bipush 6, 2) := by decide +kernel
theorem dX3_spread_19 : decode cX3_spread 19 = .ok (.if_icmp .gt 80, 3) := by decide +kernel
theorem dX3_spread_22 : decode cX3_spread 22 = .ok (.iload_n 3, 1) := by decide +kernel
theorem dX3_spread_23 : decode cX3_spread 23 = .ok (.ifCond .lt 76, 3) := by decide +kernel
theorem dX3_spread_26 : decode cX3_spread 26 = .ok (.aload_n 0, 1) := by decide +kernel
theorem dX3_spread_27 : decode cX3_spread 27 = .ok (.iload_n 1, 1) := by decide +kernel
theorem dX3_spread_28 : decode cX3_spread 28 = .ok (.iload_n 2, 1) := by decide +kernel
theorem dX3_spread_29 : decode cX3_spread 29 = .ok (.iload 4, 2) := by decide +kernel
theorem dX3_spread_31 : decode cX3_spread 31 = .ok (.invokevirtual 78, 3) := by decide +kernel
theorem dX3_spread_34 : decode cX3_spread 34 = .ok (.istore 5, 2) := by decide +kernel
theorem dX3_spread_36 : decode cX3_spread 36 = .ok (.iload_n 1, 1) := by decide +kernel
theorem dX3_spread_37 : decode cX3_spread 37 = .ok (.iconst 1, 1) := by decide +kernel
theorem dX3_spread_38 : decode cX3_spread 38 = .ok (.iadd, 1) := by decide +kernel
theorem dX3_spread_39 : decode cX3_spread 39 = .ok (.bipush 31, 2) := by decide +kernel
theorem dX3_spread_41 : decode cX3_spread 41 = .ok (.imul, 1) := by decide +kernel
theorem dX3_spread_42 : decode cX3_spread 42 = .ok (.aload_n 0, 1) := by decide +kernel
theorem dX3_spread_43 : decode cX3_spread 43 = .ok (.iload_n 1, 1) := by decide +kernel
theorem dX3_spread_44 : decode cX3_spread 44 = .ok (.iload 5, 2) := by decide +kernel
theorem dX3_spread_46 : decode cX3_spread 46 = .ok (.invokevirtual 86, 3) := by decide +kernel
theorem dX3_spread_49 : decode cX3_spread 49 = .ok (.iadd, 1) := by decide +kernel
theorem dX3_spread_50 : decode cX3_spread 50 = .ok (.istore 6, 2) := by decide +kernel
theorem dX3_spread_52 : decode cX3_spread 52 = .ok (.iload 6, 2) := by decide +kernel
theorem dX3_spread_54 : decode cX3_spread 54 = .ok (.ifCond .lt 39, 3) := by decide +kernel
theorem dX3_spread_57 : decode cX3_spread 57 = .ok (.iload 6, 2) := by decide +kernel
theorem dX3_spread_59 : decode cX3_spread 59 = .ok (.aload_n 0, 1) := by decide +kernel
theorem dX3_spread_60 : decode cX3_spread 60 = .ok (.getfield 18, 3) := by decide +kernel
theorem dX3_spread_63 : decode cX3_spread 63 = .ok (.arraylength, 1) := by decide +kernel
theorem dX3_spread_64 : decode cX3_spread 64 = .ok (.if_icmp .ge 29, 3) := by decide +kernel
theorem dX3_spread_67 : decode cX3_spread 67 = .ok (.aload_n 0, 1) := by decide +kernel
theorem dX3_spread_68 : decode cX3_spread 68 = .ok (.getfield 18, 3) := by decide +kernel
theorem dX3_spread_71 : decode cX3_spread 71 = .ok (.iload 6, 2) := by decide +kernel
theorem dX3_spread_73 : decode cX3_spread 73 = .ok (.aload_n 0, 1) := by decide +kernel
theorem dX3_spread_74 : decode cX3_spread 74 = .ok (.getfield 18, 3) := by decide +kernel
theorem dX3_spread_77 : decode cX3_spread 77 = .ok (.iload 6, 2) := by decide +kernel
theorem dX3_spread_79 : decode cX3_spread 79 = .ok (.iaload, 1) := by decide +kernel
theorem dX3_spread_80 : decode cX3_spread 80 = .ok (.aload_n 0, 1) := by decide +kernel
theorem dX3_spread_81 : decode cX3_spread 81 = .ok (.iload_n 1, 1) := by decide +kernel
theorem dX3_spread_82 : decode cX3_spread 82 = .ok (.iload_n 2, 1) := by decide +kernel
theorem dX3_spread_83 : decode cX3_spread 83 = .ok (.iload 5, 2) := by decide +kernel
theorem dX3_spread_85 : decode cX3_spread 85 = .ok (.iload_n 3, 1) := by decide +kernel
theorem dX3_spread_86 : decode cX3_spread 86 = .ok (.invokevirtual 82, 3) := by decide +kernel
theorem dX3_spread_89 : decode cX3_spread 89 = .ok (.invokestatic 97, 3) := by decide +kernel
theorem dX3_spread_92 : decode cX3_spread 92 = .ok (.iastore, 1) := by decide +kernel
theorem dX3_spread_93 : decode cX3_spread 93 = .ok (.iinc 4 1, 3) := by decide +kernel
theorem dX3_spread_96 : decode cX3_spread 96 = .ok (.goto (-81), 3) := by decide +kernel
theorem dX3_spread_99 : decode cX3_spread 99 = .ok (.return_, 1) := by decide +kernel
theorem dX3_leastAt_0 : decode cX3_leastAt 0 = .ok (.ldc 69, 2) := by decide +kernel
theorem dX3_leastAt_2 : decode cX3_leastAt 2 = .ok (.istore_n 3, 1) := by decide +kernel
theorem dX3_leastAt_3 : decode cX3_leastAt 3 = .ok (.iconst 0, 1) := by decide +kernel
theorem dX3_leastAt_4 : decode cX3_leastAt 4 = .ok (.istore 4, 2) := by decide +kernel
theorem dX3_leastAt_6 : decode cX3_leastAt 6 = .ok (.iload 4, 2) := by decide +kernel
theorem dX3_leastAt_8 : decode cX3_leastAt 8 = .ok (.bipush 6, 2) := by decide +kernel
theorem dX3_leastAt_10 : decode cX3_leastAt 10 = .ok (.if_icmp .gt 97, 3) := by decide +kernel
theorem dX3_leastAt_13 : decode cX3_leastAt 13 = .ok (.aload_n 0, 1) := by decide +kernel
theorem dX3_leastAt_14 : decode cX3_leastAt 14 = .ok (.iload_n 1, 1) := by decide +kernel
theorem dX3_leastAt_15 : decode cX3_leastAt 15 = .ok (.iload_n 2, 1) := by decide +kernel
theorem dX3_leastAt_16 : decode cX3_leastAt 16 = .ok (.iload 4, 2) := by decide +kernel
theorem dX3_leastAt_18 : decode cX3_leastAt 18 = .ok (.invokevirtual 78, 3) := by decide +kernel
theorem dX3_leastAt_21 : decode cX3_leastAt 21 = .ok (.istore 5, 2) := by decide +kernel
theorem dX3_leastAt_23 : decode cX3_leastAt 23 = .ok (.aload_n 0, 1) := by decide +kernel
theorem dX3_leastAt_24 : decode cX3_leastAt 24 = .ok (.iload_n 1, 1) := by decide +kernel
theorem dX3_leastAt_25 : decode cX3_leastAt 25 = .ok (.iload 5, 2) := by decide +kernel
theorem dX3_leastAt_27 : decode cX3_leastAt 27 = .ok (.invokevirtual 111, 3) := by decide +kernel
theorem dX3_leastAt_30 : decode cX3_leastAt 30 = .ok (.aload_n 0, 1) := by decide +kernel
theorem dX3_leastAt_31 : decode cX3_leastAt 31 = .ok (.getfield 24, 3) := by decide +kernel
theorem dX3_leastAt_34 : decode cX3_leastAt 34 = .ok (.iload_n 1, 1) := by decide +kernel
theorem dX3_leastAt_35 : decode cX3_leastAt 35 = .ok (.iconst 1, 1) := by decide +kernel
theorem dX3_leastAt_36 : decode cX3_leastAt 36 = .ok (.iadd, 1) := by decide +kernel
theorem dX3_leastAt_37 : decode cX3_leastAt 37 = .ok (.iload 5, 2) := by decide +kernel
theorem dX3_leastAt_39 : decode cX3_leastAt 39 = .ok (.aload_n 0, 1) := by decide +kernel
theorem dX3_leastAt_40 : decode cX3_leastAt 40 = .ok (.getfield 38, 3) := by decide +kernel
theorem dX3_leastAt_43 : decode cX3_leastAt 43 = .ok (.invokevirtual 102, 3) := by decide +kernel
theorem dX3_leastAt_46 : decode cX3_leastAt 46 = .ok (.iadd, 1) := by decide +kernel
theorem dX3_leastAt_47 : decode cX3_leastAt 47 = .ok (.istore 6, 2) := by decide +kernel
theorem dX3_leastAt_49 : decode cX3_leastAt 49 = .ok (.iload 6, 2) := by decide +kernel
theorem dX3_leastAt_51 : decode cX3_leastAt 51 = .ok (.aload_n 0, 1) := by decide +kernel
theorem dX3_leastAt_52 : decode cX3_leastAt 52 = .ok (.getfield 44, 3) := by decide +kernel
theorem dX3_leastAt_55 : decode cX3_leastAt 55 = .ok (.if_icmp .gt 46, 3) := by decide +kernel
theorem dX3_leastAt_58 : decode cX3_leastAt 58 = .ok (.iload 5, 2) := by decide +kernel
theorem dX3_leastAt_60 : decode cX3_leastAt 60 = .ok (.aload_n 0, 1) := by decide +kernel
theorem dX3_leastAt_61 : decode cX3_leastAt 61 = .ok (.getfield 15, 3) := by decide +kernel
theorem dX3_leastAt_64 : decode cX3_leastAt 64 = .ok (.iload_n 1, 1) := by decide +kernel
theorem dX3_leastAt_65 : decode cX3_leastAt 65 = .ok (.iaload, 1) := by decide +kernel
theorem dX3_leastAt_66 : decode cX3_leastAt 66 = .ok (.isub, 1) := by decide +kernel
theorem dX3_leastAt_67 : decode cX3_leastAt 67 = .ok (.iload_n 2, 1) := by decide +kernel
theorem dX3_leastAt_68 : decode cX3_leastAt 68 = .ok (.isub, 1) := by decide +kernel
theorem dX3_leastAt_69 : decode cX3_leastAt 69 = .ok (.aload_n 0, 1) := by decide +kernel
theorem dX3_leastAt_70 : decode cX3_leastAt 70 = .ok (.getfield 50, 3) := by decide +kernel
theorem dX3_leastAt_73 : decode cX3_leastAt 73 = .ok (.imul, 1) := by decide +kernel
theorem dX3_leastAt_74 : decode cX3_leastAt 74 = .ok (.istore 7, 2) := by decide +kernel
theorem dX3_leastAt_76 : decode cX3_leastAt 76 = .ok (.iload_n 3, 1) := by decide +kernel
theorem dX3_leastAt_77 : decode cX3_leastAt 77 = .ok (.iload 7, 2) := by decide +kernel
theorem dX3_leastAt_79 : decode cX3_leastAt 79 = .ok (.iconst 0, 1) := by decide +kernel
theorem dX3_leastAt_80 : decode cX3_leastAt 80 = .ok (.iload 6, 2) := by decide +kernel
theorem dX3_leastAt_82 : decode cX3_leastAt 82 = .ok (.aload_n 0, 1) := by decide +kernel
theorem dX3_leastAt_83 : decode cX3_leastAt 83 = .ok (.getfield 28, 3) := by decide +kernel
theorem dX3_leastAt_86 : decode cX3_leastAt 86 = .ok (.iload_n 1, 1) := by decide +kernel
theorem dX3_leastAt_87 : decode cX3_leastAt 87 = .ok (.iload 5, 2) := by decide +kernel
theorem dX3_leastAt_89 : decode cX3_leastAt 89 = .ok (.invokevirtual 105, 3) := by decide +kernel
theorem dX3_leastAt_92 : decode cX3_leastAt 92 = .ok (.isub, 1) := by decide +kernel
theorem dX3_leastAt_93 : decode cX3_leastAt 93 = .ok (.invokestatic 97, 3) := by decide +kernel
theorem dX3_leastAt_96 : decode cX3_leastAt 96 = .ok (.iadd, 1) := by decide +kernel
theorem dX3_leastAt_97 : decode cX3_leastAt 97 = .ok (.invokestatic 108, 3) := by decide +kernel
theorem dX3_leastAt_100 : decode cX3_leastAt 100 = .ok (.istore_n 3, 1) := by decide +kernel
theorem dX3_leastAt_101 : decode cX3_leastAt 101 = .ok (.iinc 4 1, 3) := by decide +kernel
theorem dX3_leastAt_104 : decode cX3_leastAt 104 = .ok (.goto (-98), 3) := by decide +kernel
theorem dX3_leastAt_107 : decode cX3_leastAt 107 = .ok (.iload_n 3, 1) := by decide +kernel
theorem dX3_leastAt_108 : decode cX3_leastAt 108 = .ok (.ireturn, 1) := by decide +kernel
theorem dX3_leastNext_0 : decode cX3_leastNext 0 = .ok (.iload_n 1, 1) := by decide +kernel
theorem dX3_leastNext_1 : decode cX3_leastNext 1 = .ok (.iconst 1, 1) := by decide +kernel
theorem dX3_leastNext_2 : decode cX3_leastNext 2 = .ok (.iadd, 1) := by decide +kernel
theorem dX3_leastNext_3 : decode cX3_leastNext 3 = .ok (.bipush 31, 2) := by decide +kernel
theorem dX3_leastNext_5 : decode cX3_leastNext 5 = .ok (.imul, 1) := by decide +kernel
theorem dX3_leastNext_6 : decode cX3_leastNext 6 = .ok (.aload_n 0, 1) := by decide +kernel
theorem dX3_leastNext_7 : decode cX3_leastNext 7 = .ok (.iload_n 1, 1) := by decide +kernel
theorem dX3_leastNext_8 : decode cX3_leastNext 8 = .ok (.iload_n 2, 1) := by decide +kernel
theorem dX3_leastNext_9 : decode cX3_leastNext 9 = .ok (.invokevirtual 86, 3) := by decide +kernel
theorem dX3_leastNext_12 : decode cX3_leastNext 12 = .ok (.iadd, 1) := by decide +kernel
theorem dX3_leastNext_13 : decode cX3_leastNext 13 = .ok (.istore_n 3, 1) := by decide +kernel
theorem dX3_leastNext_14 : decode cX3_leastNext 14 = .ok (.iload_n 3, 1) := by decide +kernel
theorem dX3_leastNext_15 : decode cX3_leastNext 15 = .ok (.ifCond .lt 21, 3) := by decide +kernel
theorem dX3_leastNext_18 : decode cX3_leastNext 18 = .ok (.iload_n 3, 1) := by decide +kernel
theorem dX3_leastNext_19 : decode cX3_leastNext 19 = .ok (.aload_n 0, 1) := by decide +kernel
theorem dX3_leastNext_20 : decode cX3_leastNext 20 = .ok (.getfield 21, 3) := by decide +kernel
theorem dX3_leastNext_23 : decode cX3_leastNext 23 = .ok (.arraylength, 1) := by decide +kernel
theorem dX3_leastNext_24 : decode cX3_leastNext 24 = .ok (.if_icmp .ge 12, 3) := by decide +kernel
theorem dX3_leastNext_27 : decode cX3_leastNext 27 = .ok (.aload_n 0, 1) := by decide +kernel
theorem dX3_leastNext_28 : decode cX3_leastNext 28 = .ok (.getfield 21, 3) := by decide +kernel
theorem dX3_leastNext_31 : decode cX3_leastNext 31 = .ok (.iload_n 3, 1) := by decide +kernel
theorem dX3_leastNext_32 : decode cX3_leastNext 32 = .ok (.iaload, 1) := by decide +kernel
theorem dX3_leastNext_33 : decode cX3_leastNext 33 = .ok (.goto 5, 3) := by decide +kernel
theorem dX3_leastNext_36 : decode cX3_leastNext 36 = .ok (.ldc 69, 2) := by decide +kernel
theorem dX3_leastNext_38 : decode cX3_leastNext 38 = .ok (.ireturn, 1) := by decide +kernel
theorem dX3_leadsOn_0 : decode cX3_leadsOn 0 = .ok (.aload_n 0, 1) := by decide +kernel
theorem dX3_leadsOn_1 : decode cX3_leadsOn 1 = .ok (.iload_n 1, 1) := by decide +kernel
theorem dX3_leadsOn_2 : decode cX3_leadsOn 2 = .ok (.iload_n 2, 1) := by decide +kernel
theorem dX3_leadsOn_3 : decode cX3_leadsOn 3 = .ok (.iload_n 3, 1) := by decide +kernel
theorem dX3_leadsOn_4 : decode cX3_leadsOn 4 = .ok (.invokevirtual 78, 3) := by decide +kernel
theorem dX3_leadsOn_7 : decode cX3_leadsOn 7 = .ok (.istore 5, 2) := by decide +kernel
theorem dX3_leadsOn_9 : decode cX3_leadsOn 9 = .ok (.aload_n 0, 1) := by decide +kernel
theorem dX3_leadsOn_10 : decode cX3_leadsOn 10 = .ok (.iload_n 1, 1) := by decide +kernel
theorem dX3_leadsOn_11 : decode cX3_leadsOn 11 = .ok (.iload_n 2, 1) := by decide +kernel
theorem dX3_leadsOn_12 : decode cX3_leadsOn 12 = .ok (.iload 5, 2) := by decide +kernel
theorem dX3_leadsOn_14 : decode cX3_leadsOn 14 = .ok (.iload 4, 2) := by decide +kernel
theorem dX3_leadsOn_16 : decode cX3_leadsOn 16 = .ok (.invokevirtual 82, 3) := by decide +kernel
theorem dX3_leadsOn_19 : decode cX3_leadsOn 19 = .ok (.aload_n 0, 1) := by decide +kernel
theorem dX3_leadsOn_20 : decode cX3_leadsOn 20 = .ok (.iload_n 1, 1) := by decide +kernel
theorem dX3_leadsOn_21 : decode cX3_leadsOn 21 = .ok (.iload 5, 2) := by decide +kernel
theorem dX3_leadsOn_23 : decode cX3_leadsOn 23 = .ok (.invokevirtual 111, 3) := by decide +kernel
theorem dX3_leadsOn_26 : decode cX3_leadsOn 26 = .ok (.if_icmp .lt 7, 3) := by decide +kernel
theorem dX3_leadsOn_29 : decode cX3_leadsOn 29 = .ok (.iconst 1, 1) := by decide +kernel
theorem dX3_leadsOn_30 : decode cX3_leadsOn 30 = .ok (.goto 4, 3) := by decide +kernel
theorem dX3_leadsOn_33 : decode cX3_leadsOn 33 = .ok (.iconst 0, 1) := by decide +kernel
theorem dX3_leadsOn_34 : decode cX3_leadsOn 34 = .ok (.ireturn, 1) := by decide +kernel
theorem dX4_init_0 : decode cX4_init 0 = .ok (.aload_n 0, 1) := by decide +kernel
theorem dX4_init_1 : decode cX4_init 1 = .ok (.invokespecial 3, 3) := by decide +kernel
theorem dX4_init_4 : decode cX4_init 4 = .ok (.aload_n 0, 1) := by decide +kernel
theorem dX4_init_5 : decode cX4_init 5 = .ok (.bipush 100, 2) := by decide +kernel
theorem dX4_init_7 : decode cX4_init 7 = .ok (.newarray .byte, 2) := by decide +kernel
theorem dX4_init_9 : decode cX4_init 9 = .ok (.putfield 9, 3) := by decide +kernel
theorem dX4_init_12 : decode cX4_init 12 = .ok (.aload_n 0, 1) := by decide +kernel
theorem dX4_init_13 : decode cX4_init 13 = .ok (.bipush 12, 2) := by decide +kernel
theorem dX4_init_15 : decode cX4_init 15 = .ok (.newarray .int, 2) := by decide +kernel
theorem dX4_init_17 : decode cX4_init 17 = .ok (.putfield 15, 3) := by decide +kernel
theorem dX4_init_20 : decode cX4_init 20 = .ok (.aload_n 0, 1) := by decide +kernel
theorem dX4_init_21 : decode cX4_init 21 = .ok (.bipush 12, 2) := by decide +kernel
theorem dX4_init_23 : decode cX4_init 23 = .ok (.newarray .int, 2) := by decide +kernel
theorem dX4_init_25 : decode cX4_init 25 = .ok (.putfield 19, 3) := by decide +kernel
theorem dX4_init_28 : decode cX4_init 28 = .ok (.aload_n 0, 1) := by decide +kernel
theorem dX4_init_29 : decode cX4_init 29 = .ok (.bipush 12, 2) := by decide +kernel
theorem dX4_init_31 : decode cX4_init 31 = .ok (.newarray .int, 2) := by decide +kernel
theorem dX4_init_33 : decode cX4_init 33 = .ok (.putfield 22, 3) := by decide +kernel
theorem dX4_init_36 : decode cX4_init 36 = .ok (.aload_n 0, 1) := by decide +kernel
theorem dX4_init_37 : decode cX4_init 37 = .ok (.iconst 1, 1) := by decide +kernel
theorem dX4_init_38 : decode cX4_init 38 = .ok (.putfield 25, 3) := by decide +kernel
theorem dX4_init_41 : decode cX4_init 41 = .ok (.return_, 1) := by decide +kernel
theorem dX4_put_0 : decode cX4_put 0 = .ok (.aload_n 0, 1) := by decide +kernel
theorem dX4_put_1 : decode cX4_put 1 = .ok (.getfield 29, 3) := by decide +kernel
theorem dX4_put_4 : decode cX4_put 4 = .ok (.bipush 100, 2) := by decide +kernel
theorem dX4_put_6 : decode cX4_put 6 = .ok (.if_icmp .ge 23, 3) := by decide +kernel
theorem dX4_put_9 : decode cX4_put 9 = .ok (.aload_n 0, 1) := by decide +kernel
theorem dX4_put_10 : decode cX4_put 10 = .ok (.getfield 9, 3) := by decide +kernel
theorem dX4_put_13 : decode cX4_put 13 = .ok (.aload_n 0, 1) := by decide +kernel
theorem dX4_put_14 : decode cX4_put 14 = .ok (.getfield 29, 3) := by decide +kernel
theorem dX4_put_17 : decode cX4_put 17 = .ok (.iload_n 1, 1) := by decide +kernel
theorem dX4_put_18 : decode cX4_put 18 = .ok (.bastore, 1) := by decide +kernel
theorem dX4_put_19 : decode cX4_put 19 = .ok (.aload_n 0, 1) := by decide +kernel
theorem dX4_put_20 : decode cX4_put 20 = .ok (.dup, 1) := by decide +kernel
theorem dX4_put_21 : decode cX4_put 21 = .ok (.getfield 29, 3) := by decide +kernel
theorem dX4_put_24 : decode cX4_put 24 = .ok (.iconst 1, 1) := by decide +kernel
theorem dX4_put_25 : decode cX4_put 25 = .ok (.iadd, 1) := by decide +kernel
theorem dX4_put_26 : decode cX4_put 26 = .ok (.putfield 29, 3) := by decide +kernel
theorem dX4_put_29 : decode cX4_put 29 = .ok (.return_, 1) := by decide +kernel
theorem dX4_readInto_0 : decode cX4_readInto 0 = .ok (.aload_n 1, 1) := by decide +kernel
theorem dX4_readInto_1 : decode cX4_readInto 1 = .ok (.invokevirtual 32, 3) := by decide +kernel
theorem dX4_readInto_4 : decode cX4_readInto 4 = .ok (.aload_n 0, 1) := by decide +kernel
theorem dX4_readInto_5 : decode cX4_readInto 5 = .ok (.iconst 0, 1) := by decide +kernel
theorem dX4_readInto_6 : decode cX4_readInto 6 = .ok (.putfield 37, 3) := by decide +kernel
theorem dX4_readInto_9 : decode cX4_readInto 9 = .ok (.aload_n 0, 1) := by decide +kernel
theorem dX4_readInto_10 : decode cX4_readInto 10 = .ok (.iconst 1, 1) := by decide +kernel
theorem dX4_readInto_11 : decode cX4_readInto 11 = .ok (.putfield 40, 3) := by decide +kernel
theorem dX4_readInto_14 : decode cX4_readInto 14 = .ok (.aload_n 0, 1) := by decide +kernel
theorem dX4_readInto_15 : decode cX4_readInto 15 = .ok (.iconst 0, 1) := by decide +kernel
theorem dX4_readInto_16 : decode cX4_readInto 16 = .ok (.putfield 44, 3) := by decide +kernel
theorem dX4_readInto_19 : decode cX4_readInto 19 = .ok (.aload_n 0, 1) := by decide +kernel
theorem dX4_readInto_20 : decode cX4_readInto 20 = .ok (.aload_n 1, 1) := by decide +kernel
theorem dX4_readInto_21 : decode cX4_readInto 21 = .ok (.invokevirtual 47, 3) := by decide +kernel
theorem dX4_readInto_24 : decode cX4_readInto 24 = .ok (.iconst 1, 1) := by decide +kernel
theorem dX4_readInto_25 : decode cX4_readInto 25 = .ok (.istore_n 2, 1) := by decide +kernel
theorem dX4_readInto_26 : decode cX4_readInto 26 = .ok (.iload_n 2, 1) := by decide +kernel
theorem dX4_readInto_27 : decode cX4_readInto 27 = .ok (.bipush 12, 2) := by decide +kernel
theorem dX4_readInto_29 : decode cX4_readInto 29 = .ok (.if_icmp .ge 33, 3) := by decide +kernel
theorem dX4_readInto_32 : decode cX4_readInto 32 = .ok (.aload_n 0, 1) := by decide +kernel
theorem dX4_readInto_33 : decode cX4_readInto 33 = .ok (.invokevirtual 51, 3) := by decide +kernel
theorem dX4_readInto_36 : decode cX4_readInto 36 = .ok (.bipush 59, 2) := by decide +kernel
theorem dX4_readInto_38 : decode cX4_readInto 38 = .ok (.if_icmp .ne 24, 3) := by decide +kernel
theorem dX4_readInto_41 : decode cX4_readInto 41 = .ok (.aload_n 0, 1) := by decide +kernel
theorem dX4_readInto_42 : decode cX4_readInto 42 = .ok (.dup, 1) := by decide +kernel
theorem dX4_readInto_43 : decode cX4_readInto 43 = .ok (.getfield 37, 3) := by decide +kernel
theorem dX4_readInto_46 : decode cX4_readInto 46 = .ok (.iconst 1, 1) := by decide +kernel
theorem dX4_readInto_47 : decode cX4_readInto 47 = .ok (.iadd, 1) := by decide +kernel
theorem dX4_readInto_48 : decode cX4_readInto 48 = .ok (.putfield 37, 3) := by decide +kernel
theorem dX4_readInto_51 : decode cX4_readInto 51 = .ok (.aload_n 0, 1) := by decide +kernel
theorem dX4_readInto_52 : decode cX4_readInto 52 = .ok (.aload_n 1, 1) := by decide +kernel
theorem dX4_readInto_53 : decode cX4_readInto 53 = .ok (.invokevirtual 47, 3) := by decide +kernel
theorem dX4_readInto_56 : decode cX4_readInto 56 = .ok (.iinc 2 1, 3) := by decide +kernel
theorem dX4_readInto_59 : decode cX4_readInto 59 = .ok (.goto (-33), 3) := by decide +kernel
theorem dX4_readInto_62 : decode cX4_readInto 62 = .ok (.aload_n 0, 1) := by decide +kernel
theorem dX4_readInto_63 : decode cX4_readInto 63 = .ok (.getfield 40, 3) := by decide +kernel
theorem dX4_readInto_66 : decode cX4_readInto 66 = .ok (.ifCond .eq 14, 3) := by decide +kernel
theorem dX4_readInto_69 : decode cX4_readInto 69 = .ok (.aload_n 0, 1) := by decide +kernel
theorem dX4_readInto_70 : decode cX4_readInto 70 = .ok (.getfield 37, 3) := by decide +kernel
theorem dX4_readInto_73 : decode cX4_readInto 73 = .ok (.aload_n 0, 1) := by decide +kernel
theorem dX4_readInto_74 : decode cX4_readInto 74 = .ok (.getfield 29, 3) := by decide +kernel
theorem dX4_readInto_77 : decode cX4_readInto 77 = .ok (.if_icmp .ge 8, 3) := by decide +kernel
theorem dX4_readInto_80 : decode cX4_readInto 80 = .ok (.aload_n 0, 1) := by decide +kernel
theorem dX4_readInto_81 : decode cX4_readInto 81 = .ok (.getfield 37, 3) := by decide +kernel
theorem dX4_readInto_84 : decode cX4_readInto 84 = .ok (.ireturn, 1) := by decide +kernel
theorem dX4_readInto_85 : decode cX4_readInto 85 = .ok (.aload_n 1, 1) := by decide +kernel
theorem dX4_readInto_86 : decode cX4_readInto 86 = .ok (.invokevirtual 55, 3) := by decide +kernel
theorem dX4_readInto_89 : decode cX4_readInto 89 = .ok (.iconst 0, 1) := by decide +kernel
theorem dX4_readInto_90 : decode cX4_readInto 90 = .ok (.istore_n 2, 1) := by decide +kernel
theorem dX4_readInto_91 : decode cX4_readInto 91 = .ok (.iload_n 2, 1) := by decide +kernel
theorem dX4_readInto_92 : decode cX4_readInto 92 = .ok (.bipush 6, 2) := by decide +kernel
theorem dX4_readInto_94 : decode cX4_readInto 94 = .ok (.if_icmp .ge 30, 3) := by decide +kernel
theorem dX4_readInto_97 : decode cX4_readInto 97 = .ok (.iconst 1, 1) := by decide +kernel
theorem dX4_readInto_98 : decode cX4_readInto 98 = .ok (.istore_n 3, 1) := by decide +kernel
theorem dX4_readInto_99 : decode cX4_readInto 99 = .ok (.iload_n 3, 1) := by decide +kernel
theorem dX4_readInto_100 : decode cX4_readInto 100 = .ok (.bipush 9, 2) := by decide +kernel
theorem dX4_readInto_102 : decode cX4_readInto 102 = .ok (.if_icmp .gt 16, 3) := by decide +kernel
theorem dX4_readInto_105 : decode cX4_readInto 105 = .ok (.aload_n 0, 1) := by decide +kernel
theorem dX4_readInto_106 : decode cX4_readInto 106 = .ok (.aload_n 1, 1) := by decide +kernel
theorem dX4_readInto_107 : decode cX4_readInto 107 = .ok (.iload_n 2, 1) := by decide +kernel
theorem dX4_readInto_108 : decode cX4_readInto 108 = .ok (.iload_n 3, 1) := by decide +kernel
theorem dX4_readInto_109 : decode cX4_readInto 109 = .ok (.invokevirtual 58, 3) := by decide +kernel
theorem dX4_readInto_112 : decode cX4_readInto 112 = .ok (.iinc 3 1, 3) := by decide +kernel
theorem dX4_readInto_115 : decode cX4_readInto 115 = .ok (.goto (-16), 3) := by decide +kernel
theorem dX4_readInto_118 : decode cX4_readInto 118 = .ok (.iinc 2 1, 3) := by decide +kernel
theorem dX4_readInto_121 : decode cX4_readInto 121 = .ok (.goto (-30), 3) := by decide +kernel
theorem dX4_readInto_124 : decode cX4_readInto 124 = .ok (.iconst (-1), 1) := by decide +kernel
theorem dX4_readInto_125 : decode cX4_readInto 125 = .ok (.ireturn, 1) := by decide +kernel
theorem dX4_next_0 : decode cX4_next 0 = .ok (.aload_n 0, 1) := by decide +kernel
theorem dX4_next_1 : decode cX4_next 1 = .ok (.getfield 40, 3) := by decide +kernel
theorem dX4_next_4 : decode cX4_next 4 = .ok (.ifCond .eq 26, 3) := by decide +kernel
theorem dX4_next_7 : decode cX4_next 7 = .ok (.aload_n 0, 1) := by decide +kernel
theorem dX4_next_8 : decode cX4_next 8 = .ok (.getfield 37, 3) := by decide +kernel
theorem dX4_next_11 : decode cX4_next 11 = .ok (.aload_n 0, 1) := by decide +kernel
theorem dX4_next_12 : decode cX4_next 12 = .ok (.getfield 29, 3) := by decide +kernel
theorem dX4_next_15 : decode cX4_next 15 = .ok (.if_icmp .ge 15, 3) := by decide +kernel
theorem dX4_next_18 : decode cX4_next 18 = .ok (.aload_n 0, 1) := by decide +kernel
theorem dX4_next_19 : decode cX4_next 19 = .ok (.getfield 9, 3) := by decide +kernel
theorem dX4_next_22 : decode cX4_next 22 = .ok (.aload_n 0, 1) := by decide +kernel
theorem dX4_next_23 : decode cX4_next 23 = .ok (.getfield 37, 3) := by decide +kernel
theorem dX4_next_26 : decode cX4_next 26 = .ok (.baload, 1) := by decide +kernel
theorem dX4_next_27 : decode cX4_next 27 = .ok (.goto 4, 3) := by decide +kernel
theorem dX4_next_30 : decode cX4_next 30 = .ok (.iconst (-1), 1) := by decide +kernel
theorem dX4_next_31 : decode cX4_next 31 = .ok (.ireturn, 1) := by decide +kernel
theorem dX4_take_0 : decode cX4_take 0 = .ok (.aload_n 0, 1) := by decide +kernel
theorem dX4_take_1 : decode cX4_take 1 = .ok (.invokevirtual 51, 3) := by decide +kernel
theorem dX4_take_4 : decode cX4_take 4 = .ok (.iload_n 1, 1) := by decide +kernel
theorem dX4_take_5 : decode cX4_take 5 = .ok (.if_icmp .ne 16, 3) := by decide +kernel
theorem dX4_take_8 : decode cX4_take 8 = .ok (.aload_n 0, 1) := by decide +kernel
theorem dX4_take_9 : decode cX4_take 9 = .ok (.dup, 1) := by decide +kernel
theorem dX4_take_10 : decode cX4_take 10 = .ok (.getfield 37, 3) := by decide +kernel
theorem dX4_take_13 : decode cX4_take 13 = .ok (.iconst 1, 1) := by decide +kernel
theorem dX4_take_14 : decode cX4_take 14 = .ok (.iadd, 1) := by decide +kernel
theorem dX4_take_15 : decode cX4_take 15 = .ok (.putfield 37, 3) := by decide +kernel
theorem dX4_take_18 : decode cX4_take 18 = .ok (.goto 8, 3) := by decide +kernel
theorem dX4_take_21 : decode cX4_take 21 = .ok (.aload_n 0, 1) := by decide +kernel
theorem dX4_take_22 : decode cX4_take 22 = .ok (.iconst 0, 1) := by decide +kernel
theorem dX4_take_23 : decode cX4_take 23 = .ok (.putfield 40, 3) := by decide +kernel
theorem dX4_take_26 : decode cX4_take 26 = .ok (.return_, 1) := by decide +kernel
theorem dX4_takeWord_0 : decode cX4_takeWord 0 = .ok (.iconst 0, 1) := by decide +kernel
theorem dX4_takeWord_1 : decode cX4_takeWord 1 = .ok (.istore_n 2, 1) := by decide +kernel
theorem dX4_takeWord_2 : decode cX4_takeWord 2 = .ok (.iload_n 2, 1) := by decide +kernel
theorem dX4_takeWord_3 : decode cX4_takeWord 3 = .ok (.aload_n 1, 1) := by decide +kernel
theorem dX4_takeWord_4 : decode cX4_takeWord 4 = .ok (.invokevirtual 62, 3) := by decide +kernel
theorem dX4_takeWord_7 : decode cX4_takeWord 7 = .ok (.if_icmp .ge 18, 3) := by decide +kernel
theorem dX4_takeWord_10 : decode cX4_takeWord 10 = .ok (.aload_n 0, 1) := by decide +kernel
theorem dX4_takeWord_11 : decode cX4_takeWord 11 = .ok (.aload_n 1, 1) := by decide +kernel
theorem dX4_takeWord_12 : decode cX4_takeWord 12 = .ok (.iload_n 2, 1) := by decide +kernel
theorem dX4_takeWord_13 : decode cX4_takeWord 13 = .ok (.invokevirtual 66, 3) := by decide +kernel
theorem dX4_takeWord_16 : decode cX4_takeWord 16 = .ok (.invokevirtual 70, 3) := by decide +kernel
theorem dX4_takeWord_19 : decode cX4_takeWord 19 = .ok (.iinc 2 1, 3) := by decide +kernel
theorem dX4_takeWord_22 : decode cX4_takeWord 22 = .ok (.goto (-20), 3) := by decide +kernel
theorem dX4_takeWord_25 : decode cX4_takeWord 25 = .ok (.aload_n 0, 1) := by decide +kernel
theorem dX4_takeWord_26 : decode cX4_takeWord 26 = .ok (.bipush 32, 2) := by decide +kernel
theorem dX4_takeWord_28 : decode cX4_takeWord 28 = .ok (.invokevirtual 70, 3) := by decide +kernel
theorem dX4_takeWord_31 : decode cX4_takeWord 31 = .ok (.return_, 1) := by decide +kernel
theorem dX4_readClause_0 : decode cX4_readClause 0 = .ok (.aload_n 0, 1) := by decide +kernel
theorem dX4_readClause_1 : decode cX4_readClause 1 = .ok (.invokevirtual 51, 3) := by decide +kernel
theorem dX4_readClause_4 : decode cX4_readClause 4 = .ok (.lookupswitch 152 #[(99, 98), (100, 60), (108, 116), (115, 134), (119, 52)], 52) := by decide +kernel
theorem dX4_readClause_56 : decode cX4_readClause 56 = .ok (.aload_n 0, 1) := by decide +kernel
theorem dX4_readClause_57 : decode cX4_readClause 57 = .ok (.aload_n 1, 1) := by decide +kernel
theorem dX4_readClause_58 : decode cX4_readClause 58 = .ok (.invokevirtual 74, 3) := by decide +kernel
theorem dX4_readClause_61 : decode cX4_readClause 61 = .ok (.goto 100, 3) := by decide +kernel
theorem dX4_readClause_64 : decode cX4_readClause 64 = .ok (.aload_n 0, 1) := by decide +kernel
theorem dX4_readClause_65 : decode cX4_readClause 65 = .ok (.ldc 77, 2) := by decide +kernel
theorem dX4_readClause_67 : decode cX4_readClause 67 = .ok (.invokevirtual 79, 3) := by decide +kernel
theorem dX4_readClause_70 : decode cX4_readClause 70 = .ok (.aload_n 0, 1) := by decide +kernel
theorem dX4_readClause_71 : decode cX4_readClause 71 = .ok (.iconst 2, 1) := by decide +kernel
theorem dX4_readClause_72 : decode cX4_readClause 72 = .ok (.invokevirtual 83, 3) := by decide +kernel
theorem dX4_readClause_75 : decode cX4_readClause 75 = .ok (.istore_n 2, 1) := by decide +kernel
theorem dX4_readClause_76 : decode cX4_readClause 76 = .ok (.aload_n 0, 1) := by decide +kernel
theorem dX4_readClause_77 : decode cX4_readClause 77 = .ok (.bipush 32, 2) := by decide +kernel
theorem dX4_readClause_79 : decode cX4_readClause 79 = .ok (.invokevirtual 70, 3) := by decide +kernel
theorem dX4_readClause_82 : decode cX4_readClause 82 = .ok (.aload_n 0, 1) := by decide +kernel
theorem dX4_readClause_83 : decode cX4_readClause 83 = .ok (.getfield 37, 3) := by decide +kernel
theorem dX4_readClause_86 : decode cX4_readClause 86 = .ok (.istore_n 3, 1) := by decide +kernel
theorem dX4_readClause_87 : decode cX4_readClause 87 = .ok (.aload_n 0, 1) := by decide +kernel
theorem dX4_readClause_88 : decode cX4_readClause 88 = .ok (.iconst 0, 1) := by decide +kernel
theorem dX4_readClause_89 : decode cX4_readClause 89 = .ok (.invokevirtual 87, 3) := by decide +kernel
theorem dX4_readClause_92 : decode cX4_readClause 92 = .ok (.pop, 1) := by decide +kernel
theorem dX4_readClause_93 : decode cX4_readClause 93 = .ok (.aload_n 0, 1) := by decide +kernel
theorem dX4_readClause_94 : decode cX4_readClause 94 = .ok (.iload_n 2, 1) := by decide +kernel
theorem dX4_readClause_95 : decode cX4_readClause 95 = .ok (.iload_n 3, 1) := by decide +kernel
theorem dX4_readClause_96 : decode cX4_readClause 96 = .ok (.invokevirtual 90, 3) := by decide +kernel
theorem dX4_readClause_99 : decode cX4_readClause 99 = .ok (.goto 62, 3) := by decide +kernel
theorem dX4_readClause_102 : decode cX4_readClause 102 = .ok (.aload_n 0, 1) := by decide +kernel
theorem dX4_readClause_103 : decode cX4_readClause 103 = .ok (.ldc 94, 2) := by decide +kernel
theorem dX4_readClause_105 : decode cX4_readClause 105 = .ok (.invokevirtual 79, 3) := by decide +kernel
theorem dX4_readClause_108 : decode cX4_readClause 108 = .ok (.aload_n 1, 1) := by decide +kernel
theorem dX4_readClause_109 : decode cX4_readClause 109 = .ok (.aload_n 0, 1) := by decide +kernel
theorem dX4_readClause_110 : decode cX4_readClause 110 = .ok (.iconst 2, 1) := by decide +kernel
theorem dX4_readClause_111 : decode cX4_readClause 111 = .ok (.invokevirtual 83, 3) := by decide +kernel
theorem dX4_readClause_114 : decode cX4_readClause 114 = .ok (.putfield 96, 3) := by decide +kernel
theorem dX4_readClause_117 : decode cX4_readClause 117 = .ok (.goto 44, 3) := by decide +kernel
theorem dX4_readClause_120 : decode cX4_readClause 120 = .ok (.aload_n 0, 1) := by decide +kernel
theorem dX4_readClause_121 : decode cX4_readClause 121 = .ok (.ldc 98, 2) := by decide +kernel
theorem dX4_readClause_123 : decode cX4_readClause 123 = .ok (.invokevirtual 79, 3) := by decide +kernel
theorem dX4_readClause_126 : decode cX4_readClause 126 = .ok (.aload_n 1, 1) := by decide +kernel
theorem dX4_readClause_127 : decode cX4_readClause 127 = .ok (.aload_n 0, 1) := by decide +kernel
theorem dX4_readClause_128 : decode cX4_readClause 128 = .ok (.iconst 2, 1) := by decide +kernel
theorem dX4_readClause_129 : decode cX4_readClause 129 = .ok (.invokevirtual 83, 3) := by decide +kernel
theorem dX4_readClause_132 : decode cX4_readClause 132 = .ok (.putfield 100, 3) := by decide +kernel
theorem dX4_readClause_135 : decode cX4_readClause 135 = .ok (.goto 26, 3) := by decide +kernel
theorem dX4_readClause_138 : decode cX4_readClause 138 = .ok (.aload_n 0, 1) := by decide +kernel
theorem dX4_readClause_139 : decode cX4_readClause 139 = .ok (.ldc 102, 2) := by decide +kernel
theorem dX4_readClause_141 : decode cX4_readClause 141 = .ok (.invokevirtual 79, 3) := by decide +kernel
theorem dX4_readClause_144 : decode cX4_readClause 144 = .ok (.aload_n 1, 1) := by decide +kernel
theorem dX4_readClause_145 : decode cX4_readClause 145 = .ok (.aload_n 0, 1) := by decide +kernel
theorem dX4_readClause_146 : decode cX4_readClause 146 = .ok (.iconst 2, 1) := by decide +kernel
theorem dX4_readClause_147 : decode cX4_readClause 147 = .ok (.invokevirtual 83, 3) := by decide +kernel
theorem dX4_readClause_150 : decode cX4_readClause 150 = .ok (.putfield 104, 3) := by decide +kernel
theorem dX4_readClause_153 : decode cX4_readClause 153 = .ok (.goto 8, 3) := by decide +kernel
theorem dX4_readClause_156 : decode cX4_readClause 156 = .ok (.aload_n 0, 1) := by decide +kernel
theorem dX4_readClause_157 : decode cX4_readClause 157 = .ok (.iconst 0, 1) := by decide +kernel
theorem dX4_readClause_158 : decode cX4_readClause 158 = .ok (.putfield 40, 3) := by decide +kernel
theorem dX4_readClause_161 : decode cX4_readClause 161 = .ok (.return_, 1) := by decide +kernel
theorem dX4_readWellOrWay_0 : decode cX4_readWellOrWay 0 = .ok (.aload_n 0, 1) := by decide +kernel
theorem dX4_readWellOrWay_1 : decode cX4_readWellOrWay 1 = .ok (.getfield 37, 3) := by decide +kernel
theorem dX4_readWellOrWay_4 : decode cX4_readWellOrWay 4 = .ok (.iconst 1, 1) := by decide +kernel
theorem dX4_readWellOrWay_5 : decode cX4_readWellOrWay 5 = .ok (.iadd, 1) := by decide +kernel
theorem dX4_readWellOrWay_6 : decode cX4_readWellOrWay 6 = .ok (.aload_n 0, 1) := by decide +kernel
theorem dX4_readWellOrWay_7 : decode cX4_readWellOrWay 7 = .ok (.getfield 29, 3) := by decide +kernel
theorem dX4_readWellOrWay_10 : decode cX4_readWellOrWay 10 = .ok (.if_icmp .ge 35, 3) := by decide +kernel
theorem dX4_readWellOrWay_13 : decode cX4_readWellOrWay 13 = .ok (.aload_n 0, 1) := by decide +kernel
theorem dX4_readWellOrWay_14 : decode cX4_readWellOrWay 14 = .ok (.getfield 9, 3) := by decide +kernel
theorem dX4_readWellOrWay_17 : decode cX4_readWellOrWay 17 = .ok (.aload_n 0, 1) := by decide +kernel
theorem dX4_readWellOrWay_18 : decode cX4_readWellOrWay 18 = .ok (.getfield 37, 3) := by decide +kernel
theorem dX4_readWellOrWay_21 : decode cX4_readWellOrWay 21 = .ok (.iconst 1, 1) := by decide +kernel
theorem dX4_readWellOrWay_22 : decode cX4_readWellOrWay 22 = .ok (.iadd, 1) := by decide +kernel
theorem dX4_readWellOrWay_23 : decode cX4_readWellOrWay 23 = .ok (.baload, 1) := by decide +kernel
theorem dX4_readWellOrWay_24 : decode cX4_readWellOrWay 24 = .ok (.bipush 97, 2) := by decide +kernel
theorem dX4_readWellOrWay_26 : decode cX4_readWellOrWay 26 = .ok (.if_icmp .ne 19, 3) := by decide +kernel
theorem dX4_readWellOrWay_29 : decode cX4_readWellOrWay 29 = .ok (.aload_n 0, 1) := by decide +kernel
theorem dX4_readWellOrWay_30 : decode cX4_readWellOrWay 30 = .ok (.ldc 106, 2) := by decide +kernel
theorem dX4_readWellOrWay_32 : decode cX4_readWellOrWay 32 = .ok (.invokevirtual 79, 3) := by decide +kernel
theorem dX4_readWellOrWay_35 : decode cX4_readWellOrWay 35 = .ok (.aload_n 1, 1) := by decide +kernel
theorem dX4_readWellOrWay_36 : decode cX4_readWellOrWay 36 = .ok (.aload_n 0, 1) := by decide +kernel
theorem dX4_readWellOrWay_37 : decode cX4_readWellOrWay 37 = .ok (.iconst 1, 1) := by decide +kernel
theorem dX4_readWellOrWay_38 : decode cX4_readWellOrWay 38 = .ok (.invokevirtual 83, 3) := by decide +kernel
theorem dX4_readWellOrWay_41 : decode cX4_readWellOrWay 41 = .ok (.invokevirtual 108, 3) := by decide +kernel
theorem dX4_readWellOrWay_44 : decode cX4_readWellOrWay 44 = .ok (.return_, 1) := by decide +kernel
theorem dX4_readWellOrWay_45 : decode cX4_readWellOrWay 45 = .ok (.aload_n 0, 1) := by decide +kernel
theorem dX4_readWellOrWay_46 : decode cX4_readWellOrWay 46 = .ok (.ldc 112, 2) := by decide +kernel
theorem dX4_readWellOrWay_48 : decode cX4_readWellOrWay 48 = .ok (.invokevirtual 79, 3) := by decide +kernel
theorem dX4_readWellOrWay_51 : decode cX4_readWellOrWay 51 = .ok (.aload_n 0, 1) := by decide +kernel
theorem dX4_readWellOrWay_52 : decode cX4_readWellOrWay 52 = .ok (.iconst 2, 1) := by decide +kernel
theorem dX4_readWellOrWay_53 : decode cX4_readWellOrWay 53 = .ok (.invokevirtual 83, 3) := by decide +kernel
theorem dX4_readWellOrWay_56 : decode cX4_readWellOrWay 56 = .ok (.istore_n 2, 1) := by decide +kernel
theorem dX4_readWellOrWay_57 : decode cX4_readWellOrWay 57 = .ok (.aload_n 0, 1) := by decide +kernel
theorem dX4_readWellOrWay_58 : decode cX4_readWellOrWay 58 = .ok (.bipush 32, 2) := by decide +kernel
theorem dX4_readWellOrWay_60 : decode cX4_readWellOrWay 60 = .ok (.invokevirtual 70, 3) := by decide +kernel
theorem dX4_readWellOrWay_63 : decode cX4_readWellOrWay 63 = .ok (.aload_n 1, 1) := by decide +kernel
theorem dX4_readWellOrWay_64 : decode cX4_readWellOrWay 64 = .ok (.iload_n 2, 1) := by decide +kernel
theorem dX4_readWellOrWay_65 : decode cX4_readWellOrWay 65 = .ok (.aload_n 0, 1) := by decide +kernel
theorem dX4_readWellOrWay_66 : decode cX4_readWellOrWay 66 = .ok (.iconst 2, 1) := by decide +kernel
theorem dX4_readWellOrWay_67 : decode cX4_readWellOrWay 67 = .ok (.invokevirtual 83, 3) := by decide +kernel
theorem dX4_readWellOrWay_70 : decode cX4_readWellOrWay 70 = .ok (.invokevirtual 114, 3) := by decide +kernel
theorem dX4_readWellOrWay_73 : decode cX4_readWellOrWay 73 = .ok (.return_, 1) := by decide +kernel
theorem dX4_keepDrink_0 : decode cX4_keepDrink 0 = .ok (.aload_n 0, 1) := by decide +kernel
theorem dX4_keepDrink_1 : decode cX4_keepDrink 1 = .ok (.getfield 44, 3) := by decide +kernel
theorem dX4_keepDrink_4 : decode cX4_keepDrink 4 = .ok (.bipush 12, 2) := by decide +kernel
theorem dX4_keepDrink_6 : decode cX4_keepDrink 6 = .ok (.if_icmp .ge 33, 3) := by decide +kernel
theorem dX4_keepDrink_9 : decode cX4_keepDrink 9 = .ok (.aload_n 0, 1) := by decide +kernel
theorem dX4_keepDrink_10 : decode cX4_keepDrink 10 = .ok (.getfield 15, 3) := by decide +kernel
theorem dX4_keepDrink_13 : decode cX4_keepDrink 13 = .ok (.aload_n 0, 1) := by decide +kernel
theorem dX4_keepDrink_14 : decode cX4_keepDrink 14 = .ok (.getfield 44, 3) := by decide +kernel
theorem dX4_keepDrink_17 : decode cX4_keepDrink 17 = .ok (.iload_n 1, 1) := by decide +kernel
theorem dX4_keepDrink_18 : decode cX4_keepDrink 18 = .ok (.iastore, 1) := by decide +kernel
theorem dX4_keepDrink_19 : decode cX4_keepDrink 19 = .ok (.aload_n 0, 1) := by decide +kernel
theorem dX4_keepDrink_20 : decode cX4_keepDrink 20 = .ok (.getfield 19, 3) := by decide +kernel
theorem dX4_keepDrink_23 : decode cX4_keepDrink 23 = .ok (.aload_n 0, 1) := by decide +kernel
theorem dX4_keepDrink_24 : decode cX4_keepDrink 24 = .ok (.getfield 44, 3) := by decide +kernel
theorem dX4_keepDrink_27 : decode cX4_keepDrink 27 = .ok (.iload_n 2, 1) := by decide +kernel
theorem dX4_keepDrink_28 : decode cX4_keepDrink 28 = .ok (.iastore, 1) := by decide +kernel
theorem dX4_keepDrink_29 : decode cX4_keepDrink 29 = .ok (.aload_n 0, 1) := by decide +kernel
theorem dX4_keepDrink_30 : decode cX4_keepDrink 30 = .ok (.dup, 1) := by decide +kernel
theorem dX4_keepDrink_31 : decode cX4_keepDrink 31 = .ok (.getfield 44, 3) := by decide +kernel
theorem dX4_keepDrink_34 : decode cX4_keepDrink 34 = .ok (.iconst 1, 1) := by decide +kernel
theorem dX4_keepDrink_35 : decode cX4_keepDrink 35 = .ok (.iadd, 1) := by decide +kernel
theorem dX4_keepDrink_36 : decode cX4_keepDrink 36 = .ok (.putfield 44, 3) := by decide +kernel
theorem dX4_keepDrink_39 : decode cX4_keepDrink 39 = .ok (.return_, 1) := by decide +kernel
theorem dX4_readNumber_0 : decode cX4_readNumber 0 = .ok (.iconst 0, 1) := by decide +kernel
theorem dX4_readNumber_1 : decode cX4_readNumber 1 = .ok (.istore_n 2, 1) := by decide +kernel
theorem dX4_readNumber_2 : decode cX4_readNumber 2 = .ok (.iconst 0, 1) := by decide +kernel
theorem dX4_readNumber_3 : decode cX4_readNumber 3 = .ok (.istore_n 3, 1) := by decide +kernel
theorem dX4_readNumber_4 : decode cX4_readNumber 4 = .ok (.iload_n 3, 1) := by decide +kernel
theorem dX4_readNumber_5 : decode cX4_readNumber 5 = .ok (.iload_n 1, 1) := by decide +kernel
theorem dX4_readNumber_6 : decode cX4_readNumber 6 = .ok (.if_icmp .ge 67, 3) := by decide +kernel
theorem dX4_readNumber_9 : decode cX4_readNumber 9 = .ok (.aload_n 0, 1) := by decide +kernel
theorem dX4_readNumber_10 : decode cX4_readNumber 10 = .ok (.invokevirtual 51, 3) := by decide +kernel
theorem dX4_readNumber_13 : decode cX4_readNumber 13 = .ok (.istore 4, 2) := by decide +kernel
theorem dX4_readNumber_15 : decode cX4_readNumber 15 = .ok (.iload 4, 2) := by decide +kernel
theorem dX4_readNumber_17 : decode cX4_readNumber 17 = .ok (.bipush 48, 2) := by decide +kernel
theorem dX4_readNumber_19 : decode cX4_readNumber 19 = .ok (.if_icmp .lt 34, 3) := by decide +kernel
theorem dX4_readNumber_22 : decode cX4_readNumber 22 = .ok (.iload 4, 2) := by decide +kernel
theorem dX4_readNumber_24 : decode cX4_readNumber 24 = .ok (.bipush 57, 2) := by decide +kernel
theorem dX4_readNumber_26 : decode cX4_readNumber 26 = .ok (.if_icmp .gt 27, 3) := by decide +kernel
theorem dX4_readNumber_29 : decode cX4_readNumber 29 = .ok (.iload_n 2, 1) := by decide +kernel
theorem dX4_readNumber_30 : decode cX4_readNumber 30 = .ok (.bipush 10, 2) := by decide +kernel
theorem dX4_readNumber_32 : decode cX4_readNumber 32 = .ok (.imul, 1) := by decide +kernel
theorem dX4_readNumber_33 : decode cX4_readNumber 33 = .ok (.iload 4, 2) := by decide +kernel
theorem dX4_readNumber_35 : decode cX4_readNumber 35 = .ok (.iadd, 1) := by decide +kernel
theorem dX4_readNumber_36 : decode cX4_readNumber 36 = .ok (.bipush 48, 2) := by decide +kernel
theorem dX4_readNumber_38 : decode cX4_readNumber 38 = .ok (.isub, 1) := by decide +kernel
theorem dX4_readNumber_39 : decode cX4_readNumber 39 = .ok (.istore_n 2, 1) := by decide +kernel
theorem dX4_readNumber_40 : decode cX4_readNumber 40 = .ok (.aload_n 0, 1) := by decide +kernel
theorem dX4_readNumber_41 : decode cX4_readNumber 41 = .ok (.dup, 1) := by decide +kernel
theorem dX4_readNumber_42 : decode cX4_readNumber 42 = .ok (.getfield 37, 3) := by decide +kernel
theorem dX4_readNumber_45 : decode cX4_readNumber 45 = .ok (.iconst 1, 1) := by decide +kernel
theorem dX4_readNumber_46 : decode cX4_readNumber 46 = .ok (.iadd, 1) := by decide +kernel
theorem dX4_readNumber_47 : decode cX4_readNumber 47 = .ok (.putfield 37, 3) := by decide +kernel
theorem dX4_readNumber_50 : decode cX4_readNumber 50 = .ok (.goto 17, 3) := by decide +kernel
theorem dX4_readNumber_53 : decode cX4_readNumber 53 = .ok (.iload_n 3, 1) := by decide +kernel
theorem dX4_readNumber_54 : decode cX4_readNumber 54 = .ok (.ifCond .ne 11, 3) := by decide +kernel
theorem dX4_readNumber_57 : decode cX4_readNumber 57 = .ok (.aload_n 0, 1) := by decide +kernel
theorem dX4_readNumber_58 : decode cX4_readNumber 58 = .ok (.iconst 0, 1) := by decide +kernel
theorem dX4_readNumber_59 : decode cX4_readNumber 59 = .ok (.putfield 40, 3) := by decide +kernel
theorem dX4_readNumber_62 : decode cX4_readNumber 62 = .ok (.goto 5, 3) := by decide +kernel
theorem dX4_readNumber_65 : decode cX4_readNumber 65 = .ok (.iload_n 2, 1) := by decide +kernel
theorem dX4_readNumber_66 : decode cX4_readNumber 66 = .ok (.ireturn, 1) := by decide +kernel
theorem dX4_readNumber_67 : decode cX4_readNumber 67 = .ok (.iinc 3 1, 3) := by decide +kernel
theorem dX4_readNumber_70 : decode cX4_readNumber 70 = .ok (.goto (-66), 3) := by decide +kernel
theorem dX4_readNumber_73 : decode cX4_readNumber 73 = .ok (.iload_n 2, 1) := by decide +kernel
theorem dX4_readNumber_74 : decode cX4_readNumber 74 = .ok (.ireturn, 1) := by decide +kernel
theorem dX4_readEither_0 : decode cX4_readEither 0 = .ok (.iconst 0, 1) := by decide +kernel
theorem dX4_readEither_1 : decode cX4_readEither 1 = .ok (.istore_n 2, 1) := by decide +kernel
theorem dX4_readEither_2 : decode cX4_readEither 2 = .ok (.aload_n 0, 1) := by decide +kernel
theorem dX4_readEither_3 : decode cX4_readEither 3 = .ok (.iload_n 1, 1) := by decide +kernel
theorem dX4_readEither_4 : decode cX4_readEither 4 = .ok (.invokevirtual 117, 3) := by decide +kernel
theorem dX4_readEither_7 : decode cX4_readEither 7 = .ok (.istore_n 3, 1) := by decide +kernel
theorem dX4_readEither_8 : decode cX4_readEither 8 = .ok (.iconst 0, 1) := by decide +kernel
theorem dX4_readEither_9 : decode cX4_readEither 9 = .ok (.istore 4, 2) := by decide +kernel
theorem dX4_readEither_11 : decode cX4_readEither 11 = .ok (.iload 4, 2) := by decide +kernel
theorem dX4_readEither_13 : decode cX4_readEither 13 = .ok (.bipush 100, 2) := by decide +kernel
theorem dX4_readEither_15 : decode cX4_readEither 15 = .ok (.if_icmp .ge 88, 3) := by decide +kernel
theorem dX4_readEither_18 : decode cX4_readEither 18 = .ok (.aload_n 0, 1) := by decide +kernel
theorem dX4_readEither_19 : decode cX4_readEither 19 = .ok (.invokevirtual 51, 3) := by decide +kernel
theorem dX4_readEither_22 : decode cX4_readEither 22 = .ok (.bipush 124, 2) := by decide +kernel
theorem dX4_readEither_24 : decode cX4_readEither 24 = .ok (.if_icmp .eq 12, 3) := by decide +kernel
theorem dX4_readEither_27 : decode cX4_readEither 27 = .ok (.aload_n 0, 1) := by decide +kernel
theorem dX4_readEither_28 : decode cX4_readEither 28 = .ok (.invokevirtual 51, 3) := by decide +kernel
theorem dX4_readEither_31 : decode cX4_readEither 31 = .ok (.bipush 38, 2) := by decide +kernel
theorem dX4_readEither_33 : decode cX4_readEither 33 = .ok (.if_icmp .ne 70, 3) := by decide +kernel
theorem dX4_readEither_36 : decode cX4_readEither 36 = .ok (.aload_n 0, 1) := by decide +kernel
theorem dX4_readEither_37 : decode cX4_readEither 37 = .ok (.invokevirtual 51, 3) := by decide +kernel
theorem dX4_readEither_40 : decode cX4_readEither 40 = .ok (.bipush 124, 2) := by decide +kernel
theorem dX4_readEither_42 : decode cX4_readEither 42 = .ok (.if_icmp .ne 7, 3) := by decide +kernel
theorem dX4_readEither_45 : decode cX4_readEither 45 = .ok (.iconst 1, 1) := by decide +kernel
theorem dX4_readEither_46 : decode cX4_readEither 46 = .ok (.goto 4, 3) := by decide +kernel
theorem dX4_readEither_49 : decode cX4_readEither 49 = .ok (.iconst 0, 1) := by decide +kernel
theorem dX4_readEither_50 : decode cX4_readEither 50 = .ok (.istore 5, 2) := by decide +kernel
theorem dX4_readEither_52 : decode cX4_readEither 52 = .ok (.aload_n 0, 1) := by decide +kernel
theorem dX4_readEither_53 : decode cX4_readEither 53 = .ok (.dup, 1) := by decide +kernel
theorem dX4_readEither_54 : decode cX4_readEither 54 = .ok (.getfield 37, 3) := by decide +kernel
theorem dX4_readEither_57 : decode cX4_readEither 57 = .ok (.iconst 1, 1) := by decide +kernel
theorem dX4_readEither_58 : decode cX4_readEither 58 = .ok (.iadd, 1) := by decide +kernel
theorem dX4_readEither_59 : decode cX4_readEither 59 = .ok (.putfield 37, 3) := by decide +kernel
theorem dX4_readEither_62 : decode cX4_readEither 62 = .ok (.aload_n 0, 1) := by decide +kernel
theorem dX4_readEither_63 : decode cX4_readEither 63 = .ok (.iload_n 1, 1) := by decide +kernel
theorem dX4_readEither_64 : decode cX4_readEither 64 = .ok (.invokevirtual 117, 3) := by decide +kernel
theorem dX4_readEither_67 : decode cX4_readEither 67 = .ok (.istore 6, 2) := by decide +kernel
theorem dX4_readEither_69 : decode cX4_readEither 69 = .ok (.iload_n 2, 1) := by decide +kernel
theorem dX4_readEither_70 : decode cX4_readEither 70 = .ok (.iload 5, 2) := by decide +kernel
theorem dX4_readEither_72 : decode cX4_readEither 72 = .ok (.ifCond .eq 7, 3) := by decide +kernel
theorem dX4_readEither_75 : decode cX4_readEither 75 = .ok (.iload_n 3, 1) := by decide +kernel
theorem dX4_readEither_76 : decode cX4_readEither 76 = .ok (.goto 4, 3) := by decide +kernel
theorem dX4_readEither_79 : decode cX4_readEither 79 = .ok (.iconst 0, 1) := by decide +kernel
theorem dX4_readEither_80 : decode cX4_readEither 80 = .ok (.ior, 1) := by decide +kernel
theorem dX4_readEither_81 : decode cX4_readEither 81 = .ok (.istore_n 2, 1) := by decide +kernel
theorem dX4_readEither_82 : decode cX4_readEither 82 = .ok (.iload 5, 2) := by decide +kernel
theorem dX4_readEither_84 : decode cX4_readEither 84 = .ok (.ifCond .eq 8, 3) := by decide +kernel
theorem dX4_readEither_87 : decode cX4_readEither 87 = .ok (.iload 6, 2) := by decide +kernel
theorem dX4_readEither_89 : decode cX4_readEither 89 = .ok (.goto 7, 3) := by decide +kernel
theorem dX4_readEither_92 : decode cX4_readEither 92 = .ok (.iload_n 3, 1) := by decide +kernel
theorem dX4_readEither_93 : decode cX4_readEither 93 = .ok (.iload 6, 2) := by decide +kernel
theorem dX4_readEither_95 : decode cX4_readEither 95 = .ok (.iand, 1) := by decide +kernel
theorem dX4_readEither_96 : decode cX4_readEither 96 = .ok (.istore_n 3, 1) := by decide +kernel
theorem dX4_readEither_97 : decode cX4_readEither 97 = .ok (.iinc 4 1, 3) := by decide +kernel
theorem dX4_readEither_100 : decode cX4_readEither 100 = .ok (.goto (-89), 3) := by decide +kernel
theorem dX4_readEither_103 : decode cX4_readEither 103 = .ok (.iload_n 2, 1) := by decide +kernel
theorem dX4_readEither_104 : decode cX4_readEither 104 = .ok (.iload_n 3, 1) := by decide +kernel
theorem dX4_readEither_105 : decode cX4_readEither 105 = .ok (.ior, 1) := by decide +kernel
theorem dX4_readEither_106 : decode cX4_readEither 106 = .ok (.ireturn, 1) := by decide +kernel
theorem dX4_readPart_0 : decode cX4_readPart 0 = .ok (.iload_n 1, 1) := by decide +kernel
theorem dX4_readPart_1 : decode cX4_readPart 1 = .ok (.istore_n 2, 1) := by decide +kernel
theorem dX4_readPart_2 : decode cX4_readPart 2 = .ok (.iconst 0, 1) := by decide +kernel
theorem dX4_readPart_3 : decode cX4_readPart 3 = .ok (.istore_n 3, 1) := by decide +kernel
theorem dX4_readPart_4 : decode cX4_readPart 4 = .ok (.iload_n 2, 1) := by decide +kernel
theorem dX4_readPart_5 : decode cX4_readPart 5 = .ok (.iconst 4, 1) := by decide +kernel
theorem dX4_readPart_6 : decode cX4_readPart 6 = .ok (.if_icmp .ge 35, 3) := by decide +kernel
theorem dX4_readPart_9 : decode cX4_readPart 9 = .ok (.aload_n 0, 1) := by decide +kernel
theorem dX4_readPart_10 : decode cX4_readPart 10 = .ok (.invokevirtual 51, 3) := by decide +kernel
theorem dX4_readPart_13 : decode cX4_readPart 13 = .ok (.bipush 33, 2) := by decide +kernel
theorem dX4_readPart_15 : decode cX4_readPart 15 = .ok (.if_icmp .ne 26, 3) := by decide +kernel
theorem dX4_readPart_18 : decode cX4_readPart 18 = .ok (.aload_n 0, 1) := by decide +kernel
theorem dX4_readPart_19 : decode cX4_readPart 19 = .ok (.dup, 1) := by decide +kernel
theorem dX4_readPart_20 : decode cX4_readPart 20 = .ok (.getfield 37, 3) := by decide +kernel
theorem dX4_readPart_23 : decode cX4_readPart 23 = .ok (.iconst 1, 1) := by decide +kernel
theorem dX4_readPart_24 : decode cX4_readPart 24 = .ok (.iadd, 1) := by decide +kernel
theorem dX4_readPart_25 : decode cX4_readPart 25 = .ok (.putfield 37, 3) := by decide +kernel
theorem dX4_readPart_28 : decode cX4_readPart 28 = .ok (.ldc 120, 2) := by decide +kernel
theorem dX4_readPart_30 : decode cX4_readPart 30 = .ok (.iload_n 3, 1) := by decide +kernel
theorem dX4_readPart_31 : decode cX4_readPart 31 = .ok (.iconst (-1), 1) := by decide +kernel
theorem dX4_readPart_32 : decode cX4_readPart 32 = .ok (.ixor, 1) := by decide +kernel
theorem dX4_readPart_33 : decode cX4_readPart 33 = .ok (.iand, 1) := by decide +kernel
theorem dX4_readPart_34 : decode cX4_readPart 34 = .ok (.istore_n 3, 1) := by decide +kernel
theorem dX4_readPart_35 : decode cX4_readPart 35 = .ok (.iinc 2 1, 3) := by decide +kernel
theorem dX4_readPart_38 : decode cX4_readPart 38 = .ok (.goto (-34), 3) := by decide +kernel
theorem dX4_readPart_41 : decode cX4_readPart 41 = .ok (.iload_n 2, 1) := by decide +kernel
theorem dX4_readPart_42 : decode cX4_readPart 42 = .ok (.iconst 4, 1) := by decide +kernel
theorem dX4_readPart_43 : decode cX4_readPart 43 = .ok (.if_icmp .ge 42, 3) := by decide +kernel
theorem dX4_readPart_46 : decode cX4_readPart 46 = .ok (.aload_n 0, 1) := by decide +kernel
theorem dX4_readPart_47 : decode cX4_readPart 47 = .ok (.invokevirtual 51, 3) := by decide +kernel
theorem dX4_readPart_50 : decode cX4_readPart 50 = .ok (.bipush 40, 2) := by decide +kernel
theorem dX4_readPart_52 : decode cX4_readPart 52 = .ok (.if_icmp .ne 33, 3) := by decide +kernel
theorem dX4_readPart_55 : decode cX4_readPart 55 = .ok (.aload_n 0, 1) := by decide +kernel
theorem dX4_readPart_56 : decode cX4_readPart 56 = .ok (.dup, 1) := by decide +kernel
theorem dX4_readPart_57 : decode cX4_readPart 57 = .ok (.getfield 37, 3) := by decide +kernel
theorem dX4_readPart_60 : decode cX4_readPart 60 = .ok (.iconst 1, 1) := by decide +kernel
theorem dX4_readPart_61 : decode cX4_readPart 61 = .ok (.iadd, 1) := by decide +kernel
theorem dX4_readPart_62 : decode cX4_readPart 62 = .ok (.putfield 37, 3) := by decide +kernel
theorem dX4_readPart_65 : decode cX4_readPart 65 = .ok (.aload_n 0, 1) := by decide +kernel
theorem dX4_readPart_66 : decode cX4_readPart 66 = .ok (.iload_n 2, 1) := by decide +kernel
theorem dX4_readPart_67 : decode cX4_readPart 67 = .ok (.iconst 1, 1) := by decide +kernel
theorem dX4_readPart_68 : decode cX4_readPart 68 = .ok (.iadd, 1) := by decide +kernel
theorem dX4_readPart_69 : decode cX4_readPart 69 = .ok (.invokevirtual 87, 3) := by decide +kernel
theorem dX4_readPart_72 : decode cX4_readPart 72 = .ok (.istore 4, 2) := by decide +kernel
theorem dX4_readPart_74 : decode cX4_readPart 74 = .ok (.aload_n 0, 1) := by decide +kernel
theorem dX4_readPart_75 : decode cX4_readPart 75 = .ok (.bipush 41, 2) := by decide +kernel
theorem dX4_readPart_77 : decode cX4_readPart 77 = .ok (.invokevirtual 70, 3) := by decide +kernel
theorem dX4_readPart_80 : decode cX4_readPart 80 = .ok (.iload_n 3, 1) := by decide +kernel
theorem dX4_readPart_81 : decode cX4_readPart 81 = .ok (.iload 4, 2) := by decide +kernel
theorem dX4_readPart_83 : decode cX4_readPart 83 = .ok (.ixor, 1) := by decide +kernel
theorem dX4_readPart_84 : decode cX4_readPart 84 = .ok (.ireturn, 1) := by decide +kernel
theorem dX4_readPart_85 : decode cX4_readPart 85 = .ok (.iload_n 3, 1) := by decide +kernel
theorem dX4_readPart_86 : decode cX4_readPart 86 = .ok (.aload_n 0, 1) := by decide +kernel
theorem dX4_readPart_87 : decode cX4_readPart 87 = .ok (.invokevirtual 121, 3) := by decide +kernel
theorem dX4_readPart_90 : decode cX4_readPart 90 = .ok (.ixor, 1) := by decide +kernel
theorem dX4_readPart_91 : decode cX4_readPart 91 = .ok (.ireturn, 1) := by decide +kernel
theorem dX4_readTest_0 : decode cX4_readTest 0 = .ok (.aload_n 0, 1) := by decide +kernel
theorem dX4_readTest_1 : decode cX4_readTest 1 = .ok (.invokevirtual 51, 3) := by decide +kernel
theorem dX4_readTest_4 : decode cX4_readTest 4 = .ok (.istore_n 1, 1) := by decide +kernel
theorem dX4_readTest_5 : decode cX4_readTest 5 = .ok (.iload_n 1, 1) := by decide +kernel
theorem dX4_readTest_6 : decode cX4_readTest 6 = .ok (.bipush 104, 2) := by decide +kernel
theorem dX4_readTest_8 : decode cX4_readTest 8 = .ok (.if_icmp .eq 22, 3) := by decide +kernel
theorem dX4_readTest_11 : decode cX4_readTest 11 = .ok (.iload_n 1, 1) := by decide +kernel
theorem dX4_readTest_12 : decode cX4_readTest 12 = .ok (.bipush 98, 2) := by decide +kernel
theorem dX4_readTest_14 : decode cX4_readTest 14 = .ok (.if_icmp .eq 16, 3) := by decide +kernel
theorem dX4_readTest_17 : decode cX4_readTest 17 = .ok (.iload_n 1, 1) := by decide +kernel
theorem dX4_readTest_18 : decode cX4_readTest 18 = .ok (.bipush 119, 2) := by decide +kernel
theorem dX4_readTest_20 : decode cX4_readTest 20 = .ok (.if_icmp .eq 10, 3) := by decide +kernel
theorem dX4_readTest_23 : decode cX4_readTest 23 = .ok (.aload_n 0, 1) := by decide +kernel
theorem dX4_readTest_24 : decode cX4_readTest 24 = .ok (.iconst 0, 1) := by decide +kernel
theorem dX4_readTest_25 : decode cX4_readTest 25 = .ok (.putfield 40, 3) := by decide +kernel
theorem dX4_readTest_28 : decode cX4_readTest 28 = .ok (.iconst 0, 1) := by decide +kernel
theorem dX4_readTest_29 : decode cX4_readTest 29 = .ok (.ireturn, 1) := by decide +kernel
theorem dX4_readTest_30 : decode cX4_readTest 30 = .ok (.aload_n 0, 1) := by decide +kernel
theorem dX4_readTest_31 : decode cX4_readTest 31 = .ok (.dup, 1) := by decide +kernel
theorem dX4_readTest_32 : decode cX4_readTest 32 = .ok (.getfield 37, 3) := by decide +kernel
theorem dX4_readTest_35 : decode cX4_readTest 35 = .ok (.iconst 1, 1) := by decide +kernel
theorem dX4_readTest_36 : decode cX4_readTest 36 = .ok (.iadd, 1) := by decide +kernel
theorem dX4_readTest_37 : decode cX4_readTest 37 = .ok (.putfield 37, 3) := by decide +kernel
theorem dX4_readTest_40 : decode cX4_readTest 40 = .ok (.aload_n 0, 1) := by decide +kernel
theorem dX4_readTest_41 : decode cX4_readTest 41 = .ok (.invokevirtual 51, 3) := by decide +kernel
theorem dX4_readTest_44 : decode cX4_readTest 44 = .ok (.istore_n 2, 1) := by decide +kernel
theorem dX4_readTest_45 : decode cX4_readTest 45 = .ok (.iload_n 2, 1) := by decide +kernel
theorem dX4_readTest_46 : decode cX4_readTest 46 = .ok (.bipush 60, 2) := by decide +kernel
theorem dX4_readTest_48 : decode cX4_readTest 48 = .ok (.if_icmp .eq 22, 3) := by decide +kernel
theorem dX4_readTest_51 : decode cX4_readTest 51 = .ok (.iload_n 2, 1) := by decide +kernel
theorem dX4_readTest_52 : decode cX4_readTest 52 = .ok (.bipush 61, 2) := by decide +kernel
theorem dX4_readTest_54 : decode cX4_readTest 54 = .ok (.if_icmp .eq 16, 3) := by decide +kernel
theorem dX4_readTest_57 : decode cX4_readTest 57 = .ok (.iload_n 2, 1) := by decide +kernel
theorem dX4_readTest_58 : decode cX4_readTest 58 = .ok (.bipush 62, 2) := by decide +kernel
theorem dX4_readTest_60 : decode cX4_readTest 60 = .ok (.if_icmp .eq 10, 3) := by decide +kernel
theorem dX4_readTest_63 : decode cX4_readTest 63 = .ok (.aload_n 0, 1) := by decide +kernel
theorem dX4_readTest_64 : decode cX4_readTest 64 = .ok (.iconst 0, 1) := by decide +kernel
theorem dX4_readTest_65 : decode cX4_readTest 65 = .ok (.putfield 40, 3) := by decide +kernel
theorem dX4_readTest_68 : decode cX4_readTest 68 = .ok (.iconst 0, 1) := by decide +kernel
theorem dX4_readTest_69 : decode cX4_readTest 69 = .ok (.ireturn, 1) := by decide +kernel
theorem dX4_readTest_70 : decode cX4_readTest 70 = .ok (.aload_n 0, 1) := by decide +kernel
theorem dX4_readTest_71 : decode cX4_readTest 71 = .ok (.dup, 1) := by decide +kernel
theorem dX4_readTest_72 : decode cX4_readTest 72 = .ok (.getfield 37, 3) := by decide +kernel
theorem dX4_readTest_75 : decode cX4_readTest 75 = .ok (.iconst 1, 1) := by decide +kernel
theorem dX4_readTest_76 : decode cX4_readTest 76 = .ok (.iadd, 1) := by decide +kernel
theorem dX4_readTest_77 : decode cX4_readTest 77 = .ok (.putfield 37, 3) := by decide +kernel
theorem dX4_readTest_80 : decode cX4_readTest 80 = .ok (.aload_n 0, 1) := by decide +kernel
theorem dX4_readTest_81 : decode cX4_readTest 81 = .ok (.iconst 2, 1) := by decide +kernel
theorem dX4_readTest_82 : decode cX4_readTest 82 = .ok (.invokevirtual 83, 3) := by decide +kernel
theorem dX4_readTest_85 : decode cX4_readTest 85 = .ok (.istore_n 3, 1) := by decide +kernel
theorem dX4_readTest_86 : decode cX4_readTest 86 = .ok (.iload_n 1, 1) := by decide +kernel
theorem dX4_readTest_87 : decode cX4_readTest 87 = .ok (.bipush 104, 2) := by decide +kernel
theorem dX4_readTest_89 : decode cX4_readTest 89 = .ok (.if_icmp .ne 9, 3) := by decide +kernel
theorem dX4_readTest_92 : decode cX4_readTest 92 = .ok (.iload_n 2, 1) := by decide +kernel
theorem dX4_readTest_93 : decode cX4_readTest 93 = .ok (.iload_n 3, 1) := by decide +kernel
theorem dX4_readTest_94 : decode cX4_readTest 94 = .ok (.invokestatic 124, 3) := by decide +kernel
theorem dX4_readTest_97 : decode cX4_readTest 97 = .ok (.ireturn, 1) := by decide +kernel
theorem dX4_readTest_98 : decode cX4_readTest 98 = .ok (.iload_n 1, 1) := by decide +kernel
theorem dX4_readTest_99 : decode cX4_readTest 99 = .ok (.bipush 98, 2) := by decide +kernel
theorem dX4_readTest_101 : decode cX4_readTest 101 = .ok (.if_icmp .ne 10, 3) := by decide +kernel
theorem dX4_readTest_104 : decode cX4_readTest 104 = .ok (.aload_n 0, 1) := by decide +kernel
theorem dX4_readTest_105 : decode cX4_readTest 105 = .ok (.getfield 25, 3) := by decide +kernel
theorem dX4_readTest_108 : decode cX4_readTest 108 = .ok (.goto 7, 3) := by decide +kernel
theorem dX4_readTest_111 : decode cX4_readTest 111 = .ok (.aload_n 0, 1) := by decide +kernel
theorem dX4_readTest_112 : decode cX4_readTest 112 = .ok (.getfield 128, 3) := by decide +kernel
theorem dX4_readTest_115 : decode cX4_readTest 115 = .ok (.iload_n 2, 1) := by decide +kernel
theorem dX4_readTest_116 : decode cX4_readTest 116 = .ok (.iload_n 3, 1) := by decide +kernel
theorem dX4_readTest_117 : decode cX4_readTest 117 = .ok (.invokestatic 130, 3) := by decide +kernel
theorem dX4_readTest_120 : decode cX4_readTest 120 = .ok (.ifCond .eq 8, 3) := by decide +kernel
theorem dX4_readTest_123 : decode cX4_readTest 123 = .ok (.ldc 120, 2) := by decide +kernel
theorem dX4_readTest_125 : decode cX4_readTest 125 = .ok (.goto 4, 3) := by decide +kernel
theorem dX4_readTest_128 : decode cX4_readTest 128 = .ok (.iconst 0, 1) := by decide +kernel
theorem dX4_readTest_129 : decode cX4_readTest 129 = .ok (.ireturn, 1) := by decide +kernel
theorem dX4_hoursThat_0 : decode cX4_hoursThat 0 = .ok (.iload_n 0, 1) := by decide +kernel
theorem dX4_hoursThat_1 : decode cX4_hoursThat 1 = .ok (.bipush 60, 2) := by decide +kernel
theorem dX4_hoursThat_3 : decode cX4_hoursThat 3 = .ok (.if_icmp .ne 8, 3) := by decide +kernel
theorem dX4_hoursThat_6 : decode cX4_hoursThat 6 = .ok (.iload_n 1, 1) := by decide +kernel
theorem dX4_hoursThat_7 : decode cX4_hoursThat 7 = .ok (.invokestatic 134, 3) := by decide +kernel
theorem dX4_hoursThat_10 : decode cX4_hoursThat 10 = .ok (.ireturn, 1) := by decide +kernel
theorem dX4_hoursThat_11 : decode cX4_hoursThat 11 = .ok (.iload_n 0, 1) := by decide +kernel
theorem dX4_hoursThat_12 : decode cX4_hoursThat 12 = .ok (.bipush 62, 2) := by decide +kernel
theorem dX4_hoursThat_14 : decode cX4_hoursThat 14 = .ok (.if_icmp .ne 17, 3) := by decide +kernel
theorem dX4_hoursThat_17 : decode cX4_hoursThat 17 = .ok (.ldc 120, 2) := by decide +kernel
theorem dX4_hoursThat_19 : decode cX4_hoursThat 19 = .ok (.iload_n 1, 1) := by decide +kernel
theorem dX4_hoursThat_20 : decode cX4_hoursThat 20 = .ok (.iconst 1, 1) := by decide +kernel
theorem dX4_hoursThat_21 : decode cX4_hoursThat 21 = .ok (.iadd, 1) := by decide +kernel
theorem dX4_hoursThat_22 : decode cX4_hoursThat 22 = .ok (.invokestatic 134, 3) := by decide +kernel
theorem dX4_hoursThat_25 : decode cX4_hoursThat 25 = .ok (.iconst (-1), 1) := by decide +kernel
theorem dX4_hoursThat_26 : decode cX4_hoursThat 26 = .ok (.ixor, 1) := by decide +kernel
theorem dX4_hoursThat_27 : decode cX4_hoursThat 27 = .ok (.iand, 1) := by decide +kernel
theorem dX4_hoursThat_28 : decode cX4_hoursThat 28 = .ok (.goto 16, 3) := by decide +kernel
theorem dX4_hoursThat_31 : decode cX4_hoursThat 31 = .ok (.iload_n 1, 1) := by decide +kernel
theorem dX4_hoursThat_32 : decode cX4_hoursThat 32 = .ok (.iconst 1, 1) := by decide +kernel
theorem dX4_hoursThat_33 : decode cX4_hoursThat 33 = .ok (.iadd, 1) := by decide +kernel
theorem dX4_hoursThat_34 : decode cX4_hoursThat 34 = .ok (.invokestatic 134, 3) := by decide +kernel
theorem dX4_hoursThat_37 : decode cX4_hoursThat 37 = .ok (.iload_n 1, 1) := by decide +kernel
theorem dX4_hoursThat_38 : decode cX4_hoursThat 38 = .ok (.invokestatic 134, 3) := by decide +kernel
theorem dX4_hoursThat_41 : decode cX4_hoursThat 41 = .ok (.iconst (-1), 1) := by decide +kernel
theorem dX4_hoursThat_42 : decode cX4_hoursThat 42 = .ok (.ixor, 1) := by decide +kernel
theorem dX4_hoursThat_43 : decode cX4_hoursThat 43 = .ok (.iand, 1) := by decide +kernel
theorem dX4_hoursThat_44 : decode cX4_hoursThat 44 = .ok (.ireturn, 1) := by decide +kernel
theorem dX4_hoursBelow_0 : decode cX4_hoursBelow 0 = .ok (.iload_n 0, 1) := by decide +kernel
theorem dX4_hoursBelow_1 : decode cX4_hoursBelow 1 = .ok (.bipush 24, 2) := by decide +kernel
theorem dX4_hoursBelow_3 : decode cX4_hoursBelow 3 = .ok (.if_icmp .lt 8, 3) := by decide +kernel
theorem dX4_hoursBelow_6 : decode cX4_hoursBelow 6 = .ok (.ldc 120, 2) := by decide +kernel
theorem dX4_hoursBelow_8 : decode cX4_hoursBelow 8 = .ok (.goto 8, 3) := by decide +kernel
theorem dX4_hoursBelow_11 : decode cX4_hoursBelow 11 = .ok (.iconst 1, 1) := by decide +kernel
theorem dX4_hoursBelow_12 : decode cX4_hoursBelow 12 = .ok (.iload_n 0, 1) := by decide +kernel
theorem dX4_hoursBelow_13 : decode cX4_hoursBelow 13 = .ok (.ishl, 1) := by decide +kernel
theorem dX4_hoursBelow_14 : decode cX4_hoursBelow 14 = .ok (.iconst 1, 1) := by decide +kernel
theorem dX4_hoursBelow_15 : decode cX4_hoursBelow 15 = .ok (.isub, 1) := by decide +kernel
theorem dX4_hoursBelow_16 : decode cX4_hoursBelow 16 = .ok (.ireturn, 1) := by decide +kernel
theorem dX4_matches_0 : decode cX4_matches 0 = .ok (.iload_n 1, 1) := by decide +kernel
theorem dX4_matches_1 : decode cX4_matches 1 = .ok (.bipush 60, 2) := by decide +kernel
theorem dX4_matches_3 : decode cX4_matches 3 = .ok (.if_icmp .ne 14, 3) := by decide +kernel
theorem dX4_matches_6 : decode cX4_matches 6 = .ok (.iload_n 0, 1) := by decide +kernel
theorem dX4_matches_7 : decode cX4_matches 7 = .ok (.iload_n 2, 1) := by decide +kernel
theorem dX4_matches_8 : decode cX4_matches 8 = .ok (.if_icmp .ge 7, 3) := by decide +kernel
theorem dX4_matches_11 : decode cX4_matches 11 = .ok (.iconst 1, 1) := by decide +kernel
theorem dX4_matches_12 : decode cX4_matches 12 = .ok (.goto 4, 3) := by decide +kernel
theorem dX4_matches_15 : decode cX4_matches 15 = .ok (.iconst 0, 1) := by decide +kernel
theorem dX4_matches_16 : decode cX4_matches 16 = .ok (.ireturn, 1) := by decide +kernel
theorem dX4_matches_17 : decode cX4_matches 17 = .ok (.iload_n 1, 1) := by decide +kernel
theorem dX4_matches_18 : decode cX4_matches 18 = .ok (.bipush 62, 2) := by decide +kernel
theorem dX4_matches_20 : decode cX4_matches 20 = .ok (.if_icmp .ne 16, 3) := by decide +kernel
theorem dX4_matches_23 : decode cX4_matches 23 = .ok (.iload_n 0, 1) := by decide +kernel
theorem dX4_matches_24 : decode cX4_matches 24 = .ok (.iload_n 2, 1) := by decide +kernel
theorem dX4_matches_25 : decode cX4_matches 25 = .ok (.if_icmp .le 7, 3) := by decide +kernel
theorem dX4_matches_28 : decode cX4_matches 28 = .ok (.iconst 1, 1) := by decide +kernel
theorem dX4_matches_29 : decode cX4_matches 29 = .ok (.goto 17, 3) := by decide +kernel
theorem dX4_matches_32 : decode cX4_matches 32 = .ok (.iconst 0, 1) := by decide +kernel
theorem dX4_matches_33 : decode cX4_matches 33 = .ok (.goto 13, 3) := by decide +kernel
theorem dX4_matches_36 : decode cX4_matches 36 = .ok (.iload_n 0, 1) := by decide +kernel
theorem dX4_matches_37 : decode cX4_matches 37 = .ok (.iload_n 2, 1) := by decide +kernel
theorem dX4_matches_38 : decode cX4_matches 38 = .ok (.if_icmp .ne 7, 3) := by decide +kernel
theorem dX4_matches_41 : decode cX4_matches 41 = .ok (.iconst 1, 1) := by decide +kernel
theorem dX4_matches_42 : decode cX4_matches 42 = .ok (.goto 4, 3) := by decide +kernel
theorem dX4_matches_45 : decode cX4_matches 45 = .ok (.iconst 0, 1) := by decide +kernel
theorem dX4_matches_46 : decode cX4_matches 46 = .ok (.ireturn, 1) := by decide +kernel
theorem dX4_sumUp_0 : decode cX4_sumUp 0 = .ok (.aload_n 0, 1) := by decide +kernel
theorem dX4_sumUp_1 : decode cX4_sumUp 1 = .ok (.iload_n 3, 1) := by decide +kernel
theorem dX4_sumUp_2 : decode cX4_sumUp 2 = .ok (.putfield 25, 3) := by decide +kernel
theorem dX4_sumUp_5 : decode cX4_sumUp 5 = .ok (.aload_n 0, 1) := by decide +kernel
theorem dX4_sumUp_6 : decode cX4_sumUp 6 = .ok (.iload_n 2, 1) := by decide +kernel
theorem dX4_sumUp_7 : decode cX4_sumUp 7 = .ok (.putfield 128, 3) := by decide +kernel
theorem dX4_sumUp_10 : decode cX4_sumUp 10 = .ok (.iconst 0, 1) := by decide +kernel
theorem dX4_sumUp_11 : decode cX4_sumUp 11 = .ok (.istore 4, 2) := by decide +kernel
theorem dX4_sumUp_13 : decode cX4_sumUp 13 = .ok (.iload 4, 2) := by decide +kernel
theorem dX4_sumUp_15 : decode cX4_sumUp 15 = .ok (.aload_n 0, 1) := by decide +kernel
theorem dX4_sumUp_16 : decode cX4_sumUp 16 = .ok (.getfield 44, 3) := by decide +kernel
theorem dX4_sumUp_19 : decode cX4_sumUp 19 = .ok (.if_icmp .ge 32, 3) := by decide +kernel
theorem dX4_sumUp_22 : decode cX4_sumUp 22 = .ok (.aload_n 0, 1) := by decide +kernel
theorem dX4_sumUp_23 : decode cX4_sumUp 23 = .ok (.aload_n 0, 1) := by decide +kernel
theorem dX4_sumUp_24 : decode cX4_sumUp 24 = .ok (.getfield 19, 3) := by decide +kernel
theorem dX4_sumUp_27 : decode cX4_sumUp 27 = .ok (.iload 4, 2) := by decide +kernel
theorem dX4_sumUp_29 : decode cX4_sumUp 29 = .ok (.iaload, 1) := by decide +kernel
theorem dX4_sumUp_30 : decode cX4_sumUp 30 = .ok (.putfield 37, 3) := by decide +kernel
theorem dX4_sumUp_33 : decode cX4_sumUp 33 = .ok (.aload_n 0, 1) := by decide +kernel
theorem dX4_sumUp_34 : decode cX4_sumUp 34 = .ok (.getfield 22, 3) := by decide +kernel
theorem dX4_sumUp_37 : decode cX4_sumUp 37 = .ok (.iload 4, 2) := by decide +kernel
theorem dX4_sumUp_39 : decode cX4_sumUp 39 = .ok (.aload_n 0, 1) := by decide +kernel
theorem dX4_sumUp_40 : decode cX4_sumUp 40 = .ok (.iconst 0, 1) := by decide +kernel
theorem dX4_sumUp_41 : decode cX4_sumUp 41 = .ok (.invokevirtual 87, 3) := by decide +kernel
theorem dX4_sumUp_44 : decode cX4_sumUp 44 = .ok (.iastore, 1) := by decide +kernel
theorem dX4_sumUp_45 : decode cX4_sumUp 45 = .ok (.iinc 4 1, 3) := by decide +kernel
theorem dX4_sumUp_48 : decode cX4_sumUp 48 = .ok (.goto (-35), 3) := by decide +kernel
theorem dX4_sumUp_51 : decode cX4_sumUp 51 = .ok (.iload_n 2, 1) := by decide +kernel
theorem dX4_sumUp_52 : decode cX4_sumUp 52 = .ok (.iload_n 3, 1) := by decide +kernel
theorem dX4_sumUp_53 : decode cX4_sumUp 53 = .ok (.invokestatic 137, 3) := by decide +kernel
theorem dX4_sumUp_56 : decode cX4_sumUp 56 = .ok (.istore 4, 2) := by decide +kernel
theorem dX4_sumUp_58 : decode cX4_sumUp 58 = .ok (.aload_n 1, 1) := by decide +kernel
theorem dX4_sumUp_59 : decode cX4_sumUp 59 = .ok (.getfield 140, 3) := by decide +kernel
theorem dX4_sumUp_62 : decode cX4_sumUp 62 = .ok (.iload 4, 2) := by decide +kernel
theorem dX4_sumUp_64 : decode cX4_sumUp 64 = .ok (.iconst 0, 1) := by decide +kernel
theorem dX4_sumUp_65 : decode cX4_sumUp 65 = .ok (.iastore, 1) := by decide +kernel
theorem dX4_sumUp_66 : decode cX4_sumUp 66 = .ok (.iconst 0, 1) := by decide +kernel
theorem dX4_sumUp_67 : decode cX4_sumUp 67 = .ok (.istore 5, 2) := by decide +kernel
theorem dX4_sumUp_69 : decode cX4_sumUp 69 = .ok (.iload 5, 2) := by decide +kernel
theorem dX4_sumUp_71 : decode cX4_sumUp 71 = .ok (.iconst 1, 1) := by decide +kernel
theorem dX4_sumUp_72 : decode cX4_sumUp 72 = .ok (.iadd, 1) := by decide +kernel
theorem dX4_sumUp_73 : decode cX4_sumUp 73 = .ok (.bipush 33, 2) := by decide +kernel
theorem dX4_sumUp_75 : decode cX4_sumUp 75 = .ok (.if_icmp .ge 84, 3) := by decide +kernel
theorem dX4_sumUp_78 : decode cX4_sumUp 78 = .ok (.aload_n 1, 1) := by decide +kernel
theorem dX4_sumUp_79 : decode cX4_sumUp 79 = .ok (.getfield 140, 3) := by decide +kernel
theorem dX4_sumUp_82 : decode cX4_sumUp 82 = .ok (.iload 4, 2) := by decide +kernel
theorem dX4_sumUp_84 : decode cX4_sumUp 84 = .ok (.iload 5, 2) := by decide +kernel
theorem dX4_sumUp_86 : decode cX4_sumUp 86 = .ok (.iadd, 1) := by decide +kernel
theorem dX4_sumUp_87 : decode cX4_sumUp 87 = .ok (.iaload, 1) := by decide +kernel
theorem dX4_sumUp_88 : decode cX4_sumUp 88 = .ok (.istore 6, 2) := by decide +kernel
theorem dX4_sumUp_90 : decode cX4_sumUp 90 = .ok (.iconst 0, 1) := by decide +kernel
theorem dX4_sumUp_91 : decode cX4_sumUp 91 = .ok (.istore 7, 2) := by decide +kernel
theorem dX4_sumUp_93 : decode cX4_sumUp 93 = .ok (.iload 7, 2) := by decide +kernel
theorem dX4_sumUp_95 : decode cX4_sumUp 95 = .ok (.aload_n 0, 1) := by decide +kernel
theorem dX4_sumUp_96 : decode cX4_sumUp 96 = .ok (.getfield 44, 3) := by decide +kernel
theorem dX4_sumUp_99 : decode cX4_sumUp 99 = .ok (.if_icmp .ge 40, 3) := by decide +kernel
theorem dX4_sumUp_102 : decode cX4_sumUp 102 = .ok (.aload_n 0, 1) := by decide +kernel
theorem dX4_sumUp_103 : decode cX4_sumUp 103 = .ok (.getfield 22, 3) := by decide +kernel
theorem dX4_sumUp_106 : decode cX4_sumUp 106 = .ok (.iload 7, 2) := by decide +kernel
theorem dX4_sumUp_108 : decode cX4_sumUp 108 = .ok (.iaload, 1) := by decide +kernel
theorem dX4_sumUp_109 : decode cX4_sumUp 109 = .ok (.iload 5, 2) := by decide +kernel
theorem dX4_sumUp_111 : decode cX4_sumUp 111 = .ok (.bipush 24, 2) := by decide +kernel
theorem dX4_sumUp_113 : decode cX4_sumUp 113 = .ok (.irem, 1) := by decide +kernel
theorem dX4_sumUp_114 : decode cX4_sumUp 114 = .ok (.ishr, 1) := by decide +kernel
theorem dX4_sumUp_115 : decode cX4_sumUp 115 = .ok (.iconst 1, 1) := by decide +kernel
theorem dX4_sumUp_116 : decode cX4_sumUp 116 = .ok (.iand, 1) := by decide +kernel
theorem dX4_sumUp_117 : decode cX4_sumUp 117 = .ok (.iconst 1, 1) := by decide +kernel
theorem dX4_sumUp_118 : decode cX4_sumUp 118 = .ok (.if_icmp .ne 15, 3) := by decide +kernel
theorem dX4_sumUp_121 : decode cX4_sumUp 121 = .ok (.iload 6, 2) := by decide +kernel
theorem dX4_sumUp_123 : decode cX4_sumUp 123 = .ok (.aload_n 0, 1) := by decide +kernel
theorem dX4_sumUp_124 : decode cX4_sumUp 124 = .ok (.getfield 15, 3) := by decide +kernel
theorem dX4_sumUp_127 : decode cX4_sumUp 127 = .ok (.iload 7, 2) := by decide +kernel
theorem dX4_sumUp_129 : decode cX4_sumUp 129 = .ok (.iaload, 1) := by decide +kernel
theorem dX4_sumUp_130 : decode cX4_sumUp 130 = .ok (.iadd, 1) := by decide +kernel
theorem dX4_sumUp_131 : decode cX4_sumUp 131 = .ok (.istore 6, 2) := by decide +kernel
theorem dX4_sumUp_133 : decode cX4_sumUp 133 = .ok (.iinc 7 1, 3) := by decide +kernel
theorem dX4_sumUp_136 : decode cX4_sumUp 136 = .ok (.goto (-43), 3) := by decide +kernel
theorem dX4_sumUp_139 : decode cX4_sumUp 139 = .ok (.aload_n 1, 1) := by decide +kernel
theorem dX4_sumUp_140 : decode cX4_sumUp 140 = .ok (.getfield 140, 3) := by decide +kernel
theorem dX4_sumUp_143 : decode cX4_sumUp 143 = .ok (.iload 4, 2) := by decide +kernel
theorem dX4_sumUp_145 : decode cX4_sumUp 145 = .ok (.iload 5, 2) := by decide +kernel
theorem dX4_sumUp_147 : decode cX4_sumUp 147 = .ok (.iadd, 1) := by decide +kernel
theorem dX4_sumUp_148 : decode cX4_sumUp 148 = .ok (.iconst 1, 1) := by decide +kernel
theorem dX4_sumUp_149 : decode cX4_sumUp 149 = .ok (.iadd, 1) := by decide +kernel
theorem dX4_sumUp_150 : decode cX4_sumUp 150 = .ok (.iload 6, 2) := by decide +kernel
theorem dX4_sumUp_152 : decode cX4_sumUp 152 = .ok (.iastore, 1) := by decide +kernel
theorem dX4_sumUp_153 : decode cX4_sumUp 153 = .ok (.iinc 5 1, 3) := by decide +kernel
theorem dX4_sumUp_156 : decode cX4_sumUp 156 = .ok (.goto (-87), 3) := by decide +kernel
theorem dX4_sumUp_159 : decode cX4_sumUp 159 = .ok (.return_, 1) := by decide +kernel
theorem dX5_init_0 : decode cX5_init 0 = .ok (.aload_n 0, 1) := by decide +kernel
theorem dX5_init_1 : decode cX5_init 1 = .ok (.invokespecial 3, 3) := by decide +kernel
theorem dX5_init_4 : decode cX5_init 4 = .ok (.aload_n 0, 1) := by decide +kernel
theorem dX5_init_5 : decode cX5_init 5 = .ok (.iconst 5, 1) := by decide +kernel
theorem dX5_init_6 : decode cX5_init 6 = .ok (.newarray .int, 2) := by decide +kernel
theorem dX5_init_8 : decode cX5_init 8 = .ok (.putfield 9, 3) := by decide +kernel
theorem dX5_init_11 : decode cX5_init 11 = .ok (.aload_n 0, 1) := by decide +kernel
theorem dX5_init_12 : decode cX5_init 12 = .ok (.iload_n 1, 1) := by decide +kernel
theorem dX5_init_13 : decode cX5_init 13 = .ok (.putfield 15, 3) := by decide +kernel
theorem dX5_init_16 : decode cX5_init 16 = .ok (.aload_n 0, 1) := by decide +kernel
theorem dX5_init_17 : decode cX5_init 17 = .ok (.iload_n 2, 1) := by decide +kernel
theorem dX5_init_18 : decode cX5_init 18 = .ok (.putfield 19, 3) := by decide +kernel
theorem dX5_init_21 : decode cX5_init 21 = .ok (.aload_n 0, 1) := by decide +kernel
theorem dX5_init_22 : decode cX5_init 22 = .ok (.iload_n 3, 1) := by decide +kernel
theorem dX5_init_23 : decode cX5_init 23 = .ok (.putfield 22, 3) := by decide +kernel
theorem dX5_init_26 : decode cX5_init 26 = .ok (.return_, 1) := by decide +kernel
theorem dX5_standAt_0 : decode cX5_standAt 0 = .ok (.aload_n 0, 1) := by decide +kernel
theorem dX5_standAt_1 : decode cX5_standAt 1 = .ok (.getfield 15, 3) := by decide +kernel
theorem dX5_standAt_4 : decode cX5_standAt 4 = .ok (.tableswitch 98 1 6 #[40, 73, 98, 53, 98, 79], 40) := by decide +kernel
theorem dX5_standAt_44 : decode cX5_standAt 44 = .ok (.aload_n 0, 1) := by decide +kernel
theorem dX5_standAt_45 : decode cX5_standAt 45 = .ok (.aload_n 1, 1) := by decide +kernel
theorem dX5_standAt_46 : decode cX5_standAt 46 = .ok (.iload_n 2, 1) := by decide +kernel
theorem dX5_standAt_47 : decode cX5_standAt 47 = .ok (.iload_n 3, 1) := by decide +kernel
theorem dX5_standAt_48 : decode cX5_standAt 48 = .ok (.iload 5, 2) := by decide +kernel
theorem dX5_standAt_50 : decode cX5_standAt 50 = .ok (.iload 4, 2) := by decide +kernel
theorem dX5_standAt_52 : decode cX5_standAt 52 = .ok (.isub, 1) := by decide +kernel
theorem dX5_standAt_53 : decode cX5_standAt 53 = .ok (.invokevirtual 25, 3) := by decide +kernel
theorem dX5_standAt_56 : decode cX5_standAt 56 = .ok (.ireturn, 1) := by decide +kernel
theorem dX5_standAt_57 : decode cX5_standAt 57 = .ok (.aload_n 0, 1) := by decide +kernel
theorem dX5_standAt_58 : decode cX5_standAt 58 = .ok (.aload_n 1, 1) := by decide +kernel
theorem dX5_standAt_59 : decode cX5_standAt 59 = .ok (.iload_n 2, 1) := by decide +kernel
theorem dX5_standAt_60 : decode cX5_standAt 60 = .ok (.iload_n 3, 1) := by decide +kernel
theorem dX5_standAt_61 : decode cX5_standAt 61 = .ok (.iload 5, 2) := by decide +kernel
theorem dX5_standAt_63 : decode cX5_standAt 63 = .ok (.iload 4, 2) := by decide +kernel
theorem dX5_standAt_65 : decode cX5_standAt 65 = .ok (.isub, 1) := by decide +kernel
theorem dX5_standAt_66 : decode cX5_standAt 66 = .ok (.invokevirtual 25, 3) := by decide +kernel
theorem dX5_standAt_69 : decode cX5_standAt 69 = .ok (.iconst 1, 1) := by decide +kernel
theorem dX5_standAt_70 : decode cX5_standAt 70 = .ok (.iadd, 1) := by decide +kernel
theorem dX5_standAt_71 : decode cX5_standAt 71 = .ok (.bipush 6, 2) := by decide +kernel
theorem dX5_standAt_73 : decode cX5_standAt 73 = .ok (.invokestatic 29, 3) := by decide +kernel
theorem dX5_standAt_76 : decode cX5_standAt 76 = .ok (.ireturn, 1) := by decide +kernel
theorem dX5_standAt_77 : decode cX5_standAt 77 = .ok (.aload_n 0, 1) := by decide +kernel
theorem dX5_standAt_78 : decode cX5_standAt 78 = .ok (.iload_n 3, 1) := by decide +kernel
theorem dX5_standAt_79 : decode cX5_standAt 79 = .ok (.invokevirtual 35, 3) := by decide +kernel
theorem dX5_standAt_82 : decode cX5_standAt 82 = .ok (.ireturn, 1) := by decide +kernel
theorem dX5_standAt_83 : decode cX5_standAt 83 = .ok (.iconst 2, 1) := by decide +kernel
theorem dX5_standAt_84 : decode cX5_standAt 84 = .ok (.iload 4, 2) := by decide +kernel
theorem dX5_standAt_86 : decode cX5_standAt 86 = .ok (.imul, 1) := by decide +kernel
theorem dX5_standAt_87 : decode cX5_standAt 87 = .ok (.iload 5, 2) := by decide +kernel
theorem dX5_standAt_89 : decode cX5_standAt 89 = .ok (.if_icmp .ge 7, 3) := by decide +kernel
theorem dX5_standAt_92 : decode cX5_standAt 92 = .ok (.iconst 0, 1) := by decide +kernel
theorem dX5_standAt_93 : decode cX5_standAt 93 = .ok (.goto 8, 3) := by decide +kernel
theorem dX5_standAt_96 : decode cX5_standAt 96 = .ok (.aload_n 0, 1) := by decide +kernel
theorem dX5_standAt_97 : decode cX5_standAt 97 = .ok (.iload_n 3, 1) := by decide +kernel
theorem dX5_standAt_98 : decode cX5_standAt 98 = .ok (.invokevirtual 35, 3) := by decide +kernel
theorem dX5_standAt_101 : decode cX5_standAt 101 = .ok (.ireturn, 1) := by decide +kernel
theorem dX5_standAt_102 : decode cX5_standAt 102 = .ok (.iconst 0, 1) := by decide +kernel
theorem dX5_standAt_103 : decode cX5_standAt 103 = .ok (.ireturn, 1) := by decide +kernel
theorem dX5_waitFor_0 : decode cX5_waitFor 0 = .ok (.iconst 0, 1) := by decide +kernel
theorem dX5_waitFor_1 : decode cX5_waitFor 1 = .ok (.istore 5, 2) := by decide +kernel
theorem dX5_waitFor_3 : decode cX5_waitFor 3 = .ok (.iload 5, 2) := by decide +kernel
theorem dX5_waitFor_5 : decode cX5_waitFor 5 = .ok (.aload_n 0, 1) := by decide +kernel
theorem dX5_waitFor_6 : decode cX5_waitFor 6 = .ok (.getfield 22, 3) := by decide +kernel
theorem dX5_waitFor_9 : decode cX5_waitFor 9 = .ok (.if_icmp .ge 26, 3) := by decide +kernel
theorem dX5_waitFor_12 : decode cX5_waitFor 12 = .ok (.aload_n 1, 1) := by decide +kernel
theorem dX5_waitFor_13 : decode cX5_waitFor 13 = .ok (.iload_n 2, 1) := by decide +kernel
theorem dX5_waitFor_14 : decode cX5_waitFor 14 = .ok (.iload_n 3, 1) := by decide +kernel
theorem dX5_waitFor_15 : decode cX5_waitFor 15 = .ok (.iload 5, 2) := by decide +kernel
theorem dX5_waitFor_17 : decode cX5_waitFor 17 = .ok (.iadd, 1) := by decide +kernel
theorem dX5_waitFor_18 : decode cX5_waitFor 18 = .ok (.invokevirtual 39, 3) := by decide +kernel
theorem dX5_waitFor_21 : decode cX5_waitFor 21 = .ok (.iload 4, 2) := by decide +kernel
theorem dX5_waitFor_23 : decode cX5_waitFor 23 = .ok (.if_icmp .lt 6, 3) := by decide +kernel
theorem dX5_waitFor_26 : decode cX5_waitFor 26 = .ok (.iload 5, 2) := by decide +kernel
theorem dX5_waitFor_28 : decode cX5_waitFor 28 = .ok (.ireturn, 1) := by decide +kernel
theorem dX5_waitFor_29 : decode cX5_waitFor 29 = .ok (.iinc 5 1, 3) := by decide +kernel
theorem dX5_waitFor_32 : decode cX5_waitFor 32 = .ok (.goto (-29), 3) := by decide +kernel
theorem dX5_waitFor_35 : decode cX5_waitFor 35 = .ok (.aload_n 0, 1) := by decide +kernel
theorem dX5_waitFor_36 : decode cX5_waitFor 36 = .ok (.getfield 22, 3) := by decide +kernel
theorem dX5_waitFor_39 : decode cX5_waitFor 39 = .ok (.ireturn, 1) := by decide +kernel
theorem dX5_tillNoon_0 : decode cX5_tillNoon 0 = .ok (.iload_n 1, 1) := by decide +kernel
theorem dX5_tillNoon_1 : decode cX5_tillNoon 1 = .ok (.bipush 24, 2) := by decide +kernel
theorem dX5_tillNoon_3 : decode cX5_tillNoon 3 = .ok (.irem, 1) := by decide +kernel
theorem dX5_tillNoon_4 : decode cX5_tillNoon 4 = .ok (.istore_n 2, 1) := by decide +kernel
theorem dX5_tillNoon_5 : decode cX5_tillNoon 5 = .ok (.iload_n 2, 1) := by decide +kernel
theorem dX5_tillNoon_6 : decode cX5_tillNoon 6 = .ok (.bipush 12, 2) := by decide +kernel
theorem dX5_tillNoon_8 : decode cX5_tillNoon 8 = .ok (.if_icmp .lt 7, 3) := by decide +kernel
theorem dX5_tillNoon_11 : decode cX5_tillNoon 11 = .ok (.iconst 0, 1) := by decide +kernel
theorem dX5_tillNoon_12 : decode cX5_tillNoon 12 = .ok (.goto 14, 3) := by decide +kernel
theorem dX5_tillNoon_15 : decode cX5_tillNoon 15 = .ok (.bipush 12, 2) := by decide +kernel
theorem dX5_tillNoon_17 : decode cX5_tillNoon 17 = .ok (.iload_n 2, 1) := by decide +kernel
theorem dX5_tillNoon_18 : decode cX5_tillNoon 18 = .ok (.isub, 1) := by decide +kernel
theorem dX5_tillNoon_19 : decode cX5_tillNoon 19 = .ok (.aload_n 0, 1) := by decide +kernel
theorem dX5_tillNoon_20 : decode cX5_tillNoon 20 = .ok (.getfield 22, 3) := by decide +kernel
theorem dX5_tillNoon_23 : decode cX5_tillNoon 23 = .ok (.invokestatic 29, 3) := by decide +kernel
theorem dX5_tillNoon_26 : decode cX5_tillNoon 26 = .ok (.ireturn, 1) := by decide +kernel
theorem dX6_init_0 : decode cX6_init 0 = .ok (.aload_n 0, 1) := by decide +kernel
theorem dX6_init_1 : decode cX6_init 1 = .ok (.invokespecial 3, 3) := by decide +kernel
theorem dX6_init_4 : decode cX6_init 4 = .ok (.aload_n 0, 1) := by decide +kernel
theorem dX6_init_5 : decode cX6_init 5 = .ok (.aconst_null, 1) := by decide +kernel
theorem dX6_init_6 : decode cX6_init 6 = .ok (.putfield 9, 3) := by decide +kernel
theorem dX6_init_9 : decode cX6_init 9 = .ok (.aload_n 0, 1) := by decide +kernel
theorem dX6_init_10 : decode cX6_init 10 = .ok (.new 15, 3) := by decide +kernel
theorem dX6_init_13 : decode cX6_init 13 = .ok (.dup, 1) := by decide +kernel
theorem dX6_init_14 : decode cX6_init 14 = .ok (.invokespecial 17, 3) := by decide +kernel
theorem dX6_init_17 : decode cX6_init 17 = .ok (.putfield 18, 3) := by decide +kernel
theorem dX6_init_20 : decode cX6_init 20 = .ok (.aload_n 0, 1) := by decide +kernel
theorem dX6_init_21 : decode cX6_init 21 = .ok (.iconst 5, 1) := by decide +kernel
theorem dX6_init_22 : decode cX6_init 22 = .ok (.newarray .int, 2) := by decide +kernel
theorem dX6_init_24 : decode cX6_init 24 = .ok (.putfield 22, 3) := by decide +kernel
theorem dX6_init_27 : decode cX6_init 27 = .ok (.aload_n 0, 1) := by decide +kernel
theorem dX6_init_28 : decode cX6_init 28 = .ok (.iconst 3, 1) := by decide +kernel
theorem dX6_init_29 : decode cX6_init 29 = .ok (.newarray .int, 2) := by decide +kernel
theorem dX6_init_31 : decode cX6_init 31 = .ok (.putfield 26, 3) := by decide +kernel
theorem dX6_init_34 : decode cX6_init 34 = .ok (.aload_n 0, 1) := by decide +kernel
theorem dX6_init_35 : decode cX6_init 35 = .ok (.iconst 5, 1) := by decide +kernel
theorem dX6_init_36 : decode cX6_init 36 = .ok (.newarray .int, 2) := by decide +kernel
theorem dX6_init_38 : decode cX6_init 38 = .ok (.putfield 29, 3) := by decide +kernel
theorem dX6_init_41 : decode cX6_init 41 = .ok (.return_, 1) := by decide +kernel
theorem dX6_become_0 : decode cX6_become 0 = .ok (.aload_n 0, 1) := by decide +kernel
theorem dX6_become_1 : decode cX6_become 1 = .ok (.aload_n 1, 1) := by decide +kernel
theorem dX6_become_2 : decode cX6_become 2 = .ok (.getfield 9, 3) := by decide +kernel
theorem dX6_become_5 : decode cX6_become 5 = .ok (.putfield 9, 3) := by decide +kernel
theorem dX6_become_8 : decode cX6_become 8 = .ok (.aload_n 0, 1) := by decide +kernel
theorem dX6_become_9 : decode cX6_become 9 = .ok (.getfield 18, 3) := by decide +kernel
theorem dX6_become_12 : decode cX6_become 12 = .ok (.aload_n 1, 1) := by decide +kernel
theorem dX6_become_13 : decode cX6_become 13 = .ok (.getfield 18, 3) := by decide +kernel
theorem dX6_become_16 : decode cX6_become 16 = .ok (.invokevirtual 32, 3) := by decide +kernel
theorem dX6_become_19 : decode cX6_become 19 = .ok (.aload_n 0, 1) := by decide +kernel
theorem dX6_become_20 : decode cX6_become 20 = .ok (.aload_n 1, 1) := by decide +kernel
theorem dX6_become_21 : decode cX6_become 21 = .ok (.getfield 36, 3) := by decide +kernel
theorem dX6_become_24 : decode cX6_become 24 = .ok (.putfield 36, 3) := by decide +kernel
theorem dX6_become_27 : decode cX6_become 27 = .ok (.aload_n 0, 1) := by decide +kernel
theorem dX6_become_28 : decode cX6_become 28 = .ok (.aload_n 1, 1) := by decide +kernel
theorem dX6_become_29 : decode cX6_become 29 = .ok (.getfield 40, 3) := by decide +kernel
theorem dX6_become_32 : decode cX6_become 32 = .ok (.putfield 40, 3) := by decide +kernel
theorem dX6_become_35 : decode cX6_become 35 = .ok (.iconst 0, 1) := by decide +kernel
theorem dX6_become_36 : decode cX6_become 36 = .ok (.istore_n 2, 1) := by decide +kernel
theorem dX6_become_37 : decode cX6_become 37 = .ok (.iload_n 2, 1) := by decide +kernel
theorem dX6_become_38 : decode cX6_become 38 = .ok (.iconst 5, 1) := by decide +kernel
theorem dX6_become_39 : decode cX6_become 39 = .ok (.if_icmp .ge 33, 3) := by decide +kernel
theorem dX6_become_42 : decode cX6_become 42 = .ok (.aload_n 0, 1) := by decide +kernel
theorem dX6_become_43 : decode cX6_become 43 = .ok (.getfield 22, 3) := by decide +kernel
theorem dX6_become_46 : decode cX6_become 46 = .ok (.iload_n 2, 1) := by decide +kernel
theorem dX6_become_47 : decode cX6_become 47 = .ok (.aload_n 1, 1) := by decide +kernel
theorem dX6_become_48 : decode cX6_become 48 = .ok (.getfield 22, 3) := by decide +kernel
theorem dX6_become_51 : decode cX6_become 51 = .ok (.iload_n 2, 1) := by decide +kernel
theorem dX6_become_52 : decode cX6_become 52 = .ok (.iaload, 1) := by decide +kernel
theorem dX6_become_53 : decode cX6_become 53 = .ok (.iastore, 1) := by decide +kernel
theorem dX6_become_54 : decode cX6_become 54 = .ok (.aload_n 0, 1) := by decide +kernel
theorem dX6_become_55 : decode cX6_become 55 = .ok (.getfield 29, 3) := by decide +kernel
theorem dX6_become_58 : decode cX6_become 58 = .ok (.iload_n 2, 1) := by decide +kernel
theorem dX6_become_59 : decode cX6_become 59 = .ok (.aload_n 1, 1) := by decide +kernel
theorem dX6_become_60 : decode cX6_become 60 = .ok (.getfield 29, 3) := by decide +kernel
theorem dX6_become_63 : decode cX6_become 63 = .ok (.iload_n 2, 1) := by decide +kernel
theorem dX6_become_64 : decode cX6_become 64 = .ok (.iaload, 1) := by decide +kernel
theorem dX6_become_65 : decode cX6_become 65 = .ok (.iastore, 1) := by decide +kernel
theorem dX6_become_66 : decode cX6_become 66 = .ok (.iinc 2 1, 3) := by decide +kernel
theorem dX6_become_69 : decode cX6_become 69 = .ok (.goto (-32), 3) := by decide +kernel
theorem dX6_become_72 : decode cX6_become 72 = .ok (.iconst 0, 1) := by decide +kernel
theorem dX6_become_73 : decode cX6_become 73 = .ok (.istore_n 2, 1) := by decide +kernel
theorem dX6_become_74 : decode cX6_become 74 = .ok (.iload_n 2, 1) := by decide +kernel
theorem dX6_become_75 : decode cX6_become 75 = .ok (.iconst 3, 1) := by decide +kernel
theorem dX6_become_76 : decode cX6_become 76 = .ok (.if_icmp .ge 21, 3) := by decide +kernel
theorem dX6_become_79 : decode cX6_become 79 = .ok (.aload_n 0, 1) := by decide +kernel
theorem dX6_become_80 : decode cX6_become 80 = .ok (.getfield 26, 3) := by decide +kernel
theorem dX6_become_83 : decode cX6_become 83 = .ok (.iload_n 2, 1) := by decide +kernel
theorem dX6_become_84 : decode cX6_become 84 = .ok (.aload_n 1, 1) := by decide +kernel
theorem dX6_become_85 : decode cX6_become 85 = .ok (.getfield 26, 3) := by decide +kernel
theorem dX6_become_88 : decode cX6_become 88 = .ok (.iload_n 2, 1) := by decide +kernel
theorem dX6_become_89 : decode cX6_become 89 = .ok (.iaload, 1) := by decide +kernel
theorem dX6_become_90 : decode cX6_become 90 = .ok (.iastore, 1) := by decide +kernel
theorem dX6_become_91 : decode cX6_become 91 = .ok (.iinc 2 1, 3) := by decide +kernel
theorem dX6_become_94 : decode cX6_become 94 = .ok (.goto (-20), 3) := by decide +kernel
theorem dX6_become_97 : decode cX6_become 97 = .ok (.return_, 1) := by decide +kernel
theorem dX6_emptyHand_0 : decode cX6_emptyHand 0 = .ok (.aload_n 0, 1) := by decide +kernel
theorem dX6_emptyHand_1 : decode cX6_emptyHand 1 = .ok (.iconst 0, 1) := by decide +kernel
theorem dX6_emptyHand_2 : decode cX6_emptyHand 2 = .ok (.putfield 40, 3) := by decide +kernel
theorem dX6_emptyHand_5 : decode cX6_emptyHand 5 = .ok (.iconst 0, 1) := by decide +kernel
theorem dX6_emptyHand_6 : decode cX6_emptyHand 6 = .ok (.istore_n 1, 1) := by decide +kernel
theorem dX6_emptyHand_7 : decode cX6_emptyHand 7 = .ok (.iload_n 1, 1) := by decide +kernel
theorem dX6_emptyHand_8 : decode cX6_emptyHand 8 = .ok (.iconst 5, 1) := by decide +kernel
theorem dX6_emptyHand_9 : decode cX6_emptyHand 9 = .ok (.if_icmp .ge 16, 3) := by decide +kernel
theorem dX6_emptyHand_12 : decode cX6_emptyHand 12 = .ok (.aload_n 0, 1) := by decide +kernel
theorem dX6_emptyHand_13 : decode cX6_emptyHand 13 = .ok (.getfield 29, 3) := by decide +kernel
theorem dX6_emptyHand_16 : decode cX6_emptyHand 16 = .ok (.iload_n 1, 1) := by decide +kernel
theorem dX6_emptyHand_17 : decode cX6_emptyHand 17 = .ok (.iconst 0, 1) := by decide +kernel
theorem dX6_emptyHand_18 : decode cX6_emptyHand 18 = .ok (.iastore, 1) := by decide +kernel
theorem dX6_emptyHand_19 : decode cX6_emptyHand 19 = .ok (.iinc 1 1, 3) := by decide +kernel
theorem dX6_emptyHand_22 : decode cX6_emptyHand 22 = .ok (.goto (-15), 3) := by decide +kernel
theorem dX6_emptyHand_25 : decode cX6_emptyHand 25 = .ok (.return_, 1) := by decide +kernel
theorem dX7_init_0 : decode cX7_init 0 = .ok (.aload_n 0, 1) := by decide +kernel
theorem dX7_init_1 : decode cX7_init 1 = .ok (.invokespecial 3, 3) := by decide +kernel
theorem dX7_init_4 : decode cX7_init 4 = .ok (.aload_n 0, 1) := by decide +kernel
theorem dX7_init_5 : decode cX7_init 5 = .ok (.iconst (-1), 1) := by decide +kernel
theorem dX7_init_6 : decode cX7_init 6 = .ok (.putfield 11, 3) := by decide +kernel
theorem dX7_init_9 : decode cX7_init 9 = .ok (.aload_n 0, 1) := by decide +kernel
theorem dX7_init_10 : decode cX7_init 10 = .ok (.bipush 60, 2) := by decide +kernel
theorem dX7_init_12 : decode cX7_init 12 = .ok (.newarray .long, 2) := by decide +kernel
theorem dX7_init_14 : decode cX7_init 14 = .ok (.putfield 15, 3) := by decide +kernel
theorem dX7_init_17 : decode cX7_init 17 = .ok (.return_, 1) := by decide +kernel
theorem dX7_become_0 : decode cX7_become 0 = .ok (.aload_n 0, 1) := by decide +kernel
theorem dX7_become_1 : decode cX7_become 1 = .ok (.iload_n 1, 1) := by decide +kernel
theorem dX7_become_2 : decode cX7_become 2 = .ok (.putfield 11, 3) := by decide +kernel
theorem dX7_become_5 : decode cX7_become 5 = .ok (.aload_n 0, 1) := by decide +kernel
theorem dX7_become_6 : decode cX7_become 6 = .ok (.iload_n 2, 1) := by decide +kernel
theorem dX7_become_7 : decode cX7_become 7 = .ok (.putfield 19, 3) := by decide +kernel
theorem dX7_become_10 : decode cX7_become 10 = .ok (.iconst 0, 1) := by decide +kernel
theorem dX7_become_11 : decode cX7_become 11 = .ok (.istore_n 3, 1) := by decide +kernel
theorem dX7_become_12 : decode cX7_become 12 = .ok (.iload_n 3, 1) := by decide +kernel
theorem dX7_become_13 : decode cX7_become 13 = .ok (.bipush 60, 2) := by decide +kernel
theorem dX7_become_15 : decode cX7_become 15 = .ok (.if_icmp .ge 16, 3) := by decide +kernel
theorem dX7_become_18 : decode cX7_become 18 = .ok (.aload_n 0, 1) := by decide +kernel
theorem dX7_become_19 : decode cX7_become 19 = .ok (.getfield 15, 3) := by decide +kernel
theorem dX7_become_22 : decode cX7_become 22 = .ok (.iload_n 3, 1) := by decide +kernel
theorem dX7_become_23 : decode cX7_become 23 = .ok (.lconst 0, 1) := by decide +kernel
theorem dX7_become_24 : decode cX7_become 24 = .ok (.lastore, 1) := by decide +kernel
theorem dX7_become_25 : decode cX7_become 25 = .ok (.iinc 3 1, 3) := by decide +kernel
theorem dX7_become_28 : decode cX7_become 28 = .ok (.goto (-16), 3) := by decide +kernel
theorem dX7_become_31 : decode cX7_become 31 = .ok (.return_, 1) := by decide +kernel
theorem dX7_isPlace_0 : decode cX7_isPlace 0 = .ok (.iload_n 1, 1) := by decide +kernel
theorem dX7_isPlace_1 : decode cX7_isPlace 1 = .ok (.ifCond .lt 15, 3) := by decide +kernel
theorem dX7_isPlace_4 : decode cX7_isPlace 4 = .ok (.iload_n 1, 1) := by decide +kernel
theorem dX7_isPlace_5 : decode cX7_isPlace 5 = .ok (.aload_n 0, 1) := by decide +kernel
theorem dX7_isPlace_6 : decode cX7_isPlace 6 = .ok (.getfield 19, 3) := by decide +kernel
theorem dX7_isPlace_9 : decode cX7_isPlace 9 = .ok (.if_icmp .ge 7, 3) := by decide +kernel
theorem dX7_isPlace_12 : decode cX7_isPlace 12 = .ok (.iconst 1, 1) := by decide +kernel
theorem dX7_isPlace_13 : decode cX7_isPlace 13 = .ok (.goto 4, 3) := by decide +kernel
theorem dX7_isPlace_16 : decode cX7_isPlace 16 = .ok (.iconst 0, 1) := by decide +kernel
theorem dX7_isPlace_17 : decode cX7_isPlace 17 = .ok (.ireturn, 1) := by decide +kernel
theorem dX7_isStretch_0 : decode cX7_isStretch 0 = .ok (.iload_n 1, 1) := by decide +kernel
theorem dX7_isStretch_1 : decode cX7_isStretch 1 = .ok (.ifCond .lt 29, 3) := by decide +kernel
theorem dX7_isStretch_4 : decode cX7_isStretch 4 = .ok (.iload_n 2, 1) := by decide +kernel
theorem dX7_isStretch_5 : decode cX7_isStretch 5 = .ok (.ifCond .lt 25, 3) := by decide +kernel
theorem dX7_isStretch_8 : decode cX7_isStretch 8 = .ok (.iload_n 1, 1) := by decide +kernel
theorem dX7_isStretch_9 : decode cX7_isStretch 9 = .ok (.aload_n 0, 1) := by decide +kernel
theorem dX7_isStretch_10 : decode cX7_isStretch 10 = .ok (.getfield 19, 3) := by decide +kernel
theorem dX7_isStretch_13 : decode cX7_isStretch 13 = .ok (.if_icmp .gt 17, 3) := by decide +kernel
theorem dX7_isStretch_16 : decode cX7_isStretch 16 = .ok (.iload_n 2, 1) := by decide +kernel
theorem dX7_isStretch_17 : decode cX7_isStretch 17 = .ok (.aload_n 0, 1) := by decide +kernel
theorem dX7_isStretch_18 : decode cX7_isStretch 18 = .ok (.getfield 19, 3) := by decide +kernel
theorem dX7_isStretch_21 : decode cX7_isStretch 21 = .ok (.iload_n 1, 1) := by decide +kernel
theorem dX7_isStretch_22 : decode cX7_isStretch 22 = .ok (.isub, 1) := by decide +kernel
theorem dX7_isStretch_23 : decode cX7_isStretch 23 = .ok (.if_icmp .gt 7, 3) := by decide +kernel
theorem dX7_isStretch_26 : decode cX7_isStretch 26 = .ok (.iconst 1, 1) := by decide +kernel
theorem dX7_isStretch_27 : decode cX7_isStretch 27 = .ok (.goto 4, 3) := by decide +kernel
theorem dX7_isStretch_30 : decode cX7_isStretch 30 = .ok (.iconst 0, 1) := by decide +kernel
theorem dX7_isStretch_31 : decode cX7_isStretch 31 = .ok (.ireturn, 1) := by decide +kernel
theorem dX7_narrowed_0 : decode cX7_narrowed 0 = .ok (.aload_n 0, 1) := by decide +kernel
theorem dX7_narrowed_1 : decode cX7_narrowed 1 = .ok (.getfield 11, 3) := by decide +kernel
theorem dX7_narrowed_4 : decode cX7_narrowed 4 = .ok (.tableswitch 48 0 3 #[32, 37, 42, 46], 32) := by decide +kernel
theorem dX7_narrowed_36 : decode cX7_narrowed 36 = .ok (.lload_n 1, 1) := by decide +kernel
theorem dX7_narrowed_37 : decode cX7_narrowed 37 = .ok (.l2i, 1) := by decide +kernel
theorem dX7_narrowed_38 : decode cX7_narrowed 38 = .ok (.i2b, 1) := by decide +kernel
theorem dX7_narrowed_39 : decode cX7_narrowed 39 = .ok (.i2l, 1) := by decide +kernel
theorem dX7_narrowed_40 : decode cX7_narrowed 40 = .ok (.lreturn, 1) := by decide +kernel
theorem dX7_narrowed_41 : decode cX7_narrowed 41 = .ok (.lload_n 1, 1) := by decide +kernel
theorem dX7_narrowed_42 : decode cX7_narrowed 42 = .ok (.l2i, 1) := by decide +kernel
theorem dX7_narrowed_43 : decode cX7_narrowed 43 = .ok (.i2s, 1) := by decide +kernel
theorem dX7_narrowed_44 : decode cX7_narrowed 44 = .ok (.i2l, 1) := by decide +kernel
theorem dX7_narrowed_45 : decode cX7_narrowed 45 = .ok (.lreturn, 1) := by decide +kernel
theorem dX7_narrowed_46 : decode cX7_narrowed 46 = .ok (.lload_n 1, 1) := by decide +kernel
theorem dX7_narrowed_47 : decode cX7_narrowed 47 = .ok (.l2i, 1) := by decide +kernel
theorem dX7_narrowed_48 : decode cX7_narrowed 48 = .ok (.i2l, 1) := by decide +kernel
theorem dX7_narrowed_49 : decode cX7_narrowed 49 = .ok (.lreturn, 1) := by decide +kernel
theorem dX7_narrowed_50 : decode cX7_narrowed 50 = .ok (.lload_n 1, 1) := by decide +kernel
theorem dX7_narrowed_51 : decode cX7_narrowed 51 = .ok (.lreturn, 1) := by decide +kernel
theorem dX7_narrowed_52 : decode cX7_narrowed 52 = .ok (.lload_n 1, 1) := by decide +kernel
theorem dX7_narrowed_53 : decode cX7_narrowed 53 = .ok (.lconst 0, 1) := by decide +kernel
theorem dX7_narrowed_54 : decode cX7_narrowed 54 = .ok (.lcmp, 1) := by decide +kernel
theorem dX7_narrowed_55 : decode cX7_narrowed 55 = .ok (.ifCond .ne 7, 3) := by decide +kernel
theorem dX7_narrowed_58 : decode cX7_narrowed 58 = .ok (.lconst 0, 1) := by decide +kernel
theorem dX7_narrowed_59 : decode cX7_narrowed 59 = .ok (.goto 4, 3) := by decide +kernel
theorem dX7_narrowed_62 : decode cX7_narrowed 62 = .ok (.lconst 1, 1) := by decide +kernel
theorem dX7_narrowed_63 : decode cX7_narrowed 63 = .ok (.lreturn, 1) := by decide +kernel
theorem dX8_init_0 : decode cX8_init 0 = .ok (.aload_n 0, 1) := by decide +kernel
theorem dX8_init_1 : decode cX8_init 1 = .ok (.invokespecial 3, 3) := by decide +kernel
theorem dX8_init_4 : decode cX8_init 4 = .ok (.aload_n 0, 1) := by decide +kernel
theorem dX8_init_5 : decode cX8_init 5 = .ok (.iconst 5, 1) := by decide +kernel
theorem dX8_init_6 : decode cX8_init 6 = .ok (.newarray .int, 2) := by decide +kernel
theorem dX8_init_8 : decode cX8_init 8 = .ok (.putfield 9, 3) := by decide +kernel
theorem dX8_init_11 : decode cX8_init 11 = .ok (.aload_n 0, 1) := by decide +kernel
theorem dX8_init_12 : decode cX8_init 12 = .ok (.iconst 5, 1) := by decide +kernel
theorem dX8_init_13 : decode cX8_init 13 = .ok (.newarray .int, 2) := by decide +kernel
theorem dX8_init_15 : decode cX8_init 15 = .ok (.putfield 15, 3) := by decide +kernel
theorem dX8_init_18 : decode cX8_init 18 = .ok (.return_, 1) := by decide +kernel
theorem dX8_make_0 : decode cX8_make 0 = .ok (.aload_n 0, 1) := by decide +kernel
theorem dX8_make_1 : decode cX8_make 1 = .ok (.aload_n 1, 1) := by decide +kernel
theorem dX8_make_2 : decode cX8_make 2 = .ok (.aload_n 3, 1) := by decide +kernel
theorem dX8_make_3 : decode cX8_make 3 = .ok (.invokevirtual 18, 3) := by decide +kernel
theorem dX8_make_6 : decode cX8_make 6 = .ok (.iconst 0, 1) := by decide +kernel
theorem dX8_make_7 : decode cX8_make 7 = .ok (.istore 5, 2) := by decide +kernel
theorem dX8_make_9 : decode cX8_make 9 = .ok (.iload 5, 2) := by decide +kernel
theorem dX8_make_11 : decode cX8_make 11 = .ok (.aload_n 1, 1) := by decide +kernel
theorem dX8_make_12 : decode cX8_make 12 = .ok (.getfield 22, 3) := by decide +kernel
theorem dX8_make_15 : decode cX8_make 15 = .ok (.if_icmp .ge 65, 3) := by decide +kernel
theorem dX8_make_18 : decode cX8_make 18 = .ok (.aload_n 0, 1) := by decide +kernel
theorem dX8_make_19 : decode cX8_make 19 = .ok (.getfield 28, 3) := by decide +kernel
theorem dX8_make_22 : decode cX8_make 22 = .ok (.bipush (-5), 2) := by decide +kernel
theorem dX8_make_24 : decode cX8_make 24 = .ok (.if_icmp .ne 56, 3) := by decide +kernel
theorem dX8_make_27 : decode cX8_make 27 = .ok (.aload_n 0, 1) := by decide +kernel
theorem dX8_make_28 : decode cX8_make 28 = .ok (.aload_n 1, 1) := by decide +kernel
theorem dX8_make_29 : decode cX8_make 29 = .ok (.iload 5, 2) := by decide +kernel
theorem dX8_make_31 : decode cX8_make 31 = .ok (.aload_n 3, 1) := by decide +kernel
theorem dX8_make_32 : decode cX8_make 32 = .ok (.getfield 31, 3) := by decide +kernel
theorem dX8_make_35 : decode cX8_make 35 = .ok (.invokevirtual 36, 3) := by decide +kernel
theorem dX8_make_38 : decode cX8_make 38 = .ok (.ifCond .ne 12, 3) := by decide +kernel
theorem dX8_make_41 : decode cX8_make 41 = .ok (.aload_n 0, 1) := by decide +kernel
theorem dX8_make_42 : decode cX8_make 42 = .ok (.iload 5, 2) := by decide +kernel
theorem dX8_make_44 : decode cX8_make 44 = .ok (.putfield 28, 3) := by decide +kernel
theorem dX8_make_47 : decode cX8_make 47 = .ok (.goto 27, 3) := by decide +kernel
theorem dX8_make_50 : decode cX8_make 50 = .ok (.aload_n 0, 1) := by decide +kernel
theorem dX8_make_51 : decode cX8_make 51 = .ok (.aload_n 2, 1) := by decide +kernel
theorem dX8_make_52 : decode cX8_make 52 = .ok (.iload 5, 2) := by decide +kernel
theorem dX8_make_54 : decode cX8_make 54 = .ok (.aload_n 3, 1) := by decide +kernel
theorem dX8_make_55 : decode cX8_make 55 = .ok (.getfield 40, 3) := by decide +kernel
theorem dX8_make_58 : decode cX8_make 58 = .ok (.aload 4, 2) := by decide +kernel
theorem dX8_make_60 : decode cX8_make 60 = .ok (.invokevirtual 44, 3) := by decide +kernel
theorem dX8_make_63 : decode cX8_make 63 = .ok (.ifCond .ne 11, 3) := by decide +kernel
theorem dX8_make_66 : decode cX8_make 66 = .ok (.aload_n 0, 1) := by decide +kernel
theorem dX8_make_67 : decode cX8_make 67 = .ok (.iload 5, 2) := by decide +kernel
theorem dX8_make_69 : decode cX8_make 69 = .ok (.iconst 1, 1) := by decide +kernel
theorem dX8_make_70 : decode cX8_make 70 = .ok (.iadd, 1) := by decide +kernel
theorem dX8_make_71 : decode cX8_make 71 = .ok (.putfield 28, 3) := by decide +kernel
theorem dX8_make_74 : decode cX8_make 74 = .ok (.iinc 5 1, 3) := by decide +kernel
theorem dX8_make_77 : decode cX8_make 77 = .ok (.goto (-68), 3) := by decide +kernel
theorem dX8_make_80 : decode cX8_make 80 = .ok (.aload_n 0, 1) := by decide +kernel
theorem dX8_make_81 : decode cX8_make 81 = .ok (.getfield 28, 3) := by decide +kernel
theorem dX8_make_84 : decode cX8_make 84 = .ok (.bipush (-5), 2) := by decide +kernel
theorem dX8_make_86 : decode cX8_make 86 = .ok (.if_icmp .ne 38, 3) := by decide +kernel
theorem dX8_make_89 : decode cX8_make 89 = .ok (.aload_n 0, 1) := by decide +kernel
theorem dX8_make_90 : decode cX8_make 90 = .ok (.aload_n 1, 1) := by decide +kernel
theorem dX8_make_91 : decode cX8_make 91 = .ok (.aload_n 1, 1) := by decide +kernel
theorem dX8_make_92 : decode cX8_make 92 = .ok (.getfield 22, 3) := by decide +kernel
theorem dX8_make_95 : decode cX8_make 95 = .ok (.aload_n 3, 1) := by decide +kernel
theorem dX8_make_96 : decode cX8_make 96 = .ok (.getfield 31, 3) := by decide +kernel
theorem dX8_make_99 : decode cX8_make 99 = .ok (.invokevirtual 36, 3) := by decide +kernel
theorem dX8_make_102 : decode cX8_make 102 = .ok (.ifCond .eq 14, 3) := by decide +kernel
theorem dX8_make_105 : decode cX8_make 105 = .ok (.aload_n 0, 1) := by decide +kernel
theorem dX8_make_106 : decode cX8_make 106 = .ok (.aload_n 0, 1) := by decide +kernel
theorem dX8_make_107 : decode cX8_make 107 = .ok (.getfield 48, 3) := by decide +kernel
theorem dX8_make_110 : decode cX8_make 110 = .ok (.putfield 51, 3) := by decide +kernel
theorem dX8_make_113 : decode cX8_make 113 = .ok (.goto 11, 3) := by decide +kernel
theorem dX8_make_116 : decode cX8_make 116 = .ok (.aload_n 0, 1) := by decide +kernel
theorem dX8_make_117 : decode cX8_make 117 = .ok (.aload_n 1, 1) := by decide +kernel
theorem dX8_make_118 : decode cX8_make 118 = .ok (.getfield 22, 3) := by decide +kernel
theorem dX8_make_121 : decode cX8_make 121 = .ok (.putfield 28, 3) := by decide +kernel
theorem dX8_make_124 : decode cX8_make 124 = .ok (.return_, 1) := by decide +kernel
theorem dX8_begin_0 : decode cX8_begin 0 = .ok (.aload_n 0, 1) := by decide +kernel
theorem dX8_begin_1 : decode cX8_begin 1 = .ok (.bipush (-5), 2) := by decide +kernel
theorem dX8_begin_3 : decode cX8_begin 3 = .ok (.putfield 51, 3) := by decide +kernel
theorem dX8_begin_6 : decode cX8_begin 6 = .ok (.aload_n 0, 1) := by decide +kernel
theorem dX8_begin_7 : decode cX8_begin 7 = .ok (.bipush (-5), 2) := by decide +kernel
theorem dX8_begin_9 : decode cX8_begin 9 = .ok (.putfield 28, 3) := by decide +kernel
theorem dX8_begin_12 : decode cX8_begin 12 = .ok (.iconst 0, 1) := by decide +kernel
theorem dX8_begin_13 : decode cX8_begin 13 = .ok (.istore_n 3, 1) := by decide +kernel
theorem dX8_begin_14 : decode cX8_begin 14 = .ok (.iload_n 3, 1) := by decide +kernel
theorem dX8_begin_15 : decode cX8_begin 15 = .ok (.iconst 5, 1) := by decide +kernel
theorem dX8_begin_16 : decode cX8_begin 16 = .ok (.if_icmp .ge 25, 3) := by decide +kernel
theorem dX8_begin_19 : decode cX8_begin 19 = .ok (.aload_n 0, 1) := by decide +kernel
theorem dX8_begin_20 : decode cX8_begin 20 = .ok (.getfield 9, 3) := by decide +kernel
theorem dX8_begin_23 : decode cX8_begin 23 = .ok (.iload_n 3, 1) := by decide +kernel
theorem dX8_begin_24 : decode cX8_begin 24 = .ok (.bipush (-5), 2) := by decide +kernel
theorem dX8_begin_26 : decode cX8_begin 26 = .ok (.iastore, 1) := by decide +kernel
theorem dX8_begin_27 : decode cX8_begin 27 = .ok (.aload_n 0, 1) := by decide +kernel
theorem dX8_begin_28 : decode cX8_begin 28 = .ok (.getfield 15, 3) := by decide +kernel
theorem dX8_begin_31 : decode cX8_begin 31 = .ok (.iload_n 3, 1) := by decide +kernel
theorem dX8_begin_32 : decode cX8_begin 32 = .ok (.bipush (-5), 2) := by decide +kernel
theorem dX8_begin_34 : decode cX8_begin 34 = .ok (.iastore, 1) := by decide +kernel
theorem dX8_begin_35 : decode cX8_begin 35 = .ok (.iinc 3 1, 3) := by decide +kernel
theorem dX8_begin_38 : decode cX8_begin 38 = .ok (.goto (-24), 3) := by decide +kernel
theorem dX8_begin_41 : decode cX8_begin 41 = .ok (.aload_n 0, 1) := by decide +kernel
theorem dX8_begin_42 : decode cX8_begin 42 = .ok (.aload_n 2, 1) := by decide +kernel
theorem dX8_begin_43 : decode cX8_begin 43 = .ok (.getfield 54, 3) := by decide +kernel
theorem dX8_begin_46 : decode cX8_begin 46 = .ok (.putfield 48, 3) := by decide +kernel
theorem dX8_begin_49 : decode cX8_begin 49 = .ok (.aload_n 0, 1) := by decide +kernel
theorem dX8_begin_50 : decode cX8_begin 50 = .ok (.aload_n 1, 1) := by decide +kernel
theorem dX8_begin_51 : decode cX8_begin 51 = .ok (.getfield 57, 3) := by decide +kernel
theorem dX8_begin_54 : decode cX8_begin 54 = .ok (.aload_n 2, 1) := by decide +kernel
theorem dX8_begin_55 : decode cX8_begin 55 = .ok (.getfield 31, 3) := by decide +kernel
theorem dX8_begin_58 : decode cX8_begin 58 = .ok (.imul, 1) := by decide +kernel
theorem dX8_begin_59 : decode cX8_begin 59 = .ok (.putfield 60, 3) := by decide +kernel
theorem dX8_begin_62 : decode cX8_begin 62 = .ok (.aload_n 0, 1) := by decide +kernel
theorem dX8_begin_63 : decode cX8_begin 63 = .ok (.aload_n 1, 1) := by decide +kernel
theorem dX8_begin_64 : decode cX8_begin 64 = .ok (.getfield 63, 3) := by decide +kernel
theorem dX8_begin_67 : decode cX8_begin 67 = .ok (.aload_n 2, 1) := by decide +kernel
theorem dX8_begin_68 : decode cX8_begin 68 = .ok (.getfield 31, 3) := by decide +kernel
theorem dX8_begin_71 : decode cX8_begin 71 = .ok (.imul, 1) := by decide +kernel
theorem dX8_begin_72 : decode cX8_begin 72 = .ok (.putfield 66, 3) := by decide +kernel
theorem dX8_begin_75 : decode cX8_begin 75 = .ok (.aload_n 0, 1) := by decide +kernel
theorem dX8_begin_76 : decode cX8_begin 76 = .ok (.aload_n 0, 1) := by decide +kernel
theorem dX8_begin_77 : decode cX8_begin 77 = .ok (.getfield 60, 3) := by decide +kernel
theorem dX8_begin_80 : decode cX8_begin 80 = .ok (.putfield 69, 3) := by decide +kernel
theorem dX8_begin_83 : decode cX8_begin 83 = .ok (.return_, 1) := by decide +kernel
theorem dX8_walk_0 : decode cX8_walk 0 = .ok (.aload_n 1, 1) := by decide +kernel
theorem dX8_walk_1 : decode cX8_walk 1 = .ok (.iload_n 2, 1) := by decide +kernel
theorem dX8_walk_2 : decode cX8_walk 2 = .ok (.aload_n 0, 1) := by decide +kernel
theorem dX8_walk_3 : decode cX8_walk 3 = .ok (.getfield 48, 3) := by decide +kernel
theorem dX8_walk_6 : decode cX8_walk 6 = .ok (.iload_n 3, 1) := by decide +kernel
theorem dX8_walk_7 : decode cX8_walk 7 = .ok (.invokevirtual 72, 3) := by decide +kernel
theorem dX8_walk_10 : decode cX8_walk 10 = .ok (.istore 4, 2) := by decide +kernel
theorem dX8_walk_12 : decode cX8_walk 12 = .ok (.iload 4, 2) := by decide +kernel
theorem dX8_walk_14 : decode cX8_walk 14 = .ok (.aload_n 0, 1) := by decide +kernel
theorem dX8_walk_15 : decode cX8_walk 15 = .ok (.getfield 69, 3) := by decide +kernel
theorem dX8_walk_18 : decode cX8_walk 18 = .ok (.if_icmp .le 5, 3) := by decide +kernel
theorem dX8_walk_21 : decode cX8_walk 21 = .ok (.iconst 0, 1) := by decide +kernel
theorem dX8_walk_22 : decode cX8_walk 22 = .ok (.ireturn, 1) := by decide +kernel
theorem dX8_walk_23 : decode cX8_walk 23 = .ok (.aload_n 0, 1) := by decide +kernel
theorem dX8_walk_24 : decode cX8_walk 24 = .ok (.dup, 1) := by decide +kernel
theorem dX8_walk_25 : decode cX8_walk 25 = .ok (.getfield 69, 3) := by decide +kernel
theorem dX8_walk_28 : decode cX8_walk 28 = .ok (.iload 4, 2) := by decide +kernel
theorem dX8_walk_30 : decode cX8_walk 30 = .ok (.isub, 1) := by decide +kernel
theorem dX8_walk_31 : decode cX8_walk 31 = .ok (.putfield 69, 3) := by decide +kernel
theorem dX8_walk_34 : decode cX8_walk 34 = .ok (.aload_n 0, 1) := by decide +kernel
theorem dX8_walk_35 : decode cX8_walk 35 = .ok (.dup, 1) := by decide +kernel
theorem dX8_walk_36 : decode cX8_walk 36 = .ok (.getfield 48, 3) := by decide +kernel
theorem dX8_walk_39 : decode cX8_walk 39 = .ok (.aload_n 1, 1) := by decide +kernel
theorem dX8_walk_40 : decode cX8_walk 40 = .ok (.getfield 76, 3) := by decide +kernel
theorem dX8_walk_43 : decode cX8_walk 43 = .ok (.iload_n 2, 1) := by decide +kernel
theorem dX8_walk_44 : decode cX8_walk 44 = .ok (.iaload, 1) := by decide +kernel
theorem dX8_walk_45 : decode cX8_walk 45 = .ok (.iadd, 1) := by decide +kernel
theorem dX8_walk_46 : decode cX8_walk 46 = .ok (.putfield 48, 3) := by decide +kernel
theorem dX8_walk_49 : decode cX8_walk 49 = .ok (.iconst 1, 1) := by decide +kernel
theorem dX8_walk_50 : decode cX8_walk 50 = .ok (.ireturn, 1) := by decide +kernel
theorem dX8_visit_0 : decode cX8_visit 0 = .ok (.aload_n 0, 1) := by decide +kernel
theorem dX8_visit_1 : decode cX8_visit 1 = .ok (.getfield 15, 3) := by decide +kernel
theorem dX8_visit_4 : decode cX8_visit 4 = .ok (.iload_n 2, 1) := by decide +kernel
theorem dX8_visit_5 : decode cX8_visit 5 = .ok (.aload_n 0, 1) := by decide +kernel
theorem dX8_visit_6 : decode cX8_visit 6 = .ok (.getfield 69, 3) := by decide +kernel
theorem dX8_visit_9 : decode cX8_visit 9 = .ok (.iastore, 1) := by decide +kernel
theorem dX8_visit_10 : decode cX8_visit 10 = .ok (.aload_n 0, 1) := by decide +kernel
theorem dX8_visit_11 : decode cX8_visit 11 = .ok (.aload_n 1, 1) := by decide +kernel
theorem dX8_visit_12 : decode cX8_visit 12 = .ok (.getfield 79, 3) := by decide +kernel
theorem dX8_visit_15 : decode cX8_visit 15 = .ok (.iload_n 2, 1) := by decide +kernel
theorem dX8_visit_16 : decode cX8_visit 16 = .ok (.iaload, 1) := by decide +kernel
theorem dX8_visit_17 : decode cX8_visit 17 = .ok (.aload_n 0, 1) := by decide +kernel
theorem dX8_visit_18 : decode cX8_visit 18 = .ok (.getfield 48, 3) := by decide +kernel
theorem dX8_visit_21 : decode cX8_visit 21 = .ok (.isub, 1) := by decide +kernel
theorem dX8_visit_22 : decode cX8_visit 22 = .ok (.invokevirtual 84, 3) := by decide +kernel
theorem dX8_visit_25 : decode cX8_visit 25 = .ok (.ifCond .ne 5, 3) := by decide +kernel
theorem dX8_visit_28 : decode cX8_visit 28 = .ok (.iconst 0, 1) := by decide +kernel
theorem dX8_visit_29 : decode cX8_visit 29 = .ok (.ireturn, 1) := by decide +kernel
theorem dX8_visit_30 : decode cX8_visit 30 = .ok (.aload_n 0, 1) := by decide +kernel
theorem dX8_visit_31 : decode cX8_visit 31 = .ok (.getfield 9, 3) := by decide +kernel
theorem dX8_visit_34 : decode cX8_visit 34 = .ok (.iload_n 2, 1) := by decide +kernel
theorem dX8_visit_35 : decode cX8_visit 35 = .ok (.aload 4, 2) := by decide +kernel
theorem dX8_visit_37 : decode cX8_visit 37 = .ok (.ifnonnull 24, 3) := by decide +kernel
theorem dX8_visit_40 : decode cX8_visit 40 = .ok (.aload_n 3, 1) := by decide +kernel
theorem dX8_visit_41 : decode cX8_visit 41 = .ok (.aload_n 1, 1) := by decide +kernel
theorem dX8_visit_42 : decode cX8_visit 42 = .ok (.iload_n 2, 1) := by decide +kernel
theorem dX8_visit_43 : decode cX8_visit 43 = .ok (.aload_n 0, 1) := by decide +kernel
theorem dX8_visit_44 : decode cX8_visit 44 = .ok (.getfield 48, 3) := by decide +kernel
theorem dX8_visit_47 : decode cX8_visit 47 = .ok (.aload_n 0, 1) := by decide +kernel
theorem dX8_visit_48 : decode cX8_visit 48 = .ok (.getfield 69, 3) := by decide +kernel
theorem dX8_visit_51 : decode cX8_visit 51 = .ok (.aload_n 0, 1) := by decide +kernel
theorem dX8_visit_52 : decode cX8_visit 52 = .ok (.getfield 60, 3) := by decide +kernel
theorem dX8_visit_55 : decode cX8_visit 55 = .ok (.invokevirtual 88, 3) := by decide +kernel
theorem dX8_visit_58 : decode cX8_visit 58 = .ok (.goto 7, 3) := by decide +kernel
theorem dX8_visit_61 : decode cX8_visit 61 = .ok (.aload 4, 2) := by decide +kernel
theorem dX8_visit_63 : decode cX8_visit 63 = .ok (.iload_n 2, 1) := by decide +kernel
theorem dX8_visit_64 : decode cX8_visit 64 = .ok (.iaload, 1) := by decide +kernel
theorem dX8_visit_65 : decode cX8_visit 65 = .ok (.iastore, 1) := by decide +kernel
theorem dX8_visit_66 : decode cX8_visit 66 = .ok (.aload_n 0, 1) := by decide +kernel
theorem dX8_visit_67 : decode cX8_visit 67 = .ok (.aload_n 0, 1) := by decide +kernel
theorem dX8_visit_68 : decode cX8_visit 68 = .ok (.getfield 9, 3) := by decide +kernel
theorem dX8_visit_71 : decode cX8_visit 71 = .ok (.iload_n 2, 1) := by decide +kernel
theorem dX8_visit_72 : decode cX8_visit 72 = .ok (.iaload, 1) := by decide +kernel
theorem dX8_visit_73 : decode cX8_visit 73 = .ok (.invokevirtual 84, 3) := by decide +kernel
theorem dX8_visit_76 : decode cX8_visit 76 = .ok (.ifCond .ne 5, 3) := by decide +kernel
theorem dX8_visit_79 : decode cX8_visit 79 = .ok (.iconst 0, 1) := by decide +kernel
theorem dX8_visit_80 : decode cX8_visit 80 = .ok (.ireturn, 1) := by decide +kernel
theorem dX8_visit_81 : decode cX8_visit 81 = .ok (.aload_n 0, 1) := by decide +kernel
theorem dX8_visit_82 : decode cX8_visit 82 = .ok (.dup, 1) := by decide +kernel
theorem dX8_visit_83 : decode cX8_visit 83 = .ok (.getfield 69, 3) := by decide +kernel
theorem dX8_visit_86 : decode cX8_visit 86 = .ok (.aload_n 1, 1) := by decide +kernel
theorem dX8_visit_87 : decode cX8_visit 87 = .ok (.iload_n 2, 1) := by decide +kernel
theorem dX8_visit_88 : decode cX8_visit 88 = .ok (.aload_n 0, 1) := by decide +kernel
theorem dX8_visit_89 : decode cX8_visit 89 = .ok (.getfield 48, 3) := by decide +kernel
theorem dX8_visit_92 : decode cX8_visit 92 = .ok (.aload_n 0, 1) := by decide +kernel
theorem dX8_visit_93 : decode cX8_visit 93 = .ok (.getfield 60, 3) := by decide +kernel
theorem dX8_visit_96 : decode cX8_visit 96 = .ok (.aload_n 0, 1) := by decide +kernel
theorem dX8_visit_97 : decode cX8_visit 97 = .ok (.getfield 69, 3) := by decide +kernel
theorem dX8_visit_100 : decode cX8_visit 100 = .ok (.isub, 1) := by decide +kernel
theorem dX8_visit_101 : decode cX8_visit 101 = .ok (.invokevirtual 94, 3) := by decide +kernel
theorem dX8_visit_104 : decode cX8_visit 104 = .ok (.iadd, 1) := by decide +kernel
theorem dX8_visit_105 : decode cX8_visit 105 = .ok (.putfield 69, 3) := by decide +kernel
theorem dX8_visit_108 : decode cX8_visit 108 = .ok (.iconst 1, 1) := by decide +kernel
theorem dX8_visit_109 : decode cX8_visit 109 = .ok (.ireturn, 1) := by decide +kernel
theorem dX8_linger_0 : decode cX8_linger 0 = .ok (.iload_n 1, 1) := by decide +kernel
theorem dX8_linger_1 : decode cX8_linger 1 = .ok (.ifCond .gt 5, 3) := by decide +kernel
theorem dX8_linger_4 : decode cX8_linger 4 = .ok (.iconst 1, 1) := by decide +kernel
theorem dX8_linger_5 : decode cX8_linger 5 = .ok (.ireturn, 1) := by decide +kernel
theorem dX8_linger_6 : decode cX8_linger 6 = .ok (.iload_n 1, 1) := by decide +kernel
theorem dX8_linger_7 : decode cX8_linger 7 = .ok (.aload_n 0, 1) := by decide +kernel
theorem dX8_linger_8 : decode cX8_linger 8 = .ok (.getfield 66, 3) := by decide +kernel
theorem dX8_linger_11 : decode cX8_linger 11 = .ok (.imul, 1) := by decide +kernel
theorem dX8_linger_12 : decode cX8_linger 12 = .ok (.aload_n 0, 1) := by decide +kernel
theorem dX8_linger_13 : decode cX8_linger 13 = .ok (.getfield 69, 3) := by decide +kernel
theorem dX8_linger_16 : decode cX8_linger 16 = .ok (.if_icmp .le 5, 3) := by decide +kernel
theorem dX8_linger_19 : decode cX8_linger 19 = .ok (.iconst 0, 1) := by decide +kernel
theorem dX8_linger_20 : decode cX8_linger 20 = .ok (.ireturn, 1) := by decide +kernel
theorem dX8_linger_21 : decode cX8_linger 21 = .ok (.aload_n 0, 1) := by decide +kernel
theorem dX8_linger_22 : decode cX8_linger 22 = .ok (.dup, 1) := by decide +kernel
theorem dX8_linger_23 : decode cX8_linger 23 = .ok (.getfield 69, 3) := by decide +kernel
theorem dX8_linger_26 : decode cX8_linger 26 = .ok (.iload_n 1, 1) := by decide +kernel
theorem dX8_linger_27 : decode cX8_linger 27 = .ok (.aload_n 0, 1) := by decide +kernel
theorem dX8_linger_28 : decode cX8_linger 28 = .ok (.getfield 66, 3) := by decide +kernel
theorem dX8_linger_31 : decode cX8_linger 31 = .ok (.imul, 1) := by decide +kernel
theorem dX8_linger_32 : decode cX8_linger 32 = .ok (.isub, 1) := by decide +kernel
theorem dX8_linger_33 : decode cX8_linger 33 = .ok (.putfield 69, 3) := by decide +kernel
theorem dX8_linger_36 : decode cX8_linger 36 = .ok (.aload_n 0, 1) := by decide +kernel
theorem dX8_linger_37 : decode cX8_linger 37 = .ok (.dup, 1) := by decide +kernel
theorem dX8_linger_38 : decode cX8_linger 38 = .ok (.getfield 48, 3) := by decide +kernel
theorem dX8_linger_41 : decode cX8_linger 41 = .ok (.iload_n 1, 1) := by decide +kernel
theorem dX8_linger_42 : decode cX8_linger 42 = .ok (.iadd, 1) := by decide +kernel
theorem dX8_linger_43 : decode cX8_linger 43 = .ok (.putfield 48, 3) := by decide +kernel
theorem dX8_linger_46 : decode cX8_linger 46 = .ok (.iconst 1, 1) := by decide +kernel
theorem dX8_linger_47 : decode cX8_linger 47 = .ok (.ireturn, 1) := by decide +kernel
theorem dX9_init_0 : decode cX9_init 0 = .ok (.aload_n 0, 1) := by decide +kernel
theorem dX9_init_1 : decode cX9_init 1 = .ok (.invokespecial 3, 3) := by decide +kernel
theorem dX9_init_4 : decode cX9_init 4 = .ok (.aload_n 0, 1) := by decide +kernel
theorem dX9_init_5 : decode cX9_init 5 = .ok (.iconst 5, 1) := by decide +kernel
theorem dX9_init_6 : decode cX9_init 6 = .ok (.newarray .int, 2) := by decide +kernel
theorem dX9_init_8 : decode cX9_init 8 = .ok (.putfield 9, 3) := by decide +kernel
theorem dX9_init_11 : decode cX9_init 11 = .ok (.aload_n 0, 1) := by decide +kernel
theorem dX9_init_12 : decode cX9_init 12 = .ok (.iconst 5, 1) := by decide +kernel
theorem dX9_init_13 : decode cX9_init 13 = .ok (.newarray .int, 2) := by decide +kernel
theorem dX9_init_15 : decode cX9_init 15 = .ok (.putfield 15, 3) := by decide +kernel
theorem dX9_init_18 : decode cX9_init 18 = .ok (.aload_n 0, 1) := by decide +kernel
theorem dX9_init_19 : decode cX9_init 19 = .ok (.bipush 6, 2) := by decide +kernel
theorem dX9_init_21 : decode cX9_init 21 = .ok (.newarray .int, 2) := by decide +kernel
theorem dX9_init_23 : decode cX9_init 23 = .ok (.putfield 18, 3) := by decide +kernel
theorem dX9_init_26 : decode cX9_init 26 = .ok (.aload_n 0, 1) := by decide +kernel
theorem dX9_init_27 : decode cX9_init 27 = .ok (.aconst_null, 1) := by decide +kernel
theorem dX9_init_28 : decode cX9_init 28 = .ok (.putfield 21, 3) := by decide +kernel
theorem dX9_init_31 : decode cX9_init 31 = .ok (.return_, 1) := by decide +kernel
theorem dX9_clear_0 : decode cX9_clear 0 = .ok (.aload_n 0, 1) := by decide +kernel
theorem dX9_clear_1 : decode cX9_clear 1 = .ok (.iconst 0, 1) := by decide +kernel
theorem dX9_clear_2 : decode cX9_clear 2 = .ok (.putfield 24, 3) := by decide +kernel
theorem dX9_clear_5 : decode cX9_clear 5 = .ok (.aload_n 0, 1) := by decide +kernel
theorem dX9_clear_6 : decode cX9_clear 6 = .ok (.iconst 0, 1) := by decide +kernel
theorem dX9_clear_7 : decode cX9_clear 7 = .ok (.putfield 28, 3) := by decide +kernel
theorem dX9_clear_10 : decode cX9_clear 10 = .ok (.aload_n 0, 1) := by decide +kernel
theorem dX9_clear_11 : decode cX9_clear 11 = .ok (.bipush 10, 2) := by decide +kernel
theorem dX9_clear_13 : decode cX9_clear 13 = .ok (.putfield 31, 3) := by decide +kernel
theorem dX9_clear_16 : decode cX9_clear 16 = .ok (.aload_n 0, 1) := by decide +kernel
theorem dX9_clear_17 : decode cX9_clear 17 = .ok (.iconst 1, 1) := by decide +kernel
theorem dX9_clear_18 : decode cX9_clear 18 = .ok (.putfield 34, 3) := by decide +kernel
theorem dX9_clear_21 : decode cX9_clear 21 = .ok (.aload_n 0, 1) := by decide +kernel
theorem dX9_clear_22 : decode cX9_clear 22 = .ok (.iconst 0, 1) := by decide +kernel
theorem dX9_clear_23 : decode cX9_clear 23 = .ok (.putfield 37, 3) := by decide +kernel
theorem dX9_clear_26 : decode cX9_clear 26 = .ok (.iconst 0, 1) := by decide +kernel
theorem dX9_clear_27 : decode cX9_clear 27 = .ok (.istore_n 1, 1) := by decide +kernel
theorem dX9_clear_28 : decode cX9_clear 28 = .ok (.iload_n 1, 1) := by decide +kernel
theorem dX9_clear_29 : decode cX9_clear 29 = .ok (.iconst 5, 1) := by decide +kernel
theorem dX9_clear_30 : decode cX9_clear 30 = .ok (.if_icmp .ge 23, 3) := by decide +kernel
theorem dX9_clear_33 : decode cX9_clear 33 = .ok (.aload_n 0, 1) := by decide +kernel
theorem dX9_clear_34 : decode cX9_clear 34 = .ok (.getfield 9, 3) := by decide +kernel
theorem dX9_clear_37 : decode cX9_clear 37 = .ok (.iload_n 1, 1) := by decide +kernel
theorem dX9_clear_38 : decode cX9_clear 38 = .ok (.iconst 0, 1) := by decide +kernel
theorem dX9_clear_39 : decode cX9_clear 39 = .ok (.iastore, 1) := by decide +kernel
theorem dX9_clear_40 : decode cX9_clear 40 = .ok (.aload_n 0, 1) := by decide +kernel
theorem dX9_clear_41 : decode cX9_clear 41 = .ok (.getfield 15, 3) := by decide +kernel
theorem dX9_clear_44 : decode cX9_clear 44 = .ok (.iload_n 1, 1) := by decide +kernel
theorem dX9_clear_45 : decode cX9_clear 45 = .ok (.iconst 0, 1) := by decide +kernel
theorem dX9_clear_46 : decode cX9_clear 46 = .ok (.iastore, 1) := by decide +kernel
theorem dX9_clear_47 : decode cX9_clear 47 = .ok (.iinc 1 1, 3) := by decide +kernel
theorem dX9_clear_50 : decode cX9_clear 50 = .ok (.goto (-22), 3) := by decide +kernel
theorem dX9_clear_53 : decode cX9_clear 53 = .ok (.iconst 0, 1) := by decide +kernel
theorem dX9_clear_54 : decode cX9_clear 54 = .ok (.istore_n 1, 1) := by decide +kernel
theorem dX9_clear_55 : decode cX9_clear 55 = .ok (.iload_n 1, 1) := by decide +kernel
theorem dX9_clear_56 : decode cX9_clear 56 = .ok (.bipush 6, 2) := by decide +kernel
theorem dX9_clear_58 : decode cX9_clear 58 = .ok (.if_icmp .ge 16, 3) := by decide +kernel
theorem dX9_clear_61 : decode cX9_clear 61 = .ok (.aload_n 0, 1) := by decide +kernel
theorem dX9_clear_62 : decode cX9_clear 62 = .ok (.getfield 18, 3) := by decide +kernel
theorem dX9_clear_65 : decode cX9_clear 65 = .ok (.iload_n 1, 1) := by decide +kernel
theorem dX9_clear_66 : decode cX9_clear 66 = .ok (.iconst 3, 1) := by decide +kernel
theorem dX9_clear_67 : decode cX9_clear 67 = .ok (.iastore, 1) := by decide +kernel
theorem dX9_clear_68 : decode cX9_clear 68 = .ok (.iinc 1 1, 3) := by decide +kernel
theorem dX9_clear_71 : decode cX9_clear 71 = .ok (.goto (-16), 3) := by decide +kernel
theorem dX9_clear_74 : decode cX9_clear 74 = .ok (.return_, 1) := by decide +kernel
theorem dX9_addWell_0 : decode cX9_addWell 0 = .ok (.aload_n 0, 1) := by decide +kernel
theorem dX9_addWell_1 : decode cX9_addWell 1 = .ok (.getfield 24, 3) := by decide +kernel
theorem dX9_addWell_4 : decode cX9_addWell 4 = .ok (.iconst 5, 1) := by decide +kernel
theorem dX9_addWell_5 : decode cX9_addWell 5 = .ok (.if_icmp .ge 33, 3) := by decide +kernel
theorem dX9_addWell_8 : decode cX9_addWell 8 = .ok (.aload_n 0, 1) := by decide +kernel
theorem dX9_addWell_9 : decode cX9_addWell 9 = .ok (.getfield 9, 3) := by decide +kernel
theorem dX9_addWell_12 : decode cX9_addWell 12 = .ok (.aload_n 0, 1) := by decide +kernel
theorem dX9_addWell_13 : decode cX9_addWell 13 = .ok (.getfield 24, 3) := by decide +kernel
theorem dX9_addWell_16 : decode cX9_addWell 16 = .ok (.iload_n 1, 1) := by decide +kernel
theorem dX9_addWell_17 : decode cX9_addWell 17 = .ok (.iastore, 1) := by decide +kernel
theorem dX9_addWell_18 : decode cX9_addWell 18 = .ok (.aload_n 0, 1) := by decide +kernel
theorem dX9_addWell_19 : decode cX9_addWell 19 = .ok (.getfield 15, 3) := by decide +kernel
theorem dX9_addWell_22 : decode cX9_addWell 22 = .ok (.aload_n 0, 1) := by decide +kernel
theorem dX9_addWell_23 : decode cX9_addWell 23 = .ok (.getfield 24, 3) := by decide +kernel
theorem dX9_addWell_26 : decode cX9_addWell 26 = .ok (.iload_n 2, 1) := by decide +kernel
theorem dX9_addWell_27 : decode cX9_addWell 27 = .ok (.iastore, 1) := by decide +kernel
theorem dX9_addWell_28 : decode cX9_addWell 28 = .ok (.aload_n 0, 1) := by decide +kernel
theorem dX9_addWell_29 : decode cX9_addWell 29 = .ok (.dup, 1) := by decide +kernel
theorem dX9_addWell_30 : decode cX9_addWell 30 = .ok (.getfield 24, 3) := by decide +kernel
theorem dX9_addWell_33 : decode cX9_addWell 33 = .ok (.iconst 1, 1) := by decide +kernel
theorem dX9_addWell_34 : decode cX9_addWell 34 = .ok (.iadd, 1) := by decide +kernel
theorem dX9_addWell_35 : decode cX9_addWell 35 = .ok (.putfield 24, 3) := by decide +kernel
theorem dX9_addWell_38 : decode cX9_addWell 38 = .ok (.return_, 1) := by decide +kernel
theorem dX9_addWay_0 : decode cX9_addWay 0 = .ok (.aload_n 0, 1) := by decide +kernel
theorem dX9_addWay_1 : decode cX9_addWay 1 = .ok (.getfield 28, 3) := by decide +kernel
theorem dX9_addWay_4 : decode cX9_addWay 4 = .ok (.bipush 6, 2) := by decide +kernel
theorem dX9_addWay_6 : decode cX9_addWay 6 = .ok (.if_icmp .ge 27, 3) := by decide +kernel
theorem dX9_addWay_9 : decode cX9_addWay 9 = .ok (.aload_n 0, 1) := by decide +kernel
theorem dX9_addWay_10 : decode cX9_addWay 10 = .ok (.getfield 18, 3) := by decide +kernel
theorem dX9_addWay_13 : decode cX9_addWay 13 = .ok (.aload_n 0, 1) := by decide +kernel
theorem dX9_addWay_14 : decode cX9_addWay 14 = .ok (.getfield 28, 3) := by decide +kernel
theorem dX9_addWay_17 : decode cX9_addWay 17 = .ok (.iload_n 1, 1) := by decide +kernel
theorem dX9_addWay_18 : decode cX9_addWay 18 = .ok (.iconst 1, 1) := by decide +kernel
theorem dX9_addWay_19 : decode cX9_addWay 19 = .ok (.invokestatic 40, 3) := by decide +kernel
theorem dX9_addWay_22 : decode cX9_addWay 22 = .ok (.iastore, 1) := by decide +kernel
theorem dX9_addWay_23 : decode cX9_addWay 23 = .ok (.aload_n 0, 1) := by decide +kernel
theorem dX9_addWay_24 : decode cX9_addWay 24 = .ok (.dup, 1) := by decide +kernel
theorem dX9_addWay_25 : decode cX9_addWay 25 = .ok (.getfield 28, 3) := by decide +kernel
theorem dX9_addWay_28 : decode cX9_addWay 28 = .ok (.iconst 1, 1) := by decide +kernel
theorem dX9_addWay_29 : decode cX9_addWay 29 = .ok (.iadd, 1) := by decide +kernel
theorem dX9_addWay_30 : decode cX9_addWay 30 = .ok (.putfield 28, 3) := by decide +kernel
theorem dX9_addWay_33 : decode cX9_addWay 33 = .ok (.return_, 1) := by decide +kernel
theorem dX9_figure_0 : decode cX9_figure 0 = .ok (.iload_n 1, 1) := by decide +kernel
theorem dX9_figure_1 : decode cX9_figure 1 = .ok (.tableswitch 42 0 2 #[27, 32, 37], 27) := by decide +kernel
theorem dX9_figure_28 : decode cX9_figure 28 = .ok (.aload_n 0, 1) := by decide +kernel
theorem dX9_figure_29 : decode cX9_figure 29 = .ok (.getfield 24, 3) := by decide +kernel
theorem dX9_figure_32 : decode cX9_figure 32 = .ok (.ireturn, 1) := by decide +kernel
theorem dX9_figure_33 : decode cX9_figure 33 = .ok (.aload_n 0, 1) := by decide +kernel
theorem dX9_figure_34 : decode cX9_figure 34 = .ok (.getfield 31, 3) := by decide +kernel
theorem dX9_figure_37 : decode cX9_figure 37 = .ok (.ireturn, 1) := by decide +kernel
theorem dX9_figure_38 : decode cX9_figure 38 = .ok (.aload_n 0, 1) := by decide +kernel
theorem dX9_figure_39 : decode cX9_figure 39 = .ok (.getfield 34, 3) := by decide +kernel
theorem dX9_figure_42 : decode cX9_figure 42 = .ok (.ireturn, 1) := by decide +kernel
theorem dX9_figure_43 : decode cX9_figure 43 = .ok (.aload_n 0, 1) := by decide +kernel
theorem dX9_figure_44 : decode cX9_figure 44 = .ok (.getfield 37, 3) := by decide +kernel
theorem dX9_figure_47 : decode cX9_figure 47 = .ok (.ireturn, 1) := by decide +kernel
theorem dX9_makeSums_0 : decode cX9_makeSums 0 = .ok (.aload_n 0, 1) := by decide +kernel
theorem dX9_makeSums_1 : decode cX9_makeSums 1 = .ok (.getfield 21, 3) := by decide +kernel
theorem dX9_makeSums_4 : decode cX9_makeSums 4 = .ok (.ifnonnull 12, 3) := by decide +kernel
theorem dX9_makeSums_7 : decode cX9_makeSums 7 = .ok (.aload_n 0, 1) := by decide +kernel
theorem dX9_makeSums_8 : decode cX9_makeSums 8 = .ok (.sipush 1782, 3) := by decide +kernel
theorem dX9_makeSums_11 : decode cX9_makeSums 11 = .ok (.newarray .int, 2) := by decide +kernel
theorem dX9_makeSums_13 : decode cX9_makeSums 13 = .ok (.putfield 21, 3) := by decide +kernel
theorem dX9_makeSums_16 : decode cX9_makeSums 16 = .ok (.return_, 1) := by decide +kernel
theorem dX9_sumsOf_0 : decode cX9_sumsOf 0 = .ok (.iload_n 0, 1) := by decide +kernel
theorem dX9_sumsOf_1 : decode cX9_sumsOf 1 = .ok (.bipush 9, 2) := by decide +kernel
theorem dX9_sumsOf_3 : decode cX9_sumsOf 3 = .ok (.imul, 1) := by decide +kernel
theorem dX9_sumsOf_4 : decode cX9_sumsOf 4 = .ok (.iload_n 1, 1) := by decide +kernel
theorem dX9_sumsOf_5 : decode cX9_sumsOf 5 = .ok (.iadd, 1) := by decide +kernel
theorem dX9_sumsOf_6 : decode cX9_sumsOf 6 = .ok (.iconst 1, 1) := by decide +kernel
theorem dX9_sumsOf_7 : decode cX9_sumsOf 7 = .ok (.isub, 1) := by decide +kernel
theorem dX9_sumsOf_8 : decode cX9_sumsOf 8 = .ok (.bipush 33, 2) := by decide +kernel
theorem dX9_sumsOf_10 : decode cX9_sumsOf 10 = .ok (.imul, 1) := by decide +kernel
theorem dX9_sumsOf_11 : decode cX9_sumsOf 11 = .ok (.ireturn, 1) := by decide +kernel
theorem dX9_drunkIn_0 : decode cX9_drunkIn 0 = .ok (.iload_n 1, 1) := by decide +kernel
theorem dX9_drunkIn_1 : decode cX9_drunkIn 1 = .ok (.iload_n 3, 1) := by decide +kernel
theorem dX9_drunkIn_2 : decode cX9_drunkIn 2 = .ok (.invokestatic 46, 3) := by decide +kernel
theorem dX9_drunkIn_5 : decode cX9_drunkIn 5 = .ok (.iload_n 2, 1) := by decide +kernel
theorem dX9_drunkIn_6 : decode cX9_drunkIn 6 = .ok (.bipush 24, 2) := by decide +kernel
theorem dX9_drunkIn_8 : decode cX9_drunkIn 8 = .ok (.irem, 1) := by decide +kernel
theorem dX9_drunkIn_9 : decode cX9_drunkIn 9 = .ok (.iadd, 1) := by decide +kernel
theorem dX9_drunkIn_10 : decode cX9_drunkIn 10 = .ok (.istore 4, 2) := by decide +kernel
theorem dX9_drunkIn_12 : decode cX9_drunkIn 12 = .ok (.aload_n 0, 1) := by decide +kernel
theorem dX9_drunkIn_13 : decode cX9_drunkIn 13 = .ok (.getfield 21, 3) := by decide +kernel
theorem dX9_drunkIn_16 : decode cX9_drunkIn 16 = .ok (.ifnull 40, 3) := by decide +kernel
theorem dX9_drunkIn_19 : decode cX9_drunkIn 19 = .ok (.iload 4, 2) := by decide +kernel
theorem dX9_drunkIn_21 : decode cX9_drunkIn 21 = .ok (.ifCond .lt 35, 3) := by decide +kernel
theorem dX9_drunkIn_24 : decode cX9_drunkIn 24 = .ok (.iload 4, 2) := by decide +kernel
theorem dX9_drunkIn_26 : decode cX9_drunkIn 26 = .ok (.iconst 1, 1) := by decide +kernel
theorem dX9_drunkIn_27 : decode cX9_drunkIn 27 = .ok (.iadd, 1) := by decide +kernel
theorem dX9_drunkIn_28 : decode cX9_drunkIn 28 = .ok (.aload_n 0, 1) := by decide +kernel
theorem dX9_drunkIn_29 : decode cX9_drunkIn 29 = .ok (.getfield 21, 3) := by decide +kernel
theorem dX9_drunkIn_32 : decode cX9_drunkIn 32 = .ok (.arraylength, 1) := by decide +kernel
theorem dX9_drunkIn_33 : decode cX9_drunkIn 33 = .ok (.if_icmp .ge 23, 3) := by decide +kernel
theorem dX9_drunkIn_36 : decode cX9_drunkIn 36 = .ok (.aload_n 0, 1) := by decide +kernel
theorem dX9_drunkIn_37 : decode cX9_drunkIn 37 = .ok (.getfield 21, 3) := by decide +kernel
theorem dX9_drunkIn_40 : decode cX9_drunkIn 40 = .ok (.iload 4, 2) := by decide +kernel
theorem dX9_drunkIn_42 : decode cX9_drunkIn 42 = .ok (.iconst 1, 1) := by decide +kernel
theorem dX9_drunkIn_43 : decode cX9_drunkIn 43 = .ok (.iadd, 1) := by decide +kernel
theorem dX9_drunkIn_44 : decode cX9_drunkIn 44 = .ok (.iaload, 1) := by decide +kernel
theorem dX9_drunkIn_45 : decode cX9_drunkIn 45 = .ok (.aload_n 0, 1) := by decide +kernel
theorem dX9_drunkIn_46 : decode cX9_drunkIn 46 = .ok (.getfield 21, 3) := by decide +kernel
theorem dX9_drunkIn_49 : decode cX9_drunkIn 49 = .ok (.iload 4, 2) := by decide +kernel
theorem dX9_drunkIn_51 : decode cX9_drunkIn 51 = .ok (.iaload, 1) := by decide +kernel
theorem dX9_drunkIn_52 : decode cX9_drunkIn 52 = .ok (.isub, 1) := by decide +kernel
theorem dX9_drunkIn_53 : decode cX9_drunkIn 53 = .ok (.goto 4, 3) := by decide +kernel
theorem dX9_drunkIn_56 : decode cX9_drunkIn 56 = .ok (.iconst 0, 1) := by decide +kernel
theorem dX9_drunkIn_57 : decode cX9_drunkIn 57 = .ok (.ireturn, 1) := by decide +kernel
theorem dX9_drunkAlong_0 : decode cX9_drunkAlong 0 = .ok (.iload_n 1, 1) := by decide +kernel
theorem dX9_drunkAlong_1 : decode cX9_drunkAlong 1 = .ok (.iload_n 3, 1) := by decide +kernel
theorem dX9_drunkAlong_2 : decode cX9_drunkAlong 2 = .ok (.invokestatic 46, 3) := by decide +kernel
theorem dX9_drunkAlong_5 : decode cX9_drunkAlong 5 = .ok (.iload_n 2, 1) := by decide +kernel
theorem dX9_drunkAlong_6 : decode cX9_drunkAlong 6 = .ok (.bipush 24, 2) := by decide +kernel
theorem dX9_drunkAlong_8 : decode cX9_drunkAlong 8 = .ok (.irem, 1) := by decide +kernel
theorem dX9_drunkAlong_9 : decode cX9_drunkAlong 9 = .ok (.iadd, 1) := by decide +kernel
theorem dX9_drunkAlong_10 : decode cX9_drunkAlong 10 = .ok (.istore 4, 2) := by decide +kernel
theorem dX9_drunkAlong_12 : decode cX9_drunkAlong 12 = .ok (.iload 4, 2) := by decide +kernel
theorem dX9_drunkAlong_14 : decode cX9_drunkAlong 14 = .ok (.aload_n 0, 1) := by decide +kernel
theorem dX9_drunkAlong_15 : decode cX9_drunkAlong 15 = .ok (.getfield 18, 3) := by decide +kernel
theorem dX9_drunkAlong_18 : decode cX9_drunkAlong 18 = .ok (.iload_n 1, 1) := by decide +kernel
theorem dX9_drunkAlong_19 : decode cX9_drunkAlong 19 = .ok (.iaload, 1) := by decide +kernel
theorem dX9_drunkAlong_20 : decode cX9_drunkAlong 20 = .ok (.iadd, 1) := by decide +kernel
theorem dX9_drunkAlong_21 : decode cX9_drunkAlong 21 = .ok (.istore 5, 2) := by decide +kernel
theorem dX9_drunkAlong_23 : decode cX9_drunkAlong 23 = .ok (.aload_n 0, 1) := by decide +kernel
theorem dX9_drunkAlong_24 : decode cX9_drunkAlong 24 = .ok (.getfield 21, 3) := by decide +kernel
theorem dX9_drunkAlong_27 : decode cX9_drunkAlong 27 = .ok (.ifnull 38, 3) := by decide +kernel
theorem dX9_drunkAlong_30 : decode cX9_drunkAlong 30 = .ok (.iload 4, 2) := by decide +kernel
theorem dX9_drunkAlong_32 : decode cX9_drunkAlong 32 = .ok (.ifCond .lt 33, 3) := by decide +kernel
theorem dX9_drunkAlong_35 : decode cX9_drunkAlong 35 = .ok (.iload 5, 2) := by decide +kernel
theorem dX9_drunkAlong_37 : decode cX9_drunkAlong 37 = .ok (.aload_n 0, 1) := by decide +kernel
theorem dX9_drunkAlong_38 : decode cX9_drunkAlong 38 = .ok (.getfield 21, 3) := by decide +kernel
theorem dX9_drunkAlong_41 : decode cX9_drunkAlong 41 = .ok (.arraylength, 1) := by decide +kernel
theorem dX9_drunkAlong_42 : decode cX9_drunkAlong 42 = .ok (.if_icmp .ge 23, 3) := by decide +kernel
theorem dX9_drunkAlong_45 : decode cX9_drunkAlong 45 = .ok (.aload_n 0, 1) := by decide +kernel
theorem dX9_drunkAlong_46 : decode cX9_drunkAlong 46 = .ok (.getfield 21, 3) := by decide +kernel
theorem dX9_drunkAlong_49 : decode cX9_drunkAlong 49 = .ok (.iload 5, 2) := by decide +kernel
theorem dX9_drunkAlong_51 : decode cX9_drunkAlong 51 = .ok (.iaload, 1) := by decide +kernel
theorem dX9_drunkAlong_52 : decode cX9_drunkAlong 52 = .ok (.aload_n 0, 1) := by decide +kernel
theorem dX9_drunkAlong_53 : decode cX9_drunkAlong 53 = .ok (.getfield 21, 3) := by decide +kernel
theorem dX9_drunkAlong_56 : decode cX9_drunkAlong 56 = .ok (.iload 4, 2) := by decide +kernel
theorem dX9_drunkAlong_58 : decode cX9_drunkAlong 58 = .ok (.iaload, 1) := by decide +kernel
theorem dX9_drunkAlong_59 : decode cX9_drunkAlong 59 = .ok (.isub, 1) := by decide +kernel
theorem dX9_drunkAlong_60 : decode cX9_drunkAlong 60 = .ok (.iload_n 3, 1) := by decide +kernel
theorem dX9_drunkAlong_61 : decode cX9_drunkAlong 61 = .ok (.imul, 1) := by decide +kernel
theorem dX9_drunkAlong_62 : decode cX9_drunkAlong 62 = .ok (.goto 4, 3) := by decide +kernel
theorem dX9_drunkAlong_65 : decode cX9_drunkAlong 65 = .ok (.iconst 0, 1) := by decide +kernel
theorem dX9_drunkAlong_66 : decode cX9_drunkAlong 66 = .ok (.ireturn, 1) := by decide +kernel
theorem dX9_becomeDug_0 : decode cX9_becomeDug 0 = .ok (.aload_n 0, 1) := by decide +kernel
theorem dX9_becomeDug_1 : decode cX9_becomeDug 1 = .ok (.invokevirtual 49, 3) := by decide +kernel
theorem dX9_becomeDug_4 : decode cX9_becomeDug 4 = .ok (.iconst 0, 1) := by decide +kernel
theorem dX9_becomeDug_5 : decode cX9_becomeDug 5 = .ok (.istore 6, 2) := by decide +kernel
theorem dX9_becomeDug_7 : decode cX9_becomeDug 7 = .ok (.iload 6, 2) := by decide +kernel
theorem dX9_becomeDug_9 : decode cX9_becomeDug 9 = .ok (.aload_n 1, 1) := by decide +kernel
theorem dX9_becomeDug_10 : decode cX9_becomeDug 10 = .ok (.getfield 24, 3) := by decide +kernel
theorem dX9_becomeDug_13 : decode cX9_becomeDug 13 = .ok (.if_icmp .ge 49, 3) := by decide +kernel
theorem dX9_becomeDug_16 : decode cX9_becomeDug 16 = .ok (.aload_n 0, 1) := by decide +kernel
theorem dX9_becomeDug_17 : decode cX9_becomeDug 17 = .ok (.getfield 24, 3) := by decide +kernel
theorem dX9_becomeDug_20 : decode cX9_becomeDug 20 = .ok (.iconst 5, 1) := by decide +kernel
theorem dX9_becomeDug_21 : decode cX9_becomeDug 21 = .ok (.if_icmp .ge 41, 3) := by decide +kernel
theorem dX9_becomeDug_24 : decode cX9_becomeDug 24 = .ok (.iload 6, 2) := by decide +kernel
theorem dX9_becomeDug_26 : decode cX9_becomeDug 26 = .ok (.iload_n 2, 1) := by decide +kernel
theorem dX9_becomeDug_27 : decode cX9_becomeDug 27 = .ok (.if_icmp .ne 11, 3) := by decide +kernel
theorem dX9_becomeDug_30 : decode cX9_becomeDug 30 = .ok (.aload_n 0, 1) := by decide +kernel
theorem dX9_becomeDug_31 : decode cX9_becomeDug 31 = .ok (.iload 4, 2) := by decide +kernel
theorem dX9_becomeDug_33 : decode cX9_becomeDug 33 = .ok (.iload 5, 2) := by decide +kernel
theorem dX9_becomeDug_35 : decode cX9_becomeDug 35 = .ok (.invokevirtual 52, 3) := by decide +kernel
theorem dX9_becomeDug_38 : decode cX9_becomeDug 38 = .ok (.aload_n 0, 1) := by decide +kernel
theorem dX9_becomeDug_39 : decode cX9_becomeDug 39 = .ok (.aload_n 1, 1) := by decide +kernel
theorem dX9_becomeDug_40 : decode cX9_becomeDug 40 = .ok (.getfield 9, 3) := by decide +kernel
theorem dX9_becomeDug_43 : decode cX9_becomeDug 43 = .ok (.iload 6, 2) := by decide +kernel
theorem dX9_becomeDug_45 : decode cX9_becomeDug 45 = .ok (.iaload, 1) := by decide +kernel
theorem dX9_becomeDug_46 : decode cX9_becomeDug 46 = .ok (.aload_n 1, 1) := by decide +kernel
theorem dX9_becomeDug_47 : decode cX9_becomeDug 47 = .ok (.getfield 15, 3) := by decide +kernel
theorem dX9_becomeDug_50 : decode cX9_becomeDug 50 = .ok (.iload 6, 2) := by decide +kernel
theorem dX9_becomeDug_52 : decode cX9_becomeDug 52 = .ok (.iaload, 1) := by decide +kernel
theorem dX9_becomeDug_53 : decode cX9_becomeDug 53 = .ok (.invokevirtual 52, 3) := by decide +kernel
theorem dX9_becomeDug_56 : decode cX9_becomeDug 56 = .ok (.iinc 6 1, 3) := by decide +kernel
theorem dX9_becomeDug_59 : decode cX9_becomeDug 59 = .ok (.goto (-52), 3) := by decide +kernel
theorem dX9_becomeDug_62 : decode cX9_becomeDug 62 = .ok (.iload_n 2, 1) := by decide +kernel
theorem dX9_becomeDug_63 : decode cX9_becomeDug 63 = .ok (.aload_n 1, 1) := by decide +kernel
theorem dX9_becomeDug_64 : decode cX9_becomeDug 64 = .ok (.getfield 24, 3) := by decide +kernel
theorem dX9_becomeDug_67 : decode cX9_becomeDug 67 = .ok (.if_icmp .ne 11, 3) := by decide +kernel
theorem dX9_becomeDug_70 : decode cX9_becomeDug 70 = .ok (.aload_n 0, 1) := by decide +kernel
theorem dX9_becomeDug_71 : decode cX9_becomeDug 71 = .ok (.iload 4, 2) := by decide +kernel
theorem dX9_becomeDug_73 : decode cX9_becomeDug 73 = .ok (.iload 5, 2) := by decide +kernel
theorem dX9_becomeDug_75 : decode cX9_becomeDug 75 = .ok (.invokevirtual 52, 3) := by decide +kernel
theorem dX9_becomeDug_78 : decode cX9_becomeDug 78 = .ok (.iconst 0, 1) := by decide +kernel
theorem dX9_becomeDug_79 : decode cX9_becomeDug 79 = .ok (.istore 6, 2) := by decide +kernel
theorem dX9_becomeDug_81 : decode cX9_becomeDug 81 = .ok (.iload 6, 2) := by decide +kernel
