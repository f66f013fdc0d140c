theorem dX0_init_0 : decode cX0_init 0 = .ok (.aload_n 0, 1) := by decide +kernel
theorem dX0_init_1 : decode cX0_init 1 = .ok (.invokespecial 3, 3) := by decide +kernel
theorem dX0_init_4 : decode cX0_init 4 = .ok (.aload_n 0, 1) := by decide +kernel
theorem dX0_init_5 : decode cX0_init 5 = .ok (.bipush 20, 2) := by decide +kernel
theorem dX0_init_7 : decode cX0_init 7 = .ok (.newarray .int, 2) := by decide +kernel
theorem dX0_init_9 : decode cX0_init 9 = .ok (.putfield 11, 3) := by decide +kernel
theorem dX0_init_12 : decode cX0_init 12 = .ok (.aload_n 0, 1) := by decide +kernel
theorem dX0_init_13 : decode cX0_init 13 = .ok (.iconst 0, 1) := by decide +kernel
theorem dX0_init_14 : decode cX0_init 14 = .ok (.putfield 15, 3) := by decide +kernel
theorem dX0_init_17 : decode cX0_init 17 = .ok (.aload_n 0, 1) := by decide +kernel
theorem dX0_init_18 : decode cX0_init 18 = .ok (.iconst 0, 1) := by decide +kernel
theorem dX0_init_19 : decode cX0_init 19 = .ok (.putfield 19, 3) := by decide +kernel
theorem dX0_init_22 : decode cX0_init 22 = .ok (.aload_n 0, 1) := by decide +kernel
theorem dX0_init_23 : decode cX0_init 23 = .ok (.iconst 0, 1) := by decide +kernel
theorem dX0_init_24 : decode cX0_init 24 = .ok (.putfield 22, 3) := by decide +kernel
theorem dX0_init_27 : decode cX0_init 27 = .ok (.aload_n 0, 1) := by decide +kernel
theorem dX0_init_28 : decode cX0_init 28 = .ok (.iconst 0, 1) := by decide +kernel
theorem dX0_init_29 : decode cX0_init 29 = .ok (.putfield 25, 3) := by decide +kernel
theorem dX0_init_32 : decode cX0_init 32 = .ok (.return_, 1) := by decide +kernel
theorem dX0_start_0 : decode cX0_start 0 = .ok (.aload_n 0, 1) := by decide +kernel
theorem dX0_start_1 : decode cX0_start 1 = .ok (.iload_n 1, 1) := by decide +kernel
theorem dX0_start_2 : decode cX0_start 2 = .ok (.putfield 19, 3) := by decide +kernel
theorem dX0_start_5 : decode cX0_start 5 = .ok (.aload_n 0, 1) := by decide +kernel
theorem dX0_start_6 : decode cX0_start 6 = .ok (.iload_n 2, 1) := by decide +kernel
theorem dX0_start_7 : decode cX0_start 7 = .ok (.putfield 22, 3) := by decide +kernel
theorem dX0_start_10 : decode cX0_start 10 = .ok (.aload_n 0, 1) := by decide +kernel
theorem dX0_start_11 : decode cX0_start 11 = .ok (.iload_n 3, 1) := by decide +kernel
theorem dX0_start_12 : decode cX0_start 12 = .ok (.putfield 25, 3) := by decide +kernel
theorem dX0_start_15 : decode cX0_start 15 = .ok (.aload_n 0, 1) := by decide +kernel
theorem dX0_start_16 : decode cX0_start 16 = .ok (.iload_n 2, 1) := by decide +kernel
theorem dX0_start_17 : decode cX0_start 17 = .ok (.iload 4, 2) := by decide +kernel
theorem dX0_start_19 : decode cX0_start 19 = .ok (.iload 5, 2) := by decide +kernel
theorem dX0_start_21 : decode cX0_start 21 = .ok (.iconst 0, 1) := by decide +kernel
theorem dX0_start_22 : decode cX0_start 22 = .ok (.invokevirtual 28, 3) := by decide +kernel
theorem dX0_start_25 : decode cX0_start 25 = .ok (.ireturn, 1) := by decide +kernel
theorem dX0_run_0 : decode cX0_run 0 = .ok (.iload_n 1, 1) := by decide +kernel
theorem dX0_run_1 : decode cX0_run 1 = .ok (.iload_n 2, 1) := by decide +kernel
theorem dX0_run_2 : decode cX0_run 2 = .ok (.invokestatic 32, 3) := by decide +kernel
theorem dX0_run_5 : decode cX0_run 5 = .ok (.istore 5, 2) := by decide +kernel
theorem dX0_run_7 : decode cX0_run 7 = .ok (.iload 5, 2) := by decide +kernel
theorem dX0_run_9 : decode cX0_run 9 = .ok (.ifCond .eq 10, 3) := by decide +kernel
theorem dX0_run_12 : decode cX0_run 12 = .ok (.iload 4, 2) := by decide +kernel
theorem dX0_run_14 : decode cX0_run 14 = .ok (.bipush 40, 2) := by decide +kernel
theorem dX0_run_16 : decode cX0_run 16 = .ok (.if_icmp .lt 5, 3) := by decide +kernel
theorem dX0_run_19 : decode cX0_run 19 = .ok (.iconst 0, 1) := by decide +kernel
theorem dX0_run_20 : decode cX0_run 20 = .ok (.ireturn, 1) := by decide +kernel
theorem dX0_run_21 : decode cX0_run 21 = .ok (.aload_n 0, 1) := by decide +kernel
theorem dX0_run_22 : decode cX0_run 22 = .ok (.iload 5, 2) := by decide +kernel
theorem dX0_run_24 : decode cX0_run 24 = .ok (.invokevirtual 36, 3) := by decide +kernel
theorem dX0_run_27 : decode cX0_run 27 = .ok (.getstatic 40, 3) := by decide +kernel
theorem dX0_run_30 : decode cX0_run 30 = .ok (.iload 5, 2) := by decide +kernel
theorem dX0_run_32 : decode cX0_run 32 = .ok (.bipush 10, 2) := by decide +kernel
theorem dX0_run_34 : decode cX0_run 34 = .ok (.idiv, 1) := by decide +kernel
theorem dX0_run_35 : decode cX0_run 35 = .ok (.iconst 1, 1) := by decide +kernel
theorem dX0_run_36 : decode cX0_run 36 = .ok (.isub, 1) := by decide +kernel
theorem dX0_run_37 : decode cX0_run 37 = .ok (.iaload, 1) := by decide +kernel
theorem dX0_run_38 : decode cX0_run 38 = .ok (.istore 6, 2) := by decide +kernel
theorem dX0_run_40 : decode cX0_run 40 = .ok (.iload 4, 2) := by decide +kernel
theorem dX0_run_42 : decode cX0_run 42 = .ok (.iconst 1, 1) := by decide +kernel
theorem dX0_run_43 : decode cX0_run 43 = .ok (.iadd, 1) := by decide +kernel
theorem dX0_run_44 : decode cX0_run 44 = .ok (.istore 7, 2) := by decide +kernel
theorem dX0_run_46 : decode cX0_run 46 = .ok (.iload 5, 2) := by decide +kernel
theorem dX0_run_48 : decode cX0_run 48 = .ok (.lookupswitch 270 #[(10, 100), (11, 107), (12, 125), (20, 140), (30, 154), (40, 167), (50, 191), (51, 203), (60, 216), (70, 232), (71, 254)], 100) := by decide +kernel
theorem dX0_run_148 : decode cX0_run 148 = .ok (.iload_n 3, 1) := by decide +kernel
theorem dX0_run_149 : decode cX0_run 149 = .ok (.aload_n 0, 1) := by decide +kernel
theorem dX0_run_150 : decode cX0_run 150 = .ok (.getfield 19, 3) := by decide +kernel
theorem dX0_run_153 : decode cX0_run 153 = .ok (.iadd, 1) := by decide +kernel
theorem dX0_run_154 : decode cX0_run 154 = .ok (.ireturn, 1) := by decide +kernel
theorem dX0_run_155 : decode cX0_run 155 = .ok (.aload_n 0, 1) := by decide +kernel
theorem dX0_run_156 : decode cX0_run 156 = .ok (.aload_n 0, 1) := by decide +kernel
theorem dX0_run_157 : decode cX0_run 157 = .ok (.getfield 22, 3) := by decide +kernel
theorem dX0_run_160 : decode cX0_run 160 = .ok (.iconst 0, 1) := by decide +kernel
theorem dX0_run_161 : decode cX0_run 161 = .ok (.iload_n 3, 1) := by decide +kernel
theorem dX0_run_162 : decode cX0_run 162 = .ok (.iload 7, 2) := by decide +kernel
theorem dX0_run_164 : decode cX0_run 164 = .ok (.invokevirtual 28, 3) := by decide +kernel
theorem dX0_run_167 : decode cX0_run 167 = .ok (.aload_n 0, 1) := by decide +kernel
theorem dX0_run_168 : decode cX0_run 168 = .ok (.getfield 25, 3) := by decide +kernel
theorem dX0_run_171 : decode cX0_run 171 = .ok (.isub, 1) := by decide +kernel
theorem dX0_run_172 : decode cX0_run 172 = .ok (.ireturn, 1) := by decide +kernel
theorem dX0_run_173 : decode cX0_run 173 = .ok (.aload_n 0, 1) := by decide +kernel
theorem dX0_run_174 : decode cX0_run 174 = .ok (.aload_n 0, 1) := by decide +kernel
theorem dX0_run_175 : decode cX0_run 175 = .ok (.getfield 22, 3) := by decide +kernel
theorem dX0_run_178 : decode cX0_run 178 = .ok (.iconst 1, 1) := by decide +kernel
theorem dX0_run_179 : decode cX0_run 179 = .ok (.iload_n 3, 1) := by decide +kernel
theorem dX0_run_180 : decode cX0_run 180 = .ok (.iload 7, 2) := by decide +kernel
theorem dX0_run_182 : decode cX0_run 182 = .ok (.invokevirtual 28, 3) := by decide +kernel
theorem dX0_run_185 : decode cX0_run 185 = .ok (.iconst 2, 1) := by decide +kernel
theorem dX0_run_186 : decode cX0_run 186 = .ok (.imul, 1) := by decide +kernel
theorem dX0_run_187 : decode cX0_run 187 = .ok (.ireturn, 1) := by decide +kernel
theorem dX0_run_188 : decode cX0_run 188 = .ok (.aload_n 0, 1) := by decide +kernel
theorem dX0_run_189 : decode cX0_run 189 = .ok (.iload 6, 2) := by decide +kernel
theorem dX0_run_191 : decode cX0_run 191 = .ok (.iconst 1, 1) := by decide +kernel
theorem dX0_run_192 : decode cX0_run 192 = .ok (.iload_n 3, 1) := by decide +kernel
theorem dX0_run_193 : decode cX0_run 193 = .ok (.iload 7, 2) := by decide +kernel
theorem dX0_run_195 : decode cX0_run 195 = .ok (.invokevirtual 28, 3) := by decide +kernel
theorem dX0_run_198 : decode cX0_run 198 = .ok (.bipush 6, 2) := by decide +kernel
theorem dX0_run_200 : decode cX0_run 200 = .ok (.ixor, 1) := by decide +kernel
theorem dX0_run_201 : decode cX0_run 201 = .ok (.ireturn, 1) := by decide +kernel
theorem dX0_run_202 : decode cX0_run 202 = .ok (.aload_n 0, 1) := by decide +kernel
theorem dX0_run_203 : decode cX0_run 203 = .ok (.iload 6, 2) := by decide +kernel
theorem dX0_run_205 : decode cX0_run 205 = .ok (.iconst 0, 1) := by decide +kernel
theorem dX0_run_206 : decode cX0_run 206 = .ok (.iload_n 3, 1) := by decide +kernel
theorem dX0_run_207 : decode cX0_run 207 = .ok (.iconst 3, 1) := by decide +kernel
theorem dX0_run_208 : decode cX0_run 208 = .ok (.imul, 1) := by decide +kernel
theorem dX0_run_209 : decode cX0_run 209 = .ok (.iload 7, 2) := by decide +kernel
theorem dX0_run_211 : decode cX0_run 211 = .ok (.invokevirtual 28, 3) := by decide +kernel
theorem dX0_run_214 : decode cX0_run 214 = .ok (.ireturn, 1) := by decide +kernel
theorem dX0_run_215 : decode cX0_run 215 = .ok (.aload_n 0, 1) := by decide +kernel
theorem dX0_run_216 : decode cX0_run 216 = .ok (.iload 6, 2) := by decide +kernel
theorem dX0_run_218 : decode cX0_run 218 = .ok (.iconst 2, 1) := by decide +kernel
theorem dX0_run_219 : decode cX0_run 219 = .ok (.iload_n 3, 1) := by decide +kernel
theorem dX0_run_220 : decode cX0_run 220 = .ok (.iload 7, 2) := by decide +kernel
theorem dX0_run_222 : decode cX0_run 222 = .ok (.invokevirtual 28, 3) := by decide +kernel
theorem dX0_run_225 : decode cX0_run 225 = .ok (.aload_n 0, 1) := by decide +kernel
theorem dX0_run_226 : decode cX0_run 226 = .ok (.aload_n 0, 1) := by decide +kernel
theorem dX0_run_227 : decode cX0_run 227 = .ok (.getfield 22, 3) := by decide +kernel
theorem dX0_run_230 : decode cX0_run 230 = .ok (.iconst 1, 1) := by decide +kernel
theorem dX0_run_231 : decode cX0_run 231 = .ok (.iconst 1, 1) := by decide +kernel
theorem dX0_run_232 : decode cX0_run 232 = .ok (.iload 7, 2) := by decide +kernel
theorem dX0_run_234 : decode cX0_run 234 = .ok (.invokevirtual 28, 3) := by decide +kernel
theorem dX0_run_237 : decode cX0_run 237 = .ok (.iadd, 1) := by decide +kernel
theorem dX0_run_238 : decode cX0_run 238 = .ok (.ireturn, 1) := by decide +kernel
theorem dX0_run_239 : decode cX0_run 239 = .ok (.aload_n 0, 1) := by decide +kernel
theorem dX0_run_240 : decode cX0_run 240 = .ok (.iload 6, 2) := by decide +kernel
theorem dX0_run_242 : decode cX0_run 242 = .ok (.iconst 0, 1) := by decide +kernel
theorem dX0_run_243 : decode cX0_run 243 = .ok (.iload_n 3, 1) := by decide +kernel
theorem dX0_run_244 : decode cX0_run 244 = .ok (.iload 7, 2) := by decide +kernel
theorem dX0_run_246 : decode cX0_run 246 = .ok (.invokevirtual 28, 3) := by decide +kernel
theorem dX0_run_249 : decode cX0_run 249 = .ok (.ineg, 1) := by decide +kernel
theorem dX0_run_250 : decode cX0_run 250 = .ok (.ireturn, 1) := by decide +kernel
theorem dX0_run_251 : decode cX0_run 251 = .ok (.aload_n 0, 1) := by decide +kernel
theorem dX0_run_252 : decode cX0_run 252 = .ok (.iload 6, 2) := by decide +kernel
theorem dX0_run_254 : decode cX0_run 254 = .ok (.iconst 1, 1) := by decide +kernel
theorem dX0_run_255 : decode cX0_run 255 = .ok (.iload_n 3, 1) := by decide +kernel
theorem dX0_run_256 : decode cX0_run 256 = .ok (.iconst 1, 1) := by decide +kernel
theorem dX0_run_257 : decode cX0_run 257 = .ok (.iadd, 1) := by decide +kernel
theorem dX0_run_258 : decode cX0_run 258 = .ok (.iload 7, 2) := by decide +kernel
theorem dX0_run_260 : decode cX0_run 260 = .ok (.invokevirtual 28, 3) := by decide +kernel
theorem dX0_run_263 : decode cX0_run 263 = .ok (.ireturn, 1) := by decide +kernel
theorem dX0_run_264 : decode cX0_run 264 = .ok (.aload_n 0, 1) := by decide +kernel
theorem dX0_run_265 : decode cX0_run 265 = .ok (.iload 6, 2) := by decide +kernel
theorem dX0_run_267 : decode cX0_run 267 = .ok (.iconst 2, 1) := by decide +kernel
theorem dX0_run_268 : decode cX0_run 268 = .ok (.iload_n 3, 1) := by decide +kernel
theorem dX0_run_269 : decode cX0_run 269 = .ok (.aload_n 0, 1) := by decide +kernel
theorem dX0_run_270 : decode cX0_run 270 = .ok (.getfield 19, 3) := by decide +kernel
theorem dX0_run_273 : decode cX0_run 273 = .ok (.isub, 1) := by decide +kernel
theorem dX0_run_274 : decode cX0_run 274 = .ok (.iload 7, 2) := by decide +kernel
theorem dX0_run_276 : decode cX0_run 276 = .ok (.invokevirtual 28, 3) := by decide +kernel
theorem dX0_run_279 : decode cX0_run 279 = .ok (.ireturn, 1) := by decide +kernel
theorem dX0_run_280 : decode cX0_run 280 = .ok (.aload_n 0, 1) := by decide +kernel
theorem dX0_run_281 : decode cX0_run 281 = .ok (.iload 6, 2) := by decide +kernel
theorem dX0_run_283 : decode cX0_run 283 = .ok (.iconst 1, 1) := by decide +kernel
theorem dX0_run_284 : decode cX0_run 284 = .ok (.iload_n 3, 1) := by decide +kernel
theorem dX0_run_285 : decode cX0_run 285 = .ok (.iload 7, 2) := by decide +kernel
theorem dX0_run_287 : decode cX0_run 287 = .ok (.invokevirtual 28, 3) := by decide +kernel
theorem dX0_run_290 : decode cX0_run 290 = .ok (.aload_n 0, 1) := by decide +kernel
theorem dX0_run_291 : decode cX0_run 291 = .ok (.iload 6, 2) := by decide +kernel
theorem dX0_run_293 : decode cX0_run 293 = .ok (.iconst 0, 1) := by decide +kernel
theorem dX0_run_294 : decode cX0_run 294 = .ok (.iconst 2, 1) := by decide +kernel
theorem dX0_run_295 : decode cX0_run 295 = .ok (.iload 7, 2) := by decide +kernel
theorem dX0_run_297 : decode cX0_run 297 = .ok (.invokevirtual 28, 3) := by decide +kernel
theorem dX0_run_300 : decode cX0_run 300 = .ok (.iadd, 1) := by decide +kernel
theorem dX0_run_301 : decode cX0_run 301 = .ok (.ireturn, 1) := by decide +kernel
theorem dX0_run_302 : decode cX0_run 302 = .ok (.aload_n 0, 1) := by decide +kernel
theorem dX0_run_303 : decode cX0_run 303 = .ok (.iload 6, 2) := by decide +kernel
theorem dX0_run_305 : decode cX0_run 305 = .ok (.iconst 0, 1) := by decide +kernel
theorem dX0_run_306 : decode cX0_run 306 = .ok (.iload_n 3, 1) := by decide +kernel
theorem dX0_run_307 : decode cX0_run 307 = .ok (.iload 7, 2) := by decide +kernel
theorem dX0_run_309 : decode cX0_run 309 = .ok (.invokevirtual 28, 3) := by decide +kernel
theorem dX0_run_312 : decode cX0_run 312 = .ok (.aload_n 0, 1) := by decide +kernel
theorem dX0_run_313 : decode cX0_run 313 = .ok (.getfield 25, 3) := by decide +kernel
theorem dX0_run_316 : decode cX0_run 316 = .ok (.ixor, 1) := by decide +kernel
theorem dX0_run_317 : decode cX0_run 317 = .ok (.ireturn, 1) := by decide +kernel
theorem dX0_run_318 : decode cX0_run 318 = .ok (.iconst 0, 1) := by decide +kernel
theorem dX0_run_319 : decode cX0_run 319 = .ok (.ireturn, 1) := by decide +kernel
theorem dX0_bodyFrom_0 : decode cX0_bodyFrom 0 = .ok (.iload_n 0, 1) := by decide +kernel
theorem dX0_bodyFrom_1 : decode cX0_bodyFrom 1 = .ok (.istore_n 2, 1) := by decide +kernel
theorem dX0_bodyFrom_2 : decode cX0_bodyFrom 2 = .ok (.iconst 0, 1) := by decide +kernel
theorem dX0_bodyFrom_3 : decode cX0_bodyFrom 3 = .ok (.istore_n 3, 1) := by decide +kernel
theorem dX0_bodyFrom_4 : decode cX0_bodyFrom 4 = .ok (.iload_n 3, 1) := by decide +kernel
theorem dX0_bodyFrom_5 : decode cX0_bodyFrom 5 = .ok (.bipush 7, 2) := by decide +kernel
theorem dX0_bodyFrom_7 : decode cX0_bodyFrom 7 = .ok (.if_icmp .ge 38, 3) := by decide +kernel
theorem dX0_bodyFrom_10 : decode cX0_bodyFrom 10 = .ok (.iload_n 2, 1) := by decide +kernel
theorem dX0_bodyFrom_11 : decode cX0_bodyFrom 11 = .ok (.ifCond .lt 34, 3) := by decide +kernel
theorem dX0_bodyFrom_14 : decode cX0_bodyFrom 14 = .ok (.getstatic 43, 3) := by decide +kernel
theorem dX0_bodyFrom_17 : decode cX0_bodyFrom 17 = .ok (.iload_n 2, 1) := by decide +kernel
theorem dX0_bodyFrom_18 : decode cX0_bodyFrom 18 = .ok (.iconst 3, 1) := by decide +kernel
theorem dX0_bodyFrom_19 : decode cX0_bodyFrom 19 = .ok (.imul, 1) := by decide +kernel
theorem dX0_bodyFrom_20 : decode cX0_bodyFrom 20 = .ok (.iload_n 1, 1) := by decide +kernel
theorem dX0_bodyFrom_21 : decode cX0_bodyFrom 21 = .ok (.iadd, 1) := by decide +kernel
theorem dX0_bodyFrom_22 : decode cX0_bodyFrom 22 = .ok (.iaload, 1) := by decide +kernel
theorem dX0_bodyFrom_23 : decode cX0_bodyFrom 23 = .ok (.istore 4, 2) := by decide +kernel
theorem dX0_bodyFrom_25 : decode cX0_bodyFrom 25 = .ok (.iload 4, 2) := by decide +kernel
theorem dX0_bodyFrom_27 : decode cX0_bodyFrom 27 = .ok (.ifCond .eq 6, 3) := by decide +kernel
theorem dX0_bodyFrom_30 : decode cX0_bodyFrom 30 = .ok (.iload 4, 2) := by decide +kernel
theorem dX0_bodyFrom_32 : decode cX0_bodyFrom 32 = .ok (.ireturn, 1) := by decide +kernel
theorem dX0_bodyFrom_33 : decode cX0_bodyFrom 33 = .ok (.getstatic 40, 3) := by decide +kernel
theorem dX0_bodyFrom_36 : decode cX0_bodyFrom 36 = .ok (.iload_n 2, 1) := by decide +kernel
theorem dX0_bodyFrom_37 : decode cX0_bodyFrom 37 = .ok (.iaload, 1) := by decide +kernel
theorem dX0_bodyFrom_38 : decode cX0_bodyFrom 38 = .ok (.istore_n 2, 1) := by decide +kernel
theorem dX0_bodyFrom_39 : decode cX0_bodyFrom 39 = .ok (.iinc 3 1, 3) := by decide +kernel
theorem dX0_bodyFrom_42 : decode cX0_bodyFrom 42 = .ok (.goto (-38), 3) := by decide +kernel
theorem dX0_bodyFrom_45 : decode cX0_bodyFrom 45 = .ok (.iconst 0, 1) := by decide +kernel
theorem dX0_bodyFrom_46 : decode cX0_bodyFrom 46 = .ok (.ireturn, 1) := by decide +kernel
theorem dX0_note_0 : decode cX0_note 0 = .ok (.aload_n 0, 1) := by decide +kernel
theorem dX0_note_1 : decode cX0_note 1 = .ok (.getfield 15, 3) := by decide +kernel
theorem dX0_note_4 : decode cX0_note 4 = .ok (.bipush 20, 2) := by decide +kernel
theorem dX0_note_6 : decode cX0_note 6 = .ok (.if_icmp .ge 13, 3) := by decide +kernel
theorem dX0_note_9 : decode cX0_note 9 = .ok (.aload_n 0, 1) := by decide +kernel
theorem dX0_note_10 : decode cX0_note 10 = .ok (.getfield 11, 3) := by decide +kernel
theorem dX0_note_13 : decode cX0_note 13 = .ok (.aload_n 0, 1) := by decide +kernel
theorem dX0_note_14 : decode cX0_note 14 = .ok (.getfield 15, 3) := by decide +kernel
theorem dX0_note_17 : decode cX0_note 17 = .ok (.iload_n 1, 1) := by decide +kernel
theorem dX0_note_18 : decode cX0_note 18 = .ok (.iastore, 1) := by decide +kernel
theorem dX0_note_19 : decode cX0_note 19 = .ok (.aload_n 0, 1) := by decide +kernel
theorem dX0_note_20 : decode cX0_note 20 = .ok (.dup, 1) := by decide +kernel
theorem dX0_note_21 : decode cX0_note 21 = .ok (.getfield 15, 3) := by decide +kernel
theorem dX0_note_24 : decode cX0_note 24 = .ok (.iconst 1, 1) := by decide +kernel
theorem dX0_note_25 : decode cX0_note 25 = .ok (.iadd, 1) := by decide +kernel
theorem dX0_note_26 : decode cX0_note 26 = .ok (.putfield 15, 3) := by decide +kernel
theorem dX0_note_29 : decode cX0_note 29 = .ok (.return_, 1) := by decide +kernel
theorem dX1_init_0 : decode cX1_init 0 = .ok (.aload_n 0, 1) := by decide +kernel
theorem dX1_init_1 : decode cX1_init 1 = .ok (.invokespecial 3, 3) := by decide +kernel
theorem dX1_init_4 : decode cX1_init 4 = .ok (.aload_n 0, 1) := by decide +kernel
theorem dX1_init_5 : decode cX1_init 5 = .ok (.new 9, 3) := by decide +kernel
theorem dX1_init_8 : decode cX1_init 8 = .ok (.dup, 1) := by decide +kernel
theorem dX1_init_9 : decode cX1_init 9 = .ok (.invokespecial 11, 3) := by decide +kernel
theorem dX1_init_12 : decode cX1_init 12 = .ok (.putfield 12, 3) := by decide +kernel
theorem dX1_init_15 : decode cX1_init 15 = .ok (.aload_n 0, 1) := by decide +kernel
theorem dX1_init_16 : decode cX1_init 16 = .ok (.iconst 0, 1) := by decide +kernel
theorem dX1_init_17 : decode cX1_init 17 = .ok (.putfield 18, 3) := by decide +kernel
theorem dX1_init_20 : decode cX1_init 20 = .ok (.aload_n 0, 1) := by decide +kernel
theorem dX1_init_21 : decode cX1_init 21 = .ok (.bipush (-5), 2) := by decide +kernel
theorem dX1_init_23 : decode cX1_init 23 = .ok (.putfield 22, 3) := by decide +kernel
theorem dX1_init_26 : decode cX1_init 26 = .ok (.aload_n 0, 1) := by decide +kernel
theorem dX1_init_27 : decode cX1_init 27 = .ok (.aload_n 1, 1) := by decide +kernel
theorem dX1_init_28 : decode cX1_init 28 = .ok (.putfield 25, 3) := by decide +kernel
theorem dX1_init_31 : decode cX1_init 31 = .ok (.return_, 1) := by decide +kernel
theorem dX1_begin_0 : decode cX1_begin 0 = .ok (.aload_n 0, 1) := by decide +kernel
theorem dX1_begin_1 : decode cX1_begin 1 = .ok (.getfield 12, 3) := by decide +kernel
theorem dX1_begin_4 : decode cX1_begin 4 = .ok (.aload_n 0, 1) := by decide +kernel
theorem dX1_begin_5 : decode cX1_begin 5 = .ok (.getfield 25, 3) := by decide +kernel
theorem dX1_begin_8 : decode cX1_begin 8 = .ok (.getfield 29, 3) := by decide +kernel
theorem dX1_begin_11 : decode cX1_begin 11 = .ok (.invokevirtual 34, 3) := by decide +kernel
theorem dX1_begin_14 : decode cX1_begin 14 = .ok (.return_, 1) := by decide +kernel
theorem dX1_tellOften_0 : decode cX1_tellOften 0 = .ok (.iconst 0, 1) := by decide +kernel
theorem dX1_tellOften_1 : decode cX1_tellOften 1 = .ok (.istore_n 3, 1) := by decide +kernel
theorem dX1_tellOften_2 : decode cX1_tellOften 2 = .ok (.iload_n 3, 1) := by decide +kernel
theorem dX1_tellOften_3 : decode cX1_tellOften 3 = .ok (.iload_n 2, 1) := by decide +kernel
theorem dX1_tellOften_4 : decode cX1_tellOften 4 = .ok (.if_icmp .ge 22, 3) := by decide +kernel
theorem dX1_tellOften_7 : decode cX1_tellOften 7 = .ok (.aload_n 0, 1) := by decide +kernel
theorem dX1_tellOften_8 : decode cX1_tellOften 8 = .ok (.getfield 25, 3) := by decide +kernel
theorem dX1_tellOften_11 : decode cX1_tellOften 11 = .ok (.aload_n 0, 1) := by decide +kernel
theorem dX1_tellOften_12 : decode cX1_tellOften 12 = .ok (.getfield 12, 3) := by decide +kernel
theorem dX1_tellOften_15 : decode cX1_tellOften 15 = .ok (.iload_n 1, 1) := by decide +kernel
theorem dX1_tellOften_16 : decode cX1_tellOften 16 = .ok (.invokevirtual 38, 3) := by decide +kernel
theorem dX1_tellOften_19 : decode cX1_tellOften 19 = .ok (.pop, 1) := by decide +kernel
theorem dX1_tellOften_20 : decode cX1_tellOften 20 = .ok (.iinc 3 1, 3) := by decide +kernel
theorem dX1_tellOften_23 : decode cX1_tellOften 23 = .ok (.goto (-21), 3) := by decide +kernel
theorem dX1_tellOften_26 : decode cX1_tellOften 26 = .ok (.return_, 1) := by decide +kernel
theorem dX1_behind_0 : decode cX1_behind 0 = .ok (.aload_n 0, 1) := by decide +kernel
theorem dX1_behind_1 : decode cX1_behind 1 = .ok (.invokevirtual 42, 3) := by decide +kernel
theorem dX1_behind_4 : decode cX1_behind 4 = .ok (.aload_n 0, 1) := by decide +kernel
theorem dX1_behind_5 : decode cX1_behind 5 = .ok (.iload_n 1, 1) := by decide +kernel
theorem dX1_behind_6 : decode cX1_behind 6 = .ok (.iload_n 2, 1) := by decide +kernel
theorem dX1_behind_7 : decode cX1_behind 7 = .ok (.invokevirtual 45, 3) := by decide +kernel
theorem dX1_behind_10 : decode cX1_behind 10 = .ok (.iload_n 3, 1) := by decide +kernel
theorem dX1_behind_11 : decode cX1_behind 11 = .ok (.lookupswitch 53 #[(0, 25), (1, 35)], 25) := by decide +kernel
theorem dX1_behind_36 : decode cX1_behind 36 = .ok (.aload_n 0, 1) := by decide +kernel
theorem dX1_behind_37 : decode cX1_behind 37 = .ok (.getfield 12, 3) := by decide +kernel
theorem dX1_behind_40 : decode cX1_behind 40 = .ok (.getfield 49, 3) := by decide +kernel
theorem dX1_behind_43 : decode cX1_behind 43 = .ok (.iload_n 1, 1) := by decide +kernel
theorem dX1_behind_44 : decode cX1_behind 44 = .ok (.iaload, 1) := by decide +kernel
theorem dX1_behind_45 : decode cX1_behind 45 = .ok (.ireturn, 1) := by decide +kernel
theorem dX1_behind_46 : decode cX1_behind 46 = .ok (.aload_n 0, 1) := by decide +kernel
theorem dX1_behind_47 : decode cX1_behind 47 = .ok (.getfield 12, 3) := by decide +kernel
theorem dX1_behind_50 : decode cX1_behind 50 = .ok (.getfield 53, 3) := by decide +kernel
theorem dX1_behind_53 : decode cX1_behind 53 = .ok (.iload_n 1, 1) := by decide +kernel
theorem dX1_behind_54 : decode cX1_behind 54 = .ok (.baload, 1) := by decide +kernel
theorem dX1_behind_55 : decode cX1_behind 55 = .ok (.ifCond .eq 7, 3) := by decide +kernel
theorem dX1_behind_58 : decode cX1_behind 58 = .ok (.iconst 1, 1) := by decide +kernel
theorem dX1_behind_59 : decode cX1_behind 59 = .ok (.goto 4, 3) := by decide +kernel
theorem dX1_behind_62 : decode cX1_behind 62 = .ok (.iconst 0, 1) := by decide +kernel
theorem dX1_behind_63 : decode cX1_behind 63 = .ok (.ireturn, 1) := by decide +kernel
theorem dX1_behind_64 : decode cX1_behind 64 = .ok (.aload_n 0, 1) := by decide +kernel
theorem dX1_behind_65 : decode cX1_behind 65 = .ok (.getfield 25, 3) := by decide +kernel
theorem dX1_behind_68 : decode cX1_behind 68 = .ok (.aload_n 0, 1) := by decide +kernel
theorem dX1_behind_69 : decode cX1_behind 69 = .ok (.getfield 12, 3) := by decide +kernel
theorem dX1_behind_72 : decode cX1_behind 72 = .ok (.iload_n 1, 1) := by decide +kernel
theorem dX1_behind_73 : decode cX1_behind 73 = .ok (.invokevirtual 57, 3) := by decide +kernel
theorem dX1_behind_76 : decode cX1_behind 76 = .ok (.ireturn, 1) := by decide +kernel
theorem dX1_whole_0 : decode cX1_whole 0 = .ok (.aload_n 0, 1) := by decide +kernel
theorem dX1_whole_1 : decode cX1_whole 1 = .ok (.invokevirtual 42, 3) := by decide +kernel
theorem dX1_whole_4 : decode cX1_whole 4 = .ok (.iconst 0, 1) := by decide +kernel
theorem dX1_whole_5 : decode cX1_whole 5 = .ok (.istore_n 2, 1) := by decide +kernel
theorem dX1_whole_6 : decode cX1_whole 6 = .ok (.iload_n 2, 1) := by decide +kernel
theorem dX1_whole_7 : decode cX1_whole 7 = .ok (.bipush 60, 2) := by decide +kernel
theorem dX1_whole_9 : decode cX1_whole 9 = .ok (.if_icmp .gt 35, 3) := by decide +kernel
theorem dX1_whole_12 : decode cX1_whole 12 = .ok (.aload_n 0, 1) := by decide +kernel
theorem dX1_whole_13 : decode cX1_whole 13 = .ok (.getfield 12, 3) := by decide +kernel
theorem dX1_whole_16 : decode cX1_whole 16 = .ok (.iload_n 1, 1) := by decide +kernel
theorem dX1_whole_17 : decode cX1_whole 17 = .ok (.invokevirtual 60, 3) := by decide +kernel
theorem dX1_whole_20 : decode cX1_whole 20 = .ok (.ifCond .eq 5, 3) := by decide +kernel
theorem dX1_whole_23 : decode cX1_whole 23 = .ok (.iload_n 2, 1) := by decide +kernel
theorem dX1_whole_24 : decode cX1_whole 24 = .ok (.ireturn, 1) := by decide +kernel
theorem dX1_whole_25 : decode cX1_whole 25 = .ok (.aload_n 0, 1) := by decide +kernel
theorem dX1_whole_26 : decode cX1_whole 26 = .ok (.getfield 25, 3) := by decide +kernel
theorem dX1_whole_29 : decode cX1_whole 29 = .ok (.aload_n 0, 1) := by decide +kernel
theorem dX1_whole_30 : decode cX1_whole 30 = .ok (.getfield 12, 3) := by decide +kernel
theorem dX1_whole_33 : decode cX1_whole 33 = .ok (.iload_n 1, 1) := by decide +kernel
theorem dX1_whole_34 : decode cX1_whole 34 = .ok (.invokevirtual 38, 3) := by decide +kernel
theorem dX1_whole_37 : decode cX1_whole 37 = .ok (.pop, 1) := by decide +kernel
theorem dX1_whole_38 : decode cX1_whole 38 = .ok (.iinc 2 1, 3) := by decide +kernel
theorem dX1_whole_41 : decode cX1_whole 41 = .ok (.goto (-35), 3) := by decide +kernel
theorem dX1_whole_44 : decode cX1_whole 44 = .ok (.bipush (-5), 2) := by decide +kernel
theorem dX1_whole_46 : decode cX1_whole 46 = .ok (.ireturn, 1) := by decide +kernel
theorem dX1_minded_0 : decode cX1_minded 0 = .ok (.aload_n 0, 1) := by decide +kernel
theorem dX1_minded_1 : decode cX1_minded 1 = .ok (.getfield 25, 3) := by decide +kernel
theorem dX1_minded_4 : decode cX1_minded 4 = .ok (.getfield 29, 3) := by decide +kernel
theorem dX1_minded_7 : decode cX1_minded 7 = .ok (.getfield 53, 3) := by decide +kernel
theorem dX1_minded_10 : decode cX1_minded 10 = .ok (.iload_n 1, 1) := by decide +kernel
theorem dX1_minded_11 : decode cX1_minded 11 = .ok (.baload, 1) := by decide +kernel
theorem dX1_minded_12 : decode cX1_minded 12 = .ok (.ifCond .eq 6, 3) := by decide +kernel
theorem dX1_minded_15 : decode cX1_minded 15 = .ok (.bipush (-5), 2) := by decide +kernel
theorem dX1_minded_17 : decode cX1_minded 17 = .ok (.ireturn, 1) := by decide +kernel
theorem dX1_minded_18 : decode cX1_minded 18 = .ok (.aload_n 0, 1) := by decide +kernel
theorem dX1_minded_19 : decode cX1_minded 19 = .ok (.getfield 25, 3) := by decide +kernel
theorem dX1_minded_22 : decode cX1_minded 22 = .ok (.getfield 29, 3) := by decide +kernel
theorem dX1_minded_25 : decode cX1_minded 25 = .ok (.getfield 49, 3) := by decide +kernel
theorem dX1_minded_28 : decode cX1_minded 28 = .ok (.iload_n 1, 1) := by decide +kernel
theorem dX1_minded_29 : decode cX1_minded 29 = .ok (.iaload, 1) := by decide +kernel
theorem dX1_minded_30 : decode cX1_minded 30 = .ok (.istore_n 2, 1) := by decide +kernel
theorem dX1_minded_31 : decode cX1_minded 31 = .ok (.iload_n 2, 1) := by decide +kernel
theorem dX1_minded_32 : decode cX1_minded 32 = .ok (.aload_n 0, 1) := by decide +kernel
theorem dX1_minded_33 : decode cX1_minded 33 = .ok (.getfield 25, 3) := by decide +kernel
theorem dX1_minded_36 : decode cX1_minded 36 = .ok (.getfield 29, 3) := by decide +kernel
theorem dX1_minded_39 : decode cX1_minded 39 = .ok (.getfield 64, 3) := by decide +kernel
theorem dX1_minded_42 : decode cX1_minded 42 = .ok (.if_icmp .ge 23, 3) := by decide +kernel
theorem dX1_minded_45 : decode cX1_minded 45 = .ok (.aload_n 0, 1) := by decide +kernel
theorem dX1_minded_46 : decode cX1_minded 46 = .ok (.getfield 25, 3) := by decide +kernel
theorem dX1_minded_49 : decode cX1_minded 49 = .ok (.iload_n 1, 1) := by decide +kernel
theorem dX1_minded_50 : decode cX1_minded 50 = .ok (.iload_n 2, 1) := by decide +kernel
theorem dX1_minded_51 : decode cX1_minded 51 = .ok (.invokevirtual 67, 3) := by decide +kernel
theorem dX1_minded_54 : decode cX1_minded 54 = .ok (.ifCond .eq 5, 3) := by decide +kernel
theorem dX1_minded_57 : decode cX1_minded 57 = .ok (.iload_n 2, 1) := by decide +kernel
theorem dX1_minded_58 : decode cX1_minded 58 = .ok (.ireturn, 1) := by decide +kernel
theorem dX1_minded_59 : decode cX1_minded 59 = .ok (.iinc 2 1, 3) := by decide +kernel
theorem dX1_minded_62 : decode cX1_minded 62 = .ok (.goto (-31), 3) := by decide +kernel
theorem dX1_minded_65 : decode cX1_minded 65 = .ok (.bipush (-5), 2) := by decide +kernel
theorem dX1_minded_67 : decode cX1_minded 67 = .ok (.ireturn, 1) := by decide +kernel
theorem dX1_bestNext_0 : decode cX1_bestNext 0 = .ok (.bipush (-5), 2) := by decide +kernel
theorem dX1_bestNext_2 : decode cX1_bestNext 2 = .ok (.istore_n 1, 1) := by decide +kernel
theorem dX1_bestNext_3 : decode cX1_bestNext 3 = .ok (.ldc 73, 2) := by decide +kernel
theorem dX1_bestNext_5 : decode cX1_bestNext 5 = .ok (.istore_n 2, 1) := by decide +kernel
theorem dX1_bestNext_6 : decode cX1_bestNext 6 = .ok (.iconst 0, 1) := by decide +kernel
theorem dX1_bestNext_7 : decode cX1_bestNext 7 = .ok (.istore_n 3, 1) := by decide +kernel
theorem dX1_bestNext_8 : decode cX1_bestNext 8 = .ok (.iload_n 3, 1) := by decide +kernel
theorem dX1_bestNext_9 : decode cX1_bestNext 9 = .ok (.aload_n 0, 1) := by decide +kernel
theorem dX1_bestNext_10 : decode cX1_bestNext 10 = .ok (.getfield 25, 3) := by decide +kernel
theorem dX1_bestNext_13 : decode cX1_bestNext 13 = .ok (.getfield 74, 3) := by decide +kernel
theorem dX1_bestNext_16 : decode cX1_bestNext 16 = .ok (.if_icmp .ge 50, 3) := by decide +kernel
theorem dX1_bestNext_19 : decode cX1_bestNext 19 = .ok (.aload_n 0, 1) := by decide +kernel
theorem dX1_bestNext_20 : decode cX1_bestNext 20 = .ok (.invokevirtual 42, 3) := by decide +kernel
theorem dX1_bestNext_23 : decode cX1_bestNext 23 = .ok (.aload_n 0, 1) := by decide +kernel
theorem dX1_bestNext_24 : decode cX1_bestNext 24 = .ok (.getfield 25, 3) := by decide +kernel
theorem dX1_bestNext_27 : decode cX1_bestNext 27 = .ok (.aload_n 0, 1) := by decide +kernel
theorem dX1_bestNext_28 : decode cX1_bestNext 28 = .ok (.getfield 12, 3) := by decide +kernel
theorem dX1_bestNext_31 : decode cX1_bestNext 31 = .ok (.iload_n 3, 1) := by decide +kernel
theorem dX1_bestNext_32 : decode cX1_bestNext 32 = .ok (.invokevirtual 38, 3) := by decide +kernel
theorem dX1_bestNext_35 : decode cX1_bestNext 35 = .ok (.pop, 1) := by decide +kernel
theorem dX1_bestNext_36 : decode cX1_bestNext 36 = .ok (.aload_n 0, 1) := by decide +kernel
theorem dX1_bestNext_37 : decode cX1_bestNext 37 = .ok (.getfield 25, 3) := by decide +kernel
theorem dX1_bestNext_40 : decode cX1_bestNext 40 = .ok (.aload_n 0, 1) := by decide +kernel
theorem dX1_bestNext_41 : decode cX1_bestNext 41 = .ok (.getfield 12, 3) := by decide +kernel
theorem dX1_bestNext_44 : decode cX1_bestNext 44 = .ok (.invokevirtual 77, 3) := by decide +kernel
theorem dX1_bestNext_47 : decode cX1_bestNext 47 = .ok (.istore 4, 2) := by decide +kernel
theorem dX1_bestNext_49 : decode cX1_bestNext 49 = .ok (.iload 4, 2) := by decide +kernel
theorem dX1_bestNext_51 : decode cX1_bestNext 51 = .ok (.iload_n 2, 1) := by decide +kernel
theorem dX1_bestNext_52 : decode cX1_bestNext 52 = .ok (.if_icmp .ge 8, 3) := by decide +kernel
theorem dX1_bestNext_55 : decode cX1_bestNext 55 = .ok (.iload 4, 2) := by decide +kernel
theorem dX1_bestNext_57 : decode cX1_bestNext 57 = .ok (.istore_n 2, 1) := by decide +kernel
theorem dX1_bestNext_58 : decode cX1_bestNext 58 = .ok (.iload_n 3, 1) := by decide +kernel
theorem dX1_bestNext_59 : decode cX1_bestNext 59 = .ok (.istore_n 1, 1) := by decide +kernel
theorem dX1_bestNext_60 : decode cX1_bestNext 60 = .ok (.iinc 3 1, 3) := by decide +kernel
theorem dX1_bestNext_63 : decode cX1_bestNext 63 = .ok (.goto (-55), 3) := by decide +kernel
theorem dX1_bestNext_66 : decode cX1_bestNext 66 = .ok (.iload_n 1, 1) := by decide +kernel
theorem dX1_bestNext_67 : decode cX1_bestNext 67 = .ok (.ireturn, 1) := by decide +kernel
theorem dX1_howManyUpBehind_0 : decode cX1_howManyUpBehind 0 = .ok (.iconst 0, 1) := by decide +kernel
theorem dX1_howManyUpBehind_1 : decode cX1_howManyUpBehind 1 = .ok (.istore_n 2, 1) := by decide +kernel
theorem dX1_howManyUpBehind_2 : decode cX1_howManyUpBehind 2 = .ok (.iconst 0, 1) := by decide +kernel
theorem dX1_howManyUpBehind_3 : decode cX1_howManyUpBehind 3 = .ok (.istore_n 3, 1) := by decide +kernel
theorem dX1_howManyUpBehind_4 : decode cX1_howManyUpBehind 4 = .ok (.iload_n 3, 1) := by decide +kernel
theorem dX1_howManyUpBehind_5 : decode cX1_howManyUpBehind 5 = .ok (.aload_n 0, 1) := by decide +kernel
theorem dX1_howManyUpBehind_6 : decode cX1_howManyUpBehind 6 = .ok (.getfield 25, 3) := by decide +kernel
theorem dX1_howManyUpBehind_9 : decode cX1_howManyUpBehind 9 = .ok (.getfield 74, 3) := by decide +kernel
theorem dX1_howManyUpBehind_12 : decode cX1_howManyUpBehind 12 = .ok (.if_icmp .ge 33, 3) := by decide +kernel
theorem dX1_howManyUpBehind_15 : decode cX1_howManyUpBehind 15 = .ok (.aload_n 0, 1) := by decide +kernel
theorem dX1_howManyUpBehind_16 : decode cX1_howManyUpBehind 16 = .ok (.invokevirtual 42, 3) := by decide +kernel
theorem dX1_howManyUpBehind_19 : decode cX1_howManyUpBehind 19 = .ok (.aload_n 0, 1) := by decide +kernel
theorem dX1_howManyUpBehind_20 : decode cX1_howManyUpBehind 20 = .ok (.iload_n 3, 1) := by decide +kernel
theorem dX1_howManyUpBehind_21 : decode cX1_howManyUpBehind 21 = .ok (.iload_n 1, 1) := by decide +kernel
theorem dX1_howManyUpBehind_22 : decode cX1_howManyUpBehind 22 = .ok (.invokevirtual 45, 3) := by decide +kernel
theorem dX1_howManyUpBehind_25 : decode cX1_howManyUpBehind 25 = .ok (.aload_n 0, 1) := by decide +kernel
theorem dX1_howManyUpBehind_26 : decode cX1_howManyUpBehind 26 = .ok (.getfield 12, 3) := by decide +kernel
theorem dX1_howManyUpBehind_29 : decode cX1_howManyUpBehind 29 = .ok (.iload_n 3, 1) := by decide +kernel
theorem dX1_howManyUpBehind_30 : decode cX1_howManyUpBehind 30 = .ok (.invokevirtual 60, 3) := by decide +kernel
theorem dX1_howManyUpBehind_33 : decode cX1_howManyUpBehind 33 = .ok (.ifCond .eq 6, 3) := by decide +kernel
theorem dX1_howManyUpBehind_36 : decode cX1_howManyUpBehind 36 = .ok (.iinc 2 1, 3) := by decide +kernel
theorem dX1_howManyUpBehind_39 : decode cX1_howManyUpBehind 39 = .ok (.iinc 3 1, 3) := by decide +kernel
theorem dX1_howManyUpBehind_42 : decode cX1_howManyUpBehind 42 = .ok (.goto (-38), 3) := by decide +kernel
theorem dX1_howManyUpBehind_45 : decode cX1_howManyUpBehind 45 = .ok (.iload_n 2, 1) := by decide +kernel
theorem dX1_howManyUpBehind_46 : decode cX1_howManyUpBehind 46 = .ok (.ireturn, 1) := by decide +kernel
theorem dX1_monthEnds_0 : decode cX1_monthEnds 0 = .ok (.aload_n 0, 1) := by decide +kernel
theorem dX1_monthEnds_1 : decode cX1_monthEnds 1 = .ok (.invokevirtual 42, 3) := by decide +kernel
theorem dX1_monthEnds_4 : decode cX1_monthEnds 4 = .ok (.iconst 0, 1) := by decide +kernel
theorem dX1_monthEnds_5 : decode cX1_monthEnds 5 = .ok (.istore_n 2, 1) := by decide +kernel
theorem dX1_monthEnds_6 : decode cX1_monthEnds 6 = .ok (.iload_n 2, 1) := by decide +kernel
theorem dX1_monthEnds_7 : decode cX1_monthEnds 7 = .ok (.aload_n 0, 1) := by decide +kernel
theorem dX1_monthEnds_8 : decode cX1_monthEnds 8 = .ok (.getfield 25, 3) := by decide +kernel
theorem dX1_monthEnds_11 : decode cX1_monthEnds 11 = .ok (.getfield 81, 3) := by decide +kernel
theorem dX1_monthEnds_14 : decode cX1_monthEnds 14 = .ok (.getfield 85, 3) := by decide +kernel
theorem dX1_monthEnds_17 : decode cX1_monthEnds 17 = .ok (.if_icmp .ge 55, 3) := by decide +kernel
theorem dX1_monthEnds_20 : decode cX1_monthEnds 20 = .ok (.aload_n 0, 1) := by decide +kernel
theorem dX1_monthEnds_21 : decode cX1_monthEnds 21 = .ok (.getfield 25, 3) := by decide +kernel
theorem dX1_monthEnds_24 : decode cX1_monthEnds 24 = .ok (.getfield 81, 3) := by decide +kernel
theorem dX1_monthEnds_27 : decode cX1_monthEnds 27 = .ok (.iload_n 2, 1) := by decide +kernel
theorem dX1_monthEnds_28 : decode cX1_monthEnds 28 = .ok (.iconst 0, 1) := by decide +kernel
theorem dX1_monthEnds_29 : decode cX1_monthEnds 29 = .ok (.invokevirtual 90, 3) := by decide +kernel
theorem dX1_monthEnds_32 : decode cX1_monthEnds 32 = .ok (.istore_n 3, 1) := by decide +kernel
theorem dX1_monthEnds_33 : decode cX1_monthEnds 33 = .ok (.iload_n 3, 1) := by decide +kernel
theorem dX1_monthEnds_34 : decode cX1_monthEnds 34 = .ok (.bipush 6, 2) := by decide +kernel
theorem dX1_monthEnds_36 : decode cX1_monthEnds 36 = .ok (.if_icmp .ne 17, 3) := by decide +kernel
theorem dX1_monthEnds_39 : decode cX1_monthEnds 39 = .ok (.aload_n 0, 1) := by decide +kernel
theorem dX1_monthEnds_40 : decode cX1_monthEnds 40 = .ok (.getfield 25, 3) := by decide +kernel
theorem dX1_monthEnds_43 : decode cX1_monthEnds 43 = .ok (.aload_n 0, 1) := by decide +kernel
theorem dX1_monthEnds_44 : decode cX1_monthEnds 44 = .ok (.getfield 12, 3) := by decide +kernel
theorem dX1_monthEnds_47 : decode cX1_monthEnds 47 = .ok (.invokevirtual 94, 3) := by decide +kernel
theorem dX1_monthEnds_50 : decode cX1_monthEnds 50 = .ok (.goto 16, 3) := by decide +kernel
theorem dX1_monthEnds_53 : decode cX1_monthEnds 53 = .ok (.aload_n 0, 1) := by decide +kernel
theorem dX1_monthEnds_54 : decode cX1_monthEnds 54 = .ok (.getfield 25, 3) := by decide +kernel
theorem dX1_monthEnds_57 : decode cX1_monthEnds 57 = .ok (.aload_n 0, 1) := by decide +kernel
theorem dX1_monthEnds_58 : decode cX1_monthEnds 58 = .ok (.getfield 12, 3) := by decide +kernel
theorem dX1_monthEnds_61 : decode cX1_monthEnds 61 = .ok (.iload_n 3, 1) := by decide +kernel
theorem dX1_monthEnds_62 : decode cX1_monthEnds 62 = .ok (.invokevirtual 38, 3) := by decide +kernel
theorem dX1_monthEnds_65 : decode cX1_monthEnds 65 = .ok (.pop, 1) := by decide +kernel
theorem dX1_monthEnds_66 : decode cX1_monthEnds 66 = .ok (.iinc 2 1, 3) := by decide +kernel
theorem dX1_monthEnds_69 : decode cX1_monthEnds 69 = .ok (.goto (-63), 3) := by decide +kernel
theorem dX1_monthEnds_72 : decode cX1_monthEnds 72 = .ok (.iload_n 1, 1) := by decide +kernel
theorem dX1_monthEnds_73 : decode cX1_monthEnds 73 = .ok (.ifCond .ne 17, 3) := by decide +kernel
theorem dX1_monthEnds_76 : decode cX1_monthEnds 76 = .ok (.aload_n 0, 1) := by decide +kernel
theorem dX1_monthEnds_77 : decode cX1_monthEnds 77 = .ok (.getfield 25, 3) := by decide +kernel
theorem dX1_monthEnds_80 : decode cX1_monthEnds 80 = .ok (.aload_n 0, 1) := by decide +kernel
theorem dX1_monthEnds_81 : decode cX1_monthEnds 81 = .ok (.getfield 12, 3) := by decide +kernel
theorem dX1_monthEnds_84 : decode cX1_monthEnds 84 = .ok (.invokevirtual 97, 3) := by decide +kernel
theorem dX1_monthEnds_87 : decode cX1_monthEnds 87 = .ok (.goto 14, 3) := by decide +kernel
theorem dX1_monthEnds_90 : decode cX1_monthEnds 90 = .ok (.aload_n 0, 1) := by decide +kernel
theorem dX1_monthEnds_91 : decode cX1_monthEnds 91 = .ok (.getfield 25, 3) := by decide +kernel
theorem dX1_monthEnds_94 : decode cX1_monthEnds 94 = .ok (.aload_n 0, 1) := by decide +kernel
theorem dX1_monthEnds_95 : decode cX1_monthEnds 95 = .ok (.getfield 12, 3) := by decide +kernel
theorem dX1_monthEnds_98 : decode cX1_monthEnds 98 = .ok (.invokevirtual 77, 3) := by decide +kernel
theorem dX1_monthEnds_101 : decode cX1_monthEnds 101 = .ok (.ireturn, 1) := by decide +kernel
theorem dX1_weighDays_0 : decode cX1_weighDays 0 = .ok (.aload_n 0, 1) := by decide +kernel
theorem dX1_weighDays_1 : decode cX1_weighDays 1 = .ok (.invokevirtual 100, 3) := by decide +kernel
theorem dX1_weighDays_4 : decode cX1_weighDays 4 = .ok (.aload_n 0, 1) := by decide +kernel
theorem dX1_weighDays_5 : decode cX1_weighDays 5 = .ok (.getfield 25, 3) := by decide +kernel
theorem dX1_weighDays_8 : decode cX1_weighDays 8 = .ok (.getfield 29, 3) := by decide +kernel
theorem dX1_weighDays_11 : decode cX1_weighDays 11 = .ok (.getfield 64, 3) := by decide +kernel
theorem dX1_weighDays_14 : decode cX1_weighDays 14 = .ok (.istore_n 2, 1) := by decide +kernel
theorem dX1_weighDays_15 : decode cX1_weighDays 15 = .ok (.iconst 0, 1) := by decide +kernel
theorem dX1_weighDays_16 : decode cX1_weighDays 16 = .ok (.istore_n 3, 1) := by decide +kernel
theorem dX1_weighDays_17 : decode cX1_weighDays 17 = .ok (.iload_n 3, 1) := by decide +kernel
theorem dX1_weighDays_18 : decode cX1_weighDays 18 = .ok (.bipush 99, 2) := by decide +kernel
theorem dX1_weighDays_20 : decode cX1_weighDays 20 = .ok (.if_icmp .gt 23, 3) := by decide +kernel
theorem dX1_weighDays_23 : decode cX1_weighDays 23 = .ok (.iload_n 3, 1) := by decide +kernel
theorem dX1_weighDays_24 : decode cX1_weighDays 24 = .ok (.iload_n 2, 1) := by decide +kernel
theorem dX1_weighDays_25 : decode cX1_weighDays 25 = .ok (.if_icmp .gt 18, 3) := by decide +kernel
theorem dX1_weighDays_28 : decode cX1_weighDays 28 = .ok (.aload_n 0, 1) := by decide +kernel
theorem dX1_weighDays_29 : decode cX1_weighDays 29 = .ok (.iload_n 1, 1) := by decide +kernel
theorem dX1_weighDays_30 : decode cX1_weighDays 30 = .ok (.iload_n 2, 1) := by decide +kernel
theorem dX1_weighDays_31 : decode cX1_weighDays 31 = .ok (.iload_n 3, 1) := by decide +kernel
theorem dX1_weighDays_32 : decode cX1_weighDays 32 = .ok (.isub, 1) := by decide +kernel
theorem dX1_weighDays_33 : decode cX1_weighDays 33 = .ok (.iload_n 3, 1) := by decide +kernel
theorem dX1_weighDays_34 : decode cX1_weighDays 34 = .ok (.invokevirtual 103, 3) := by decide +kernel
theorem dX1_weighDays_37 : decode cX1_weighDays 37 = .ok (.iinc 3 1, 3) := by decide +kernel
theorem dX1_weighDays_40 : decode cX1_weighDays 40 = .ok (.goto (-23), 3) := by decide +kernel
theorem dX1_weighDays_43 : decode cX1_weighDays 43 = .ok (.return_, 1) := by decide +kernel
theorem dX1_weighValues_0 : decode cX1_weighValues 0 = .ok (.aload_n 0, 1) := by decide +kernel
theorem dX1_weighValues_1 : decode cX1_weighValues 1 = .ok (.invokevirtual 100, 3) := by decide +kernel
theorem dX1_weighValues_4 : decode cX1_weighValues 4 = .ok (.aload_n 0, 1) := by decide +kernel
theorem dX1_weighValues_5 : decode cX1_weighValues 5 = .ok (.getfield 25, 3) := by decide +kernel
theorem dX1_weighValues_8 : decode cX1_weighValues 8 = .ok (.getfield 107, 3) := by decide +kernel
theorem dX1_weighValues_11 : decode cX1_weighValues 11 = .ok (.iload_n 1, 1) := by decide +kernel
theorem dX1_weighValues_12 : decode cX1_weighValues 12 = .ok (.iaload, 1) := by decide +kernel
theorem dX1_weighValues_13 : decode cX1_weighValues 13 = .ok (.istore_n 2, 1) := by decide +kernel
theorem dX1_weighValues_14 : decode cX1_weighValues 14 = .ok (.iconst 0, 1) := by decide +kernel
theorem dX1_weighValues_15 : decode cX1_weighValues 15 = .ok (.istore_n 3, 1) := by decide +kernel
theorem dX1_weighValues_16 : decode cX1_weighValues 16 = .ok (.iload_n 3, 1) := by decide +kernel
theorem dX1_weighValues_17 : decode cX1_weighValues 17 = .ok (.bipush 9, 2) := by decide +kernel
theorem dX1_weighValues_19 : decode cX1_weighValues 19 = .ok (.if_icmp .gt 45, 3) := by decide +kernel
theorem dX1_weighValues_22 : decode cX1_weighValues 22 = .ok (.aload_n 0, 1) := by decide +kernel
theorem dX1_weighValues_23 : decode cX1_weighValues 23 = .ok (.getfield 25, 3) := by decide +kernel
theorem dX1_weighValues_26 : decode cX1_weighValues 26 = .ok (.getfield 107, 3) := by decide +kernel
theorem dX1_weighValues_29 : decode cX1_weighValues 29 = .ok (.iload_n 1, 1) := by decide +kernel
theorem dX1_weighValues_30 : decode cX1_weighValues 30 = .ok (.iload_n 3, 1) := by decide +kernel
theorem dX1_weighValues_31 : decode cX1_weighValues 31 = .ok (.iastore, 1) := by decide +kernel
theorem dX1_weighValues_32 : decode cX1_weighValues 32 = .ok (.aload_n 0, 1) := by decide +kernel
theorem dX1_weighValues_33 : decode cX1_weighValues 33 = .ok (.getfield 25, 3) := by decide +kernel
theorem dX1_weighValues_36 : decode cX1_weighValues 36 = .ok (.iload_n 1, 1) := by decide +kernel
theorem dX1_weighValues_37 : decode cX1_weighValues 37 = .ok (.invokevirtual 110, 3) := by decide +kernel
theorem dX1_weighValues_40 : decode cX1_weighValues 40 = .ok (.aload_n 0, 1) := by decide +kernel
theorem dX1_weighValues_41 : decode cX1_weighValues 41 = .ok (.iload_n 1, 1) := by decide +kernel
theorem dX1_weighValues_42 : decode cX1_weighValues 42 = .ok (.aload_n 0, 1) := by decide +kernel
theorem dX1_weighValues_43 : decode cX1_weighValues 43 = .ok (.getfield 25, 3) := by decide +kernel
theorem dX1_weighValues_46 : decode cX1_weighValues 46 = .ok (.getfield 29, 3) := by decide +kernel
theorem dX1_weighValues_49 : decode cX1_weighValues 49 = .ok (.getfield 49, 3) := by decide +kernel
theorem dX1_weighValues_52 : decode cX1_weighValues 52 = .ok (.iload_n 1, 1) := by decide +kernel
theorem dX1_weighValues_53 : decode cX1_weighValues 53 = .ok (.iaload, 1) := by decide +kernel
theorem dX1_weighValues_54 : decode cX1_weighValues 54 = .ok (.iload_n 3, 1) := by decide +kernel
theorem dX1_weighValues_55 : decode cX1_weighValues 55 = .ok (.invokevirtual 103, 3) := by decide +kernel
theorem dX1_weighValues_58 : decode cX1_weighValues 58 = .ok (.iinc 3 1, 3) := by decide +kernel
theorem dX1_weighValues_61 : decode cX1_weighValues 61 = .ok (.goto (-45), 3) := by decide +kernel
theorem dX1_weighValues_64 : decode cX1_weighValues 64 = .ok (.aload_n 0, 1) := by decide +kernel
theorem dX1_weighValues_65 : decode cX1_weighValues 65 = .ok (.getfield 25, 3) := by decide +kernel
theorem dX1_weighValues_68 : decode cX1_weighValues 68 = .ok (.getfield 107, 3) := by decide +kernel
theorem dX1_weighValues_71 : decode cX1_weighValues 71 = .ok (.iload_n 1, 1) := by decide +kernel
theorem dX1_weighValues_72 : decode cX1_weighValues 72 = .ok (.iload_n 2, 1) := by decide +kernel
theorem dX1_weighValues_73 : decode cX1_weighValues 73 = .ok (.iastore, 1) := by decide +kernel
theorem dX1_weighValues_74 : decode cX1_weighValues 74 = .ok (.aload_n 0, 1) := by decide +kernel
theorem dX1_weighValues_75 : decode cX1_weighValues 75 = .ok (.getfield 25, 3) := by decide +kernel
theorem dX1_weighValues_78 : decode cX1_weighValues 78 = .ok (.iload_n 1, 1) := by decide +kernel
theorem dX1_weighValues_79 : decode cX1_weighValues 79 = .ok (.invokevirtual 110, 3) := by decide +kernel
theorem dX1_weighValues_82 : decode cX1_weighValues 82 = .ok (.return_, 1) := by decide +kernel
theorem dX1_weighNothing_0 : decode cX1_weighNothing 0 = .ok (.aload_n 0, 1) := by decide +kernel
theorem dX1_weighNothing_1 : decode cX1_weighNothing 1 = .ok (.iconst 0, 1) := by decide +kernel
theorem dX1_weighNothing_2 : decode cX1_weighNothing 2 = .ok (.putfield 18, 3) := by decide +kernel
theorem dX1_weighNothing_5 : decode cX1_weighNothing 5 = .ok (.aload_n 0, 1) := by decide +kernel
theorem dX1_weighNothing_6 : decode cX1_weighNothing 6 = .ok (.bipush (-5), 2) := by decide +kernel
theorem dX1_weighNothing_8 : decode cX1_weighNothing 8 = .ok (.putfield 22, 3) := by decide +kernel
theorem dX1_weighNothing_11 : decode cX1_weighNothing 11 = .ok (.return_, 1) := by decide +kernel
theorem dX1_weigh_0 : decode cX1_weigh 0 = .ok (.iconst 0, 1) := by decide +kernel
theorem dX1_weigh_1 : decode cX1_weigh 1 = .ok (.istore 4, 2) := by decide +kernel
theorem dX1_weigh_3 : decode cX1_weigh 3 = .ok (.iload 4, 2) := by decide +kernel
theorem dX1_weigh_5 : decode cX1_weigh 5 = .ok (.aload_n 0, 1) := by decide +kernel
theorem dX1_weigh_6 : decode cX1_weigh 6 = .ok (.getfield 25, 3) := by decide +kernel
theorem dX1_weigh_9 : decode cX1_weigh 9 = .ok (.getfield 114, 3) := by decide +kernel
theorem dX1_weigh_12 : decode cX1_weigh 12 = .ok (.getfield 85, 3) := by decide +kernel
theorem dX1_weigh_15 : decode cX1_weigh 15 = .ok (.if_icmp .ge 38, 3) := by decide +kernel
theorem dX1_weigh_18 : decode cX1_weigh 18 = .ok (.aload_n 0, 1) := by decide +kernel
theorem dX1_weigh_19 : decode cX1_weigh 19 = .ok (.getfield 25, 3) := by decide +kernel
theorem dX1_weigh_22 : decode cX1_weigh 22 = .ok (.getfield 114, 3) := by decide +kernel
theorem dX1_weigh_25 : decode cX1_weigh 25 = .ok (.iload 4, 2) := by decide +kernel
theorem dX1_weigh_27 : decode cX1_weigh 27 = .ok (.iconst 0, 1) := by decide +kernel
theorem dX1_weigh_28 : decode cX1_weigh 28 = .ok (.invokevirtual 90, 3) := by decide +kernel
theorem dX1_weigh_31 : decode cX1_weigh 31 = .ok (.iload_n 1, 1) := by decide +kernel
theorem dX1_weigh_32 : decode cX1_weigh 32 = .ok (.if_icmp .ne 15, 3) := by decide +kernel
theorem dX1_weigh_35 : decode cX1_weigh 35 = .ok (.aload_n 0, 1) := by decide +kernel
theorem dX1_weigh_36 : decode cX1_weigh 36 = .ok (.iload 4, 2) := by decide +kernel
theorem dX1_weigh_38 : decode cX1_weigh 38 = .ok (.iload_n 1, 1) := by decide +kernel
theorem dX1_weigh_39 : decode cX1_weigh 39 = .ok (.iload_n 2, 1) := by decide +kernel
theorem dX1_weigh_40 : decode cX1_weigh 40 = .ok (.invokevirtual 117, 3) := by decide +kernel
theorem dX1_weigh_43 : decode cX1_weigh 43 = .ok (.ifCond .ne 4, 3) := by decide +kernel
theorem dX1_weigh_46 : decode cX1_weigh 46 = .ok (.return_, 1) := by decide +kernel
theorem dX1_weigh_47 : decode cX1_weigh 47 = .ok (.iinc 4 1, 3) := by decide +kernel
theorem dX1_weigh_50 : decode cX1_weigh 50 = .ok (.goto (-47), 3) := by decide +kernel
theorem dX1_weigh_53 : decode cX1_weigh 53 = .ok (.aload_n 0, 1) := by decide +kernel
theorem dX1_weigh_54 : decode cX1_weigh 54 = .ok (.getfield 18, 3) := by decide +kernel
theorem dX1_weigh_57 : decode cX1_weigh 57 = .ok (.ifCond .ne 8, 3) := by decide +kernel
theorem dX1_weigh_60 : decode cX1_weigh 60 = .ok (.aload_n 0, 1) := by decide +kernel
theorem dX1_weigh_61 : decode cX1_weigh 61 = .ok (.iload_n 3, 1) := by decide +kernel
theorem dX1_weigh_62 : decode cX1_weigh 62 = .ok (.putfield 22, 3) := by decide +kernel
theorem dX1_weigh_65 : decode cX1_weigh 65 = .ok (.aload_n 0, 1) := by decide +kernel
theorem dX1_weigh_66 : decode cX1_weigh 66 = .ok (.dup, 1) := by decide +kernel
theorem dX1_weigh_67 : decode cX1_weigh 67 = .ok (.getfield 18, 3) := by decide +kernel
theorem dX1_weigh_70 : decode cX1_weigh 70 = .ok (.iconst 1, 1) := by decide +kernel
theorem dX1_weigh_71 : decode cX1_weigh 71 = .ok (.iadd, 1) := by decide +kernel
theorem dX1_weigh_72 : decode cX1_weigh 72 = .ok (.putfield 18, 3) := by decide +kernel
theorem dX1_weigh_75 : decode cX1_weigh 75 = .ok (.return_, 1) := by decide +kernel
theorem dX1_isSo_0 : decode cX1_isSo 0 = .ok (.aload_n 0, 1) := by decide +kernel
theorem dX1_isSo_1 : decode cX1_isSo 1 = .ok (.invokevirtual 42, 3) := by decide +kernel
theorem dX1_isSo_4 : decode cX1_isSo 4 = .ok (.aload_n 0, 1) := by decide +kernel
theorem dX1_isSo_5 : decode cX1_isSo 5 = .ok (.getfield 12, 3) := by decide +kernel
theorem dX1_isSo_8 : decode cX1_isSo 8 = .ok (.getfield 49, 3) := by decide +kernel
theorem dX1_isSo_11 : decode cX1_isSo 11 = .ok (.iload_n 2, 1) := by decide +kernel
theorem dX1_isSo_12 : decode cX1_isSo 12 = .ok (.iload_n 3, 1) := by decide +kernel
theorem dX1_isSo_13 : decode cX1_isSo 13 = .ok (.iastore, 1) := by decide +kernel
theorem dX1_isSo_14 : decode cX1_isSo 14 = .ok (.aload_n 0, 1) := by decide +kernel
theorem dX1_isSo_15 : decode cX1_isSo 15 = .ok (.iload_n 2, 1) := by decide +kernel
theorem dX1_isSo_16 : decode cX1_isSo 16 = .ok (.aload_n 0, 1) := by decide +kernel
theorem dX1_isSo_17 : decode cX1_isSo 17 = .ok (.getfield 25, 3) := by decide +kernel
theorem dX1_isSo_20 : decode cX1_isSo 20 = .ok (.getfield 114, 3) := by decide +kernel
theorem dX1_isSo_23 : decode cX1_isSo 23 = .ok (.iload_n 1, 1) := by decide +kernel
theorem dX1_isSo_24 : decode cX1_isSo 24 = .ok (.iconst 2, 1) := by decide +kernel
theorem dX1_isSo_25 : decode cX1_isSo 25 = .ok (.invokevirtual 90, 3) := by decide +kernel
theorem dX1_isSo_28 : decode cX1_isSo 28 = .ok (.invokevirtual 45, 3) := by decide +kernel
theorem dX1_isSo_31 : decode cX1_isSo 31 = .ok (.aload_n 0, 1) := by decide +kernel
theorem dX1_isSo_32 : decode cX1_isSo 32 = .ok (.getfield 12, 3) := by decide +kernel
theorem dX1_isSo_35 : decode cX1_isSo 35 = .ok (.getfield 49, 3) := by decide +kernel
theorem dX1_isSo_38 : decode cX1_isSo 38 = .ok (.iload_n 2, 1) := by decide +kernel
theorem dX1_isSo_39 : decode cX1_isSo 39 = .ok (.iaload, 1) := by decide +kernel
theorem dX1_isSo_40 : decode cX1_isSo 40 = .ok (.iload_n 3, 1) := by decide +kernel
theorem dX1_isSo_41 : decode cX1_isSo 41 = .ok (.isub, 1) := by decide +kernel
theorem dX1_isSo_42 : decode cX1_isSo 42 = .ok (.aload_n 0, 1) := by decide +kernel
theorem dX1_isSo_43 : decode cX1_isSo 43 = .ok (.getfield 25, 3) := by decide +kernel
theorem dX1_isSo_46 : decode cX1_isSo 46 = .ok (.getfield 114, 3) := by decide +kernel
theorem dX1_isSo_49 : decode cX1_isSo 49 = .ok (.iload_n 1, 1) := by decide +kernel
theorem dX1_isSo_50 : decode cX1_isSo 50 = .ok (.iconst 1, 1) := by decide +kernel
theorem dX1_isSo_51 : decode cX1_isSo 51 = .ok (.invokevirtual 90, 3) := by decide +kernel
theorem dX1_isSo_54 : decode cX1_isSo 54 = .ok (.if_icmp .ne 7, 3) := by decide +kernel
theorem dX1_isSo_57 : decode cX1_isSo 57 = .ok (.iconst 1, 1) := by decide +kernel
theorem dX1_isSo_58 : decode cX1_isSo 58 = .ok (.goto 4, 3) := by decide +kernel
theorem dX1_isSo_61 : decode cX1_isSo 61 = .ok (.iconst 0, 1) := by decide +kernel
theorem dX1_isSo_62 : decode cX1_isSo 62 = .ok (.ireturn, 1) := by decide +kernel
theorem dX2_init_0 : decode cX2_init 0 = .ok (.aload_n 0, 1) := by decide +kernel
theorem dX2_init_1 : decode cX2_init 1 = .ok (.invokespecial 1, 3) := by decide +kernel
theorem dX2_init_4 : decode cX2_init 4 = .ok (.aload_n 0, 1) := by decide +kernel
theorem dX2_init_5 : decode cX2_init 5 = .ok (.bipush 10, 2) := by decide +kernel
theorem dX2_init_7 : decode cX2_init 7 = .ok (.putfield 9, 3) := by decide +kernel
theorem dX2_init_10 : decode cX2_init 10 = .ok (.aload_n 0, 1) := by decide +kernel
theorem dX2_init_11 : decode cX2_init 11 = .ok (.iconst 0, 1) := by decide +kernel
theorem dX2_init_12 : decode cX2_init 12 = .ok (.putfield 13, 3) := by decide +kernel
theorem dX2_init_15 : decode cX2_init 15 = .ok (.aload_n 0, 1) := by decide +kernel
theorem dX2_init_16 : decode cX2_init 16 = .ok (.bipush 10, 2) := by decide +kernel
theorem dX2_init_18 : decode cX2_init 18 = .ok (.newarray .int, 2) := by decide +kernel
theorem dX2_init_20 : decode cX2_init 20 = .ok (.putfield 16, 3) := by decide +kernel
theorem dX2_init_23 : decode cX2_init 23 = .ok (.aload_n 0, 1) := by decide +kernel
theorem dX2_init_24 : decode cX2_init 24 = .ok (.bipush 10, 2) := by decide +kernel
theorem dX2_init_26 : decode cX2_init 26 = .ok (.newarray .int, 2) := by decide +kernel
theorem dX2_init_28 : decode cX2_init 28 = .ok (.putfield 20, 3) := by decide +kernel
theorem dX2_init_31 : decode cX2_init 31 = .ok (.aload_n 0, 1) := by decide +kernel
theorem dX2_init_32 : decode cX2_init 32 = .ok (.iconst 0, 1) := by decide +kernel
theorem dX2_init_33 : decode cX2_init 33 = .ok (.putfield 23, 3) := by decide +kernel
theorem dX2_init_36 : decode cX2_init 36 = .ok (.aload_n 0, 1) := by decide +kernel
theorem dX2_init_37 : decode cX2_init 37 = .ok (.bipush 100, 2) := by decide +kernel
theorem dX2_init_39 : decode cX2_init 39 = .ok (.newarray .int, 2) := by decide +kernel
theorem dX2_init_41 : decode cX2_init 41 = .ok (.putfield 26, 3) := by decide +kernel
theorem dX2_init_44 : decode cX2_init 44 = .ok (.return_, 1) := by decide +kernel
theorem dX2_clear_0 : decode cX2_clear 0 = .ok (.aload_n 0, 1) := by decide +kernel
theorem dX2_clear_1 : decode cX2_clear 1 = .ok (.bipush 10, 2) := by decide +kernel
theorem dX2_clear_3 : decode cX2_clear 3 = .ok (.putfield 9, 3) := by decide +kernel
theorem dX2_clear_6 : decode cX2_clear 6 = .ok (.aload_n 0, 1) := by decide +kernel
theorem dX2_clear_7 : decode cX2_clear 7 = .ok (.iconst 0, 1) := by decide +kernel
theorem dX2_clear_8 : decode cX2_clear 8 = .ok (.putfield 13, 3) := by decide +kernel
theorem dX2_clear_11 : decode cX2_clear 11 = .ok (.aload_n 0, 1) := by decide +kernel
theorem dX2_clear_12 : decode cX2_clear 12 = .ok (.iconst 0, 1) := by decide +kernel
theorem dX2_clear_13 : decode cX2_clear 13 = .ok (.putfield 23, 3) := by decide +kernel
theorem dX2_clear_16 : decode cX2_clear 16 = .ok (.return_, 1) := by decide +kernel
theorem dX2_addStep_0 : decode cX2_addStep 0 = .ok (.aload_n 0, 1) := by decide +kernel
theorem dX2_addStep_1 : decode cX2_addStep 1 = .ok (.getfield 23, 3) := by decide +kernel
theorem dX2_addStep_4 : decode cX2_addStep 4 = .ok (.bipush 100, 2) := by decide +kernel
theorem dX2_addStep_6 : decode cX2_addStep 6 = .ok (.if_icmp .ge 23, 3) := by decide +kernel
theorem dX2_addStep_9 : decode cX2_addStep 9 = .ok (.aload_n 0, 1) := by decide +kernel
theorem dX2_addStep_10 : decode cX2_addStep 10 = .ok (.getfield 26, 3) := by decide +kernel
theorem dX2_addStep_13 : decode cX2_addStep 13 = .ok (.aload_n 0, 1) := by decide +kernel
theorem dX2_addStep_14 : decode cX2_addStep 14 = .ok (.getfield 23, 3) := by decide +kernel
theorem dX2_addStep_17 : decode cX2_addStep 17 = .ok (.iload_n 1, 1) := by decide +kernel
theorem dX2_addStep_18 : decode cX2_addStep 18 = .ok (.iastore, 1) := by decide +kernel
theorem dX2_addStep_19 : decode cX2_addStep 19 = .ok (.aload_n 0, 1) := by decide +kernel
theorem dX2_addStep_20 : decode cX2_addStep 20 = .ok (.dup, 1) := by decide +kernel
theorem dX2_addStep_21 : decode cX2_addStep 21 = .ok (.getfield 23, 3) := by decide +kernel
theorem dX2_addStep_24 : decode cX2_addStep 24 = .ok (.iconst 1, 1) := by decide +kernel
theorem dX2_addStep_25 : decode cX2_addStep 25 = .ok (.iadd, 1) := by decide +kernel
theorem dX2_addStep_26 : decode cX2_addStep 26 = .ok (.putfield 23, 3) := by decide +kernel
theorem dX2_addStep_29 : decode cX2_addStep 29 = .ok (.return_, 1) := by decide +kernel
theorem dX2_addClause_0 : decode cX2_addClause 0 = .ok (.aload_n 0, 1) := by decide +kernel
theorem dX2_addClause_1 : decode cX2_addClause 1 = .ok (.getfield 13, 3) := by decide +kernel
theorem dX2_addClause_4 : decode cX2_addClause 4 = .ok (.bipush 10, 2) := by decide +kernel
theorem dX2_addClause_6 : decode cX2_addClause 6 = .ok (.if_icmp .ge 36, 3) := by decide +kernel
theorem dX2_addClause_9 : decode cX2_addClause 9 = .ok (.aload_n 0, 1) := by decide +kernel
theorem dX2_addClause_10 : decode cX2_addClause 10 = .ok (.getfield 16, 3) := by decide +kernel
theorem dX2_addClause_13 : decode cX2_addClause 13 = .ok (.aload_n 0, 1) := by decide +kernel
theorem dX2_addClause_14 : decode cX2_addClause 14 = .ok (.getfield 13, 3) := by decide +kernel
theorem dX2_addClause_17 : decode cX2_addClause 17 = .ok (.iload_n 1, 1) := by decide +kernel
theorem dX2_addClause_18 : decode cX2_addClause 18 = .ok (.iastore, 1) := by decide +kernel
theorem dX2_addClause_19 : decode cX2_addClause 19 = .ok (.aload_n 0, 1) := by decide +kernel
theorem dX2_addClause_20 : decode cX2_addClause 20 = .ok (.getfield 20, 3) := by decide +kernel
theorem dX2_addClause_23 : decode cX2_addClause 23 = .ok (.aload_n 0, 1) := by decide +kernel
theorem dX2_addClause_24 : decode cX2_addClause 24 = .ok (.getfield 13, 3) := by decide +kernel
theorem dX2_addClause_27 : decode cX2_addClause 27 = .ok (.aload_n 0, 1) := by decide +kernel
theorem dX2_addClause_28 : decode cX2_addClause 28 = .ok (.getfield 23, 3) := by decide +kernel
theorem dX2_addClause_31 : decode cX2_addClause 31 = .ok (.iastore, 1) := by decide +kernel
theorem dX2_addClause_32 : decode cX2_addClause 32 = .ok (.aload_n 0, 1) := by decide +kernel
theorem dX2_addClause_33 : decode cX2_addClause 33 = .ok (.dup, 1) := by decide +kernel
theorem dX2_addClause_34 : decode cX2_addClause 34 = .ok (.getfield 13, 3) := by decide +kernel
theorem dX2_addClause_37 : decode cX2_addClause 37 = .ok (.iconst 1, 1) := by decide +kernel
theorem dX2_addClause_38 : decode cX2_addClause 38 = .ok (.iadd, 1) := by decide +kernel
theorem dX2_addClause_39 : decode cX2_addClause 39 = .ok (.putfield 13, 3) := by decide +kernel
theorem dX2_addClause_42 : decode cX2_addClause 42 = .ok (.return_, 1) := by decide +kernel
theorem dX2_newsBy_0 : decode cX2_newsBy 0 = .ok (.iconst 1, 1) := by decide +kernel
theorem dX2_newsBy_1 : decode cX2_newsBy 1 = .ok (.istore_n 2, 1) := by decide +kernel
theorem dX2_newsBy_2 : decode cX2_newsBy 2 = .ok (.iconst 0, 1) := by decide +kernel
theorem dX2_newsBy_3 : decode cX2_newsBy 3 = .ok (.istore_n 3, 1) := by decide +kernel
theorem dX2_newsBy_4 : decode cX2_newsBy 4 = .ok (.iconst 0, 1) := by decide +kernel
theorem dX2_newsBy_5 : decode cX2_newsBy 5 = .ok (.istore 4, 2) := by decide +kernel
theorem dX2_newsBy_7 : decode cX2_newsBy 7 = .ok (.iload 4, 2) := by decide +kernel
theorem dX2_newsBy_9 : decode cX2_newsBy 9 = .ok (.aload_n 0, 1) := by decide +kernel
theorem dX2_newsBy_10 : decode cX2_newsBy 10 = .ok (.getfield 13, 3) := by decide +kernel
theorem dX2_newsBy_13 : decode cX2_newsBy 13 = .ok (.if_icmp .ge 43, 3) := by decide +kernel
theorem dX2_newsBy_16 : decode cX2_newsBy 16 = .ok (.aload_n 0, 1) := by decide +kernel
theorem dX2_newsBy_17 : decode cX2_newsBy 17 = .ok (.iload_n 3, 1) := by decide +kernel
theorem dX2_newsBy_18 : decode cX2_newsBy 18 = .ok (.aload_n 0, 1) := by decide +kernel
theorem dX2_newsBy_19 : decode cX2_newsBy 19 = .ok (.getfield 20, 3) := by decide +kernel
theorem dX2_newsBy_22 : decode cX2_newsBy 22 = .ok (.iload 4, 2) := by decide +kernel
theorem dX2_newsBy_24 : decode cX2_newsBy 24 = .ok (.iaload, 1) := by decide +kernel
theorem dX2_newsBy_25 : decode cX2_newsBy 25 = .ok (.aload_n 1, 1) := by decide +kernel
theorem dX2_newsBy_26 : decode cX2_newsBy 26 = .ok (.invokevirtual 29, 3) := by decide +kernel
theorem dX2_newsBy_29 : decode cX2_newsBy 29 = .ok (.ifCond .eq 13, 3) := by decide +kernel
theorem dX2_newsBy_32 : decode cX2_newsBy 32 = .ok (.iload_n 2, 1) := by decide +kernel
theorem dX2_newsBy_33 : decode cX2_newsBy 33 = .ok (.aload_n 0, 1) := by decide +kernel
theorem dX2_newsBy_34 : decode cX2_newsBy 34 = .ok (.getfield 16, 3) := by decide +kernel
theorem dX2_newsBy_37 : decode cX2_newsBy 37 = .ok (.iload 4, 2) := by decide +kernel
theorem dX2_newsBy_39 : decode cX2_newsBy 39 = .ok (.iaload, 1) := by decide +kernel
theorem dX2_newsBy_40 : decode cX2_newsBy 40 = .ok (.iadd, 1) := by decide +kernel
theorem dX2_newsBy_41 : decode cX2_newsBy 41 = .ok (.istore_n 2, 1) := by decide +kernel
theorem dX2_newsBy_42 : decode cX2_newsBy 42 = .ok (.aload_n 0, 1) := by decide +kernel
theorem dX2_newsBy_43 : decode cX2_newsBy 43 = .ok (.getfield 20, 3) := by decide +kernel
theorem dX2_newsBy_46 : decode cX2_newsBy 46 = .ok (.iload 4, 2) := by decide +kernel
theorem dX2_newsBy_48 : decode cX2_newsBy 48 = .ok (.iaload, 1) := by decide +kernel
theorem dX2_newsBy_49 : decode cX2_newsBy 49 = .ok (.istore_n 3, 1) := by decide +kernel
theorem dX2_newsBy_50 : decode cX2_newsBy 50 = .ok (.iinc 4 1, 3) := by decide +kernel
theorem dX2_newsBy_53 : decode cX2_newsBy 53 = .ok (.goto (-46), 3) := by decide +kernel
theorem dX2_newsBy_56 : decode cX2_newsBy 56 = .ok (.iconst 0, 1) := by decide +kernel
theorem dX2_newsBy_57 : decode cX2_newsBy 57 = .ok (.iload_n 2, 1) := by decide +kernel
theorem dX2_newsBy_58 : decode cX2_newsBy 58 = .ok (.invokestatic 33, 3) := by decide +kernel
theorem dX2_newsBy_61 : decode cX2_newsBy 61 = .ok (.ireturn, 1) := by decide +kernel
theorem dX2_isTrue_0 : decode cX2_isTrue 0 = .ok (.iconst 0, 1) := by decide +kernel
theorem dX2_isTrue_1 : decode cX2_isTrue 1 = .ok (.istore 4, 2) := by decide +kernel
theorem dX2_isTrue_3 : decode cX2_isTrue 3 = .ok (.iload_n 1, 1) := by decide +kernel
theorem dX2_isTrue_4 : decode cX2_isTrue 4 = .ok (.istore 5, 2) := by decide +kernel
theorem dX2_isTrue_6 : decode cX2_isTrue 6 = .ok (.iload 5, 2) := by decide +kernel
theorem dX2_isTrue_8 : decode cX2_isTrue 8 = .ok (.iload_n 2, 1) := by decide +kernel
theorem dX2_isTrue_9 : decode cX2_isTrue 9 = .ok (.if_icmp .ge 97, 3) := by decide +kernel
theorem dX2_isTrue_12 : decode cX2_isTrue 12 = .ok (.aload_n 0, 1) := by decide +kernel
theorem dX2_isTrue_13 : decode cX2_isTrue 13 = .ok (.getfield 26, 3) := by decide +kernel
theorem dX2_isTrue_16 : decode cX2_isTrue 16 = .ok (.iload 5, 2) := by decide +kernel
theorem dX2_isTrue_18 : decode cX2_isTrue 18 = .ok (.iaload, 1) := by decide +kernel
theorem dX2_isTrue_19 : decode cX2_isTrue 19 = .ok (.istore 6, 2) := by decide +kernel
theorem dX2_isTrue_21 : decode cX2_isTrue 21 = .ok (.iload 6, 2) := by decide +kernel
theorem dX2_isTrue_23 : decode cX2_isTrue 23 = .ok (.iconst (-1), 1) := by decide +kernel
theorem dX2_isTrue_24 : decode cX2_isTrue 24 = .ok (.if_icmp .ne 12, 3) := by decide +kernel
theorem dX2_isTrue_27 : decode cX2_isTrue 27 = .ok (.iload 4, 2) := by decide +kernel
theorem dX2_isTrue_29 : decode cX2_isTrue 29 = .ok (.iconst 1, 1) := by decide +kernel
theorem dX2_isTrue_30 : decode cX2_isTrue 30 = .ok (.ixor, 1) := by decide +kernel
theorem dX2_isTrue_31 : decode cX2_isTrue 31 = .ok (.istore 4, 2) := by decide +kernel
theorem dX2_isTrue_33 : decode cX2_isTrue 33 = .ok (.goto 67, 3) := by decide +kernel
theorem dX2_isTrue_36 : decode cX2_isTrue 36 = .ok (.iload 6, 2) := by decide +kernel
theorem dX2_isTrue_38 : decode cX2_isTrue 38 = .ok (.bipush (-2), 2) := by decide +kernel
theorem dX2_isTrue_40 : decode cX2_isTrue 40 = .ok (.if_icmp .ne 18, 3) := by decide +kernel
theorem dX2_isTrue_43 : decode cX2_isTrue 43 = .ok (.iload 4, 2) := by decide +kernel
theorem dX2_isTrue_45 : decode cX2_isTrue 45 = .ok (.iconst 1, 1) := by decide +kernel
theorem dX2_isTrue_46 : decode cX2_isTrue 46 = .ok (.ishr, 1) := by decide +kernel
theorem dX2_isTrue_47 : decode cX2_isTrue 47 = .ok (.iload 4, 2) := by decide +kernel
theorem dX2_isTrue_49 : decode cX2_isTrue 49 = .ok (.bipush (-2), 2) := by decide +kernel
theorem dX2_isTrue_51 : decode cX2_isTrue 51 = .ok (.ior, 1) := by decide +kernel
theorem dX2_isTrue_52 : decode cX2_isTrue 52 = .ok (.iand, 1) := by decide +kernel
theorem dX2_isTrue_53 : decode cX2_isTrue 53 = .ok (.istore 4, 2) := by decide +kernel
theorem dX2_isTrue_55 : decode cX2_isTrue 55 = .ok (.goto 45, 3) := by decide +kernel
theorem dX2_isTrue_58 : decode cX2_isTrue 58 = .ok (.iload 6, 2) := by decide +kernel
theorem dX2_isTrue_60 : decode cX2_isTrue 60 = .ok (.bipush (-3), 2) := by decide +kernel
theorem dX2_isTrue_62 : decode cX2_isTrue 62 = .ok (.if_icmp .ne 17, 3) := by decide +kernel
theorem dX2_isTrue_65 : decode cX2_isTrue 65 = .ok (.iload 4, 2) := by decide +kernel
theorem dX2_isTrue_67 : decode cX2_isTrue 67 = .ok (.iconst 1, 1) := by decide +kernel
theorem dX2_isTrue_68 : decode cX2_isTrue 68 = .ok (.ishr, 1) := by decide +kernel
theorem dX2_isTrue_69 : decode cX2_isTrue 69 = .ok (.iload 4, 2) := by decide +kernel
theorem dX2_isTrue_71 : decode cX2_isTrue 71 = .ok (.iconst 1, 1) := by decide +kernel
theorem dX2_isTrue_72 : decode cX2_isTrue 72 = .ok (.iand, 1) := by decide +kernel
theorem dX2_isTrue_73 : decode cX2_isTrue 73 = .ok (.ior, 1) := by decide +kernel
theorem dX2_isTrue_74 : decode cX2_isTrue 74 = .ok (.istore 4, 2) := by decide +kernel
theorem dX2_isTrue_76 : decode cX2_isTrue 76 = .ok (.goto 24, 3) := by decide +kernel
theorem dX2_isTrue_79 : decode cX2_isTrue 79 = .ok (.iload 4, 2) := by decide +kernel
theorem dX2_isTrue_81 : decode cX2_isTrue 81 = .ok (.iconst 1, 1) := by decide +kernel
theorem dX2_isTrue_82 : decode cX2_isTrue 82 = .ok (.ishl, 1) := by decide +kernel
theorem dX2_isTrue_83 : decode cX2_isTrue 83 = .ok (.iload 6, 2) := by decide +kernel
theorem dX2_isTrue_85 : decode cX2_isTrue 85 = .ok (.aload_n 3, 1) := by decide +kernel
theorem dX2_isTrue_86 : decode cX2_isTrue 86 = .ok (.invokestatic 39, 3) := by decide +kernel
theorem dX2_isTrue_89 : decode cX2_isTrue 89 = .ok (.ifCond .eq 7, 3) := by decide +kernel
theorem dX2_isTrue_92 : decode cX2_isTrue 92 = .ok (.iconst 1, 1) := by decide +kernel
theorem dX2_isTrue_93 : decode cX2_isTrue 93 = .ok (.goto 4, 3) := by decide +kernel
theorem dX2_isTrue_96 : decode cX2_isTrue 96 = .ok (.iconst 0, 1) := by decide +kernel
theorem dX2_isTrue_97 : decode cX2_isTrue 97 = .ok (.ior, 1) := by decide +kernel
theorem dX2_isTrue_98 : decode cX2_isTrue 98 = .ok (.istore 4, 2) := by decide +kernel
theorem dX2_isTrue_100 : decode cX2_isTrue 100 = .ok (.iinc 5 1, 3) := by decide +kernel
theorem dX2_isTrue_103 : decode cX2_isTrue 103 = .ok (.goto (-97), 3) := by decide +kernel
theorem dX2_isTrue_106 : decode cX2_isTrue 106 = .ok (.iload 4, 2) := by decide +kernel
theorem dX2_isTrue_108 : decode cX2_isTrue 108 = .ok (.iconst 1, 1) := by decide +kernel
theorem dX2_isTrue_109 : decode cX2_isTrue 109 = .ok (.iand, 1) := by decide +kernel
theorem dX2_isTrue_110 : decode cX2_isTrue 110 = .ok (.iconst 1, 1) := by decide +kernel
theorem dX2_isTrue_111 : decode cX2_isTrue 111 = .ok (.if_icmp .ne 7, 3) := by decide +kernel
theorem dX2_isTrue_114 : decode cX2_isTrue 114 = .ok (.iconst 1, 1) := by decide +kernel
theorem dX2_isTrue_115 : decode cX2_isTrue 115 = .ok (.goto 4, 3) := by decide +kernel
theorem dX2_isTrue_118 : decode cX2_isTrue 118 = .ok (.iconst 0, 1) := by decide +kernel
theorem dX2_isTrue_119 : decode cX2_isTrue 119 = .ok (.ireturn, 1) := by decide +kernel
theorem dX2_testStep_0 : decode cX2_testStep 0 = .ok (.iload_n 0, 1) := by decide +kernel
theorem dX2_testStep_1 : decode cX2_testStep 1 = .ok (.sipush 300, 3) := by decide +kernel
theorem dX2_testStep_4 : decode cX2_testStep 4 = .ok (.imul, 1) := by decide +kernel
theorem dX2_testStep_5 : decode cX2_testStep 5 = .ok (.iload_n 1, 1) := by decide +kernel
theorem dX2_testStep_6 : decode cX2_testStep 6 = .ok (.bipush 100, 2) := by decide +kernel
theorem dX2_testStep_8 : decode cX2_testStep 8 = .ok (.imul, 1) := by decide +kernel
theorem dX2_testStep_9 : decode cX2_testStep 9 = .ok (.iadd, 1) := by decide +kernel
theorem dX2_testStep_10 : decode cX2_testStep 10 = .ok (.iload_n 2, 1) := by decide +kernel
theorem dX2_testStep_11 : decode cX2_testStep 11 = .ok (.iadd, 1) := by decide +kernel
theorem dX2_testStep_12 : decode cX2_testStep 12 = .ok (.ireturn, 1) := by decide +kernel
theorem dX2_passes_0 : decode cX2_passes 0 = .ok (.aload_n 1, 1) := by decide +kernel
theorem dX2_passes_1 : decode cX2_passes 1 = .ok (.iload_n 0, 1) := by decide +kernel
theorem dX2_passes_2 : decode cX2_passes 2 = .ok (.sipush 300, 3) := by decide +kernel
theorem dX2_passes_5 : decode cX2_passes 5 = .ok (.idiv, 1) := by decide +kernel
theorem dX2_passes_6 : decode cX2_passes 6 = .ok (.iaload, 1) := by decide +kernel
theorem dX2_passes_7 : decode cX2_passes 7 = .ok (.istore_n 2, 1) := by decide +kernel
theorem dX2_passes_8 : decode cX2_passes 8 = .ok (.iload_n 0, 1) := by decide +kernel
theorem dX2_passes_9 : decode cX2_passes 9 = .ok (.bipush 100, 2) := by decide +kernel
theorem dX2_passes_11 : decode cX2_passes 11 = .ok (.irem, 1) := by decide +kernel
theorem dX2_passes_12 : decode cX2_passes 12 = .ok (.istore_n 3, 1) := by decide +kernel
theorem dX2_passes_13 : decode cX2_passes 13 = .ok (.iload_n 0, 1) := by decide +kernel
theorem dX2_passes_14 : decode cX2_passes 14 = .ok (.bipush 100, 2) := by decide +kernel
theorem dX2_passes_16 : decode cX2_passes 16 = .ok (.idiv, 1) := by decide +kernel
theorem dX2_passes_17 : decode cX2_passes 17 = .ok (.iconst 3, 1) := by decide +kernel
theorem dX2_passes_18 : decode cX2_passes 18 = .ok (.irem, 1) := by decide +kernel
theorem dX2_passes_19 : decode cX2_passes 19 = .ok (.lookupswitch 47 #[(0, 25), (1, 36)], 25) := by decide +kernel
theorem dX2_passes_44 : decode cX2_passes 44 = .ok (.iload_n 2, 1) := by decide +kernel
theorem dX2_passes_45 : decode cX2_passes 45 = .ok (.iload_n 3, 1) := by decide +kernel
theorem dX2_passes_46 : decode cX2_passes 46 = .ok (.if_icmp .ge 7, 3) := by decide +kernel
theorem dX2_passes_49 : decode cX2_passes 49 = .ok (.iconst 1, 1) := by decide +kernel
theorem dX2_passes_50 : decode cX2_passes 50 = .ok (.goto 4, 3) := by decide +kernel
theorem dX2_passes_53 : decode cX2_passes 53 = .ok (.iconst 0, 1) := by decide +kernel
theorem dX2_passes_54 : decode cX2_passes 54 = .ok (.ireturn, 1) := by decide +kernel
theorem dX2_passes_55 : decode cX2_passes 55 = .ok (.iload_n 2, 1) := by decide +kernel
theorem dX2_passes_56 : decode cX2_passes 56 = .ok (.iload_n 3, 1) := by decide +kernel
theorem dX2_passes_57 : decode cX2_passes 57 = .ok (.if_icmp .ne 7, 3) := by decide +kernel
theorem dX2_passes_60 : decode cX2_passes 60 = .ok (.iconst 1, 1) := by decide +kernel
theorem dX2_passes_61 : decode cX2_passes 61 = .ok (.goto 4, 3) := by decide +kernel
theorem dX2_passes_64 : decode cX2_passes 64 = .ok (.iconst 0, 1) := by decide +kernel
theorem dX2_passes_65 : decode cX2_passes 65 = .ok (.ireturn, 1) := by decide +kernel
theorem dX2_passes_66 : decode cX2_passes 66 = .ok (.iload_n 2, 1) := by decide +kernel
theorem dX2_passes_67 : decode cX2_passes 67 = .ok (.iload_n 3, 1) := by decide +kernel
theorem dX2_passes_68 : decode cX2_passes 68 = .ok (.if_icmp .le 7, 3) := by decide +kernel
theorem dX2_passes_71 : decode cX2_passes 71 = .ok (.iconst 1, 1) := by decide +kernel
theorem dX2_passes_72 : decode cX2_passes 72 = .ok (.goto 4, 3) := by decide +kernel
theorem dX2_passes_75 : decode cX2_passes 75 = .ok (.iconst 0, 1) := by decide +kernel
theorem dX2_passes_76 : decode cX2_passes 76 = .ok (.ireturn, 1) := by decide +kernel
theorem dX3_init_0 : decode cX3_init 0 = .ok (.aload_n 0, 1) := by decide +kernel
theorem dX3_init_1 : decode cX3_init 1 = .ok (.invokespecial 3, 3) := by decide +kernel
theorem dX3_init_4 : decode cX3_init 4 = .ok (.aload_n 0, 1) := by decide +kernel
theorem dX3_init_5 : decode cX3_init 5 = .ok (.bipush 100, 2) := by decide +kernel
theorem dX3_init_7 : decode cX3_init 7 = .ok (.putfield 9, 3) := by decide +kernel
theorem dX3_init_10 : decode cX3_init 10 = .ok (.aload_n 0, 1) := by decide +kernel
theorem dX3_init_11 : decode cX3_init 11 = .ok (.bipush 6, 2) := by decide +kernel
theorem dX3_init_13 : decode cX3_init 13 = .ok (.newarray .int, 2) := by decide +kernel
theorem dX3_init_15 : decode cX3_init 15 = .ok (.putfield 15, 3) := by decide +kernel
theorem dX3_init_18 : decode cX3_init 18 = .ok (.aload_n 0, 1) := by decide +kernel
theorem dX3_init_19 : decode cX3_init 19 = .ok (.bipush 6, 2) := by decide +kernel
theorem dX3_init_21 : decode cX3_init 21 = .ok (.newarray .boolean, 2) := by decide +kernel
theorem dX3_init_23 : decode cX3_init 23 = .ok (.putfield 19, 3) := by decide +kernel
theorem dX3_init_26 : decode cX3_init 26 = .ok (.return_, 1) := by decide +kernel
theorem dX3_copyFrom_0 : decode cX3_copyFrom 0 = .ok (.aload_n 0, 1) := by decide +kernel
theorem dX3_copyFrom_1 : decode cX3_copyFrom 1 = .ok (.aload_n 1, 1) := by decide +kernel
theorem dX3_copyFrom_2 : decode cX3_copyFrom 2 = .ok (.getfield 9, 3) := by decide +kernel
theorem dX3_copyFrom_5 : decode cX3_copyFrom 5 = .ok (.putfield 9, 3) := by decide +kernel
theorem dX3_copyFrom_8 : decode cX3_copyFrom 8 = .ok (.iconst 0, 1) := by decide +kernel
theorem dX3_copyFrom_9 : decode cX3_copyFrom 9 = .ok (.istore_n 2, 1) := by decide +kernel
theorem dX3_copyFrom_10 : decode cX3_copyFrom 10 = .ok (.iload_n 2, 1) := by decide +kernel
theorem dX3_copyFrom_11 : decode cX3_copyFrom 11 = .ok (.bipush 6, 2) := by decide +kernel
theorem dX3_copyFrom_13 : decode cX3_copyFrom 13 = .ok (.if_icmp .ge 33, 3) := by decide +kernel
theorem dX3_copyFrom_16 : decode cX3_copyFrom 16 = .ok (.aload_n 0, 1) := by decide +kernel
theorem dX3_copyFrom_17 : decode cX3_copyFrom 17 = .ok (.getfield 15, 3) := by decide +kernel
theorem dX3_copyFrom_20 : decode cX3_copyFrom 20 = .ok (.iload_n 2, 1) := by decide +kernel
theorem dX3_copyFrom_21 : decode cX3_copyFrom 21 = .ok (.aload_n 1, 1) := by decide +kernel
theorem dX3_copyFrom_22 : decode cX3_copyFrom 22 = .ok (.getfield 15, 3) := by decide +kernel
theorem dX3_copyFrom_25 : decode cX3_copyFrom 25 = .ok (.iload_n 2, 1) := by decide +kernel
theorem dX3_copyFrom_26 : decode cX3_copyFrom 26 = .ok (.iaload, 1) := by decide +kernel
theorem dX3_copyFrom_27 : decode cX3_copyFrom 27 = .ok (.iastore, 1) := by decide +kernel
theorem dX3_copyFrom_28 : decode cX3_copyFrom 28 = .ok (.aload_n 0, 1) := by decide +kernel
theorem dX3_copyFrom_29 : decode cX3_copyFrom 29 = .ok (.getfield 19, 3) := by decide +kernel
theorem dX3_copyFrom_32 : decode cX3_copyFrom 32 = .ok (.iload_n 2, 1) := by decide +kernel
theorem dX3_copyFrom_33 : decode cX3_copyFrom 33 = .ok (.aload_n 1, 1) := by decide +kernel
theorem dX3_copyFrom_34 : decode cX3_copyFrom 34 = .ok (.getfield 19, 3) := by decide +kernel
theorem dX3_copyFrom_37 : decode cX3_copyFrom 37 = .ok (.iload_n 2, 1) := by decide +kernel
theorem dX3_copyFrom_38 : decode cX3_copyFrom 38 = .ok (.baload, 1) := by decide +kernel
theorem dX3_copyFrom_39 : decode cX3_copyFrom 39 = .ok (.bastore, 1) := by decide +kernel
theorem dX3_copyFrom_40 : decode cX3_copyFrom 40 = .ok (.iinc 2 1, 3) := by decide +kernel
theorem dX3_copyFrom_43 : decode cX3_copyFrom 43 = .ok (.goto (-33), 3) := by decide +kernel
theorem dX3_copyFrom_46 : decode cX3_copyFrom 46 = .ok (.return_, 1) := by decide +kernel
theorem dX3_isUp_0 : decode cX3_isUp 0 = .ok (.aload_n 0, 1) := by decide +kernel
theorem dX3_isUp_1 : decode cX3_isUp 1 = .ok (.getfield 15, 3) := by decide +kernel
theorem dX3_isUp_4 : decode cX3_isUp 4 = .ok (.iload_n 1, 1) := by decide +kernel
theorem dX3_isUp_5 : decode cX3_isUp 5 = .ok (.iaload, 1) := by decide +kernel
theorem dX3_isUp_6 : decode cX3_isUp 6 = .ok (.aload_n 0, 1) := by decide +kernel
theorem dX3_isUp_7 : decode cX3_isUp 7 = .ok (.getfield 9, 3) := by decide +kernel
theorem dX3_isUp_10 : decode cX3_isUp 10 = .ok (.if_icmp .ne 7, 3) := by decide +kernel
theorem dX3_isUp_13 : decode cX3_isUp 13 = .ok (.iconst 1, 1) := by decide +kernel
theorem dX3_isUp_14 : decode cX3_isUp 14 = .ok (.goto 4, 3) := by decide +kernel
theorem dX3_isUp_17 : decode cX3_isUp 17 = .ok (.iconst 0, 1) := by decide +kernel
theorem dX3_isUp_18 : decode cX3_isUp 18 = .ok (.ireturn, 1) := by decide +kernel
theorem dX4_init_0 : decode cX4_init 0 = .ok (.aload_n 0, 1) := by decide +kernel
theorem dX4_init_1 : decode cX4_init 1 = .ok (.invokespecial 3, 3) := by decide +kernel
theorem dX4_init_4 : decode cX4_init 4 = .ok (.aload_n 0, 1) := by decide +kernel
theorem dX4_init_5 : decode cX4_init 5 = .ok (.bipush 7, 2) := by decide +kernel
theorem dX4_init_7 : decode cX4_init 7 = .ok (.anewarray 9, 3) := by decide +kernel
theorem dX4_init_10 : decode cX4_init 10 = .ok (.putfield 11, 3) := by decide +kernel
theorem dX4_init_13 : decode cX4_init 13 = .ok (.aload_n 0, 1) := by decide +kernel
theorem dX4_init_14 : decode cX4_init 14 = .ok (.bipush 6, 2) := by decide +kernel
theorem dX4_init_16 : decode cX4_init 16 = .ok (.newarray .int, 2) := by decide +kernel
theorem dX4_init_18 : decode cX4_init 18 = .ok (.putfield 17, 3) := by decide +kernel
theorem dX4_init_21 : decode cX4_init 21 = .ok (.aload_n 0, 1) := by decide +kernel
theorem dX4_init_22 : decode cX4_init 22 = .ok (.bipush 6, 2) := by decide +kernel
theorem dX4_init_24 : decode cX4_init 24 = .ok (.newarray .int, 2) := by decide +kernel
theorem dX4_init_26 : decode cX4_init 26 = .ok (.putfield 21, 3) := by decide +kernel
theorem dX4_init_29 : decode cX4_init 29 = .ok (.aload_n 0, 1) := by decide +kernel
theorem dX4_init_30 : decode cX4_init 30 = .ok (.bipush (-5), 2) := by decide +kernel
theorem dX4_init_32 : decode cX4_init 32 = .ok (.putfield 24, 3) := by decide +kernel
theorem dX4_init_35 : decode cX4_init 35 = .ok (.aload_n 0, 1) := by decide +kernel
theorem dX4_init_36 : decode cX4_init 36 = .ok (.aload_n 1, 1) := by decide +kernel
theorem dX4_init_37 : decode cX4_init 37 = .ok (.putfield 28, 3) := by decide +kernel
theorem dX4_init_40 : decode cX4_init 40 = .ok (.iconst 0, 1) := by decide +kernel
theorem dX4_init_41 : decode cX4_init 41 = .ok (.istore_n 2, 1) := by decide +kernel
theorem dX4_init_42 : decode cX4_init 42 = .ok (.iload_n 2, 1) := by decide +kernel
theorem dX4_init_43 : decode cX4_init 43 = .ok (.aload_n 0, 1) := by decide +kernel
theorem dX4_init_44 : decode cX4_init 44 = .ok (.getfield 11, 3) := by decide +kernel
theorem dX4_init_47 : decode cX4_init 47 = .ok (.arraylength, 1) := by decide +kernel
theorem dX4_init_48 : decode cX4_init 48 = .ok (.if_icmp .ge 22, 3) := by decide +kernel
theorem dX4_init_51 : decode cX4_init 51 = .ok (.aload_n 0, 1) := by decide +kernel
theorem dX4_init_52 : decode cX4_init 52 = .ok (.getfield 11, 3) := by decide +kernel
theorem dX4_init_55 : decode cX4_init 55 = .ok (.iload_n 2, 1) := by decide +kernel
theorem dX4_init_56 : decode cX4_init 56 = .ok (.new 9, 3) := by decide +kernel
theorem dX4_init_59 : decode cX4_init 59 = .ok (.dup, 1) := by decide +kernel
theorem dX4_init_60 : decode cX4_init 60 = .ok (.invokespecial 32, 3) := by decide +kernel
theorem dX4_init_63 : decode cX4_init 63 = .ok (.aastore, 1) := by decide +kernel
theorem dX4_init_64 : decode cX4_init 64 = .ok (.iinc 2 1, 3) := by decide +kernel
theorem dX4_init_67 : decode cX4_init 67 = .ok (.goto (-25), 3) := by decide +kernel
theorem dX4_init_70 : decode cX4_init 70 = .ok (.return_, 1) := by decide +kernel
theorem dX4_findOrder_0 : decode cX4_findOrder 0 = .ok (.aload_n 0, 1) := by decide +kernel
theorem dX4_findOrder_1 : decode cX4_findOrder 1 = .ok (.bipush (-5), 2) := by decide +kernel
theorem dX4_findOrder_3 : decode cX4_findOrder 3 = .ok (.putfield 24, 3) := by decide +kernel
theorem dX4_findOrder_6 : decode cX4_findOrder 6 = .ok (.aload_n 0, 1) := by decide +kernel
theorem dX4_findOrder_7 : decode cX4_findOrder 7 = .ok (.getfield 11, 3) := by decide +kernel
theorem dX4_findOrder_10 : decode cX4_findOrder 10 = .ok (.iconst 0, 1) := by decide +kernel
theorem dX4_findOrder_11 : decode cX4_findOrder 11 = .ok (.aaload, 1) := by decide +kernel
theorem dX4_findOrder_12 : decode cX4_findOrder 12 = .ok (.aload_n 0, 1) := by decide +kernel
theorem dX4_findOrder_13 : decode cX4_findOrder 13 = .ok (.getfield 28, 3) := by decide +kernel
theorem dX4_findOrder_16 : decode cX4_findOrder 16 = .ok (.getfield 33, 3) := by decide +kernel
theorem dX4_findOrder_19 : decode cX4_findOrder 19 = .ok (.invokevirtual 39, 3) := by decide +kernel
theorem dX4_findOrder_22 : decode cX4_findOrder 22 = .ok (.aload_n 0, 1) := by decide +kernel
theorem dX4_findOrder_23 : decode cX4_findOrder 23 = .ok (.iconst 0, 1) := by decide +kernel
theorem dX4_findOrder_24 : decode cX4_findOrder 24 = .ok (.iconst 0, 1) := by decide +kernel
theorem dX4_findOrder_25 : decode cX4_findOrder 25 = .ok (.iconst 0, 1) := by decide +kernel
theorem dX4_findOrder_26 : decode cX4_findOrder 26 = .ok (.invokevirtual 43, 3) := by decide +kernel
theorem dX4_findOrder_29 : decode cX4_findOrder 29 = .ok (.return_, 1) := by decide +kernel
theorem dX4_tryOrders_0 : decode cX4_tryOrders 0 = .ok (.aload_n 0, 1) := by decide +kernel
theorem dX4_tryOrders_1 : decode cX4_tryOrders 1 = .ok (.getfield 24, 3) := by decide +kernel
theorem dX4_tryOrders_4 : decode cX4_tryOrders 4 = .ok (.bipush (-5), 2) := by decide +kernel
theorem dX4_tryOrders_6 : decode cX4_tryOrders 6 = .ok (.if_icmp .eq 12, 3) := by decide +kernel
theorem dX4_tryOrders_9 : decode cX4_tryOrders 9 = .ok (.iload_n 3, 1) := by decide +kernel
theorem dX4_tryOrders_10 : decode cX4_tryOrders 10 = .ok (.aload_n 0, 1) := by decide +kernel
theorem dX4_tryOrders_11 : decode cX4_tryOrders 11 = .ok (.getfield 24, 3) := by decide +kernel
theorem dX4_tryOrders_14 : decode cX4_tryOrders 14 = .ok (.if_icmp .lt 4, 3) := by decide +kernel
theorem dX4_tryOrders_17 : decode cX4_tryOrders 17 = .ok (.return_, 1) := by decide +kernel
theorem dX4_tryOrders_18 : decode cX4_tryOrders 18 = .ok (.iload_n 1, 1) := by decide +kernel
theorem dX4_tryOrders_19 : decode cX4_tryOrders 19 = .ok (.aload_n 0, 1) := by decide +kernel
theorem dX4_tryOrders_20 : decode cX4_tryOrders 20 = .ok (.getfield 28, 3) := by decide +kernel
theorem dX4_tryOrders_23 : decode cX4_tryOrders 23 = .ok (.getfield 47, 3) := by decide +kernel
theorem dX4_tryOrders_26 : decode cX4_tryOrders 26 = .ok (.if_icmp .lt 9, 3) := by decide +kernel
theorem dX4_tryOrders_29 : decode cX4_tryOrders 29 = .ok (.aload_n 0, 1) := by decide +kernel
theorem dX4_tryOrders_30 : decode cX4_tryOrders 30 = .ok (.iload_n 3, 1) := by decide +kernel
theorem dX4_tryOrders_31 : decode cX4_tryOrders 31 = .ok (.invokevirtual 50, 3) := by decide +kernel
theorem dX4_tryOrders_34 : decode cX4_tryOrders 34 = .ok (.return_, 1) := by decide +kernel
theorem dX4_tryOrders_35 : decode cX4_tryOrders 35 = .ok (.iconst 0, 1) := by decide +kernel
theorem dX4_tryOrders_36 : decode cX4_tryOrders 36 = .ok (.istore 4, 2) := by decide +kernel
theorem dX4_tryOrders_38 : decode cX4_tryOrders 38 = .ok (.iload 4, 2) := by decide +kernel
theorem dX4_tryOrders_40 : decode cX4_tryOrders 40 = .ok (.aload_n 0, 1) := by decide +kernel
theorem dX4_tryOrders_41 : decode cX4_tryOrders 41 = .ok (.getfield 28, 3) := by decide +kernel
theorem dX4_tryOrders_44 : decode cX4_tryOrders 44 = .ok (.getfield 47, 3) := by decide +kernel
theorem dX4_tryOrders_47 : decode cX4_tryOrders 47 = .ok (.if_icmp .ge 76, 3) := by decide +kernel
theorem dX4_tryOrders_50 : decode cX4_tryOrders 50 = .ok (.iload_n 2, 1) := by decide +kernel
theorem dX4_tryOrders_51 : decode cX4_tryOrders 51 = .ok (.iload 4, 2) := by decide +kernel
theorem dX4_tryOrders_53 : decode cX4_tryOrders 53 = .ok (.ishr, 1) := by decide +kernel
theorem dX4_tryOrders_54 : decode cX4_tryOrders 54 = .ok (.iconst 1, 1) := by decide +kernel
theorem dX4_tryOrders_55 : decode cX4_tryOrders 55 = .ok (.iand, 1) := by decide +kernel
theorem dX4_tryOrders_56 : decode cX4_tryOrders 56 = .ok (.ifCond .ne 61, 3) := by decide +kernel
theorem dX4_tryOrders_59 : decode cX4_tryOrders 59 = .ok (.aload_n 0, 1) := by decide +kernel
theorem dX4_tryOrders_60 : decode cX4_tryOrders 60 = .ok (.getfield 17, 3) := by decide +kernel
theorem dX4_tryOrders_63 : decode cX4_tryOrders 63 = .ok (.iload_n 1, 1) := by decide +kernel
theorem dX4_tryOrders_64 : decode cX4_tryOrders 64 = .ok (.iload 4, 2) := by decide +kernel
theorem dX4_tryOrders_66 : decode cX4_tryOrders 66 = .ok (.iastore, 1) := by decide +kernel
theorem dX4_tryOrders_67 : decode cX4_tryOrders 67 = .ok (.aload_n 0, 1) := by decide +kernel
theorem dX4_tryOrders_68 : decode cX4_tryOrders 68 = .ok (.getfield 11, 3) := by decide +kernel
theorem dX4_tryOrders_71 : decode cX4_tryOrders 71 = .ok (.iload_n 1, 1) := by decide +kernel
theorem dX4_tryOrders_72 : decode cX4_tryOrders 72 = .ok (.iconst 1, 1) := by decide +kernel
theorem dX4_tryOrders_73 : decode cX4_tryOrders 73 = .ok (.iadd, 1) := by decide +kernel
theorem dX4_tryOrders_74 : decode cX4_tryOrders 74 = .ok (.aaload, 1) := by decide +kernel
theorem dX4_tryOrders_75 : decode cX4_tryOrders 75 = .ok (.aload_n 0, 1) := by decide +kernel
theorem dX4_tryOrders_76 : decode cX4_tryOrders 76 = .ok (.getfield 11, 3) := by decide +kernel
theorem dX4_tryOrders_79 : decode cX4_tryOrders 79 = .ok (.iload_n 1, 1) := by decide +kernel
theorem dX4_tryOrders_80 : decode cX4_tryOrders 80 = .ok (.aaload, 1) := by decide +kernel
theorem dX4_tryOrders_81 : decode cX4_tryOrders 81 = .ok (.invokevirtual 39, 3) := by decide +kernel
theorem dX4_tryOrders_84 : decode cX4_tryOrders 84 = .ok (.aload_n 0, 1) := by decide +kernel
theorem dX4_tryOrders_85 : decode cX4_tryOrders 85 = .ok (.aload_n 0, 1) := by decide +kernel
theorem dX4_tryOrders_86 : decode cX4_tryOrders 86 = .ok (.getfield 11, 3) := by decide +kernel
theorem dX4_tryOrders_89 : decode cX4_tryOrders 89 = .ok (.iload_n 1, 1) := by decide +kernel
theorem dX4_tryOrders_90 : decode cX4_tryOrders 90 = .ok (.iconst 1, 1) := by decide +kernel
theorem dX4_tryOrders_91 : decode cX4_tryOrders 91 = .ok (.iadd, 1) := by decide +kernel
theorem dX4_tryOrders_92 : decode cX4_tryOrders 92 = .ok (.aaload, 1) := by decide +kernel
theorem dX4_tryOrders_93 : decode cX4_tryOrders 93 = .ok (.iload 4, 2) := by decide +kernel
theorem dX4_tryOrders_95 : decode cX4_tryOrders 95 = .ok (.invokevirtual 54, 3) := by decide +kernel
theorem dX4_tryOrders_98 : decode cX4_tryOrders 98 = .ok (.istore 5, 2) := by decide +kernel
theorem dX4_tryOrders_100 : decode cX4_tryOrders 100 = .ok (.aload_n 0, 1) := by decide +kernel
theorem dX4_tryOrders_101 : decode cX4_tryOrders 101 = .ok (.iload_n 1, 1) := by decide +kernel
theorem dX4_tryOrders_102 : decode cX4_tryOrders 102 = .ok (.iconst 1, 1) := by decide +kernel
theorem dX4_tryOrders_103 : decode cX4_tryOrders 103 = .ok (.iadd, 1) := by decide +kernel
theorem dX4_tryOrders_104 : decode cX4_tryOrders 104 = .ok (.iload_n 2, 1) := by decide +kernel
theorem dX4_tryOrders_105 : decode cX4_tryOrders 105 = .ok (.iconst 1, 1) := by decide +kernel
theorem dX4_tryOrders_106 : decode cX4_tryOrders 106 = .ok (.iload 4, 2) := by decide +kernel
theorem dX4_tryOrders_108 : decode cX4_tryOrders 108 = .ok (.ishl, 1) := by decide +kernel
theorem dX4_tryOrders_109 : decode cX4_tryOrders 109 = .ok (.ior, 1) := by decide +kernel
theorem dX4_tryOrders_110 : decode cX4_tryOrders 110 = .ok (.iload_n 3, 1) := by decide +kernel
theorem dX4_tryOrders_111 : decode cX4_tryOrders 111 = .ok (.iload 5, 2) := by decide +kernel
theorem dX4_tryOrders_113 : decode cX4_tryOrders 113 = .ok (.iadd, 1) := by decide +kernel
theorem dX4_tryOrders_114 : decode cX4_tryOrders 114 = .ok (.invokevirtual 43, 3) := by decide +kernel
theorem dX4_tryOrders_117 : decode cX4_tryOrders 117 = .ok (.iinc 4 1, 3) := by decide +kernel
theorem dX4_tryOrders_120 : decode cX4_tryOrders 120 = .ok (.goto (-82), 3) := by decide +kernel
theorem dX4_tryOrders_123 : decode cX4_tryOrders 123 = .ok (.return_, 1) := by decide +kernel
theorem dX4_turn_0 : decode cX4_turn 0 = .ok (.iconst 0, 1) := by decide +kernel
theorem dX4_turn_1 : decode cX4_turn 1 = .ok (.istore_n 3, 1) := by decide +kernel
theorem dX4_turn_2 : decode cX4_turn 2 = .ok (.iload_n 3, 1) := by decide +kernel
theorem dX4_turn_3 : decode cX4_turn 3 = .ok (.bipush 20, 2) := by decide +kernel
theorem dX4_turn_5 : decode cX4_turn 5 = .ok (.if_icmp .ge 36, 3) := by decide +kernel
theorem dX4_turn_8 : decode cX4_turn 8 = .ok (.aload_n 1, 1) := by decide +kernel
theorem dX4_turn_9 : decode cX4_turn 9 = .ok (.iload_n 2, 1) := by decide +kernel
theorem dX4_turn_10 : decode cX4_turn 10 = .ok (.invokevirtual 58, 3) := by decide +kernel
theorem dX4_turn_13 : decode cX4_turn 13 = .ok (.ifCond .ne 28, 3) := by decide +kernel
theorem dX4_turn_16 : decode cX4_turn 16 = .ok (.aload_n 1, 1) := by decide +kernel
theorem dX4_turn_17 : decode cX4_turn 17 = .ok (.getfield 62, 3) := by decide +kernel
theorem dX4_turn_20 : decode cX4_turn 20 = .ok (.iload_n 2, 1) := by decide +kernel
theorem dX4_turn_21 : decode cX4_turn 21 = .ok (.baload, 1) := by decide +kernel
theorem dX4_turn_22 : decode cX4_turn 22 = .ok (.ifCond .ne 19, 3) := by decide +kernel
theorem dX4_turn_25 : decode cX4_turn 25 = .ok (.aload_n 0, 1) := by decide +kernel
theorem dX4_turn_26 : decode cX4_turn 26 = .ok (.getfield 28, 3) := by decide +kernel
theorem dX4_turn_29 : decode cX4_turn 29 = .ok (.aload_n 1, 1) := by decide +kernel
theorem dX4_turn_30 : decode cX4_turn 30 = .ok (.iload_n 2, 1) := by decide +kernel
theorem dX4_turn_31 : decode cX4_turn 31 = .ok (.invokevirtual 66, 3) := by decide +kernel
theorem dX4_turn_34 : decode cX4_turn 34 = .ok (.pop, 1) := by decide +kernel
theorem dX4_turn_35 : decode cX4_turn 35 = .ok (.iinc 3 1, 3) := by decide +kernel
theorem dX4_turn_38 : decode cX4_turn 38 = .ok (.goto (-36), 3) := by decide +kernel
theorem dX4_turn_41 : decode cX4_turn 41 = .ok (.iload_n 3, 1) := by decide +kernel
theorem dX4_turn_42 : decode cX4_turn 42 = .ok (.ireturn, 1) := by decide +kernel
theorem dX4_findRow_0 : decode cX4_findRow 0 = .ok (.aload_n 0, 1) := by decide +kernel
theorem dX4_findRow_1 : decode cX4_findRow 1 = .ok (.bipush (-5), 2) := by decide +kernel
theorem dX4_findRow_3 : decode cX4_findRow 3 = .ok (.putfield 24, 3) := by decide +kernel
theorem dX4_findRow_6 : decode cX4_findRow 6 = .ok (.aload_n 0, 1) := by decide +kernel
theorem dX4_findRow_7 : decode cX4_findRow 7 = .ok (.getfield 11, 3) := by decide +kernel
theorem dX4_findRow_10 : decode cX4_findRow 10 = .ok (.iconst 0, 1) := by decide +kernel
theorem dX4_findRow_11 : decode cX4_findRow 11 = .ok (.aaload, 1) := by decide +kernel
theorem dX4_findRow_12 : decode cX4_findRow 12 = .ok (.aload_n 0, 1) := by decide +kernel
theorem dX4_findRow_13 : decode cX4_findRow 13 = .ok (.getfield 28, 3) := by decide +kernel
theorem dX4_findRow_16 : decode cX4_findRow 16 = .ok (.getfield 33, 3) := by decide +kernel
theorem dX4_findRow_19 : decode cX4_findRow 19 = .ok (.invokevirtual 39, 3) := by decide +kernel
theorem dX4_findRow_22 : decode cX4_findRow 22 = .ok (.aload_n 0, 1) := by decide +kernel
theorem dX4_findRow_23 : decode cX4_findRow 23 = .ok (.iconst 0, 1) := by decide +kernel
theorem dX4_findRow_24 : decode cX4_findRow 24 = .ok (.iload_n 1, 1) := by decide +kernel
theorem dX4_findRow_25 : decode cX4_findRow 25 = .ok (.invokevirtual 69, 3) := by decide +kernel
theorem dX4_findRow_28 : decode cX4_findRow 28 = .ok (.return_, 1) := by decide +kernel
theorem dX4_tryRows_0 : decode cX4_tryRows 0 = .ok (.iload_n 1, 1) := by decide +kernel
theorem dX4_tryRows_1 : decode cX4_tryRows 1 = .ok (.iload_n 2, 1) := by decide +kernel
theorem dX4_tryRows_2 : decode cX4_tryRows 2 = .ok (.if_icmp .ge 9, 3) := by decide +kernel
theorem dX4_tryRows_5 : decode cX4_tryRows 5 = .ok (.iload_n 1, 1) := by decide +kernel
theorem dX4_tryRows_6 : decode cX4_tryRows 6 = .ok (.bipush 6, 2) := by decide +kernel
theorem dX4_tryRows_8 : decode cX4_tryRows 8 = .ok (.if_icmp .lt 31, 3) := by decide +kernel
theorem dX4_tryRows_11 : decode cX4_tryRows 11 = .ok (.aload_n 0, 1) := by decide +kernel
theorem dX4_tryRows_12 : decode cX4_tryRows 12 = .ok (.getfield 28, 3) := by decide +kernel
theorem dX4_tryRows_15 : decode cX4_tryRows 15 = .ok (.aload_n 0, 1) := by decide +kernel
theorem dX4_tryRows_16 : decode cX4_tryRows 16 = .ok (.getfield 11, 3) := by decide +kernel
theorem dX4_tryRows_19 : decode cX4_tryRows 19 = .ok (.iload_n 1, 1) := by decide +kernel
theorem dX4_tryRows_20 : decode cX4_tryRows 20 = .ok (.aaload, 1) := by decide +kernel
theorem dX4_tryRows_21 : decode cX4_tryRows 21 = .ok (.invokevirtual 73, 3) := by decide +kernel
theorem dX4_tryRows_24 : decode cX4_tryRows 24 = .ok (.istore_n 3, 1) := by decide +kernel
theorem dX4_tryRows_25 : decode cX4_tryRows 25 = .ok (.iload_n 3, 1) := by decide +kernel
theorem dX4_tryRows_26 : decode cX4_tryRows 26 = .ok (.aload_n 0, 1) := by decide +kernel
theorem dX4_tryRows_27 : decode cX4_tryRows 27 = .ok (.getfield 24, 3) := by decide +kernel
theorem dX4_tryRows_30 : decode cX4_tryRows 30 = .ok (.if_icmp .le 8, 3) := by decide +kernel
theorem dX4_tryRows_33 : decode cX4_tryRows 33 = .ok (.aload_n 0, 1) := by decide +kernel
theorem dX4_tryRows_34 : decode cX4_tryRows 34 = .ok (.iload_n 3, 1) := by decide +kernel
theorem dX4_tryRows_35 : decode cX4_tryRows 35 = .ok (.invokevirtual 50, 3) := by decide +kernel
theorem dX4_tryRows_38 : decode cX4_tryRows 38 = .ok (.return_, 1) := by decide +kernel
theorem dX4_tryRows_39 : decode cX4_tryRows 39 = .ok (.iconst 0, 1) := by decide +kernel
theorem dX4_tryRows_40 : decode cX4_tryRows 40 = .ok (.istore_n 3, 1) := by decide +kernel
theorem dX4_tryRows_41 : decode cX4_tryRows 41 = .ok (.iload_n 3, 1) := by decide +kernel
theorem dX4_tryRows_42 : decode cX4_tryRows 42 = .ok (.aload_n 0, 1) := by decide +kernel
theorem dX4_tryRows_43 : decode cX4_tryRows 43 = .ok (.getfield 28, 3) := by decide +kernel
theorem dX4_tryRows_46 : decode cX4_tryRows 46 = .ok (.getfield 47, 3) := by decide +kernel
theorem dX4_tryRows_49 : decode cX4_tryRows 49 = .ok (.if_icmp .ge 58, 3) := by decide +kernel
theorem dX4_tryRows_52 : decode cX4_tryRows 52 = .ok (.aload_n 0, 1) := by decide +kernel
theorem dX4_tryRows_53 : decode cX4_tryRows 53 = .ok (.getfield 17, 3) := by decide +kernel
theorem dX4_tryRows_56 : decode cX4_tryRows 56 = .ok (.iload_n 1, 1) := by decide +kernel
theorem dX4_tryRows_57 : decode cX4_tryRows 57 = .ok (.iload_n 3, 1) := by decide +kernel
theorem dX4_tryRows_58 : decode cX4_tryRows 58 = .ok (.iastore, 1) := by decide +kernel
theorem dX4_tryRows_59 : decode cX4_tryRows 59 = .ok (.aload_n 0, 1) := by decide +kernel
theorem dX4_tryRows_60 : decode cX4_tryRows 60 = .ok (.getfield 11, 3) := by decide +kernel
theorem dX4_tryRows_63 : decode cX4_tryRows 63 = .ok (.iload_n 1, 1) := by decide +kernel
theorem dX4_tryRows_64 : decode cX4_tryRows 64 = .ok (.iconst 1, 1) := by decide +kernel
theorem dX4_tryRows_65 : decode cX4_tryRows 65 = .ok (.iadd, 1) := by decide +kernel
theorem dX4_tryRows_66 : decode cX4_tryRows 66 = .ok (.aaload, 1) := by decide +kernel
theorem dX4_tryRows_67 : decode cX4_tryRows 67 = .ok (.aload_n 0, 1) := by decide +kernel
theorem dX4_tryRows_68 : decode cX4_tryRows 68 = .ok (.getfield 11, 3) := by decide +kernel
theorem dX4_tryRows_71 : decode cX4_tryRows 71 = .ok (.iload_n 1, 1) := by decide +kernel
theorem dX4_tryRows_72 : decode cX4_tryRows 72 = .ok (.aaload, 1) := by decide +kernel
theorem dX4_tryRows_73 : decode cX4_tryRows 73 = .ok (.invokevirtual 39, 3) := by decide +kernel
theorem dX4_tryRows_76 : decode cX4_tryRows 76 = .ok (.aload_n 0, 1) := by decide +kernel
theorem dX4_tryRows_77 : decode cX4_tryRows 77 = .ok (.getfield 28, 3) := by decide +kernel
theorem dX4_tryRows_80 : decode cX4_tryRows 80 = .ok (.aload_n 0, 1) := by decide +kernel
theorem dX4_tryRows_81 : decode cX4_tryRows 81 = .ok (.getfield 11, 3) := by decide +kernel
theorem dX4_tryRows_84 : decode cX4_tryRows 84 = .ok (.iload_n 1, 1) := by decide +kernel
theorem dX4_tryRows_85 : decode cX4_tryRows 85 = .ok (.iconst 1, 1) := by decide +kernel
theorem dX4_tryRows_86 : decode cX4_tryRows 86 = .ok (.iadd, 1) := by decide +kernel
theorem dX4_tryRows_87 : decode cX4_tryRows 87 = .ok (.aaload, 1) := by decide +kernel
theorem dX4_tryRows_88 : decode cX4_tryRows 88 = .ok (.iload_n 3, 1) := by decide +kernel
theorem dX4_tryRows_89 : decode cX4_tryRows 89 = .ok (.invokevirtual 66, 3) := by decide +kernel
theorem dX4_tryRows_92 : decode cX4_tryRows 92 = .ok (.pop, 1) := by decide +kernel
theorem dX4_tryRows_93 : decode cX4_tryRows 93 = .ok (.aload_n 0, 1) := by decide +kernel
theorem dX4_tryRows_94 : decode cX4_tryRows 94 = .ok (.iload_n 1, 1) := by decide +kernel
theorem dX4_tryRows_95 : decode cX4_tryRows 95 = .ok (.iconst 1, 1) := by decide +kernel
theorem dX4_tryRows_96 : decode cX4_tryRows 96 = .ok (.iadd, 1) := by decide +kernel
theorem dX4_tryRows_97 : decode cX4_tryRows 97 = .ok (.iload_n 2, 1) := by decide +kernel
theorem dX4_tryRows_98 : decode cX4_tryRows 98 = .ok (.invokevirtual 69, 3) := by decide +kernel
theorem dX4_tryRows_101 : decode cX4_tryRows 101 = .ok (.iinc 3 1, 3) := by decide +kernel
theorem dX4_tryRows_104 : decode cX4_tryRows 104 = .ok (.goto (-63), 3) := by decide +kernel
theorem dX4_tryRows_107 : decode cX4_tryRows 107 = .ok (.return_, 1) := by decide +kernel
theorem dX4_keep_0 : decode cX4_keep 0 = .ok (.aload_n 0, 1) := by decide +kernel
theorem dX4_keep_1 : decode cX4_keep 1 = .ok (.iload_n 1, 1) := by decide +kernel
theorem dX4_keep_2 : decode cX4_keep 2 = .ok (.putfield 24, 3) := by decide +kernel
theorem dX4_keep_5 : decode cX4_keep 5 = .ok (.aload_n 0, 1) := by decide +kernel
theorem dX4_keep_6 : decode cX4_keep 6 = .ok (.getfield 17, 3) := by decide +kernel
theorem dX4_keep_9 : decode cX4_keep 9 = .ok (.iconst 0, 1) := by decide +kernel
theorem dX4_keep_10 : decode cX4_keep 10 = .ok (.aload_n 0, 1) := by decide +kernel
theorem dX4_keep_11 : decode cX4_keep 11 = .ok (.getfield 21, 3) := by decide +kernel
theorem dX4_keep_14 : decode cX4_keep 14 = .ok (.iconst 0, 1) := by decide +kernel
theorem dX4_keep_15 : decode cX4_keep 15 = .ok (.bipush 6, 2) := by decide +kernel
theorem dX4_keep_17 : decode cX4_keep 17 = .ok (.invokestatic 77, 3) := by decide +kernel
theorem dX4_keep_20 : decode cX4_keep 20 = .ok (.return_, 1) := by decide +kernel
theorem dX5_init_0 : decode cX5_init 0 = .ok (.aload_n 0, 1) := by decide +kernel
theorem dX5_init_1 : decode cX5_init 1 = .ok (.invokespecial 1, 3) := by decide +kernel
theorem dX5_init_4 : decode cX5_init 4 = .ok (.aload_n 0, 1) := by decide +kernel
theorem dX5_init_5 : decode cX5_init 5 = .ok (.bipush 100, 2) := by decide +kernel
theorem dX5_init_7 : decode cX5_init 7 = .ok (.newarray .byte, 2) := by decide +kernel
theorem dX5_init_9 : decode cX5_init 9 = .ok (.putfield 9, 3) := by decide +kernel
theorem dX5_init_12 : decode cX5_init 12 = .ok (.aload_n 0, 1) := by decide +kernel
theorem dX5_init_13 : decode cX5_init 13 = .ok (.iconst 0, 1) := by decide +kernel
theorem dX5_init_14 : decode cX5_init 14 = .ok (.putfield 13, 3) := by decide +kernel
theorem dX5_init_17 : decode cX5_init 17 = .ok (.aload_n 0, 1) := by decide +kernel
theorem dX5_init_18 : decode cX5_init 18 = .ok (.iconst 0, 1) := by decide +kernel
theorem dX5_init_19 : decode cX5_init 19 = .ok (.putfield 17, 3) := by decide +kernel
theorem dX5_init_22 : decode cX5_init 22 = .ok (.aload_n 0, 1) := by decide +kernel
theorem dX5_init_23 : decode cX5_init 23 = .ok (.iconst (-1), 1) := by decide +kernel
theorem dX5_init_24 : decode cX5_init 24 = .ok (.putfield 20, 3) := by decide +kernel
theorem dX5_init_27 : decode cX5_init 27 = .ok (.aload_n 0, 1) := by decide +kernel
theorem dX5_init_28 : decode cX5_init 28 = .ok (.iconst 0, 1) := by decide +kernel
theorem dX5_init_29 : decode cX5_init 29 = .ok (.putfield 23, 3) := by decide +kernel
theorem dX5_init_32 : decode cX5_init 32 = .ok (.aload_n 0, 1) := by decide +kernel
theorem dX5_init_33 : decode cX5_init 33 = .ok (.aconst_null, 1) := by decide +kernel
theorem dX5_init_34 : decode cX5_init 34 = .ok (.putfield 27, 3) := by decide +kernel
theorem dX5_init_37 : decode cX5_init 37 = .ok (.return_, 1) := by decide +kernel
theorem dX5_take_0 : decode cX5_take 0 = .ok (.aload_n 0, 1) := by decide +kernel
theorem dX5_take_1 : decode cX5_take 1 = .ok (.getfield 13, 3) := by decide +kernel
theorem dX5_take_4 : decode cX5_take 4 = .ok (.bipush 100, 2) := by decide +kernel
theorem dX5_take_6 : decode cX5_take 6 = .ok (.if_icmp .lt 5, 3) := by decide +kernel
theorem dX5_take_9 : decode cX5_take 9 = .ok (.iconst 0, 1) := by decide +kernel
theorem dX5_take_10 : decode cX5_take 10 = .ok (.ireturn, 1) := by decide +kernel
theorem dX5_take_11 : decode cX5_take 11 = .ok (.aload_n 0, 1) := by decide +kernel
theorem dX5_take_12 : decode cX5_take 12 = .ok (.getfield 9, 3) := by decide +kernel
theorem dX5_take_15 : decode cX5_take 15 = .ok (.aload_n 0, 1) := by decide +kernel
theorem dX5_take_16 : decode cX5_take 16 = .ok (.getfield 13, 3) := by decide +kernel
theorem dX5_take_19 : decode cX5_take 19 = .ok (.iload_n 1, 1) := by decide +kernel
theorem dX5_take_20 : decode cX5_take 20 = .ok (.bastore, 1) := by decide +kernel
theorem dX5_take_21 : decode cX5_take 21 = .ok (.aload_n 0, 1) := by decide +kernel
theorem dX5_take_22 : decode cX5_take 22 = .ok (.dup, 1) := by decide +kernel
theorem dX5_take_23 : decode cX5_take 23 = .ok (.getfield 13, 3) := by decide +kernel
theorem dX5_take_26 : decode cX5_take 26 = .ok (.iconst 1, 1) := by decide +kernel
theorem dX5_take_27 : decode cX5_take 27 = .ok (.iadd, 1) := by decide +kernel
theorem dX5_take_28 : decode cX5_take 28 = .ok (.putfield 13, 3) := by decide +kernel
theorem dX5_take_31 : decode cX5_take 31 = .ok (.iconst 1, 1) := by decide +kernel
theorem dX5_take_32 : decode cX5_take 32 = .ok (.ireturn, 1) := by decide +kernel
theorem dX5_readInto_0 : decode cX5_readInto 0 = .ok (.aload_n 0, 1) := by decide +kernel
theorem dX5_readInto_1 : decode cX5_readInto 1 = .ok (.aload_n 1, 1) := by decide +kernel
theorem dX5_readInto_2 : decode cX5_readInto 2 = .ok (.putfield 27, 3) := by decide +kernel
theorem dX5_readInto_5 : decode cX5_readInto 5 = .ok (.aload_n 0, 1) := by decide +kernel
theorem dX5_readInto_6 : decode cX5_readInto 6 = .ok (.getfield 27, 3) := by decide +kernel
theorem dX5_readInto_9 : decode cX5_readInto 9 = .ok (.invokevirtual 31, 3) := by decide +kernel
theorem dX5_readInto_12 : decode cX5_readInto 12 = .ok (.aload_n 0, 1) := by decide +kernel
theorem dX5_readInto_13 : decode cX5_readInto 13 = .ok (.iconst 0, 1) := by decide +kernel
theorem dX5_readInto_14 : decode cX5_readInto 14 = .ok (.putfield 23, 3) := by decide +kernel
theorem dX5_readInto_17 : decode cX5_readInto 17 = .ok (.aload_n 0, 1) := by decide +kernel
theorem dX5_readInto_18 : decode cX5_readInto 18 = .ok (.iconst (-1), 1) := by decide +kernel
theorem dX5_readInto_19 : decode cX5_readInto 19 = .ok (.putfield 17, 3) := by decide +kernel
theorem dX5_readInto_22 : decode cX5_readInto 22 = .ok (.aload_n 0, 1) := by decide +kernel
theorem dX5_readInto_23 : decode cX5_readInto 23 = .ok (.invokevirtual 36, 3) := by decide +kernel
theorem dX5_readInto_26 : decode cX5_readInto 26 = .ok (.aload_n 0, 1) := by decide +kernel
theorem dX5_readInto_27 : decode cX5_readInto 27 = .ok (.invokevirtual 39, 3) := by decide +kernel
theorem dX5_readInto_30 : decode cX5_readInto 30 = .ok (.iconst 1, 1) := by decide +kernel
theorem dX5_readInto_31 : decode cX5_readInto 31 = .ok (.istore_n 2, 1) := by decide +kernel
theorem dX5_readInto_32 : decode cX5_readInto 32 = .ok (.iload_n 2, 1) := by decide +kernel
theorem dX5_readInto_33 : decode cX5_readInto 33 = .ok (.bipush 10, 2) := by decide +kernel
theorem dX5_readInto_35 : decode cX5_readInto 35 = .ok (.if_icmp .ge 33, 3) := by decide +kernel
theorem dX5_readInto_38 : decode cX5_readInto 38 = .ok (.aload_n 0, 1) := by decide +kernel
theorem dX5_readInto_39 : decode cX5_readInto 39 = .ok (.getfield 23, 3) := by decide +kernel
theorem dX5_readInto_42 : decode cX5_readInto 42 = .ok (.ifCond .ne 26, 3) := by decide +kernel
theorem dX5_readInto_45 : decode cX5_readInto 45 = .ok (.aload_n 0, 1) := by decide +kernel
theorem dX5_readInto_46 : decode cX5_readInto 46 = .ok (.getfield 20, 3) := by decide +kernel
theorem dX5_readInto_49 : decode cX5_readInto 49 = .ok (.bipush 59, 2) := by decide +kernel
theorem dX5_readInto_51 : decode cX5_readInto 51 = .ok (.if_icmp .ne 17, 3) := by decide +kernel
theorem dX5_readInto_54 : decode cX5_readInto 54 = .ok (.aload_n 0, 1) := by decide +kernel
theorem dX5_readInto_55 : decode cX5_readInto 55 = .ok (.invokevirtual 36, 3) := by decide +kernel
theorem dX5_readInto_58 : decode cX5_readInto 58 = .ok (.aload_n 0, 1) := by decide +kernel
theorem dX5_readInto_59 : decode cX5_readInto 59 = .ok (.invokevirtual 39, 3) := by decide +kernel
theorem dX5_readInto_62 : decode cX5_readInto 62 = .ok (.iinc 2 1, 3) := by decide +kernel
theorem dX5_readInto_65 : decode cX5_readInto 65 = .ok (.goto (-33), 3) := by decide +kernel
theorem dX5_readInto_68 : decode cX5_readInto 68 = .ok (.aload_n 0, 1) := by decide +kernel
theorem dX5_readInto_69 : decode cX5_readInto 69 = .ok (.getfield 23, 3) := by decide +kernel
theorem dX5_readInto_72 : decode cX5_readInto 72 = .ok (.ifCond .ne 15, 3) := by decide +kernel
theorem dX5_readInto_75 : decode cX5_readInto 75 = .ok (.aload_n 0, 1) := by decide +kernel
theorem dX5_readInto_76 : decode cX5_readInto 76 = .ok (.getfield 20, 3) := by decide +kernel
theorem dX5_readInto_79 : decode cX5_readInto 79 = .ok (.iconst (-1), 1) := by decide +kernel
theorem dX5_readInto_80 : decode cX5_readInto 80 = .ok (.if_icmp .ne 7, 3) := by decide +kernel
theorem dX5_readInto_83 : decode cX5_readInto 83 = .ok (.iconst 1, 1) := by decide +kernel
theorem dX5_readInto_84 : decode cX5_readInto 84 = .ok (.goto 4, 3) := by decide +kernel
theorem dX5_readInto_87 : decode cX5_readInto 87 = .ok (.iconst 0, 1) := by decide +kernel
theorem dX5_readInto_88 : decode cX5_readInto 88 = .ok (.ireturn, 1) := by decide +kernel
theorem dX5_step_0 : decode cX5_step 0 = .ok (.aload_n 0, 1) := by decide +kernel
theorem dX5_step_1 : decode cX5_step 1 = .ok (.dup, 1) := by decide +kernel
theorem dX5_step_2 : decode cX5_step 2 = .ok (.getfield 17, 3) := by decide +kernel
theorem dX5_step_5 : decode cX5_step 5 = .ok (.iconst 1, 1) := by decide +kernel
theorem dX5_step_6 : decode cX5_step 6 = .ok (.iadd, 1) := by decide +kernel
theorem dX5_step_7 : decode cX5_step 7 = .ok (.putfield 17, 3) := by decide +kernel
theorem dX5_step_10 : decode cX5_step 10 = .ok (.aload_n 0, 1) := by decide +kernel
theorem dX5_step_11 : decode cX5_step 11 = .ok (.aload_n 0, 1) := by decide +kernel
theorem dX5_step_12 : decode cX5_step 12 = .ok (.getfield 17, 3) := by decide +kernel
theorem dX5_step_15 : decode cX5_step 15 = .ok (.aload_n 0, 1) := by decide +kernel
theorem dX5_step_16 : decode cX5_step 16 = .ok (.getfield 13, 3) := by decide +kernel
theorem dX5_step_19 : decode cX5_step 19 = .ok (.if_icmp .ge 15, 3) := by decide +kernel
theorem dX5_step_22 : decode cX5_step 22 = .ok (.aload_n 0, 1) := by decide +kernel
theorem dX5_step_23 : decode cX5_step 23 = .ok (.getfield 9, 3) := by decide +kernel
theorem dX5_step_26 : decode cX5_step 26 = .ok (.aload_n 0, 1) := by decide +kernel
theorem dX5_step_27 : decode cX5_step 27 = .ok (.getfield 17, 3) := by decide +kernel
theorem dX5_step_30 : decode cX5_step 30 = .ok (.baload, 1) := by decide +kernel
theorem dX5_step_31 : decode cX5_step 31 = .ok (.goto 4, 3) := by decide +kernel
theorem dX5_step_34 : decode cX5_step 34 = .ok (.iconst (-1), 1) := by decide +kernel
theorem dX5_step_35 : decode cX5_step 35 = .ok (.putfield 20, 3) := by decide +kernel
theorem dX5_step_38 : decode cX5_step 38 = .ok (.return_, 1) := by decide +kernel
theorem dX5_need_0 : decode cX5_need 0 = .ok (.aload_n 0, 1) := by decide +kernel
theorem dX5_need_1 : decode cX5_need 1 = .ok (.getfield 23, 3) := by decide +kernel
theorem dX5_need_4 : decode cX5_need 4 = .ok (.ifCond .ne 18, 3) := by decide +kernel
theorem dX5_need_7 : decode cX5_need 7 = .ok (.aload_n 0, 1) := by decide +kernel
theorem dX5_need_8 : decode cX5_need 8 = .ok (.getfield 20, 3) := by decide +kernel
theorem dX5_need_11 : decode cX5_need 11 = .ok (.iload_n 1, 1) := by decide +kernel
theorem dX5_need_12 : decode cX5_need 12 = .ok (.if_icmp .ne 10, 3) := by decide +kernel
theorem dX5_need_15 : decode cX5_need 15 = .ok (.aload_n 0, 1) := by decide +kernel
theorem dX5_need_16 : decode cX5_need 16 = .ok (.invokevirtual 36, 3) := by decide +kernel
theorem dX5_need_19 : decode cX5_need 19 = .ok (.goto 8, 3) := by decide +kernel
theorem dX5_need_22 : decode cX5_need 22 = .ok (.aload_n 0, 1) := by decide +kernel
theorem dX5_need_23 : decode cX5_need 23 = .ok (.iconst 1, 1) := by decide +kernel
theorem dX5_need_24 : decode cX5_need 24 = .ok (.putfield 23, 3) := by decide +kernel
theorem dX5_need_27 : decode cX5_need 27 = .ok (.return_, 1) := by decide +kernel
theorem dX5_word_0 : decode cX5_word 0 = .ok (.iconst 0, 1) := by decide +kernel
theorem dX5_word_1 : decode cX5_word 1 = .ok (.istore_n 2, 1) := by decide +kernel
theorem dX5_word_2 : decode cX5_word 2 = .ok (.iload_n 2, 1) := by decide +kernel
theorem dX5_word_3 : decode cX5_word 3 = .ok (.aload_n 1, 1) := by decide +kernel
theorem dX5_word_4 : decode cX5_word 4 = .ok (.invokevirtual 42, 3) := by decide +kernel
theorem dX5_word_7 : decode cX5_word 7 = .ok (.if_icmp .ge 18, 3) := by decide +kernel
theorem dX5_word_10 : decode cX5_word 10 = .ok (.aload_n 0, 1) := by decide +kernel
theorem dX5_word_11 : decode cX5_word 11 = .ok (.aload_n 1, 1) := by decide +kernel
theorem dX5_word_12 : decode cX5_word 12 = .ok (.iload_n 2, 1) := by decide +kernel
theorem dX5_word_13 : decode cX5_word 13 = .ok (.invokevirtual 47, 3) := by decide +kernel
theorem dX5_word_16 : decode cX5_word 16 = .ok (.invokevirtual 51, 3) := by decide +kernel
theorem dX5_word_19 : decode cX5_word 19 = .ok (.iinc 2 1, 3) := by decide +kernel
theorem dX5_word_22 : decode cX5_word 22 = .ok (.goto (-20), 3) := by decide +kernel
theorem dX5_word_25 : decode cX5_word 25 = .ok (.aload_n 0, 1) := by decide +kernel
theorem dX5_word_26 : decode cX5_word 26 = .ok (.bipush 32, 2) := by decide +kernel
theorem dX5_word_28 : decode cX5_word 28 = .ok (.invokevirtual 51, 3) := by decide +kernel
theorem dX5_word_31 : decode cX5_word 31 = .ok (.return_, 1) := by decide +kernel
theorem dX5_clause_0 : decode cX5_clause 0 = .ok (.aload_n 0, 1) := by decide +kernel
theorem dX5_clause_1 : decode cX5_clause 1 = .ok (.getfield 20, 3) := by decide +kernel
theorem dX5_clause_4 : decode cX5_clause 4 = .ok (.bipush 112, 2) := by decide +kernel
theorem dX5_clause_6 : decode cX5_clause 6 = .ok (.if_icmp .ne 25, 3) := by decide +kernel
theorem dX5_clause_9 : decode cX5_clause 9 = .ok (.aload_n 0, 1) := by decide +kernel
theorem dX5_clause_10 : decode cX5_clause 10 = .ok (.ldc 55, 2) := by decide +kernel
theorem dX5_clause_12 : decode cX5_clause 12 = .ok (.invokevirtual 57, 3) := by decide +kernel
theorem dX5_clause_15 : decode cX5_clause 15 = .ok (.aload_n 0, 1) := by decide +kernel
theorem dX5_clause_16 : decode cX5_clause 16 = .ok (.getfield 27, 3) := by decide +kernel
theorem dX5_clause_19 : decode cX5_clause 19 = .ok (.iconst 1, 1) := by decide +kernel
theorem dX5_clause_20 : decode cX5_clause 20 = .ok (.aload_n 0, 1) := by decide +kernel
theorem dX5_clause_21 : decode cX5_clause 21 = .ok (.invokevirtual 61, 3) := by decide +kernel
theorem dX5_clause_24 : decode cX5_clause 24 = .ok (.invokestatic 64, 3) := by decide +kernel
theorem dX5_clause_27 : decode cX5_clause 27 = .ok (.putfield 70, 3) := by decide +kernel
theorem dX5_clause_30 : decode cX5_clause 30 = .ok (.return_, 1) := by decide +kernel
theorem dX5_clause_31 : decode cX5_clause 31 = .ok (.aload_n 0, 1) := by decide +kernel
theorem dX5_clause_32 : decode cX5_clause 32 = .ok (.getfield 20, 3) := by decide +kernel
theorem dX5_clause_35 : decode cX5_clause 35 = .ok (.bipush 110, 2) := by decide +kernel
theorem dX5_clause_37 : decode cX5_clause 37 = .ok (.if_icmp .ne 7, 3) := by decide +kernel
theorem dX5_clause_40 : decode cX5_clause 40 = .ok (.iconst 1, 1) := by decide +kernel
theorem dX5_clause_41 : decode cX5_clause 41 = .ok (.goto 4, 3) := by decide +kernel
theorem dX5_clause_44 : decode cX5_clause 44 = .ok (.iconst 0, 1) := by decide +kernel
theorem dX5_clause_45 : decode cX5_clause 45 = .ok (.istore_n 1, 1) := by decide +kernel
theorem dX5_clause_46 : decode cX5_clause 46 = .ok (.aload_n 0, 1) := by decide +kernel
theorem dX5_clause_47 : decode cX5_clause 47 = .ok (.iload_n 1, 1) := by decide +kernel
theorem dX5_clause_48 : decode cX5_clause 48 = .ok (.ifCond .eq 8, 3) := by decide +kernel
theorem dX5_clause_51 : decode cX5_clause 51 = .ok (.ldc 72, 2) := by decide +kernel
theorem dX5_clause_53 : decode cX5_clause 53 = .ok (.goto 5, 3) := by decide +kernel
theorem dX5_clause_56 : decode cX5_clause 56 = .ok (.ldc 74, 2) := by decide +kernel
theorem dX5_clause_58 : decode cX5_clause 58 = .ok (.invokevirtual 57, 3) := by decide +kernel
theorem dX5_clause_61 : decode cX5_clause 61 = .ok (.iload_n 1, 1) := by decide +kernel
theorem dX5_clause_62 : decode cX5_clause 62 = .ok (.ifCond .eq 10, 3) := by decide +kernel
theorem dX5_clause_65 : decode cX5_clause 65 = .ok (.aload_n 0, 1) := by decide +kernel
theorem dX5_clause_66 : decode cX5_clause 66 = .ok (.invokevirtual 61, 3) := by decide +kernel
theorem dX5_clause_69 : decode cX5_clause 69 = .ok (.goto 8, 3) := by decide +kernel
theorem dX5_clause_72 : decode cX5_clause 72 = .ok (.aload_n 0, 1) := by decide +kernel
theorem dX5_clause_73 : decode cX5_clause 73 = .ok (.invokevirtual 61, 3) := by decide +kernel
theorem dX5_clause_76 : decode cX5_clause 76 = .ok (.ineg, 1) := by decide +kernel
theorem dX5_clause_77 : decode cX5_clause 77 = .ok (.istore_n 2, 1) := by decide +kernel
theorem dX5_clause_78 : decode cX5_clause 78 = .ok (.aload_n 0, 1) := by decide +kernel
theorem dX5_clause_79 : decode cX5_clause 79 = .ok (.bipush 32, 2) := by decide +kernel
theorem dX5_clause_81 : decode cX5_clause 81 = .ok (.invokevirtual 51, 3) := by decide +kernel
theorem dX5_clause_84 : decode cX5_clause 84 = .ok (.aload_n 0, 1) := by decide +kernel
theorem dX5_clause_85 : decode cX5_clause 85 = .ok (.iconst 0, 1) := by decide +kernel
theorem dX5_clause_86 : decode cX5_clause 86 = .ok (.invokevirtual 76, 3) := by decide +kernel
theorem dX5_clause_89 : decode cX5_clause 89 = .ok (.aload_n 0, 1) := by decide +kernel
theorem dX5_clause_90 : decode cX5_clause 90 = .ok (.getfield 27, 3) := by decide +kernel
theorem dX5_clause_93 : decode cX5_clause 93 = .ok (.iload_n 2, 1) := by decide +kernel
theorem dX5_clause_94 : decode cX5_clause 94 = .ok (.invokevirtual 80, 3) := by decide +kernel
theorem dX5_clause_97 : decode cX5_clause 97 = .ok (.return_, 1) := by decide +kernel
theorem dX5_number_0 : decode cX5_number 0 = .ok (.aload_n 0, 1) := by decide +kernel
theorem dX5_number_1 : decode cX5_number 1 = .ok (.getfield 23, 3) := by decide +kernel
theorem dX5_number_4 : decode cX5_number 4 = .ok (.ifCond .ne 10, 3) := by decide +kernel
theorem dX5_number_7 : decode cX5_number 7 = .ok (.aload_n 0, 1) := by decide +kernel
theorem dX5_number_8 : decode cX5_number 8 = .ok (.invokevirtual 83, 3) := by decide +kernel
theorem dX5_number_11 : decode cX5_number 11 = .ok (.ifCond .ne 10, 3) := by decide +kernel
theorem dX5_number_14 : decode cX5_number 14 = .ok (.aload_n 0, 1) := by decide +kernel
theorem dX5_number_15 : decode cX5_number 15 = .ok (.iconst 1, 1) := by decide +kernel
theorem dX5_number_16 : decode cX5_number 16 = .ok (.putfield 23, 3) := by decide +kernel
theorem dX5_number_19 : decode cX5_number 19 = .ok (.iconst 0, 1) := by decide +kernel
theorem dX5_number_20 : decode cX5_number 20 = .ok (.ireturn, 1) := by decide +kernel
theorem dX5_number_21 : decode cX5_number 21 = .ok (.aload_n 0, 1) := by decide +kernel
theorem dX5_number_22 : decode cX5_number 22 = .ok (.getfield 20, 3) := by decide +kernel
theorem dX5_number_25 : decode cX5_number 25 = .ok (.bipush 48, 2) := by decide +kernel
theorem dX5_number_27 : decode cX5_number 27 = .ok (.isub, 1) := by decide +kernel
theorem dX5_number_28 : decode cX5_number 28 = .ok (.istore_n 1, 1) := by decide +kernel
theorem dX5_number_29 : decode cX5_number 29 = .ok (.aload_n 0, 1) := by decide +kernel
theorem dX5_number_30 : decode cX5_number 30 = .ok (.invokevirtual 36, 3) := by decide +kernel
theorem dX5_number_33 : decode cX5_number 33 = .ok (.aload_n 0, 1) := by decide +kernel
theorem dX5_number_34 : decode cX5_number 34 = .ok (.invokevirtual 83, 3) := by decide +kernel
theorem dX5_number_37 : decode cX5_number 37 = .ok (.ifCond .eq 20, 3) := by decide +kernel
theorem dX5_number_40 : decode cX5_number 40 = .ok (.iload_n 1, 1) := by decide +kernel
theorem dX5_number_41 : decode cX5_number 41 = .ok (.bipush 10, 2) := by decide +kernel
theorem dX5_number_43 : decode cX5_number 43 = .ok (.imul, 1) := by decide +kernel
theorem dX5_number_44 : decode cX5_number 44 = .ok (.aload_n 0, 1) := by decide +kernel
theorem dX5_number_45 : decode cX5_number 45 = .ok (.getfield 20, 3) := by decide +kernel
theorem dX5_number_48 : decode cX5_number 48 = .ok (.iadd, 1) := by decide +kernel
theorem dX5_number_49 : decode cX5_number 49 = .ok (.bipush 48, 2) := by decide +kernel
theorem dX5_number_51 : decode cX5_number 51 = .ok (.isub, 1) := by decide +kernel
theorem dX5_number_52 : decode cX5_number 52 = .ok (.istore_n 1, 1) := by decide +kernel
theorem dX5_number_53 : decode cX5_number 53 = .ok (.aload_n 0, 1) := by decide +kernel
theorem dX5_number_54 : decode cX5_number 54 = .ok (.invokevirtual 36, 3) := by decide +kernel
theorem dX5_number_57 : decode cX5_number 57 = .ok (.iload_n 1, 1) := by decide +kernel
theorem dX5_number_58 : decode cX5_number 58 = .ok (.ireturn, 1) := by decide +kernel
theorem dX5_isDigit_0 : decode cX5_isDigit 0 = .ok (.aload_n 0, 1) := by decide +kernel
theorem dX5_isDigit_1 : decode cX5_isDigit 1 = .ok (.getfield 20, 3) := by decide +kernel
theorem dX5_isDigit_4 : decode cX5_isDigit 4 = .ok (.bipush 48, 2) := by decide +kernel
theorem dX5_isDigit_6 : decode cX5_isDigit 6 = .ok (.if_icmp .lt 16, 3) := by decide +kernel
theorem dX5_isDigit_9 : decode cX5_isDigit 9 = .ok (.aload_n 0, 1) := by decide +kernel
theorem dX5_isDigit_10 : decode cX5_isDigit 10 = .ok (.getfield 20, 3) := by decide +kernel
theorem dX5_isDigit_13 : decode cX5_isDigit 13 = .ok (.bipush 57, 2) := by decide +kernel
theorem dX5_isDigit_15 : decode cX5_isDigit 15 = .ok (.if_icmp .gt 7, 3) := by decide +kernel
theorem dX5_isDigit_18 : decode cX5_isDigit 18 = .ok (.iconst 1, 1) := by decide +kernel
theorem dX5_isDigit_19 : decode cX5_isDigit 19 = .ok (.goto 4, 3) := by decide +kernel
theorem dX5_isDigit_22 : decode cX5_isDigit 22 = .ok (.iconst 0, 1) := by decide +kernel
theorem dX5_isDigit_23 : decode cX5_isDigit 23 = .ok (.ireturn, 1) := by decide +kernel
theorem dX5_either_0 : decode cX5_either 0 = .ok (.aload_n 0, 1) := by decide +kernel
theorem dX5_either_1 : decode cX5_either 1 = .ok (.iload_n 1, 1) := by decide +kernel
theorem dX5_either_2 : decode cX5_either 2 = .ok (.invokevirtual 87, 3) := by decide +kernel
theorem dX5_either_5 : decode cX5_either 5 = .ok (.iconst 0, 1) := by decide +kernel
theorem dX5_either_6 : decode cX5_either 6 = .ok (.istore_n 2, 1) := by decide +kernel
theorem dX5_either_7 : decode cX5_either 7 = .ok (.iload_n 2, 1) := by decide +kernel
theorem dX5_either_8 : decode cX5_either 8 = .ok (.bipush 100, 2) := by decide +kernel
theorem dX5_either_10 : decode cX5_either 10 = .ok (.if_icmp .ge 43, 3) := by decide +kernel
theorem dX5_either_13 : decode cX5_either 13 = .ok (.aload_n 0, 1) := by decide +kernel
theorem dX5_either_14 : decode cX5_either 14 = .ok (.getfield 23, 3) := by decide +kernel
theorem dX5_either_17 : decode cX5_either 17 = .ok (.ifCond .ne 36, 3) := by decide +kernel
theorem dX5_either_20 : decode cX5_either 20 = .ok (.aload_n 0, 1) := by decide +kernel
theorem dX5_either_21 : decode cX5_either 21 = .ok (.getfield 20, 3) := by decide +kernel
theorem dX5_either_24 : decode cX5_either 24 = .ok (.bipush 124, 2) := by decide +kernel
theorem dX5_either_26 : decode cX5_either 26 = .ok (.if_icmp .ne 27, 3) := by decide +kernel
theorem dX5_either_29 : decode cX5_either 29 = .ok (.aload_n 0, 1) := by decide +kernel
theorem dX5_either_30 : decode cX5_either 30 = .ok (.invokevirtual 36, 3) := by decide +kernel
theorem dX5_either_33 : decode cX5_either 33 = .ok (.aload_n 0, 1) := by decide +kernel
theorem dX5_either_34 : decode cX5_either 34 = .ok (.iload_n 1, 1) := by decide +kernel
theorem dX5_either_35 : decode cX5_either 35 = .ok (.invokevirtual 87, 3) := by decide +kernel
theorem dX5_either_38 : decode cX5_either 38 = .ok (.aload_n 0, 1) := by decide +kernel
theorem dX5_either_39 : decode cX5_either 39 = .ok (.getfield 27, 3) := by decide +kernel
theorem dX5_either_42 : decode cX5_either 42 = .ok (.bipush (-3), 2) := by decide +kernel
theorem dX5_either_44 : decode cX5_either 44 = .ok (.invokevirtual 90, 3) := by decide +kernel
theorem dX5_either_47 : decode cX5_either 47 = .ok (.iinc 2 1, 3) := by decide +kernel
theorem dX5_either_50 : decode cX5_either 50 = .ok (.goto (-43), 3) := by decide +kernel
theorem dX5_either_53 : decode cX5_either 53 = .ok (.return_, 1) := by decide +kernel
theorem dX5_both_0 : decode cX5_both 0 = .ok (.aload_n 0, 1) := by decide +kernel
theorem dX5_both_1 : decode cX5_both 1 = .ok (.iload_n 1, 1) := by decide +kernel
theorem dX5_both_2 : decode cX5_both 2 = .ok (.invokevirtual 93, 3) := by decide +kernel
theorem dX5_both_5 : decode cX5_both 5 = .ok (.iconst 0, 1) := by decide +kernel
theorem dX5_both_6 : decode cX5_both 6 = .ok (.istore_n 2, 1) := by decide +kernel
theorem dX5_both_7 : decode cX5_both 7 = .ok (.iload_n 2, 1) := by decide +kernel
theorem dX5_both_8 : decode cX5_both 8 = .ok (.bipush 100, 2) := by decide +kernel
theorem dX5_both_10 : decode cX5_both 10 = .ok (.if_icmp .ge 43, 3) := by decide +kernel
theorem dX5_both_13 : decode cX5_both 13 = .ok (.aload_n 0, 1) := by decide +kernel
theorem dX5_both_14 : decode cX5_both 14 = .ok (.getfield 23, 3) := by decide +kernel
theorem dX5_both_17 : decode cX5_both 17 = .ok (.ifCond .ne 36, 3) := by decide +kernel
theorem dX5_both_20 : decode cX5_both 20 = .ok (.aload_n 0, 1) := by decide +kernel
theorem dX5_both_21 : decode cX5_both 21 = .ok (.getfield 20, 3) := by decide +kernel
theorem dX5_both_24 : decode cX5_both 24 = .ok (.bipush 38, 2) := by decide +kernel
theorem dX5_both_26 : decode cX5_both 26 = .ok (.if_icmp .ne 27, 3) := by decide +kernel
theorem dX5_both_29 : decode cX5_both 29 = .ok (.aload_n 0, 1) := by decide +kernel
theorem dX5_both_30 : decode cX5_both 30 = .ok (.invokevirtual 36, 3) := by decide +kernel
theorem dX5_both_33 : decode cX5_both 33 = .ok (.aload_n 0, 1) := by decide +kernel
theorem dX5_both_34 : decode cX5_both 34 = .ok (.iload_n 1, 1) := by decide +kernel
theorem dX5_both_35 : decode cX5_both 35 = .ok (.invokevirtual 93, 3) := by decide +kernel
theorem dX5_both_38 : decode cX5_both 38 = .ok (.aload_n 0, 1) := by decide +kernel
theorem dX5_both_39 : decode cX5_both 39 = .ok (.getfield 27, 3) := by decide +kernel
theorem dX5_both_42 : decode cX5_both 42 = .ok (.bipush (-2), 2) := by decide +kernel
theorem dX5_both_44 : decode cX5_both 44 = .ok (.invokevirtual 90, 3) := by decide +kernel
theorem dX5_both_47 : decode cX5_both 47 = .ok (.iinc 2 1, 3) := by decide +kernel
theorem dX5_both_50 : decode cX5_both 50 = .ok (.goto (-43), 3) := by decide +kernel
theorem dX5_both_53 : decode cX5_both 53 = .ok (.return_, 1) := by decide +kernel
theorem dX5_factor_0 : decode cX5_factor 0 = .ok (.aload_n 0, 1) := by decide +kernel
theorem dX5_factor_1 : decode cX5_factor 1 = .ok (.getfield 23, 3) := by decide +kernel
theorem dX5_factor_4 : decode cX5_factor 4 = .ok (.ifCond .eq 4, 3) := by decide +kernel
theorem dX5_factor_7 : decode cX5_factor 7 = .ok (.return_, 1) := by decide +kernel
theorem dX5_factor_8 : decode cX5_factor 8 = .ok (.aload_n 0, 1) := by decide +kernel
theorem dX5_factor_9 : decode cX5_factor 9 = .ok (.getfield 20, 3) := by decide +kernel
theorem dX5_factor_12 : decode cX5_factor 12 = .ok (.bipush 33, 2) := by decide +kernel
theorem dX5_factor_14 : decode cX5_factor 14 = .ok (.if_icmp .ne 30, 3) := by decide +kernel
theorem dX5_factor_17 : decode cX5_factor 17 = .ok (.iload_n 1, 1) := by decide +kernel
theorem dX5_factor_18 : decode cX5_factor 18 = .ok (.iconst 4, 1) := by decide +kernel
theorem dX5_factor_19 : decode cX5_factor 19 = .ok (.if_icmp .ge 25, 3) := by decide +kernel
theorem dX5_factor_22 : decode cX5_factor 22 = .ok (.aload_n 0, 1) := by decide +kernel
theorem dX5_factor_23 : decode cX5_factor 23 = .ok (.invokevirtual 36, 3) := by decide +kernel
theorem dX5_factor_26 : decode cX5_factor 26 = .ok (.aload_n 0, 1) := by decide +kernel
theorem dX5_factor_27 : decode cX5_factor 27 = .ok (.iload_n 1, 1) := by decide +kernel
theorem dX5_factor_28 : decode cX5_factor 28 = .ok (.iconst 1, 1) := by decide +kernel
theorem dX5_factor_29 : decode cX5_factor 29 = .ok (.iadd, 1) := by decide +kernel
theorem dX5_factor_30 : decode cX5_factor 30 = .ok (.invokevirtual 93, 3) := by decide +kernel
theorem dX5_factor_33 : decode cX5_factor 33 = .ok (.aload_n 0, 1) := by decide +kernel
theorem dX5_factor_34 : decode cX5_factor 34 = .ok (.getfield 27, 3) := by decide +kernel
theorem dX5_factor_37 : decode cX5_factor 37 = .ok (.iconst (-1), 1) := by decide +kernel
theorem dX5_factor_38 : decode cX5_factor 38 = .ok (.invokevirtual 90, 3) := by decide +kernel
theorem dX5_factor_41 : decode cX5_factor 41 = .ok (.goto 67, 3) := by decide +kernel
theorem dX5_factor_44 : decode cX5_factor 44 = .ok (.aload_n 0, 1) := by decide +kernel
theorem dX5_factor_45 : decode cX5_factor 45 = .ok (.getfield 20, 3) := by decide +kernel
theorem dX5_factor_48 : decode cX5_factor 48 = .ok (.bipush 40, 2) := by decide +kernel
theorem dX5_factor_50 : decode cX5_factor 50 = .ok (.if_icmp .ne 28, 3) := by decide +kernel
theorem dX5_factor_53 : decode cX5_factor 53 = .ok (.iload_n 1, 1) := by decide +kernel
theorem dX5_factor_54 : decode cX5_factor 54 = .ok (.iconst 4, 1) := by decide +kernel
theorem dX5_factor_55 : decode cX5_factor 55 = .ok (.if_icmp .ge 23, 3) := by decide +kernel
theorem dX5_factor_58 : decode cX5_factor 58 = .ok (.aload_n 0, 1) := by decide +kernel
theorem dX5_factor_59 : decode cX5_factor 59 = .ok (.invokevirtual 36, 3) := by decide +kernel
theorem dX5_factor_62 : decode cX5_factor 62 = .ok (.aload_n 0, 1) := by decide +kernel
theorem dX5_factor_63 : decode cX5_factor 63 = .ok (.iload_n 1, 1) := by decide +kernel
theorem dX5_factor_64 : decode cX5_factor 64 = .ok (.iconst 1, 1) := by decide +kernel
theorem dX5_factor_65 : decode cX5_factor 65 = .ok (.iadd, 1) := by decide +kernel
theorem dX5_factor_66 : decode cX5_factor 66 = .ok (.invokevirtual 76, 3) := by decide +kernel
theorem dX5_factor_69 : decode cX5_factor 69 = .ok (.aload_n 0, 1) := by decide +kernel
theorem dX5_factor_70 : decode cX5_factor 70 = .ok (.bipush 41, 2) := by decide +kernel
theorem dX5_factor_72 : decode cX5_factor 72 = .ok (.invokevirtual 51, 3) := by decide +kernel
theorem dX5_factor_75 : decode cX5_factor 75 = .ok (.goto 33, 3) := by decide +kernel
theorem dX5_factor_78 : decode cX5_factor 78 = .ok (.aload_n 0, 1) := by decide +kernel
theorem dX5_factor_79 : decode cX5_factor 79 = .ok (.ldc 96, 2) := by decide +kernel
theorem dX5_factor_81 : decode cX5_factor 81 = .ok (.invokevirtual 98, 3) := by decide +kernel
theorem dX5_factor_84 : decode cX5_factor 84 = .ok (.istore_n 2, 1) := by decide +kernel
theorem dX5_factor_85 : decode cX5_factor 85 = .ok (.aload_n 0, 1) := by decide +kernel
theorem dX5_factor_86 : decode cX5_factor 86 = .ok (.ldc 102, 2) := by decide +kernel
theorem dX5_factor_88 : decode cX5_factor 88 = .ok (.invokevirtual 98, 3) := by decide +kernel
theorem dX5_factor_91 : decode cX5_factor 91 = .ok (.istore_n 3, 1) := by decide +kernel
theorem dX5_factor_92 : decode cX5_factor 92 = .ok (.aload_n 0, 1) := by decide +kernel
theorem dX5_factor_93 : decode cX5_factor 93 = .ok (.getfield 27, 3) := by decide +kernel
theorem dX5_factor_96 : decode cX5_factor 96 = .ok (.iload_n 2, 1) := by decide +kernel
theorem dX5_factor_97 : decode cX5_factor 97 = .ok (.iload_n 3, 1) := by decide +kernel
theorem dX5_factor_98 : decode cX5_factor 98 = .ok (.aload_n 0, 1) := by decide +kernel
theorem dX5_factor_99 : decode cX5_factor 99 = .ok (.invokevirtual 61, 3) := by decide +kernel
theorem dX5_factor_102 : decode cX5_factor 102 = .ok (.invokestatic 104, 3) := by decide +kernel
theorem dX5_factor_105 : decode cX5_factor 105 = .ok (.invokevirtual 90, 3) := by decide +kernel
theorem dX5_factor_108 : decode cX5_factor 108 = .ok (.return_, 1) := by decide +kernel
theorem dX5_choice_0 : decode cX5_choice 0 = .ok (.aload_n 0, 1) := by decide +kernel
theorem dX5_choice_1 : decode cX5_choice 1 = .ok (.getfield 23, 3) := by decide +kernel
theorem dX5_choice_4 : decode cX5_choice 4 = .ok (.ifCond .ne 11, 3) := by decide +kernel
theorem dX5_choice_7 : decode cX5_choice 7 = .ok (.aload_n 0, 1) := by decide +kernel
theorem dX5_choice_8 : decode cX5_choice 8 = .ok (.getfield 20, 3) := by decide +kernel
theorem dX5_choice_11 : decode cX5_choice 11 = .ok (.iconst (-1), 1) := by decide +kernel
theorem dX5_choice_12 : decode cX5_choice 12 = .ok (.if_icmp .ne 7, 3) := by decide +kernel
theorem dX5_choice_15 : decode cX5_choice 15 = .ok (.iconst (-1), 1) := by decide +kernel
theorem dX5_choice_16 : decode cX5_choice 16 = .ok (.goto 12, 3) := by decide +kernel
theorem dX5_choice_19 : decode cX5_choice 19 = .ok (.aload_n 1, 1) := by decide +kernel
theorem dX5_choice_20 : decode cX5_choice 20 = .ok (.aload_n 0, 1) := by decide +kernel
theorem dX5_choice_21 : decode cX5_choice 21 = .ok (.getfield 20, 3) := by decide +kernel
theorem dX5_choice_24 : decode cX5_choice 24 = .ok (.i2c, 1) := by decide +kernel
theorem dX5_choice_25 : decode cX5_choice 25 = .ok (.invokevirtual 108, 3) := by decide +kernel
theorem dX5_choice_28 : decode cX5_choice 28 = .ok (.istore_n 2, 1) := by decide +kernel
theorem dX5_choice_29 : decode cX5_choice 29 = .ok (.iload_n 2, 1) := by decide +kernel
theorem dX5_choice_30 : decode cX5_choice 30 = .ok (.ifCond .ge 10, 3) := by decide +kernel
theorem dX5_choice_33 : decode cX5_choice 33 = .ok (.aload_n 0, 1) := by decide +kernel
