theorem dX7_init_0 : decode cX7_init 0 = .ok (.aload_n 0, 1) := by decide +kernel
theorem dX7_init_1 : decode cX7_init 1 = .ok (.invokespecial 1, 3) := by decide +kernel
theorem dX7_init_4 : decode cX7_init 4 = .ok (.aload_n 0, 1) := by decide +kernel
theorem dX7_init_5 : decode cX7_init 5 = .ok (.bipush 24, 2) := by decide +kernel
theorem dX7_init_7 : decode cX7_init 7 = .ok (.newarray .int, 2) := by decide +kernel
theorem dX7_init_9 : decode cX7_init 9 = .ok (.putfield 7, 3) := by decide +kernel
theorem dX7_init_12 : decode cX7_init 12 = .ok (.aload_n 0, 1) := by decide +kernel
theorem dX7_init_13 : decode cX7_init 13 = .ok (.bipush 24, 2) := by decide +kernel
theorem dX7_init_15 : decode cX7_init 15 = .ok (.newarray .int, 2) := by decide +kernel
theorem dX7_init_17 : decode cX7_init 17 = .ok (.putfield 13, 3) := by decide +kernel
theorem dX7_init_20 : decode cX7_init 20 = .ok (.aload_n 0, 1) := by decide +kernel
theorem dX7_init_21 : decode cX7_init 21 = .ok (.bipush 24, 2) := by decide +kernel
theorem dX7_init_23 : decode cX7_init 23 = .ok (.newarray .int, 2) := by decide +kernel
theorem dX7_init_25 : decode cX7_init 25 = .ok (.putfield 16, 3) := by decide +kernel
theorem dX7_init_28 : decode cX7_init 28 = .ok (.aload_n 0, 1) := by decide +kernel
theorem dX7_init_29 : decode cX7_init 29 = .ok (.bipush 24, 2) := by decide +kernel
theorem dX7_init_31 : decode cX7_init 31 = .ok (.newarray .int, 2) := by decide +kernel
theorem dX7_init_33 : decode cX7_init 33 = .ok (.putfield 19, 3) := by decide +kernel
theorem dX7_init_36 : decode cX7_init 36 = .ok (.aload_n 0, 1) := by decide +kernel
theorem dX7_init_37 : decode cX7_init 37 = .ok (.bipush 24, 2) := by decide +kernel
theorem dX7_init_39 : decode cX7_init 39 = .ok (.newarray .boolean, 2) := by decide +kernel
theorem dX7_init_41 : decode cX7_init 41 = .ok (.putfield 22, 3) := by decide +kernel
theorem dX7_init_44 : decode cX7_init 44 = .ok (.aload_n 0, 1) := by decide +kernel
theorem dX7_init_45 : decode cX7_init 45 = .ok (.bipush 24, 2) := by decide +kernel
theorem dX7_init_47 : decode cX7_init 47 = .ok (.newarray .int, 2) := by decide +kernel
theorem dX7_init_49 : decode cX7_init 49 = .ok (.putfield 26, 3) := by decide +kernel
theorem dX7_init_52 : decode cX7_init 52 = .ok (.aload_n 0, 1) := by decide +kernel
theorem dX7_init_53 : decode cX7_init 53 = .ok (.bipush 24, 2) := by decide +kernel
theorem dX7_init_55 : decode cX7_init 55 = .ok (.newarray .int, 2) := by decide +kernel
theorem dX7_init_57 : decode cX7_init 57 = .ok (.putfield 29, 3) := by decide +kernel
theorem dX7_init_60 : decode cX7_init 60 = .ok (.aload_n 0, 1) := by decide +kernel
theorem dX7_init_61 : decode cX7_init 61 = .ok (.bipush 24, 2) := by decide +kernel
theorem dX7_init_63 : decode cX7_init 63 = .ok (.newarray .boolean, 2) := by decide +kernel
theorem dX7_init_65 : decode cX7_init 65 = .ok (.putfield 32, 3) := by decide +kernel
theorem dX7_init_68 : decode cX7_init 68 = .ok (.aload_n 0, 1) := by decide +kernel
theorem dX7_init_69 : decode cX7_init 69 = .ok (.bipush 24, 2) := by decide +kernel
theorem dX7_init_71 : decode cX7_init 71 = .ok (.newarray .int, 2) := by decide +kernel
theorem dX7_init_73 : decode cX7_init 73 = .ok (.putfield 35, 3) := by decide +kernel
theorem dX7_init_76 : decode cX7_init 76 = .ok (.aload_n 0, 1) := by decide +kernel
theorem dX7_init_77 : decode cX7_init 77 = .ok (.bipush 24, 2) := by decide +kernel
theorem dX7_init_79 : decode cX7_init 79 = .ok (.newarray .boolean, 2) := by decide +kernel
theorem dX7_init_81 : decode cX7_init 81 = .ok (.putfield 38, 3) := by decide +kernel
theorem dX7_init_84 : decode cX7_init 84 = .ok (.aload_n 0, 1) := by decide +kernel
theorem dX7_init_85 : decode cX7_init 85 = .ok (.bipush 24, 2) := by decide +kernel
theorem dX7_init_87 : decode cX7_init 87 = .ok (.newarray .int, 2) := by decide +kernel
theorem dX7_init_89 : decode cX7_init 89 = .ok (.putfield 41, 3) := by decide +kernel
theorem dX7_init_92 : decode cX7_init 92 = .ok (.aload_n 0, 1) := by decide +kernel
theorem dX7_init_93 : decode cX7_init 93 = .ok (.bipush 24, 2) := by decide +kernel
theorem dX7_init_95 : decode cX7_init 95 = .ok (.newarray .int, 2) := by decide +kernel
theorem dX7_init_97 : decode cX7_init 97 = .ok (.putfield 44, 3) := by decide +kernel
theorem dX7_init_100 : decode cX7_init 100 = .ok (.aload_n 0, 1) := by decide +kernel
theorem dX7_init_101 : decode cX7_init 101 = .ok (.bipush 24, 2) := by decide +kernel
theorem dX7_init_103 : decode cX7_init 103 = .ok (.newarray .int, 2) := by decide +kernel
theorem dX7_init_105 : decode cX7_init 105 = .ok (.putfield 47, 3) := by decide +kernel
theorem dX7_init_108 : decode cX7_init 108 = .ok (.aload_n 0, 1) := by decide +kernel
theorem dX7_init_109 : decode cX7_init 109 = .ok (.bipush 24, 2) := by decide +kernel
theorem dX7_init_111 : decode cX7_init 111 = .ok (.newarray .boolean, 2) := by decide +kernel
theorem dX7_init_113 : decode cX7_init 113 = .ok (.putfield 50, 3) := by decide +kernel
theorem dX7_init_116 : decode cX7_init 116 = .ok (.aload_n 0, 1) := by decide +kernel
theorem dX7_init_117 : decode cX7_init 117 = .ok (.bipush 24, 2) := by decide +kernel
theorem dX7_init_119 : decode cX7_init 119 = .ok (.newarray .boolean, 2) := by decide +kernel
theorem dX7_init_121 : decode cX7_init 121 = .ok (.putfield 53, 3) := by decide +kernel
theorem dX7_init_124 : decode cX7_init 124 = .ok (.aload_n 0, 1) := by decide +kernel
theorem dX7_init_125 : decode cX7_init 125 = .ok (.bipush 24, 2) := by decide +kernel
theorem dX7_init_127 : decode cX7_init 127 = .ok (.newarray .int, 2) := by decide +kernel
theorem dX7_init_129 : decode cX7_init 129 = .ok (.putfield 56, 3) := by decide +kernel
theorem dX7_init_132 : decode cX7_init 132 = .ok (.aload_n 0, 1) := by decide +kernel
theorem dX7_init_133 : decode cX7_init 133 = .ok (.bipush 24, 2) := by decide +kernel
theorem dX7_init_135 : decode cX7_init 135 = .ok (.newarray .int, 2) := by decide +kernel
theorem dX7_init_137 : decode cX7_init 137 = .ok (.putfield 59, 3) := by decide +kernel
theorem dX7_init_140 : decode cX7_init 140 = .ok (.aload_n 0, 1) := by decide +kernel
theorem dX7_init_141 : decode cX7_init 141 = .ok (.bipush 24, 2) := by decide +kernel
theorem dX7_init_143 : decode cX7_init 143 = .ok (.newarray .int, 2) := by decide +kernel
theorem dX7_init_145 : decode cX7_init 145 = .ok (.putfield 62, 3) := by decide +kernel
theorem dX7_init_148 : decode cX7_init 148 = .ok (.aload_n 0, 1) := by decide +kernel
theorem dX7_init_149 : decode cX7_init 149 = .ok (.bipush 24, 2) := by decide +kernel
theorem dX7_init_151 : decode cX7_init 151 = .ok (.newarray .boolean, 2) := by decide +kernel
theorem dX7_init_153 : decode cX7_init 153 = .ok (.putfield 65, 3) := by decide +kernel
theorem dX7_init_156 : decode cX7_init 156 = .ok (.aload_n 0, 1) := by decide +kernel
theorem dX7_init_157 : decode cX7_init 157 = .ok (.bipush 8, 2) := by decide +kernel
theorem dX7_init_159 : decode cX7_init 159 = .ok (.newarray .int, 2) := by decide +kernel
theorem dX7_init_161 : decode cX7_init 161 = .ok (.putfield 68, 3) := by decide +kernel
theorem dX7_init_164 : decode cX7_init 164 = .ok (.aload_n 0, 1) := by decide +kernel
theorem dX7_init_165 : decode cX7_init 165 = .ok (.bipush 8, 2) := by decide +kernel
theorem dX7_init_167 : decode cX7_init 167 = .ok (.newarray .int, 2) := by decide +kernel
theorem dX7_init_169 : decode cX7_init 169 = .ok (.putfield 71, 3) := by decide +kernel
theorem dX7_init_172 : decode cX7_init 172 = .ok (.aload_n 0, 1) := by decide +kernel
theorem dX7_init_173 : decode cX7_init 173 = .ok (.bipush 8, 2) := by decide +kernel
theorem dX7_init_175 : decode cX7_init 175 = .ok (.newarray .int, 2) := by decide +kernel
theorem dX7_init_177 : decode cX7_init 177 = .ok (.putfield 74, 3) := by decide +kernel
theorem dX7_init_180 : decode cX7_init 180 = .ok (.aload_n 0, 1) := by decide +kernel
theorem dX7_init_181 : decode cX7_init 181 = .ok (.bipush 8, 2) := by decide +kernel
theorem dX7_init_183 : decode cX7_init 183 = .ok (.newarray .boolean, 2) := by decide +kernel
theorem dX7_init_185 : decode cX7_init 185 = .ok (.putfield 77, 3) := by decide +kernel
theorem dX7_init_188 : decode cX7_init 188 = .ok (.aload_n 0, 1) := by decide +kernel
theorem dX7_init_189 : decode cX7_init 189 = .ok (.bipush 8, 2) := by decide +kernel
theorem dX7_init_191 : decode cX7_init 191 = .ok (.newarray .int, 2) := by decide +kernel
theorem dX7_init_193 : decode cX7_init 193 = .ok (.putfield 80, 3) := by decide +kernel
theorem dX7_init_196 : decode cX7_init 196 = .ok (.aload_n 0, 1) := by decide +kernel
theorem dX7_init_197 : decode cX7_init 197 = .ok (.bipush 40, 2) := by decide +kernel
theorem dX7_init_199 : decode cX7_init 199 = .ok (.newarray .int, 2) := by decide +kernel
theorem dX7_init_201 : decode cX7_init 201 = .ok (.putfield 83, 3) := by decide +kernel
theorem dX7_init_204 : decode cX7_init 204 = .ok (.aload_n 0, 1) := by decide +kernel
theorem dX7_init_205 : decode cX7_init 205 = .ok (.bipush 40, 2) := by decide +kernel
theorem dX7_init_207 : decode cX7_init 207 = .ok (.newarray .int, 2) := by decide +kernel
theorem dX7_init_209 : decode cX7_init 209 = .ok (.putfield 86, 3) := by decide +kernel
theorem dX7_init_212 : decode cX7_init 212 = .ok (.aload_n 0, 1) := by decide +kernel
theorem dX7_init_213 : decode cX7_init 213 = .ok (.bipush 40, 2) := by decide +kernel
theorem dX7_init_215 : decode cX7_init 215 = .ok (.newarray .boolean, 2) := by decide +kernel
theorem dX7_init_217 : decode cX7_init 217 = .ok (.putfield 89, 3) := by decide +kernel
theorem dX7_init_220 : decode cX7_init 220 = .ok (.aload_n 0, 1) := by decide +kernel
theorem dX7_init_221 : decode cX7_init 221 = .ok (.bipush 100, 2) := by decide +kernel
theorem dX7_init_223 : decode cX7_init 223 = .ok (.newarray .int, 2) := by decide +kernel
theorem dX7_init_225 : decode cX7_init 225 = .ok (.putfield 92, 3) := by decide +kernel
theorem dX7_init_228 : decode cX7_init 228 = .ok (.aload_n 0, 1) := by decide +kernel
theorem dX7_init_229 : decode cX7_init 229 = .ok (.bipush 100, 2) := by decide +kernel
theorem dX7_init_231 : decode cX7_init 231 = .ok (.newarray .int, 2) := by decide +kernel
theorem dX7_init_233 : decode cX7_init 233 = .ok (.putfield 95, 3) := by decide +kernel
theorem dX7_init_236 : decode cX7_init 236 = .ok (.aload_n 0, 1) := by decide +kernel
theorem dX7_init_237 : decode cX7_init 237 = .ok (.bipush 100, 2) := by decide +kernel
theorem dX7_init_239 : decode cX7_init 239 = .ok (.newarray .int, 2) := by decide +kernel
theorem dX7_init_241 : decode cX7_init 241 = .ok (.putfield 98, 3) := by decide +kernel
theorem dX7_init_244 : decode cX7_init 244 = .ok (.aload_n 0, 1) := by decide +kernel
theorem dX7_init_245 : decode cX7_init 245 = .ok (.bipush 8, 2) := by decide +kernel
theorem dX7_init_247 : decode cX7_init 247 = .ok (.newarray .int, 2) := by decide +kernel
theorem dX7_init_249 : decode cX7_init 249 = .ok (.putfield 101, 3) := by decide +kernel
theorem dX7_init_252 : decode cX7_init 252 = .ok (.aload_n 0, 1) := by decide +kernel
theorem dX7_init_253 : decode cX7_init 253 = .ok (.bipush 16, 2) := by decide +kernel
theorem dX7_init_255 : decode cX7_init 255 = .ok (.newarray .int, 2) := by decide +kernel
theorem dX7_init_257 : decode cX7_init 257 = .ok (.putfield 104, 3) := by decide +kernel
theorem dX7_init_260 : decode cX7_init 260 = .ok (.aload_n 0, 1) := by decide +kernel
theorem dX7_init_261 : decode cX7_init 261 = .ok (.bipush 16, 2) := by decide +kernel
theorem dX7_init_263 : decode cX7_init 263 = .ok (.newarray .int, 2) := by decide +kernel
theorem dX7_init_265 : decode cX7_init 265 = .ok (.putfield 107, 3) := by decide +kernel
theorem dX7_init_268 : decode cX7_init 268 = .ok (.aload_n 0, 1) := by decide +kernel
theorem dX7_init_269 : decode cX7_init 269 = .ok (.bipush 20, 2) := by decide +kernel
theorem dX7_init_271 : decode cX7_init 271 = .ok (.newarray .int, 2) := by decide +kernel
theorem dX7_init_273 : decode cX7_init 273 = .ok (.putfield 110, 3) := by decide +kernel
theorem dX7_init_276 : decode cX7_init 276 = .ok (.aload_n 0, 1) := by decide +kernel
theorem dX7_init_277 : decode cX7_init 277 = .ok (.bipush 20, 2) := by decide +kernel
theorem dX7_init_279 : decode cX7_init 279 = .ok (.newarray .int, 2) := by decide +kernel
theorem dX7_init_281 : decode cX7_init 281 = .ok (.putfield 113, 3) := by decide +kernel
theorem dX7_init_284 : decode cX7_init 284 = .ok (.aload_n 0, 1) := by decide +kernel
theorem dX7_init_285 : decode cX7_init 285 = .ok (.bipush 25, 2) := by decide +kernel
theorem dX7_init_287 : decode cX7_init 287 = .ok (.newarray .int, 2) := by decide +kernel
theorem dX7_init_289 : decode cX7_init 289 = .ok (.putfield 116, 3) := by decide +kernel
theorem dX7_init_292 : decode cX7_init 292 = .ok (.aload_n 0, 1) := by decide +kernel
theorem dX7_init_293 : decode cX7_init 293 = .ok (.bipush 25, 2) := by decide +kernel
theorem dX7_init_295 : decode cX7_init 295 = .ok (.newarray .int, 2) := by decide +kernel
theorem dX7_init_297 : decode cX7_init 297 = .ok (.putfield 119, 3) := by decide +kernel
theorem dX7_init_300 : decode cX7_init 300 = .ok (.iconst 0, 1) := by decide +kernel
theorem dX7_init_301 : decode cX7_init 301 = .ok (.istore_n 1, 1) := by decide +kernel
theorem dX7_init_302 : decode cX7_init 302 = .ok (.iload_n 1, 1) := by decide +kernel
theorem dX7_init_303 : decode cX7_init 303 = .ok (.bipush 24, 2) := by decide +kernel
theorem dX7_init_305 : decode cX7_init 305 = .ok (.if_icmp .ge 23, 3) := by decide +kernel
theorem dX7_init_308 : decode cX7_init 308 = .ok (.aload_n 0, 1) := by decide +kernel
theorem dX7_init_309 : decode cX7_init 309 = .ok (.getfield 35, 3) := by decide +kernel
theorem dX7_init_312 : decode cX7_init 312 = .ok (.iload_n 1, 1) := by decide +kernel
theorem dX7_init_313 : decode cX7_init 313 = .ok (.iconst (-1), 1) := by decide +kernel
theorem dX7_init_314 : decode cX7_init 314 = .ok (.iastore, 1) := by decide +kernel
theorem dX7_init_315 : decode cX7_init 315 = .ok (.aload_n 0, 1) := by decide +kernel
theorem dX7_init_316 : decode cX7_init 316 = .ok (.getfield 41, 3) := by decide +kernel
theorem dX7_init_319 : decode cX7_init 319 = .ok (.iload_n 1, 1) := by decide +kernel
theorem dX7_init_320 : decode cX7_init 320 = .ok (.iconst (-1), 1) := by decide +kernel
theorem dX7_init_321 : decode cX7_init 321 = .ok (.iastore, 1) := by decide +kernel
theorem dX7_init_322 : decode cX7_init 322 = .ok (.iinc 1 1, 3) := by decide +kernel
theorem dX7_init_325 : decode cX7_init 325 = .ok (.goto (-23), 3) := by decide +kernel
theorem dX7_init_328 : decode cX7_init 328 = .ok (.iconst 0, 1) := by decide +kernel
theorem dX7_init_329 : decode cX7_init 329 = .ok (.istore_n 1, 1) := by decide +kernel
theorem dX7_init_330 : decode cX7_init 330 = .ok (.iload_n 1, 1) := by decide +kernel
theorem dX7_init_331 : decode cX7_init 331 = .ok (.bipush 16, 2) := by decide +kernel
theorem dX7_init_333 : decode cX7_init 333 = .ok (.if_icmp .ge 16, 3) := by decide +kernel
theorem dX7_init_336 : decode cX7_init 336 = .ok (.aload_n 0, 1) := by decide +kernel
theorem dX7_init_337 : decode cX7_init 337 = .ok (.getfield 104, 3) := by decide +kernel
theorem dX7_init_340 : decode cX7_init 340 = .ok (.iload_n 1, 1) := by decide +kernel
theorem dX7_init_341 : decode cX7_init 341 = .ok (.iconst (-1), 1) := by decide +kernel
theorem dX7_init_342 : decode cX7_init 342 = .ok (.iastore, 1) := by decide +kernel
theorem dX7_init_343 : decode cX7_init 343 = .ok (.iinc 1 1, 3) := by decide +kernel
theorem dX7_init_346 : decode cX7_init 346 = .ok (.goto (-16), 3) := by decide +kernel
theorem dX7_init_349 : decode cX7_init 349 = .ok (.return_, 1) := by decide +kernel
theorem dX7_thrown_0 : decode cX7_thrown 0 = .ok (.aload_n 0, 1) := by decide +kernel
theorem dX7_thrown_1 : decode cX7_thrown 1 = .ok (.getfield 122, 3) := by decide +kernel
theorem dX7_thrown_4 : decode cX7_thrown 4 = .ok (.ireturn, 1) := by decide +kernel
theorem dX7_in_0 : decode cX7_in 0 = .ok (.iload_n 0, 1) := by decide +kernel
theorem dX7_in_1 : decode cX7_in 1 = .ok (.iload_n 1, 1) := by decide +kernel
theorem dX7_in_2 : decode cX7_in 2 = .ok (.if_icmp .lt 12, 3) := by decide +kernel
theorem dX7_in_5 : decode cX7_in 5 = .ok (.iload_n 0, 1) := by decide +kernel
theorem dX7_in_6 : decode cX7_in 6 = .ok (.iload_n 2, 1) := by decide +kernel
theorem dX7_in_7 : decode cX7_in 7 = .ok (.if_icmp .gt 7, 3) := by decide +kernel
theorem dX7_in_10 : decode cX7_in 10 = .ok (.iconst 1, 1) := by decide +kernel
theorem dX7_in_11 : decode cX7_in 11 = .ok (.goto 4, 3) := by decide +kernel
theorem dX7_in_14 : decode cX7_in 14 = .ok (.iconst 0, 1) := by decide +kernel
theorem dX7_in_15 : decode cX7_in 15 = .ok (.ireturn, 1) := by decide +kernel
theorem dX7_isDevice_0 : decode cX7_isDevice 0 = .ok (.iload_n 1, 1) := by decide +kernel
theorem dX7_isDevice_1 : decode cX7_isDevice 1 = .ok (.iconst 0, 1) := by decide +kernel
theorem dX7_isDevice_2 : decode cX7_isDevice 2 = .ok (.aload_n 0, 1) := by decide +kernel
theorem dX7_isDevice_3 : decode cX7_isDevice 3 = .ok (.getfield 126, 3) := by decide +kernel
theorem dX7_isDevice_6 : decode cX7_isDevice 6 = .ok (.iconst 1, 1) := by decide +kernel
theorem dX7_isDevice_7 : decode cX7_isDevice 7 = .ok (.isub, 1) := by decide +kernel
theorem dX7_isDevice_8 : decode cX7_isDevice 8 = .ok (.invokestatic 129, 3) := by decide +kernel
theorem dX7_isDevice_11 : decode cX7_isDevice 11 = .ok (.ireturn, 1) := by decide +kernel
theorem dX7_isBound_0 : decode cX7_isBound 0 = .ok (.aload_n 0, 1) := by decide +kernel
theorem dX7_isBound_1 : decode cX7_isBound 1 = .ok (.getfield 35, 3) := by decide +kernel
theorem dX7_isBound_4 : decode cX7_isBound 4 = .ok (.iload_n 1, 1) := by decide +kernel
theorem dX7_isBound_5 : decode cX7_isBound 5 = .ok (.iaload, 1) := by decide +kernel
theorem dX7_isBound_6 : decode cX7_isBound 6 = .ok (.iconst (-1), 1) := by decide +kernel
theorem dX7_isBound_7 : decode cX7_isBound 7 = .ok (.if_icmp .eq 7, 3) := by decide +kernel
theorem dX7_isBound_10 : decode cX7_isBound 10 = .ok (.iconst 1, 1) := by decide +kernel
theorem dX7_isBound_11 : decode cX7_isBound 11 = .ok (.goto 4, 3) := by decide +kernel
theorem dX7_isBound_14 : decode cX7_isBound 14 = .ok (.iconst 0, 1) := by decide +kernel
theorem dX7_isBound_15 : decode cX7_isBound 15 = .ok (.ireturn, 1) := by decide +kernel
theorem dX7_event_0 : decode cX7_event 0 = .ok (.aload_n 0, 1) := by decide +kernel
theorem dX7_event_1 : decode cX7_event 1 = .ok (.getfield 110, 3) := by decide +kernel
theorem dX7_event_4 : decode cX7_event 4 = .ok (.aload_n 0, 1) := by decide +kernel
theorem dX7_event_5 : decode cX7_event 5 = .ok (.getfield 133, 3) := by decide +kernel
theorem dX7_event_8 : decode cX7_event 8 = .ok (.bipush 20, 2) := by decide +kernel
theorem dX7_event_10 : decode cX7_event 10 = .ok (.irem, 1) := by decide +kernel
theorem dX7_event_11 : decode cX7_event 11 = .ok (.iload_n 1, 1) := by decide +kernel
theorem dX7_event_12 : decode cX7_event 12 = .ok (.iastore, 1) := by decide +kernel
theorem dX7_event_13 : decode cX7_event 13 = .ok (.aload_n 0, 1) := by decide +kernel
theorem dX7_event_14 : decode cX7_event 14 = .ok (.getfield 113, 3) := by decide +kernel
theorem dX7_event_17 : decode cX7_event 17 = .ok (.aload_n 0, 1) := by decide +kernel
theorem dX7_event_18 : decode cX7_event 18 = .ok (.getfield 133, 3) := by decide +kernel
theorem dX7_event_21 : decode cX7_event 21 = .ok (.bipush 20, 2) := by decide +kernel
theorem dX7_event_23 : decode cX7_event 23 = .ok (.irem, 1) := by decide +kernel
theorem dX7_event_24 : decode cX7_event 24 = .ok (.iload_n 2, 1) := by decide +kernel
theorem dX7_event_25 : decode cX7_event 25 = .ok (.iastore, 1) := by decide +kernel
theorem dX7_event_26 : decode cX7_event 26 = .ok (.aload_n 0, 1) := by decide +kernel
theorem dX7_event_27 : decode cX7_event 27 = .ok (.dup, 1) := by decide +kernel
theorem dX7_event_28 : decode cX7_event 28 = .ok (.getfield 133, 3) := by decide +kernel
theorem dX7_event_31 : decode cX7_event 31 = .ok (.iconst 1, 1) := by decide +kernel
theorem dX7_event_32 : decode cX7_event 32 = .ok (.iadd, 1) := by decide +kernel
theorem dX7_event_33 : decode cX7_event 33 = .ok (.putfield 133, 3) := by decide +kernel
theorem dX7_event_36 : decode cX7_event 36 = .ok (.return_, 1) := by decide +kernel
theorem dX7_driverFor_0 : decode cX7_driverFor 0 = .ok (.iconst (-1), 1) := by decide +kernel
theorem dX7_driverFor_1 : decode cX7_driverFor 1 = .ok (.istore_n 2, 1) := by decide +kernel
theorem dX7_driverFor_2 : decode cX7_driverFor 2 = .ok (.iconst 0, 1) := by decide +kernel
theorem dX7_driverFor_3 : decode cX7_driverFor 3 = .ok (.istore_n 3, 1) := by decide +kernel
theorem dX7_driverFor_4 : decode cX7_driverFor 4 = .ok (.iload_n 3, 1) := by decide +kernel
theorem dX7_driverFor_5 : decode cX7_driverFor 5 = .ok (.aload_n 0, 1) := by decide +kernel
theorem dX7_driverFor_6 : decode cX7_driverFor 6 = .ok (.getfield 136, 3) := by decide +kernel
theorem dX7_driverFor_9 : decode cX7_driverFor 9 = .ok (.if_icmp .ge 61, 3) := by decide +kernel
theorem dX7_driverFor_12 : decode cX7_driverFor 12 = .ok (.aload_n 0, 1) := by decide +kernel
theorem dX7_driverFor_13 : decode cX7_driverFor 13 = .ok (.getfield 68, 3) := by decide +kernel
theorem dX7_driverFor_16 : decode cX7_driverFor 16 = .ok (.iload_n 3, 1) := by decide +kernel
theorem dX7_driverFor_17 : decode cX7_driverFor 17 = .ok (.iaload, 1) := by decide +kernel
theorem dX7_driverFor_18 : decode cX7_driverFor 18 = .ok (.iload_n 1, 1) := by decide +kernel
theorem dX7_driverFor_19 : decode cX7_driverFor 19 = .ok (.ishr, 1) := by decide +kernel
theorem dX7_driverFor_20 : decode cX7_driverFor 20 = .ok (.iconst 1, 1) := by decide +kernel
theorem dX7_driverFor_21 : decode cX7_driverFor 21 = .ok (.iand, 1) := by decide +kernel
theorem dX7_driverFor_22 : decode cX7_driverFor 22 = .ok (.iconst 1, 1) := by decide +kernel
theorem dX7_driverFor_23 : decode cX7_driverFor 23 = .ok (.if_icmp .ne 7, 3) := by decide +kernel
theorem dX7_driverFor_26 : decode cX7_driverFor 26 = .ok (.iconst 1, 1) := by decide +kernel
theorem dX7_driverFor_27 : decode cX7_driverFor 27 = .ok (.goto 4, 3) := by decide +kernel
theorem dX7_driverFor_30 : decode cX7_driverFor 30 = .ok (.iconst 0, 1) := by decide +kernel
theorem dX7_driverFor_31 : decode cX7_driverFor 31 = .ok (.istore 4, 2) := by decide +kernel
theorem dX7_driverFor_33 : decode cX7_driverFor 33 = .ok (.iload 4, 2) := by decide +kernel
theorem dX7_driverFor_35 : decode cX7_driverFor 35 = .ok (.ifCond .eq 27, 3) := by decide +kernel
theorem dX7_driverFor_38 : decode cX7_driverFor 38 = .ok (.iload_n 2, 1) := by decide +kernel
theorem dX7_driverFor_39 : decode cX7_driverFor 39 = .ok (.iconst (-1), 1) := by decide +kernel
theorem dX7_driverFor_40 : decode cX7_driverFor 40 = .ok (.if_icmp .eq 18, 3) := by decide +kernel
theorem dX7_driverFor_43 : decode cX7_driverFor 43 = .ok (.aload_n 0, 1) := by decide +kernel
theorem dX7_driverFor_44 : decode cX7_driverFor 44 = .ok (.getfield 71, 3) := by decide +kernel
theorem dX7_driverFor_47 : decode cX7_driverFor 47 = .ok (.iload_n 3, 1) := by decide +kernel
theorem dX7_driverFor_48 : decode cX7_driverFor 48 = .ok (.iaload, 1) := by decide +kernel
theorem dX7_driverFor_49 : decode cX7_driverFor 49 = .ok (.aload_n 0, 1) := by decide +kernel
theorem dX7_driverFor_50 : decode cX7_driverFor 50 = .ok (.getfield 71, 3) := by decide +kernel
theorem dX7_driverFor_53 : decode cX7_driverFor 53 = .ok (.iload_n 2, 1) := by decide +kernel
theorem dX7_driverFor_54 : decode cX7_driverFor 54 = .ok (.iaload, 1) := by decide +kernel
theorem dX7_driverFor_55 : decode cX7_driverFor 55 = .ok (.if_icmp .le 7, 3) := by decide +kernel
theorem dX7_driverFor_58 : decode cX7_driverFor 58 = .ok (.iload_n 3, 1) := by decide +kernel
theorem dX7_driverFor_59 : decode cX7_driverFor 59 = .ok (.goto 4, 3) := by decide +kernel
theorem dX7_driverFor_62 : decode cX7_driverFor 62 = .ok (.iload_n 2, 1) := by decide +kernel
theorem dX7_driverFor_63 : decode cX7_driverFor 63 = .ok (.istore_n 2, 1) := by decide +kernel
theorem dX7_driverFor_64 : decode cX7_driverFor 64 = .ok (.iinc 3 1, 3) := by decide +kernel
theorem dX7_driverFor_67 : decode cX7_driverFor 67 = .ok (.goto (-63), 3) := by decide +kernel
theorem dX7_driverFor_70 : decode cX7_driverFor 70 = .ok (.iload_n 2, 1) := by decide +kernel
theorem dX7_driverFor_71 : decode cX7_driverFor 71 = .ok (.ireturn, 1) := by decide +kernel
theorem dX7_spaceOf_0 : decode cX7_spaceOf 0 = .ok (.aload_n 0, 1) := by decide +kernel
theorem dX7_spaceOf_1 : decode cX7_spaceOf 1 = .ok (.getfield 7, 3) := by decide +kernel
theorem dX7_spaceOf_4 : decode cX7_spaceOf 4 = .ok (.iload_n 1, 1) := by decide +kernel
theorem dX7_spaceOf_5 : decode cX7_spaceOf 5 = .ok (.iaload, 1) := by decide +kernel
theorem dX7_spaceOf_6 : decode cX7_spaceOf 6 = .ok (.istore_n 2, 1) := by decide +kernel
theorem dX7_spaceOf_7 : decode cX7_spaceOf 7 = .ok (.iload_n 2, 1) := by decide +kernel
theorem dX7_spaceOf_8 : decode cX7_spaceOf 8 = .ok (.iconst (-1), 1) := by decide +kernel
theorem dX7_spaceOf_9 : decode cX7_spaceOf 9 = .ok (.if_icmp .eq 22, 3) := by decide +kernel
theorem dX7_spaceOf_12 : decode cX7_spaceOf 12 = .ok (.aload_n 0, 1) := by decide +kernel
theorem dX7_spaceOf_13 : decode cX7_spaceOf 13 = .ok (.getfield 16, 3) := by decide +kernel
theorem dX7_spaceOf_16 : decode cX7_spaceOf 16 = .ok (.iload_n 2, 1) := by decide +kernel
theorem dX7_spaceOf_17 : decode cX7_spaceOf 17 = .ok (.iaload, 1) := by decide +kernel
theorem dX7_spaceOf_18 : decode cX7_spaceOf 18 = .ok (.ifCond .ne 13, 3) := by decide +kernel
theorem dX7_spaceOf_21 : decode cX7_spaceOf 21 = .ok (.aload_n 0, 1) := by decide +kernel
theorem dX7_spaceOf_22 : decode cX7_spaceOf 22 = .ok (.getfield 7, 3) := by decide +kernel
theorem dX7_spaceOf_25 : decode cX7_spaceOf 25 = .ok (.iload_n 2, 1) := by decide +kernel
theorem dX7_spaceOf_26 : decode cX7_spaceOf 26 = .ok (.iaload, 1) := by decide +kernel
theorem dX7_spaceOf_27 : decode cX7_spaceOf 27 = .ok (.istore_n 2, 1) := by decide +kernel
theorem dX7_spaceOf_28 : decode cX7_spaceOf 28 = .ok (.goto (-21), 3) := by decide +kernel
theorem dX7_spaceOf_31 : decode cX7_spaceOf 31 = .ok (.iload_n 2, 1) := by decide +kernel
theorem dX7_spaceOf_32 : decode cX7_spaceOf 32 = .ok (.ireturn, 1) := by decide +kernel
theorem dX7_isRoom_0 : decode cX7_isRoom 0 = .ok (.iconst 1, 1) := by decide +kernel
theorem dX7_isRoom_1 : decode cX7_isRoom 1 = .ok (.istore_n 3, 1) := by decide +kernel
theorem dX7_isRoom_2 : decode cX7_isRoom 2 = .ok (.iconst 0, 1) := by decide +kernel
theorem dX7_isRoom_3 : decode cX7_isRoom 3 = .ok (.istore 4, 2) := by decide +kernel
theorem dX7_isRoom_5 : decode cX7_isRoom 5 = .ok (.iload 4, 2) := by decide +kernel
theorem dX7_isRoom_7 : decode cX7_isRoom 7 = .ok (.aload_n 0, 1) := by decide +kernel
theorem dX7_isRoom_8 : decode cX7_isRoom 8 = .ok (.getfield 126, 3) := by decide +kernel
theorem dX7_isRoom_11 : decode cX7_isRoom 11 = .ok (.if_icmp .ge 107, 3) := by decide +kernel
theorem dX7_isRoom_14 : decode cX7_isRoom 14 = .ok (.iload 4, 2) := by decide +kernel
theorem dX7_isRoom_16 : decode cX7_isRoom 16 = .ok (.iload_n 1, 1) := by decide +kernel
theorem dX7_isRoom_17 : decode cX7_isRoom 17 = .ok (.if_icmp .eq 77, 3) := by decide +kernel
theorem dX7_isRoom_20 : decode cX7_isRoom 20 = .ok (.aload_n 0, 1) := by decide +kernel
theorem dX7_isRoom_21 : decode cX7_isRoom 21 = .ok (.iload 4, 2) := by decide +kernel
theorem dX7_isRoom_23 : decode cX7_isRoom 23 = .ok (.invokevirtual 139, 3) := by decide +kernel
theorem dX7_isRoom_26 : decode cX7_isRoom 26 = .ok (.ifCond .eq 68, 3) := by decide +kernel
theorem dX7_isRoom_29 : decode cX7_isRoom 29 = .ok (.aload_n 0, 1) := by decide +kernel
theorem dX7_isRoom_30 : decode cX7_isRoom 30 = .ok (.getfield 16, 3) := by decide +kernel
theorem dX7_isRoom_33 : decode cX7_isRoom 33 = .ok (.iload 4, 2) := by decide +kernel
theorem dX7_isRoom_35 : decode cX7_isRoom 35 = .ok (.iaload, 1) := by decide +kernel
theorem dX7_isRoom_36 : decode cX7_isRoom 36 = .ok (.ifCond .le 58, 3) := by decide +kernel
theorem dX7_isRoom_39 : decode cX7_isRoom 39 = .ok (.aload_n 0, 1) := by decide +kernel
theorem dX7_isRoom_40 : decode cX7_isRoom 40 = .ok (.iload 4, 2) := by decide +kernel
theorem dX7_isRoom_42 : decode cX7_isRoom 42 = .ok (.invokevirtual 143, 3) := by decide +kernel
theorem dX7_isRoom_45 : decode cX7_isRoom 45 = .ok (.aload_n 0, 1) := by decide +kernel
theorem dX7_isRoom_46 : decode cX7_isRoom 46 = .ok (.iload_n 1, 1) := by decide +kernel
theorem dX7_isRoom_47 : decode cX7_isRoom 47 = .ok (.invokevirtual 143, 3) := by decide +kernel
theorem dX7_isRoom_50 : decode cX7_isRoom 50 = .ok (.if_icmp .ne 44, 3) := by decide +kernel
theorem dX7_isRoom_53 : decode cX7_isRoom 53 = .ok (.iload_n 2, 1) := by decide +kernel
theorem dX7_isRoom_54 : decode cX7_isRoom 54 = .ok (.aload_n 0, 1) := by decide +kernel
theorem dX7_isRoom_55 : decode cX7_isRoom 55 = .ok (.getfield 41, 3) := by decide +kernel
theorem dX7_isRoom_58 : decode cX7_isRoom 58 = .ok (.iload 4, 2) := by decide +kernel
theorem dX7_isRoom_60 : decode cX7_isRoom 60 = .ok (.iaload, 1) := by decide +kernel
theorem dX7_isRoom_61 : decode cX7_isRoom 61 = .ok (.aload_n 0, 1) := by decide +kernel
theorem dX7_isRoom_62 : decode cX7_isRoom 62 = .ok (.getfield 16, 3) := by decide +kernel
theorem dX7_isRoom_65 : decode cX7_isRoom 65 = .ok (.iload 4, 2) := by decide +kernel
theorem dX7_isRoom_67 : decode cX7_isRoom 67 = .ok (.iaload, 1) := by decide +kernel
theorem dX7_isRoom_68 : decode cX7_isRoom 68 = .ok (.iadd, 1) := by decide +kernel
theorem dX7_isRoom_69 : decode cX7_isRoom 69 = .ok (.if_icmp .ge 25, 3) := by decide +kernel
theorem dX7_isRoom_72 : decode cX7_isRoom 72 = .ok (.aload_n 0, 1) := by decide +kernel
theorem dX7_isRoom_73 : decode cX7_isRoom 73 = .ok (.getfield 41, 3) := by decide +kernel
theorem dX7_isRoom_76 : decode cX7_isRoom 76 = .ok (.iload 4, 2) := by decide +kernel
theorem dX7_isRoom_78 : decode cX7_isRoom 78 = .ok (.iaload, 1) := by decide +kernel
theorem dX7_isRoom_79 : decode cX7_isRoom 79 = .ok (.iload_n 2, 1) := by decide +kernel
theorem dX7_isRoom_80 : decode cX7_isRoom 80 = .ok (.aload_n 0, 1) := by decide +kernel
theorem dX7_isRoom_81 : decode cX7_isRoom 81 = .ok (.getfield 16, 3) := by decide +kernel
theorem dX7_isRoom_84 : decode cX7_isRoom 84 = .ok (.iload_n 1, 1) := by decide +kernel
theorem dX7_isRoom_85 : decode cX7_isRoom 85 = .ok (.iaload, 1) := by decide +kernel
theorem dX7_isRoom_86 : decode cX7_isRoom 86 = .ok (.iadd, 1) := by decide +kernel
theorem dX7_isRoom_87 : decode cX7_isRoom 87 = .ok (.if_icmp .ge 7, 3) := by decide +kernel
theorem dX7_isRoom_90 : decode cX7_isRoom 90 = .ok (.iconst 1, 1) := by decide +kernel
theorem dX7_isRoom_91 : decode cX7_isRoom 91 = .ok (.goto 4, 3) := by decide +kernel
theorem dX7_isRoom_94 : decode cX7_isRoom 94 = .ok (.iconst 0, 1) := by decide +kernel
theorem dX7_isRoom_95 : decode cX7_isRoom 95 = .ok (.istore 5, 2) := by decide +kernel
theorem dX7_isRoom_97 : decode cX7_isRoom 97 = .ok (.iload_n 3, 1) := by decide +kernel
theorem dX7_isRoom_98 : decode cX7_isRoom 98 = .ok (.ifCond .eq 12, 3) := by decide +kernel
theorem dX7_isRoom_101 : decode cX7_isRoom 101 = .ok (.iload 5, 2) := by decide +kernel
theorem dX7_isRoom_103 : decode cX7_isRoom 103 = .ok (.ifCond .ne 7, 3) := by decide +kernel
theorem dX7_isRoom_106 : decode cX7_isRoom 106 = .ok (.iconst 1, 1) := by decide +kernel
theorem dX7_isRoom_107 : decode cX7_isRoom 107 = .ok (.goto 4, 3) := by decide +kernel
theorem dX7_isRoom_110 : decode cX7_isRoom 110 = .ok (.iconst 0, 1) := by decide +kernel
theorem dX7_isRoom_111 : decode cX7_isRoom 111 = .ok (.istore_n 3, 1) := by decide +kernel
theorem dX7_isRoom_112 : decode cX7_isRoom 112 = .ok (.iinc 4 1, 3) := by decide +kernel
theorem dX7_isRoom_115 : decode cX7_isRoom 115 = .ok (.goto (-110), 3) := by decide +kernel
theorem dX7_isRoom_118 : decode cX7_isRoom 118 = .ok (.iload_n 3, 1) := by decide +kernel
theorem dX7_isRoom_119 : decode cX7_isRoom 119 = .ok (.ireturn, 1) := by decide +kernel
theorem dX7_roomFor_0 : decode cX7_roomFor 0 = .ok (.aload_n 0, 1) := by decide +kernel
theorem dX7_roomFor_1 : decode cX7_roomFor 1 = .ok (.iload_n 1, 1) := by decide +kernel
theorem dX7_roomFor_2 : decode cX7_roomFor 2 = .ok (.invokevirtual 143, 3) := by decide +kernel
theorem dX7_roomFor_5 : decode cX7_roomFor 5 = .ok (.istore_n 2, 1) := by decide +kernel
theorem dX7_roomFor_6 : decode cX7_roomFor 6 = .ok (.iload_n 2, 1) := by decide +kernel
theorem dX7_roomFor_7 : decode cX7_roomFor 7 = .ok (.iconst (-1), 1) := by decide +kernel
theorem dX7_roomFor_8 : decode cX7_roomFor 8 = .ok (.if_icmp .ne 7, 3) := by decide +kernel
theorem dX7_roomFor_11 : decode cX7_roomFor 11 = .ok (.iconst 0, 1) := by decide +kernel
theorem dX7_roomFor_12 : decode cX7_roomFor 12 = .ok (.goto 9, 3) := by decide +kernel
theorem dX7_roomFor_15 : decode cX7_roomFor 15 = .ok (.aload_n 0, 1) := by decide +kernel
theorem dX7_roomFor_16 : decode cX7_roomFor 16 = .ok (.getfield 41, 3) := by decide +kernel
theorem dX7_roomFor_19 : decode cX7_roomFor 19 = .ok (.iload_n 2, 1) := by decide +kernel
theorem dX7_roomFor_20 : decode cX7_roomFor 20 = .ok (.iaload, 1) := by decide +kernel
theorem dX7_roomFor_21 : decode cX7_roomFor 21 = .ok (.istore_n 3, 1) := by decide +kernel
theorem dX7_roomFor_22 : decode cX7_roomFor 22 = .ok (.iload_n 2, 1) := by decide +kernel
theorem dX7_roomFor_23 : decode cX7_roomFor 23 = .ok (.iconst (-1), 1) := by decide +kernel
theorem dX7_roomFor_24 : decode cX7_roomFor 24 = .ok (.if_icmp .ne 8, 3) := by decide +kernel
theorem dX7_roomFor_27 : decode cX7_roomFor 27 = .ok (.bipush 64, 2) := by decide +kernel
theorem dX7_roomFor_29 : decode cX7_roomFor 29 = .ok (.goto 16, 3) := by decide +kernel
theorem dX7_roomFor_32 : decode cX7_roomFor 32 = .ok (.aload_n 0, 1) := by decide +kernel
theorem dX7_roomFor_33 : decode cX7_roomFor 33 = .ok (.getfield 41, 3) := by decide +kernel
theorem dX7_roomFor_36 : decode cX7_roomFor 36 = .ok (.iload_n 2, 1) := by decide +kernel
theorem dX7_roomFor_37 : decode cX7_roomFor 37 = .ok (.iaload, 1) := by decide +kernel
theorem dX7_roomFor_38 : decode cX7_roomFor 38 = .ok (.aload_n 0, 1) := by decide +kernel
theorem dX7_roomFor_39 : decode cX7_roomFor 39 = .ok (.getfield 16, 3) := by decide +kernel
theorem dX7_roomFor_42 : decode cX7_roomFor 42 = .ok (.iload_n 2, 1) := by decide +kernel
theorem dX7_roomFor_43 : decode cX7_roomFor 43 = .ok (.iaload, 1) := by decide +kernel
theorem dX7_roomFor_44 : decode cX7_roomFor 44 = .ok (.iadd, 1) := by decide +kernel
theorem dX7_roomFor_45 : decode cX7_roomFor 45 = .ok (.istore 4, 2) := by decide +kernel
theorem dX7_roomFor_47 : decode cX7_roomFor 47 = .ok (.iconst 0, 1) := by decide +kernel
theorem dX7_roomFor_48 : decode cX7_roomFor 48 = .ok (.istore 5, 2) := by decide +kernel
theorem dX7_roomFor_50 : decode cX7_roomFor 50 = .ok (.iload 5, 2) := by decide +kernel
theorem dX7_roomFor_52 : decode cX7_roomFor 52 = .ok (.aload_n 0, 1) := by decide +kernel
theorem dX7_roomFor_53 : decode cX7_roomFor 53 = .ok (.getfield 16, 3) := by decide +kernel
theorem dX7_roomFor_56 : decode cX7_roomFor 56 = .ok (.iload_n 1, 1) := by decide +kernel
theorem dX7_roomFor_57 : decode cX7_roomFor 57 = .ok (.iaload, 1) := by decide +kernel
theorem dX7_roomFor_58 : decode cX7_roomFor 58 = .ok (.iadd, 1) := by decide +kernel
theorem dX7_roomFor_59 : decode cX7_roomFor 59 = .ok (.iload 4, 2) := by decide +kernel
theorem dX7_roomFor_61 : decode cX7_roomFor 61 = .ok (.if_icmp .gt 36, 3) := by decide +kernel
theorem dX7_roomFor_64 : decode cX7_roomFor 64 = .ok (.iload 5, 2) := by decide +kernel
theorem dX7_roomFor_66 : decode cX7_roomFor 66 = .ok (.iload_n 3, 1) := by decide +kernel
theorem dX7_roomFor_67 : decode cX7_roomFor 67 = .ok (.if_icmp .lt 16, 3) := by decide +kernel
theorem dX7_roomFor_70 : decode cX7_roomFor 70 = .ok (.aload_n 0, 1) := by decide +kernel
theorem dX7_roomFor_71 : decode cX7_roomFor 71 = .ok (.iload_n 1, 1) := by decide +kernel
theorem dX7_roomFor_72 : decode cX7_roomFor 72 = .ok (.iload 5, 2) := by decide +kernel
theorem dX7_roomFor_74 : decode cX7_roomFor 74 = .ok (.invokevirtual 147, 3) := by decide +kernel
theorem dX7_roomFor_77 : decode cX7_roomFor 77 = .ok (.ifCond .eq 6, 3) := by decide +kernel
theorem dX7_roomFor_80 : decode cX7_roomFor 80 = .ok (.iload 5, 2) := by decide +kernel
theorem dX7_roomFor_82 : decode cX7_roomFor 82 = .ok (.ireturn, 1) := by decide +kernel
theorem dX7_roomFor_83 : decode cX7_roomFor 83 = .ok (.iload 5, 2) := by decide +kernel
theorem dX7_roomFor_85 : decode cX7_roomFor 85 = .ok (.aload_n 0, 1) := by decide +kernel
theorem dX7_roomFor_86 : decode cX7_roomFor 86 = .ok (.getfield 16, 3) := by decide +kernel
theorem dX7_roomFor_89 : decode cX7_roomFor 89 = .ok (.iload_n 1, 1) := by decide +kernel
theorem dX7_roomFor_90 : decode cX7_roomFor 90 = .ok (.iaload, 1) := by decide +kernel
theorem dX7_roomFor_91 : decode cX7_roomFor 91 = .ok (.iadd, 1) := by decide +kernel
theorem dX7_roomFor_92 : decode cX7_roomFor 92 = .ok (.istore 5, 2) := by decide +kernel
theorem dX7_roomFor_94 : decode cX7_roomFor 94 = .ok (.goto (-44), 3) := by decide +kernel
theorem dX7_roomFor_97 : decode cX7_roomFor 97 = .ok (.iconst (-1), 1) := by decide +kernel
theorem dX7_roomFor_98 : decode cX7_roomFor 98 = .ok (.ireturn, 1) := by decide +kernel
theorem dX7_isLineFree_0 : decode cX7_isLineFree 0 = .ok (.iconst 1, 1) := by decide +kernel
theorem dX7_isLineFree_1 : decode cX7_isLineFree 1 = .ok (.istore_n 2, 1) := by decide +kernel
theorem dX7_isLineFree_2 : decode cX7_isLineFree 2 = .ok (.iconst 0, 1) := by decide +kernel
theorem dX7_isLineFree_3 : decode cX7_isLineFree 3 = .ok (.istore_n 3, 1) := by decide +kernel
theorem dX7_isLineFree_4 : decode cX7_isLineFree 4 = .ok (.iload_n 3, 1) := by decide +kernel
theorem dX7_isLineFree_5 : decode cX7_isLineFree 5 = .ok (.aload_n 0, 1) := by decide +kernel
theorem dX7_isLineFree_6 : decode cX7_isLineFree 6 = .ok (.getfield 126, 3) := by decide +kernel
theorem dX7_isLineFree_9 : decode cX7_isLineFree 9 = .ok (.if_icmp .ge 60, 3) := by decide +kernel
theorem dX7_isLineFree_12 : decode cX7_isLineFree 12 = .ok (.iload_n 2, 1) := by decide +kernel
theorem dX7_isLineFree_13 : decode cX7_isLineFree 13 = .ok (.ifCond .eq 48, 3) := by decide +kernel
theorem dX7_isLineFree_16 : decode cX7_isLineFree 16 = .ok (.aload_n 0, 1) := by decide +kernel
theorem dX7_isLineFree_17 : decode cX7_isLineFree 17 = .ok (.iload_n 3, 1) := by decide +kernel
theorem dX7_isLineFree_18 : decode cX7_isLineFree 18 = .ok (.invokevirtual 139, 3) := by decide +kernel
theorem dX7_isLineFree_21 : decode cX7_isLineFree 21 = .ok (.ifCond .eq 36, 3) := by decide +kernel
theorem dX7_isLineFree_24 : decode cX7_isLineFree 24 = .ok (.aload_n 0, 1) := by decide +kernel
theorem dX7_isLineFree_25 : decode cX7_isLineFree 25 = .ok (.getfield 19, 3) := by decide +kernel
theorem dX7_isLineFree_28 : decode cX7_isLineFree 28 = .ok (.iload_n 3, 1) := by decide +kernel
theorem dX7_isLineFree_29 : decode cX7_isLineFree 29 = .ok (.iaload, 1) := by decide +kernel
theorem dX7_isLineFree_30 : decode cX7_isLineFree 30 = .ok (.aload_n 0, 1) := by decide +kernel
theorem dX7_isLineFree_31 : decode cX7_isLineFree 31 = .ok (.getfield 19, 3) := by decide +kernel
theorem dX7_isLineFree_34 : decode cX7_isLineFree 34 = .ok (.iload_n 1, 1) := by decide +kernel
theorem dX7_isLineFree_35 : decode cX7_isLineFree 35 = .ok (.iaload, 1) := by decide +kernel
theorem dX7_isLineFree_36 : decode cX7_isLineFree 36 = .ok (.if_icmp .ne 21, 3) := by decide +kernel
theorem dX7_isLineFree_39 : decode cX7_isLineFree 39 = .ok (.aload_n 0, 1) := by decide +kernel
theorem dX7_isLineFree_40 : decode cX7_isLineFree 40 = .ok (.getfield 22, 3) := by decide +kernel
theorem dX7_isLineFree_43 : decode cX7_isLineFree 43 = .ok (.iload_n 3, 1) := by decide +kernel
theorem dX7_isLineFree_44 : decode cX7_isLineFree 44 = .ok (.baload, 1) := by decide +kernel
theorem dX7_isLineFree_45 : decode cX7_isLineFree 45 = .ok (.ifCond .eq 16, 3) := by decide +kernel
theorem dX7_isLineFree_48 : decode cX7_isLineFree 48 = .ok (.aload_n 0, 1) := by decide +kernel
theorem dX7_isLineFree_49 : decode cX7_isLineFree 49 = .ok (.getfield 22, 3) := by decide +kernel
theorem dX7_isLineFree_52 : decode cX7_isLineFree 52 = .ok (.iload_n 1, 1) := by decide +kernel
theorem dX7_isLineFree_53 : decode cX7_isLineFree 53 = .ok (.baload, 1) := by decide +kernel
theorem dX7_isLineFree_54 : decode cX7_isLineFree 54 = .ok (.ifCond .eq 7, 3) := by decide +kernel
theorem dX7_isLineFree_57 : decode cX7_isLineFree 57 = .ok (.iconst 1, 1) := by decide +kernel
theorem dX7_isLineFree_58 : decode cX7_isLineFree 58 = .ok (.goto 4, 3) := by decide +kernel
theorem dX7_isLineFree_61 : decode cX7_isLineFree 61 = .ok (.iconst 0, 1) := by decide +kernel
theorem dX7_isLineFree_62 : decode cX7_isLineFree 62 = .ok (.istore_n 2, 1) := by decide +kernel
theorem dX7_isLineFree_63 : decode cX7_isLineFree 63 = .ok (.iinc 3 1, 3) := by decide +kernel
theorem dX7_isLineFree_66 : decode cX7_isLineFree 66 = .ok (.goto (-62), 3) := by decide +kernel
theorem dX7_isLineFree_69 : decode cX7_isLineFree 69 = .ok (.iload_n 2, 1) := by decide +kernel
theorem dX7_isLineFree_70 : decode cX7_isLineFree 70 = .ok (.ifCond .ne 13, 3) := by decide +kernel
theorem dX7_isLineFree_73 : decode cX7_isLineFree 73 = .ok (.aload_n 0, 1) := by decide +kernel
theorem dX7_isLineFree_74 : decode cX7_isLineFree 74 = .ok (.getfield 19, 3) := by decide +kernel
theorem dX7_isLineFree_77 : decode cX7_isLineFree 77 = .ok (.iload_n 1, 1) := by decide +kernel
theorem dX7_isLineFree_78 : decode cX7_isLineFree 78 = .ok (.iaload, 1) := by decide +kernel
theorem dX7_isLineFree_79 : decode cX7_isLineFree 79 = .ok (.iconst (-1), 1) := by decide +kernel
theorem dX7_isLineFree_80 : decode cX7_isLineFree 80 = .ok (.if_icmp .ne 7, 3) := by decide +kernel
theorem dX7_isLineFree_83 : decode cX7_isLineFree 83 = .ok (.iconst 1, 1) := by decide +kernel
theorem dX7_isLineFree_84 : decode cX7_isLineFree 84 = .ok (.goto 4, 3) := by decide +kernel
theorem dX7_isLineFree_87 : decode cX7_isLineFree 87 = .ok (.iconst 0, 1) := by decide +kernel
theorem dX7_isLineFree_88 : decode cX7_isLineFree 88 = .ok (.ireturn, 1) := by decide +kernel
theorem dX7_isOpen_0 : decode cX7_isOpen 0 = .ok (.iload_n 1, 1) := by decide +kernel
theorem dX7_isOpen_1 : decode cX7_isOpen 1 = .ok (.iconst (-1), 1) := by decide +kernel
theorem dX7_isOpen_2 : decode cX7_isOpen 2 = .ok (.if_icmp .eq 11, 3) := by decide +kernel
theorem dX7_isOpen_5 : decode cX7_isOpen 5 = .ok (.aload_n 0, 1) := by decide +kernel
theorem dX7_isOpen_6 : decode cX7_isOpen 6 = .ok (.iload_n 1, 1) := by decide +kernel
theorem dX7_isOpen_7 : decode cX7_isOpen 7 = .ok (.invokevirtual 139, 3) := by decide +kernel
theorem dX7_isOpen_10 : decode cX7_isOpen 10 = .ok (.ifCond .eq 7, 3) := by decide +kernel
theorem dX7_isOpen_13 : decode cX7_isOpen 13 = .ok (.iconst 1, 1) := by decide +kernel
theorem dX7_isOpen_14 : decode cX7_isOpen 14 = .ok (.goto 4, 3) := by decide +kernel
theorem dX7_isOpen_17 : decode cX7_isOpen 17 = .ok (.iconst 0, 1) := by decide +kernel
theorem dX7_isOpen_18 : decode cX7_isOpen 18 = .ok (.ireturn, 1) := by decide +kernel
theorem dX7_refused_0 : decode cX7_refused 0 = .ok (.aload_n 0, 1) := by decide +kernel
theorem dX7_refused_1 : decode cX7_refused 1 = .ok (.aload_n 0, 1) := by decide +kernel
theorem dX7_refused_2 : decode cX7_refused 2 = .ok (.getfield 13, 3) := by decide +kernel
theorem dX7_refused_5 : decode cX7_refused 5 = .ok (.iload_n 1, 1) := by decide +kernel
theorem dX7_refused_6 : decode cX7_refused 6 = .ok (.iaload, 1) := by decide +kernel
theorem dX7_refused_7 : decode cX7_refused 7 = .ok (.invokevirtual 151, 3) := by decide +kernel
theorem dX7_refused_10 : decode cX7_refused 10 = .ok (.istore_n 2, 1) := by decide +kernel
theorem dX7_refused_11 : decode cX7_refused 11 = .ok (.iload_n 2, 1) := by decide +kernel
theorem dX7_refused_12 : decode cX7_refused 12 = .ok (.iconst (-1), 1) := by decide +kernel
theorem dX7_refused_13 : decode cX7_refused 13 = .ok (.if_icmp .ne 5, 3) := by decide +kernel
theorem dX7_refused_16 : decode cX7_refused 16 = .ok (.iconst 1, 1) := by decide +kernel
theorem dX7_refused_17 : decode cX7_refused 17 = .ok (.ireturn, 1) := by decide +kernel
theorem dX7_refused_18 : decode cX7_refused 18 = .ok (.aload_n 0, 1) := by decide +kernel
theorem dX7_refused_19 : decode cX7_refused 19 = .ok (.aload_n 0, 1) := by decide +kernel
theorem dX7_refused_20 : decode cX7_refused 20 = .ok (.getfield 7, 3) := by decide +kernel
theorem dX7_refused_23 : decode cX7_refused 23 = .ok (.iload_n 1, 1) := by decide +kernel
theorem dX7_refused_24 : decode cX7_refused 24 = .ok (.iaload, 1) := by decide +kernel
theorem dX7_refused_25 : decode cX7_refused 25 = .ok (.invokevirtual 154, 3) := by decide +kernel
theorem dX7_refused_28 : decode cX7_refused 28 = .ok (.ifCond .ne 5, 3) := by decide +kernel
theorem dX7_refused_31 : decode cX7_refused 31 = .ok (.iconst 2, 1) := by decide +kernel
theorem dX7_refused_32 : decode cX7_refused 32 = .ok (.ireturn, 1) := by decide +kernel
theorem dX7_refused_33 : decode cX7_refused 33 = .ok (.aload_n 0, 1) := by decide +kernel
theorem dX7_refused_34 : decode cX7_refused 34 = .ok (.aload_n 0, 1) := by decide +kernel
theorem dX7_refused_35 : decode cX7_refused 35 = .ok (.getfield 26, 3) := by decide +kernel
theorem dX7_refused_38 : decode cX7_refused 38 = .ok (.iload_n 1, 1) := by decide +kernel
theorem dX7_refused_39 : decode cX7_refused 39 = .ok (.iaload, 1) := by decide +kernel
theorem dX7_refused_40 : decode cX7_refused 40 = .ok (.invokevirtual 154, 3) := by decide +kernel
theorem dX7_refused_43 : decode cX7_refused 43 = .ok (.ifCond .eq 16, 3) := by decide +kernel
theorem dX7_refused_46 : decode cX7_refused 46 = .ok (.aload_n 0, 1) := by decide +kernel
theorem dX7_refused_47 : decode cX7_refused 47 = .ok (.aload_n 0, 1) := by decide +kernel
theorem dX7_refused_48 : decode cX7_refused 48 = .ok (.getfield 29, 3) := by decide +kernel
theorem dX7_refused_51 : decode cX7_refused 51 = .ok (.iload_n 1, 1) := by decide +kernel
theorem dX7_refused_52 : decode cX7_refused 52 = .ok (.iaload, 1) := by decide +kernel
theorem dX7_refused_53 : decode cX7_refused 53 = .ok (.invokevirtual 154, 3) := by decide +kernel
theorem dX7_refused_56 : decode cX7_refused 56 = .ok (.ifCond .ne 5, 3) := by decide +kernel
theorem dX7_refused_59 : decode cX7_refused 59 = .ok (.iconst 3, 1) := by decide +kernel
theorem dX7_refused_60 : decode cX7_refused 60 = .ok (.ireturn, 1) := by decide +kernel
theorem dX7_refused_61 : decode cX7_refused 61 = .ok (.aload_n 0, 1) := by decide +kernel
theorem dX7_refused_62 : decode cX7_refused 62 = .ok (.getfield 80, 3) := by decide +kernel
theorem dX7_refused_65 : decode cX7_refused 65 = .ok (.iload_n 2, 1) := by decide +kernel
theorem dX7_refused_66 : decode cX7_refused 66 = .ok (.iaload, 1) := by decide +kernel
theorem dX7_refused_67 : decode cX7_refused 67 = .ok (.aload_n 0, 1) := by decide +kernel
theorem dX7_refused_68 : decode cX7_refused 68 = .ok (.getfield 74, 3) := by decide +kernel
theorem dX7_refused_71 : decode cX7_refused 71 = .ok (.iload_n 2, 1) := by decide +kernel
theorem dX7_refused_72 : decode cX7_refused 72 = .ok (.iaload, 1) := by decide +kernel
theorem dX7_refused_73 : decode cX7_refused 73 = .ok (.if_icmp .ge 5, 3) := by decide +kernel
theorem dX7_refused_76 : decode cX7_refused 76 = .ok (.iconst 4, 1) := by decide +kernel
theorem dX7_refused_77 : decode cX7_refused 77 = .ok (.ireturn, 1) := by decide +kernel
theorem dX7_refused_78 : decode cX7_refused 78 = .ok (.aload_n 0, 1) := by decide +kernel
theorem dX7_refused_79 : decode cX7_refused 79 = .ok (.getfield 16, 3) := by decide +kernel
theorem dX7_refused_82 : decode cX7_refused 82 = .ok (.iload_n 1, 1) := by decide +kernel
theorem dX7_refused_83 : decode cX7_refused 83 = .ok (.iaload, 1) := by decide +kernel
theorem dX7_refused_84 : decode cX7_refused 84 = .ok (.ifCond .le 14, 3) := by decide +kernel
theorem dX7_refused_87 : decode cX7_refused 87 = .ok (.aload_n 0, 1) := by decide +kernel
theorem dX7_refused_88 : decode cX7_refused 88 = .ok (.iload_n 1, 1) := by decide +kernel
theorem dX7_refused_89 : decode cX7_refused 89 = .ok (.invokevirtual 157, 3) := by decide +kernel
theorem dX7_refused_92 : decode cX7_refused 92 = .ok (.iconst (-1), 1) := by decide +kernel
theorem dX7_refused_93 : decode cX7_refused 93 = .ok (.if_icmp .ne 5, 3) := by decide +kernel
theorem dX7_refused_96 : decode cX7_refused 96 = .ok (.iconst 5, 1) := by decide +kernel
theorem dX7_refused_97 : decode cX7_refused 97 = .ok (.ireturn, 1) := by decide +kernel
theorem dX7_refused_98 : decode cX7_refused 98 = .ok (.aload_n 0, 1) := by decide +kernel
theorem dX7_refused_99 : decode cX7_refused 99 = .ok (.iload_n 1, 1) := by decide +kernel
theorem dX7_refused_100 : decode cX7_refused 100 = .ok (.invokevirtual 160, 3) := by decide +kernel
theorem dX7_refused_103 : decode cX7_refused 103 = .ok (.ifCond .ne 8, 3) := by decide +kernel
theorem dX7_refused_106 : decode cX7_refused 106 = .ok (.bipush 6, 2) := by decide +kernel
theorem dX7_refused_108 : decode cX7_refused 108 = .ok (.goto 18, 3) := by decide +kernel
theorem dX7_refused_111 : decode cX7_refused 111 = .ok (.aload_n 0, 1) := by decide +kernel
theorem dX7_refused_112 : decode cX7_refused 112 = .ok (.getfield 53, 3) := by decide +kernel
theorem dX7_refused_115 : decode cX7_refused 115 = .ok (.iload_n 1, 1) := by decide +kernel
theorem dX7_refused_116 : decode cX7_refused 116 = .ok (.baload, 1) := by decide +kernel
theorem dX7_refused_117 : decode cX7_refused 117 = .ok (.ifCond .eq 8, 3) := by decide +kernel
theorem dX7_refused_120 : decode cX7_refused 120 = .ok (.bipush 7, 2) := by decide +kernel
theorem dX7_refused_122 : decode cX7_refused 122 = .ok (.goto 4, 3) := by decide +kernel
theorem dX7_refused_125 : decode cX7_refused 125 = .ok (.iconst 0, 1) := by decide +kernel
theorem dX7_refused_126 : decode cX7_refused 126 = .ok (.ireturn, 1) := by decide +kernel
theorem dX7_wake_0 : decode cX7_wake 0 = .ok (.iconst 0, 1) := by decide +kernel
theorem dX7_wake_1 : decode cX7_wake 1 = .ok (.istore_n 2, 1) := by decide +kernel
theorem dX7_wake_2 : decode cX7_wake 2 = .ok (.aload_n 0, 1) := by decide +kernel
theorem dX7_wake_3 : decode cX7_wake 3 = .ok (.getfield 116, 3) := by decide +kernel
theorem dX7_wake_6 : decode cX7_wake 6 = .ok (.iconst 0, 1) := by decide +kernel
theorem dX7_wake_7 : decode cX7_wake 7 = .ok (.iload_n 1, 1) := by decide +kernel
theorem dX7_wake_8 : decode cX7_wake 8 = .ok (.iastore, 1) := by decide +kernel
theorem dX7_wake_9 : decode cX7_wake 9 = .ok (.aload_n 0, 1) := by decide +kernel
theorem dX7_wake_10 : decode cX7_wake 10 = .ok (.getfield 119, 3) := by decide +kernel
theorem dX7_wake_13 : decode cX7_wake 13 = .ok (.iconst 0, 1) := by decide +kernel
theorem dX7_wake_14 : decode cX7_wake 14 = .ok (.iconst 0, 1) := by decide +kernel
theorem dX7_wake_15 : decode cX7_wake 15 = .ok (.iastore, 1) := by decide +kernel
theorem dX7_wake_16 : decode cX7_wake 16 = .ok (.iload_n 2, 1) := by decide +kernel
theorem dX7_wake_17 : decode cX7_wake 17 = .ok (.ifCond .lt 203, 3) := by decide +kernel
theorem dX7_wake_20 : decode cX7_wake 20 = .ok (.aload_n 0, 1) := by decide +kernel
theorem dX7_wake_21 : decode cX7_wake 21 = .ok (.getfield 116, 3) := by decide +kernel
theorem dX7_wake_24 : decode cX7_wake 24 = .ok (.iload_n 2, 1) := by decide +kernel
theorem dX7_wake_25 : decode cX7_wake 25 = .ok (.iaload, 1) := by decide +kernel
theorem dX7_wake_26 : decode cX7_wake 26 = .ok (.istore_n 3, 1) := by decide +kernel
theorem dX7_wake_27 : decode cX7_wake 27 = .ok (.aload_n 0, 1) := by decide +kernel
theorem dX7_wake_28 : decode cX7_wake 28 = .ok (.getfield 119, 3) := by decide +kernel
theorem dX7_wake_31 : decode cX7_wake 31 = .ok (.iload_n 2, 1) := by decide +kernel
theorem dX7_wake_32 : decode cX7_wake 32 = .ok (.iaload, 1) := by decide +kernel
theorem dX7_wake_33 : decode cX7_wake 33 = .ok (.ifCond .ne 12, 3) := by decide +kernel
theorem dX7_wake_36 : decode cX7_wake 36 = .ok (.aload_n 0, 1) := by decide +kernel
theorem dX7_wake_37 : decode cX7_wake 37 = .ok (.getfield 7, 3) := by decide +kernel
theorem dX7_wake_40 : decode cX7_wake 40 = .ok (.iload_n 3, 1) := by decide +kernel
theorem dX7_wake_41 : decode cX7_wake 41 = .ok (.iaload, 1) := by decide +kernel
theorem dX7_wake_42 : decode cX7_wake 42 = .ok (.goto 28, 3) := by decide +kernel
theorem dX7_wake_45 : decode cX7_wake 45 = .ok (.aload_n 0, 1) := by decide +kernel
theorem dX7_wake_46 : decode cX7_wake 46 = .ok (.getfield 119, 3) := by decide +kernel
theorem dX7_wake_49 : decode cX7_wake 49 = .ok (.iload_n 2, 1) := by decide +kernel
theorem dX7_wake_50 : decode cX7_wake 50 = .ok (.iaload, 1) := by decide +kernel
theorem dX7_wake_51 : decode cX7_wake 51 = .ok (.iconst 1, 1) := by decide +kernel
theorem dX7_wake_52 : decode cX7_wake 52 = .ok (.if_icmp .ne 12, 3) := by decide +kernel
theorem dX7_wake_55 : decode cX7_wake 55 = .ok (.aload_n 0, 1) := by decide +kernel
theorem dX7_wake_56 : decode cX7_wake 56 = .ok (.getfield 26, 3) := by decide +kernel
theorem dX7_wake_59 : decode cX7_wake 59 = .ok (.iload_n 3, 1) := by decide +kernel
theorem dX7_wake_60 : decode cX7_wake 60 = .ok (.iaload, 1) := by decide +kernel
theorem dX7_wake_61 : decode cX7_wake 61 = .ok (.goto 9, 3) := by decide +kernel
theorem dX7_wake_64 : decode cX7_wake 64 = .ok (.aload_n 0, 1) := by decide +kernel
theorem dX7_wake_65 : decode cX7_wake 65 = .ok (.getfield 29, 3) := by decide +kernel
theorem dX7_wake_68 : decode cX7_wake 68 = .ok (.iload_n 3, 1) := by decide +kernel
theorem dX7_wake_69 : decode cX7_wake 69 = .ok (.iaload, 1) := by decide +kernel
theorem dX7_wake_70 : decode cX7_wake 70 = .ok (.istore 4, 2) := by decide +kernel
theorem dX7_wake_72 : decode cX7_wake 72 = .ok (.aload_n 0, 1) := by decide +kernel
theorem dX7_wake_73 : decode cX7_wake 73 = .ok (.getfield 38, 3) := by decide +kernel
theorem dX7_wake_76 : decode cX7_wake 76 = .ok (.iload_n 3, 1) := by decide +kernel
theorem dX7_wake_77 : decode cX7_wake 77 = .ok (.baload, 1) := by decide +kernel
theorem dX7_wake_78 : decode cX7_wake 78 = .ok (.ifCond .eq 9, 3) := by decide +kernel
theorem dX7_wake_81 : decode cX7_wake 81 = .ok (.iinc 2 (-1), 3) := by decide +kernel
theorem dX7_wake_84 : decode cX7_wake 84 = .ok (.goto 133, 3) := by decide +kernel
theorem dX7_wake_87 : decode cX7_wake 87 = .ok (.aload_n 0, 1) := by decide +kernel
theorem dX7_wake_88 : decode cX7_wake 88 = .ok (.getfield 119, 3) := by decide +kernel
theorem dX7_wake_91 : decode cX7_wake 91 = .ok (.iload_n 2, 1) := by decide +kernel
theorem dX7_wake_92 : decode cX7_wake 92 = .ok (.iaload, 1) := by decide +kernel
theorem dX7_wake_93 : decode cX7_wake 93 = .ok (.iconst 3, 1) := by decide +kernel
theorem dX7_wake_94 : decode cX7_wake 94 = .ok (.if_icmp .ge 50, 3) := by decide +kernel
theorem dX7_wake_97 : decode cX7_wake 97 = .ok (.aload_n 0, 1) := by decide +kernel
theorem dX7_wake_98 : decode cX7_wake 98 = .ok (.getfield 119, 3) := by decide +kernel
theorem dX7_wake_101 : decode cX7_wake 101 = .ok (.iload_n 2, 1) := by decide +kernel
theorem dX7_wake_102 : decode cX7_wake 102 = .ok (.dup2, 1) := by decide +kernel
theorem dX7_wake_103 : decode cX7_wake 103 = .ok (.iaload, 1) := by decide +kernel
theorem dX7_wake_104 : decode cX7_wake 104 = .ok (.iconst 1, 1) := by decide +kernel
theorem dX7_wake_105 : decode cX7_wake 105 = .ok (.iadd, 1) := by decide +kernel
theorem dX7_wake_106 : decode cX7_wake 106 = .ok (.iastore, 1) := by decide +kernel
theorem dX7_wake_107 : decode cX7_wake 107 = .ok (.iload 4, 2) := by decide +kernel
theorem dX7_wake_109 : decode cX7_wake 109 = .ok (.iconst (-1), 1) := by decide +kernel
theorem dX7_wake_110 : decode cX7_wake 110 = .ok (.if_icmp .eq 107, 3) := by decide +kernel
theorem dX7_wake_113 : decode cX7_wake 113 = .ok (.aload_n 0, 1) := by decide +kernel
theorem dX7_wake_114 : decode cX7_wake 114 = .ok (.getfield 38, 3) := by decide +kernel
theorem dX7_wake_117 : decode cX7_wake 117 = .ok (.iload 4, 2) := by decide +kernel
theorem dX7_wake_119 : decode cX7_wake 119 = .ok (.baload, 1) := by decide +kernel
theorem dX7_wake_120 : decode cX7_wake 120 = .ok (.ifCond .ne 97, 3) := by decide +kernel
theorem dX7_wake_123 : decode cX7_wake 123 = .ok (.iinc 2 1, 3) := by decide +kernel
theorem dX7_wake_126 : decode cX7_wake 126 = .ok (.aload_n 0, 1) := by decide +kernel
theorem dX7_wake_127 : decode cX7_wake 127 = .ok (.getfield 116, 3) := by decide +kernel
theorem dX7_wake_130 : decode cX7_wake 130 = .ok (.iload_n 2, 1) := by decide +kernel
theorem dX7_wake_131 : decode cX7_wake 131 = .ok (.iload 4, 2) := by decide +kernel
theorem dX7_wake_133 : decode cX7_wake 133 = .ok (.iastore, 1) := by decide +kernel
theorem dX7_wake_134 : decode cX7_wake 134 = .ok (.aload_n 0, 1) := by decide +kernel
theorem dX7_wake_135 : decode cX7_wake 135 = .ok (.getfield 119, 3) := by decide +kernel
theorem dX7_wake_138 : decode cX7_wake 138 = .ok (.iload_n 2, 1) := by decide +kernel
theorem dX7_wake_139 : decode cX7_wake 139 = .ok (.iconst 0, 1) := by decide +kernel
theorem dX7_wake_140 : decode cX7_wake 140 = .ok (.iastore, 1) := by decide +kernel
theorem dX7_wake_141 : decode cX7_wake 141 = .ok (.goto 76, 3) := by decide +kernel
theorem dX7_wake_144 : decode cX7_wake 144 = .ok (.aload_n 0, 1) := by decide +kernel
theorem dX7_wake_145 : decode cX7_wake 145 = .ok (.getfield 38, 3) := by decide +kernel
theorem dX7_wake_148 : decode cX7_wake 148 = .ok (.iload_n 3, 1) := by decide +kernel
theorem dX7_wake_149 : decode cX7_wake 149 = .ok (.iconst 1, 1) := by decide +kernel
theorem dX7_wake_150 : decode cX7_wake 150 = .ok (.bastore, 1) := by decide +kernel
theorem dX7_wake_151 : decode cX7_wake 151 = .ok (.aload_n 0, 1) := by decide +kernel
theorem dX7_wake_152 : decode cX7_wake 152 = .ok (.getfield 62, 3) := by decide +kernel
theorem dX7_wake_155 : decode cX7_wake 155 = .ok (.iload_n 3, 1) := by decide +kernel
theorem dX7_wake_156 : decode cX7_wake 156 = .ok (.aload_n 0, 1) := by decide +kernel
theorem dX7_wake_157 : decode cX7_wake 157 = .ok (.getfield 163, 3) := by decide +kernel
theorem dX7_wake_160 : decode cX7_wake 160 = .ok (.iastore, 1) := by decide +kernel
theorem dX7_wake_161 : decode cX7_wake 161 = .ok (.aload_n 0, 1) := by decide +kernel
theorem dX7_wake_162 : decode cX7_wake 162 = .ok (.getfield 44, 3) := by decide +kernel
theorem dX7_wake_165 : decode cX7_wake 165 = .ok (.iload_n 3, 1) := by decide +kernel
theorem dX7_wake_166 : decode cX7_wake 166 = .ok (.aload_n 0, 1) := by decide +kernel
theorem dX7_wake_167 : decode cX7_wake 167 = .ok (.getfield 77, 3) := by decide +kernel
theorem dX7_wake_170 : decode cX7_wake 170 = .ok (.aload_n 0, 1) := by decide +kernel
theorem dX7_wake_171 : decode cX7_wake 171 = .ok (.getfield 35, 3) := by decide +kernel
theorem dX7_wake_174 : decode cX7_wake 174 = .ok (.iload_n 3, 1) := by decide +kernel
theorem dX7_wake_175 : decode cX7_wake 175 = .ok (.iaload, 1) := by decide +kernel
theorem dX7_wake_176 : decode cX7_wake 176 = .ok (.baload, 1) := by decide +kernel
theorem dX7_wake_177 : decode cX7_wake 177 = .ok (.ifCond .eq 12, 3) := by decide +kernel
theorem dX7_wake_180 : decode cX7_wake 180 = .ok (.aload_n 0, 1) := by decide +kernel
theorem dX7_wake_181 : decode cX7_wake 181 = .ok (.getfield 47, 3) := by decide +kernel
theorem dX7_wake_184 : decode cX7_wake 184 = .ok (.iload_n 3, 1) := by decide +kernel
theorem dX7_wake_185 : decode cX7_wake 185 = .ok (.iaload, 1) := by decide +kernel
theorem dX7_wake_186 : decode cX7_wake 186 = .ok (.goto 4, 3) := by decide +kernel
theorem dX7_wake_189 : decode cX7_wake 189 = .ok (.iconst 0, 1) := by decide +kernel
theorem dX7_wake_190 : decode cX7_wake 190 = .ok (.iastore, 1) := by decide +kernel
theorem dX7_wake_191 : decode cX7_wake 191 = .ok (.aload_n 0, 1) := by decide +kernel
theorem dX7_wake_192 : decode cX7_wake 192 = .ok (.getfield 65, 3) := by decide +kernel
theorem dX7_wake_195 : decode cX7_wake 195 = .ok (.iload_n 3, 1) := by decide +kernel
theorem dX7_wake_196 : decode cX7_wake 196 = .ok (.iconst 0, 1) := by decide +kernel
theorem dX7_wake_197 : decode cX7_wake 197 = .ok (.bastore, 1) := by decide +kernel
theorem dX7_wake_198 : decode cX7_wake 198 = .ok (.aload_n 0, 1) := by decide +kernel
theorem dX7_wake_199 : decode cX7_wake 199 = .ok (.iconst 4, 1) := by decide +kernel
theorem dX7_wake_200 : decode cX7_wake 200 = .ok (.iload_n 3, 1) := by decide +kernel
theorem dX7_wake_201 : decode cX7_wake 201 = .ok (.invokevirtual 166, 3) := by decide +kernel
theorem dX7_wake_204 : decode cX7_wake 204 = .ok (.aload_n 0, 1) := by decide +kernel
theorem dX7_wake_205 : decode cX7_wake 205 = .ok (.dup, 1) := by decide +kernel
theorem dX7_wake_206 : decode cX7_wake 206 = .ok (.getfield 170, 3) := by decide +kernel
theorem dX7_wake_209 : decode cX7_wake 209 = .ok (.iconst 1, 1) := by decide +kernel
theorem dX7_wake_210 : decode cX7_wake 210 = .ok (.iadd, 1) := by decide +kernel
theorem dX7_wake_211 : decode cX7_wake 211 = .ok (.putfield 170, 3) := by decide +kernel
theorem dX7_wake_214 : decode cX7_wake 214 = .ok (.iinc 2 (-1), 3) := by decide +kernel
theorem dX7_wake_217 : decode cX7_wake 217 = .ok (.goto (-201), 3) := by decide +kernel
theorem dX7_wake_220 : decode cX7_wake 220 = .ok (.return_, 1) := by decide +kernel
theorem dX7_fallsAsleep_0 : decode cX7_fallsAsleep 0 = .ok (.aload_n 0, 1) := by decide +kernel
theorem dX7_fallsAsleep_1 : decode cX7_fallsAsleep 1 = .ok (.getfield 38, 3) := by decide +kernel
theorem dX7_fallsAsleep_4 : decode cX7_fallsAsleep 4 = .ok (.iload_n 1, 1) := by decide +kernel
theorem dX7_fallsAsleep_5 : decode cX7_fallsAsleep 5 = .ok (.iconst 0, 1) := by decide +kernel
theorem dX7_fallsAsleep_6 : decode cX7_fallsAsleep 6 = .ok (.bastore, 1) := by decide +kernel
theorem dX7_fallsAsleep_7 : decode cX7_fallsAsleep 7 = .ok (.aload_n 0, 1) := by decide +kernel
theorem dX7_fallsAsleep_8 : decode cX7_fallsAsleep 8 = .ok (.getfield 47, 3) := by decide +kernel
theorem dX7_fallsAsleep_11 : decode cX7_fallsAsleep 11 = .ok (.iload_n 1, 1) := by decide +kernel
theorem dX7_fallsAsleep_12 : decode cX7_fallsAsleep 12 = .ok (.aload_n 0, 1) := by decide +kernel
theorem dX7_fallsAsleep_13 : decode cX7_fallsAsleep 13 = .ok (.getfield 44, 3) := by decide +kernel
theorem dX7_fallsAsleep_16 : decode cX7_fallsAsleep 16 = .ok (.iload_n 1, 1) := by decide +kernel
theorem dX7_fallsAsleep_17 : decode cX7_fallsAsleep 17 = .ok (.iaload, 1) := by decide +kernel
theorem dX7_fallsAsleep_18 : decode cX7_fallsAsleep 18 = .ok (.iastore, 1) := by decide +kernel
theorem dX7_fallsAsleep_19 : decode cX7_fallsAsleep 19 = .ok (.aload_n 0, 1) := by decide +kernel
theorem dX7_fallsAsleep_20 : decode cX7_fallsAsleep 20 = .ok (.iconst 3, 1) := by decide +kernel
theorem dX7_fallsAsleep_21 : decode cX7_fallsAsleep 21 = .ok (.iload_n 1, 1) := by decide +kernel
theorem dX7_fallsAsleep_22 : decode cX7_fallsAsleep 22 = .ok (.invokevirtual 166, 3) := by decide +kernel
theorem dX7_fallsAsleep_25 : decode cX7_fallsAsleep 25 = .ok (.return_, 1) := by decide +kernel
theorem dX7_bindNow_0 : decode cX7_bindNow 0 = .ok (.aload_n 0, 1) := by decide +kernel
theorem dX7_bindNow_1 : decode cX7_bindNow 1 = .ok (.getfield 7, 3) := by decide +kernel
theorem dX7_bindNow_4 : decode cX7_bindNow 4 = .ok (.iload_n 1, 1) := by decide +kernel
theorem dX7_bindNow_5 : decode cX7_bindNow 5 = .ok (.iaload, 1) := by decide +kernel
theorem dX7_bindNow_6 : decode cX7_bindNow 6 = .ok (.iconst (-1), 1) := by decide +kernel
theorem dX7_bindNow_7 : decode cX7_bindNow 7 = .ok (.if_icmp .eq 13, 3) := by decide +kernel
theorem dX7_bindNow_10 : decode cX7_bindNow 10 = .ok (.aload_n 0, 1) := by decide +kernel
theorem dX7_bindNow_11 : decode cX7_bindNow 11 = .ok (.aload_n 0, 1) := by decide +kernel
theorem dX7_bindNow_12 : decode cX7_bindNow 12 = .ok (.getfield 7, 3) := by decide +kernel
theorem dX7_bindNow_15 : decode cX7_bindNow 15 = .ok (.iload_n 1, 1) := by decide +kernel
theorem dX7_bindNow_16 : decode cX7_bindNow 16 = .ok (.iaload, 1) := by decide +kernel
theorem dX7_bindNow_17 : decode cX7_bindNow 17 = .ok (.invokevirtual 173, 3) := by decide +kernel
theorem dX7_bindNow_20 : decode cX7_bindNow 20 = .ok (.aload_n 0, 1) := by decide +kernel
theorem dX7_bindNow_21 : decode cX7_bindNow 21 = .ok (.getfield 26, 3) := by decide +kernel
theorem dX7_bindNow_24 : decode cX7_bindNow 24 = .ok (.iload_n 1, 1) := by decide +kernel
theorem dX7_bindNow_25 : decode cX7_bindNow 25 = .ok (.iaload, 1) := by decide +kernel
theorem dX7_bindNow_26 : decode cX7_bindNow 26 = .ok (.iconst (-1), 1) := by decide +kernel
theorem dX7_bindNow_27 : decode cX7_bindNow 27 = .ok (.if_icmp .eq 13, 3) := by decide +kernel
theorem dX7_bindNow_30 : decode cX7_bindNow 30 = .ok (.aload_n 0, 1) := by decide +kernel
theorem dX7_bindNow_31 : decode cX7_bindNow 31 = .ok (.aload_n 0, 1) := by decide +kernel
theorem dX7_bindNow_32 : decode cX7_bindNow 32 = .ok (.getfield 26, 3) := by decide +kernel
theorem dX7_bindNow_35 : decode cX7_bindNow 35 = .ok (.iload_n 1, 1) := by decide +kernel
theorem dX7_bindNow_36 : decode cX7_bindNow 36 = .ok (.iaload, 1) := by decide +kernel
theorem dX7_bindNow_37 : decode cX7_bindNow 37 = .ok (.invokevirtual 173, 3) := by decide +kernel
theorem dX7_bindNow_40 : decode cX7_bindNow 40 = .ok (.aload_n 0, 1) := by decide +kernel
theorem dX7_bindNow_41 : decode cX7_bindNow 41 = .ok (.getfield 29, 3) := by decide +kernel
theorem dX7_bindNow_44 : decode cX7_bindNow 44 = .ok (.iload_n 1, 1) := by decide +kernel
theorem dX7_bindNow_45 : decode cX7_bindNow 45 = .ok (.iaload, 1) := by decide +kernel
theorem dX7_bindNow_46 : decode cX7_bindNow 46 = .ok (.iconst (-1), 1) := by decide +kernel
theorem dX7_bindNow_47 : decode cX7_bindNow 47 = .ok (.if_icmp .eq 13, 3) := by decide +kernel
theorem dX7_bindNow_50 : decode cX7_bindNow 50 = .ok (.aload_n 0, 1) := by decide +kernel
theorem dX7_bindNow_51 : decode cX7_bindNow 51 = .ok (.aload_n 0, 1) := by decide +kernel
theorem dX7_bindNow_52 : decode cX7_bindNow 52 = .ok (.getfield 29, 3) := by decide +kernel
theorem dX7_bindNow_55 : decode cX7_bindNow 55 = .ok (.iload_n 1, 1) := by decide +kernel
theorem dX7_bindNow_56 : decode cX7_bindNow 56 = .ok (.iaload, 1) := by decide +kernel
theorem dX7_bindNow_57 : decode cX7_bindNow 57 = .ok (.invokevirtual 173, 3) := by decide +kernel
theorem dX7_bindNow_60 : decode cX7_bindNow 60 = .ok (.aload_n 0, 1) := by decide +kernel
theorem dX7_bindNow_61 : decode cX7_bindNow 61 = .ok (.getfield 41, 3) := by decide +kernel
theorem dX7_bindNow_64 : decode cX7_bindNow 64 = .ok (.iload_n 1, 1) := by decide +kernel
theorem dX7_bindNow_65 : decode cX7_bindNow 65 = .ok (.aload_n 0, 1) := by decide +kernel
theorem dX7_bindNow_66 : decode cX7_bindNow 66 = .ok (.getfield 16, 3) := by decide +kernel
theorem dX7_bindNow_69 : decode cX7_bindNow 69 = .ok (.iload_n 1, 1) := by decide +kernel
theorem dX7_bindNow_70 : decode cX7_bindNow 70 = .ok (.iaload, 1) := by decide +kernel
theorem dX7_bindNow_71 : decode cX7_bindNow 71 = .ok (.ifCond .le 11, 3) := by decide +kernel
theorem dX7_bindNow_74 : decode cX7_bindNow 74 = .ok (.aload_n 0, 1) := by decide +kernel
theorem dX7_bindNow_75 : decode cX7_bindNow 75 = .ok (.iload_n 1, 1) := by decide +kernel
theorem dX7_bindNow_76 : decode cX7_bindNow 76 = .ok (.invokevirtual 157, 3) := by decide +kernel
theorem dX7_bindNow_79 : decode cX7_bindNow 79 = .ok (.goto 4, 3) := by decide +kernel
theorem dX7_bindNow_82 : decode cX7_bindNow 82 = .ok (.iconst (-1), 1) := by decide +kernel
theorem dX7_bindNow_83 : decode cX7_bindNow 83 = .ok (.iastore, 1) := by decide +kernel
theorem dX7_bindNow_84 : decode cX7_bindNow 84 = .ok (.aload_n 0, 1) := by decide +kernel
theorem dX7_bindNow_85 : decode cX7_bindNow 85 = .ok (.getfield 35, 3) := by decide +kernel
theorem dX7_bindNow_88 : decode cX7_bindNow 88 = .ok (.iload_n 1, 1) := by decide +kernel
theorem dX7_bindNow_89 : decode cX7_bindNow 89 = .ok (.aload_n 0, 1) := by decide +kernel
theorem dX7_bindNow_90 : decode cX7_bindNow 90 = .ok (.aload_n 0, 1) := by decide +kernel
theorem dX7_bindNow_91 : decode cX7_bindNow 91 = .ok (.getfield 13, 3) := by decide +kernel
theorem dX7_bindNow_94 : decode cX7_bindNow 94 = .ok (.iload_n 1, 1) := by decide +kernel
theorem dX7_bindNow_95 : decode cX7_bindNow 95 = .ok (.iaload, 1) := by decide +kernel
theorem dX7_bindNow_96 : decode cX7_bindNow 96 = .ok (.invokevirtual 151, 3) := by decide +kernel
theorem dX7_bindNow_99 : decode cX7_bindNow 99 = .ok (.iastore, 1) := by decide +kernel
theorem dX7_bindNow_100 : decode cX7_bindNow 100 = .ok (.aload_n 0, 1) := by decide +kernel
theorem dX7_bindNow_101 : decode cX7_bindNow 101 = .ok (.getfield 38, 3) := by decide +kernel
theorem dX7_bindNow_104 : decode cX7_bindNow 104 = .ok (.iload_n 1, 1) := by decide +kernel
theorem dX7_bindNow_105 : decode cX7_bindNow 105 = .ok (.iconst 1, 1) := by decide +kernel
theorem dX7_bindNow_106 : decode cX7_bindNow 106 = .ok (.bastore, 1) := by decide +kernel
theorem dX7_bindNow_107 : decode cX7_bindNow 107 = .ok (.aload_n 0, 1) := by decide +kernel
theorem dX7_bindNow_108 : decode cX7_bindNow 108 = .ok (.getfield 44, 3) := by decide +kernel
theorem dX7_bindNow_111 : decode cX7_bindNow 111 = .ok (.iload_n 1, 1) := by decide +kernel
theorem dX7_bindNow_112 : decode cX7_bindNow 112 = .ok (.iconst 0, 1) := by decide +kernel
theorem dX7_bindNow_113 : decode cX7_bindNow 113 = .ok (.iastore, 1) := by decide +kernel
theorem dX7_bindNow_114 : decode cX7_bindNow 114 = .ok (.aload_n 0, 1) := by decide +kernel
theorem dX7_bindNow_115 : decode cX7_bindNow 115 = .ok (.getfield 47, 3) := by decide +kernel
theorem dX7_bindNow_118 : decode cX7_bindNow 118 = .ok (.iload_n 1, 1) := by decide +kernel
theorem dX7_bindNow_119 : decode cX7_bindNow 119 = .ok (.iconst 0, 1) := by decide +kernel
theorem dX7_bindNow_120 : decode cX7_bindNow 120 = .ok (.iastore, 1) := by decide +kernel
theorem dX7_bindNow_121 : decode cX7_bindNow 121 = .ok (.aload_n 0, 1) := by decide +kernel
theorem dX7_bindNow_122 : decode cX7_bindNow 122 = .ok (.getfield 50, 3) := by decide +kernel
theorem dX7_bindNow_125 : decode cX7_bindNow 125 = .ok (.iload_n 1, 1) := by decide +kernel
theorem dX7_bindNow_126 : decode cX7_bindNow 126 = .ok (.iconst 0, 1) := by decide +kernel
theorem dX7_bindNow_127 : decode cX7_bindNow 127 = .ok (.bastore, 1) := by decide +kernel
theorem dX7_bindNow_128 : decode cX7_bindNow 128 = .ok (.aload_n 0, 1) := by decide +kernel
theorem dX7_bindNow_129 : decode cX7_bindNow 129 = .ok (.getfield 62, 3) := by decide +kernel
theorem dX7_bindNow_132 : decode cX7_bindNow 132 = .ok (.iload_n 1, 1) := by decide +kernel
theorem dX7_bindNow_133 : decode cX7_bindNow 133 = .ok (.aload_n 0, 1) := by decide +kernel
theorem dX7_bindNow_134 : decode cX7_bindNow 134 = .ok (.getfield 163, 3) := by decide +kernel
theorem dX7_bindNow_137 : decode cX7_bindNow 137 = .ok (.iastore, 1) := by decide +kernel
theorem dX7_bindNow_138 : decode cX7_bindNow 138 = .ok (.aload_n 0, 1) := by decide +kernel
theorem dX7_bindNow_139 : decode cX7_bindNow 139 = .ok (.getfield 59, 3) := by decide +kernel
theorem dX7_bindNow_142 : decode cX7_bindNow 142 = .ok (.iload_n 1, 1) := by decide +kernel
theorem dX7_bindNow_143 : decode cX7_bindNow 143 = .ok (.aload_n 0, 1) := by decide +kernel
theorem dX7_bindNow_144 : decode cX7_bindNow 144 = .ok (.getfield 177, 3) := by decide +kernel
theorem dX7_bindNow_147 : decode cX7_bindNow 147 = .ok (.iastore, 1) := by decide +kernel
theorem dX7_bindNow_148 : decode cX7_bindNow 148 = .ok (.aload_n 0, 1) := by decide +kernel
theorem dX7_bindNow_149 : decode cX7_bindNow 149 = .ok (.dup, 1) := by decide +kernel
theorem dX7_bindNow_150 : decode cX7_bindNow 150 = .ok (.getfield 177, 3) := by decide +kernel
theorem dX7_bindNow_153 : decode cX7_bindNow 153 = .ok (.iconst 1, 1) := by decide +kernel
theorem dX7_bindNow_154 : decode cX7_bindNow 154 = .ok (.iadd, 1) := by decide +kernel
theorem dX7_bindNow_155 : decode cX7_bindNow 155 = .ok (.putfield 177, 3) := by decide +kernel
theorem dX7_bindNow_158 : decode cX7_bindNow 158 = .ok (.aload_n 0, 1) := by decide +kernel
theorem dX7_bindNow_159 : decode cX7_bindNow 159 = .ok (.iconst 0, 1) := by decide +kernel
theorem dX7_bindNow_160 : decode cX7_bindNow 160 = .ok (.iload_n 1, 1) := by decide +kernel
theorem dX7_bindNow_161 : decode cX7_bindNow 161 = .ok (.invokevirtual 166, 3) := by decide +kernel
theorem dX7_bindNow_164 : decode cX7_bindNow 164 = .ok (.return_, 1) := by decide +kernel
theorem dX7_settle_0 : decode cX7_settle 0 = .ok (.aload_n 0, 1) := by decide +kernel
theorem dX7_settle_1 : decode cX7_settle 1 = .ok (.getfield 180, 3) := by decide +kernel
theorem dX7_settle_4 : decode cX7_settle 4 = .ok (.ifCond .ne 7, 3) := by decide +kernel
theorem dX7_settle_7 : decode cX7_settle 7 = .ok (.iconst 1, 1) := by decide +kernel
theorem dX7_settle_8 : decode cX7_settle 8 = .ok (.goto 4, 3) := by decide +kernel
theorem dX7_settle_11 : decode cX7_settle 11 = .ok (.iconst 0, 1) := by decide +kernel
theorem dX7_settle_12 : decode cX7_settle 12 = .ok (.istore_n 1, 1) := by decide +kernel
theorem dX7_settle_13 : decode cX7_settle 13 = .ok (.iload_n 1, 1) := by decide +kernel
theorem dX7_settle_14 : decode cX7_settle 14 = .ok (.ifCond .eq 68, 3) := by decide +kernel
theorem dX7_settle_17 : decode cX7_settle 17 = .ok (.iconst 0, 1) := by decide +kernel
theorem dX7_settle_18 : decode cX7_settle 18 = .ok (.istore_n 1, 1) := by decide +kernel
theorem dX7_settle_19 : decode cX7_settle 19 = .ok (.iconst 0, 1) := by decide +kernel
theorem dX7_settle_20 : decode cX7_settle 20 = .ok (.istore_n 2, 1) := by decide +kernel
theorem dX7_settle_21 : decode cX7_settle 21 = .ok (.iload_n 2, 1) := by decide +kernel
theorem dX7_settle_22 : decode cX7_settle 22 = .ok (.aload_n 0, 1) := by decide +kernel
theorem dX7_settle_23 : decode cX7_settle 23 = .ok (.getfield 126, 3) := by decide +kernel
theorem dX7_settle_26 : decode cX7_settle 26 = .ok (.if_icmp .ge 53, 3) := by decide +kernel
theorem dX7_settle_29 : decode cX7_settle 29 = .ok (.iload_n 1, 1) := by decide +kernel
theorem dX7_settle_30 : decode cX7_settle 30 = .ok (.ifCond .ne 49, 3) := by decide +kernel
theorem dX7_settle_33 : decode cX7_settle 33 = .ok (.aload_n 0, 1) := by decide +kernel
theorem dX7_settle_34 : decode cX7_settle 34 = .ok (.getfield 32, 3) := by decide +kernel
theorem dX7_settle_37 : decode cX7_settle 37 = .ok (.iload_n 2, 1) := by decide +kernel
theorem dX7_settle_38 : decode cX7_settle 38 = .ok (.baload, 1) := by decide +kernel
theorem dX7_settle_39 : decode cX7_settle 39 = .ok (.ifCond .eq 23, 3) := by decide +kernel
theorem dX7_settle_42 : decode cX7_settle 42 = .ok (.aload_n 0, 1) := by decide +kernel
theorem dX7_settle_43 : decode cX7_settle 43 = .ok (.iload_n 2, 1) := by decide +kernel
theorem dX7_settle_44 : decode cX7_settle 44 = .ok (.invokevirtual 139, 3) := by decide +kernel
theorem dX7_settle_47 : decode cX7_settle 47 = .ok (.ifCond .ne 15, 3) := by decide +kernel
theorem dX7_settle_50 : decode cX7_settle 50 = .ok (.aload_n 0, 1) := by decide +kernel
theorem dX7_settle_51 : decode cX7_settle 51 = .ok (.iload_n 2, 1) := by decide +kernel
theorem dX7_settle_52 : decode cX7_settle 52 = .ok (.invokevirtual 184, 3) := by decide +kernel
theorem dX7_settle_55 : decode cX7_settle 55 = .ok (.ifCond .ne 7, 3) := by decide +kernel
theorem dX7_settle_58 : decode cX7_settle 58 = .ok (.iconst 1, 1) := by decide +kernel
theorem dX7_settle_59 : decode cX7_settle 59 = .ok (.goto 4, 3) := by decide +kernel
theorem dX7_settle_62 : decode cX7_settle 62 = .ok (.iconst 0, 1) := by decide +kernel
theorem dX7_settle_63 : decode cX7_settle 63 = .ok (.istore_n 1, 1) := by decide +kernel
theorem dX7_settle_64 : decode cX7_settle 64 = .ok (.iload_n 1, 1) := by decide +kernel
theorem dX7_settle_65 : decode cX7_settle 65 = .ok (.ifCond .eq 8, 3) := by decide +kernel
theorem dX7_settle_68 : decode cX7_settle 68 = .ok (.aload_n 0, 1) := by decide +kernel
theorem dX7_settle_69 : decode cX7_settle 69 = .ok (.iload_n 2, 1) := by decide +kernel
theorem dX7_settle_70 : decode cX7_settle 70 = .ok (.invokevirtual 187, 3) := by decide +kernel
theorem dX7_settle_73 : decode cX7_settle 73 = .ok (.iinc 2 1, 3) := by decide +kernel
theorem dX7_settle_76 : decode cX7_settle 76 = .ok (.goto (-55), 3) := by decide +kernel
theorem dX7_settle_79 : decode cX7_settle 79 = .ok (.goto (-66), 3) := by decide +kernel
theorem dX7_settle_82 : decode cX7_settle 82 = .ok (.return_, 1) := by decide +kernel
theorem dX7_has_0 : decode cX7_has 0 = .ok (.iload_n 1, 1) := by decide +kernel
theorem dX7_has_1 : decode cX7_has 1 = .ok (.iconst (-1), 1) := by decide +kernel
theorem dX7_has_2 : decode cX7_has 2 = .ok (.if_icmp .eq 16, 3) := by decide +kernel
theorem dX7_has_5 : decode cX7_has 5 = .ok (.iload_n 0, 1) := by decide +kernel
theorem dX7_has_6 : decode cX7_has 6 = .ok (.iload_n 1, 1) := by decide +kernel
theorem dX7_has_7 : decode cX7_has 7 = .ok (.ishr, 1) := by decide +kernel
theorem dX7_has_8 : decode cX7_has 8 = .ok (.iconst 1, 1) := by decide +kernel
theorem dX7_has_9 : decode cX7_has 9 = .ok (.iand, 1) := by decide +kernel
theorem dX7_has_10 : decode cX7_has 10 = .ok (.iconst 1, 1) := by decide +kernel
theorem dX7_has_11 : decode cX7_has 11 = .ok (.if_icmp .ne 7, 3) := by decide +kernel
theorem dX7_has_14 : decode cX7_has 14 = .ok (.iconst 1, 1) := by decide +kernel
theorem dX7_has_15 : decode cX7_has 15 = .ok (.goto 4, 3) := by decide +kernel
theorem dX7_has_18 : decode cX7_has 18 = .ok (.iconst 0, 1) := by decide +kernel
theorem dX7_has_19 : decode cX7_has 19 = .ok (.ireturn, 1) := by decide +kernel
theorem dX7_endCalls_0 : decode cX7_endCalls 0 = .ok (.iconst 0, 1) := by decide +kernel
theorem dX7_endCalls_1 : decode cX7_endCalls 1 = .ok (.istore_n 2, 1) := by decide +kernel
theorem dX7_endCalls_2 : decode cX7_endCalls 2 = .ok (.iconst 0, 1) := by decide +kernel
theorem dX7_endCalls_3 : decode cX7_endCalls 3 = .ok (.istore_n 3, 1) := by decide +kernel
theorem dX7_endCalls_4 : decode cX7_endCalls 4 = .ok (.iload_n 3, 1) := by decide +kernel
theorem dX7_endCalls_5 : decode cX7_endCalls 5 = .ok (.aload_n 0, 1) := by decide +kernel
theorem dX7_endCalls_6 : decode cX7_endCalls 6 = .ok (.getfield 190, 3) := by decide +kernel
theorem dX7_endCalls_9 : decode cX7_endCalls 9 = .ok (.if_icmp .ge 43, 3) := by decide +kernel
theorem dX7_endCalls_12 : decode cX7_endCalls 12 = .ok (.aload_n 0, 1) := by decide +kernel
theorem dX7_endCalls_13 : decode cX7_endCalls 13 = .ok (.getfield 98, 3) := by decide +kernel
theorem dX7_endCalls_16 : decode cX7_endCalls 16 = .ok (.iload_n 3, 1) := by decide +kernel
theorem dX7_endCalls_17 : decode cX7_endCalls 17 = .ok (.iaload, 1) := by decide +kernel
theorem dX7_endCalls_18 : decode cX7_endCalls 18 = .ok (.ifCond .ne 28, 3) := by decide +kernel
theorem dX7_endCalls_21 : decode cX7_endCalls 21 = .ok (.aload_n 0, 1) := by decide +kernel
theorem dX7_endCalls_22 : decode cX7_endCalls 22 = .ok (.getfield 83, 3) := by decide +kernel
theorem dX7_endCalls_25 : decode cX7_endCalls 25 = .ok (.aload_n 0, 1) := by decide +kernel
theorem dX7_endCalls_26 : decode cX7_endCalls 26 = .ok (.getfield 92, 3) := by decide +kernel
theorem dX7_endCalls_29 : decode cX7_endCalls 29 = .ok (.iload_n 3, 1) := by decide +kernel
theorem dX7_endCalls_30 : decode cX7_endCalls 30 = .ok (.iaload, 1) := by decide +kernel
theorem dX7_endCalls_31 : decode cX7_endCalls 31 = .ok (.iaload, 1) := by decide +kernel
theorem dX7_endCalls_32 : decode cX7_endCalls 32 = .ok (.iload_n 1, 1) := by decide +kernel
theorem dX7_endCalls_33 : decode cX7_endCalls 33 = .ok (.if_icmp .ne 13, 3) := by decide +kernel
theorem dX7_endCalls_36 : decode cX7_endCalls 36 = .ok (.aload_n 0, 1) := by decide +kernel
theorem dX7_endCalls_37 : decode cX7_endCalls 37 = .ok (.getfield 98, 3) := by decide +kernel
theorem dX7_endCalls_40 : decode cX7_endCalls 40 = .ok (.iload_n 3, 1) := by decide +kernel
theorem dX7_endCalls_41 : decode cX7_endCalls 41 = .ok (.iconst 2, 1) := by decide +kernel
theorem dX7_endCalls_42 : decode cX7_endCalls 42 = .ok (.iastore, 1) := by decide +kernel
theorem dX7_endCalls_43 : decode cX7_endCalls 43 = .ok (.iinc 2 1, 3) := by decide +kernel
theorem dX7_endCalls_46 : decode cX7_endCalls 46 = .ok (.iinc 3 1, 3) := by decide +kernel
theorem dX7_endCalls_49 : decode cX7_endCalls 49 = .ok (.goto (-45), 3) := by decide +kernel
theorem dX7_endCalls_52 : decode cX7_endCalls 52 = .ok (.iload_n 2, 1) := by decide +kernel
theorem dX7_endCalls_53 : decode cX7_endCalls 53 = .ok (.ireturn, 1) := by decide +kernel
theorem dX7_letMaps_0 : decode cX7_letMaps 0 = .ok (.iconst 0, 1) := by decide +kernel
theorem dX7_letMaps_1 : decode cX7_letMaps 1 = .ok (.istore_n 2, 1) := by decide +kernel
theorem dX7_letMaps_2 : decode cX7_letMaps 2 = .ok (.iload_n 2, 1) := by decide +kernel
theorem dX7_letMaps_3 : decode cX7_letMaps 3 = .ok (.bipush 16, 2) := by decide +kernel
theorem dX7_letMaps_5 : decode cX7_letMaps 5 = .ok (.if_icmp .ge 35, 3) := by decide +kernel
theorem dX7_letMaps_8 : decode cX7_letMaps 8 = .ok (.aload_n 0, 1) := by decide +kernel
theorem dX7_letMaps_9 : decode cX7_letMaps 9 = .ok (.getfield 104, 3) := by decide +kernel
theorem dX7_letMaps_12 : decode cX7_letMaps 12 = .ok (.iload_n 2, 1) := by decide +kernel
theorem dX7_letMaps_13 : decode cX7_letMaps 13 = .ok (.aload_n 0, 1) := by decide +kernel
theorem dX7_letMaps_14 : decode cX7_letMaps 14 = .ok (.getfield 104, 3) := by decide +kernel
theorem dX7_letMaps_17 : decode cX7_letMaps 17 = .ok (.iload_n 2, 1) := by decide +kernel
theorem dX7_letMaps_18 : decode cX7_letMaps 18 = .ok (.iaload, 1) := by decide +kernel
theorem dX7_letMaps_19 : decode cX7_letMaps 19 = .ok (.iload_n 1, 1) := by decide +kernel
theorem dX7_letMaps_20 : decode cX7_letMaps 20 = .ok (.if_icmp .ne 7, 3) := by decide +kernel
theorem dX7_letMaps_23 : decode cX7_letMaps 23 = .ok (.iconst (-1), 1) := by decide +kernel
theorem dX7_letMaps_24 : decode cX7_letMaps 24 = .ok (.goto 9, 3) := by decide +kernel
theorem dX7_letMaps_27 : decode cX7_letMaps 27 = .ok (.aload_n 0, 1) := by decide +kernel
theorem dX7_letMaps_28 : decode cX7_letMaps 28 = .ok (.getfield 104, 3) := by decide +kernel
theorem dX7_letMaps_31 : decode cX7_letMaps 31 = .ok (.iload_n 2, 1) := by decide +kernel
theorem dX7_letMaps_32 : decode cX7_letMaps 32 = .ok (.iaload, 1) := by decide +kernel
theorem dX7_letMaps_33 : decode cX7_letMaps 33 = .ok (.iastore, 1) := by decide +kernel
theorem dX7_letMaps_34 : decode cX7_letMaps 34 = .ok (.iinc 2 1, 3) := by decide +kernel
theorem dX7_letMaps_37 : decode cX7_letMaps 37 = .ok (.goto (-35), 3) := by decide +kernel
theorem dX7_letMaps_40 : decode cX7_letMaps 40 = .ok (.return_, 1) := by decide +kernel
theorem dX7_lastOf_0 : decode cX7_lastOf 0 = .ok (.iconst (-1), 1) := by decide +kernel
theorem dX7_lastOf_1 : decode cX7_lastOf 1 = .ok (.istore_n 2, 1) := by decide +kernel
theorem dX7_lastOf_2 : decode cX7_lastOf 2 = .ok (.iconst 0, 1) := by decide +kernel
theorem dX7_lastOf_3 : decode cX7_lastOf 3 = .ok (.istore_n 3, 1) := by decide +kernel
theorem dX7_lastOf_4 : decode cX7_lastOf 4 = .ok (.iload_n 3, 1) := by decide +kernel
theorem dX7_lastOf_5 : decode cX7_lastOf 5 = .ok (.aload_n 0, 1) := by decide +kernel
theorem dX7_lastOf_6 : decode cX7_lastOf 6 = .ok (.getfield 126, 3) := by decide +kernel
theorem dX7_lastOf_9 : decode cX7_lastOf 9 = .ok (.if_icmp .ge 51, 3) := by decide +kernel
theorem dX7_lastOf_12 : decode cX7_lastOf 12 = .ok (.iload_n 1, 1) := by decide +kernel
theorem dX7_lastOf_13 : decode cX7_lastOf 13 = .ok (.iload_n 3, 1) := by decide +kernel
theorem dX7_lastOf_14 : decode cX7_lastOf 14 = .ok (.invokestatic 193, 3) := by decide +kernel
theorem dX7_lastOf_17 : decode cX7_lastOf 17 = .ok (.ifCond .eq 35, 3) := by decide +kernel
theorem dX7_lastOf_20 : decode cX7_lastOf 20 = .ok (.aload_n 0, 1) := by decide +kernel
theorem dX7_lastOf_21 : decode cX7_lastOf 21 = .ok (.iload_n 3, 1) := by decide +kernel
theorem dX7_lastOf_22 : decode cX7_lastOf 22 = .ok (.invokevirtual 139, 3) := by decide +kernel
theorem dX7_lastOf_25 : decode cX7_lastOf 25 = .ok (.ifCond .eq 27, 3) := by decide +kernel
theorem dX7_lastOf_28 : decode cX7_lastOf 28 = .ok (.iload_n 2, 1) := by decide +kernel
theorem dX7_lastOf_29 : decode cX7_lastOf 29 = .ok (.iconst (-1), 1) := by decide +kernel
theorem dX7_lastOf_30 : decode cX7_lastOf 30 = .ok (.if_icmp .eq 18, 3) := by decide +kernel
theorem dX7_lastOf_33 : decode cX7_lastOf 33 = .ok (.aload_n 0, 1) := by decide +kernel
theorem dX7_lastOf_34 : decode cX7_lastOf 34 = .ok (.getfield 59, 3) := by decide +kernel
theorem dX7_lastOf_37 : decode cX7_lastOf 37 = .ok (.iload_n 3, 1) := by decide +kernel
theorem dX7_lastOf_38 : decode cX7_lastOf 38 = .ok (.iaload, 1) := by decide +kernel
theorem dX7_lastOf_39 : decode cX7_lastOf 39 = .ok (.aload_n 0, 1) := by decide +kernel
theorem dX7_lastOf_40 : decode cX7_lastOf 40 = .ok (.getfield 59, 3) := by decide +kernel
theorem dX7_lastOf_43 : decode cX7_lastOf 43 = .ok (.iload_n 2, 1) := by decide +kernel
theorem dX7_lastOf_44 : decode cX7_lastOf 44 = .ok (.iaload, 1) := by decide +kernel
theorem dX7_lastOf_45 : decode cX7_lastOf 45 = .ok (.if_icmp .le 7, 3) := by decide +kernel
theorem dX7_lastOf_48 : decode cX7_lastOf 48 = .ok (.iload_n 3, 1) := by decide +kernel
theorem dX7_lastOf_49 : decode cX7_lastOf 49 = .ok (.goto 4, 3) := by decide +kernel
theorem dX7_lastOf_52 : decode cX7_lastOf 52 = .ok (.iload_n 2, 1) := by decide +kernel
theorem dX7_lastOf_53 : decode cX7_lastOf 53 = .ok (.istore_n 2, 1) := by decide +kernel
theorem dX7_lastOf_54 : decode cX7_lastOf 54 = .ok (.iinc 3 1, 3) := by decide +kernel
theorem dX7_lastOf_57 : decode cX7_lastOf 57 = .ok (.goto (-53), 3) := by decide +kernel
theorem dX7_lastOf_60 : decode cX7_lastOf 60 = .ok (.iload_n 2, 1) := by decide +kernel
theorem dX7_lastOf_61 : decode cX7_lastOf 61 = .ok (.ireturn, 1) := by decide +kernel
theorem dX7_unbindAll_0 : decode cX7_unbindAll 0 = .ok (.iload_n 1, 1) := by decide +kernel
theorem dX7_unbindAll_1 : decode cX7_unbindAll 1 = .ok (.istore_n 2, 1) := by decide +kernel
theorem dX7_unbindAll_2 : decode cX7_unbindAll 2 = .ok (.iconst 0, 1) := by decide +kernel
theorem dX7_unbindAll_3 : decode cX7_unbindAll 3 = .ok (.istore_n 3, 1) := by decide +kernel
theorem dX7_unbindAll_4 : decode cX7_unbindAll 4 = .ok (.iload_n 3, 1) := by decide +kernel
theorem dX7_unbindAll_5 : decode cX7_unbindAll 5 = .ok (.aload_n 0, 1) := by decide +kernel
theorem dX7_unbindAll_6 : decode cX7_unbindAll 6 = .ok (.getfield 126, 3) := by decide +kernel
theorem dX7_unbindAll_9 : decode cX7_unbindAll 9 = .ok (.if_icmp .ge 58, 3) := by decide +kernel
theorem dX7_unbindAll_12 : decode cX7_unbindAll 12 = .ok (.iload_n 2, 1) := by decide +kernel
theorem dX7_unbindAll_13 : decode cX7_unbindAll 13 = .ok (.iload_n 2, 1) := by decide +kernel
theorem dX7_unbindAll_14 : decode cX7_unbindAll 14 = .ok (.aload_n 0, 1) := by decide +kernel
theorem dX7_unbindAll_15 : decode cX7_unbindAll 15 = .ok (.getfield 7, 3) := by decide +kernel
theorem dX7_unbindAll_18 : decode cX7_unbindAll 18 = .ok (.iload_n 3, 1) := by decide +kernel
theorem dX7_unbindAll_19 : decode cX7_unbindAll 19 = .ok (.iaload, 1) := by decide +kernel
theorem dX7_unbindAll_20 : decode cX7_unbindAll 20 = .ok (.invokestatic 193, 3) := by decide +kernel
theorem dX7_unbindAll_23 : decode cX7_unbindAll 23 = .ok (.ifCond .ne 29, 3) := by decide +kernel
theorem dX7_unbindAll_26 : decode cX7_unbindAll 26 = .ok (.iload_n 2, 1) := by decide +kernel
theorem dX7_unbindAll_27 : decode cX7_unbindAll 27 = .ok (.aload_n 0, 1) := by decide +kernel
theorem dX7_unbindAll_28 : decode cX7_unbindAll 28 = .ok (.getfield 26, 3) := by decide +kernel
theorem dX7_unbindAll_31 : decode cX7_unbindAll 31 = .ok (.iload_n 3, 1) := by decide +kernel
theorem dX7_unbindAll_32 : decode cX7_unbindAll 32 = .ok (.iaload, 1) := by decide +kernel
theorem dX7_unbindAll_33 : decode cX7_unbindAll 33 = .ok (.invokestatic 193, 3) := by decide +kernel
theorem dX7_unbindAll_36 : decode cX7_unbindAll 36 = .ok (.ifCond .ne 16, 3) := by decide +kernel
theorem dX7_unbindAll_39 : decode cX7_unbindAll 39 = .ok (.iload_n 2, 1) := by decide +kernel
theorem dX7_unbindAll_40 : decode cX7_unbindAll 40 = .ok (.aload_n 0, 1) := by decide +kernel
theorem dX7_unbindAll_41 : decode cX7_unbindAll 41 = .ok (.getfield 29, 3) := by decide +kernel
theorem dX7_unbindAll_44 : decode cX7_unbindAll 44 = .ok (.iload_n 3, 1) := by decide +kernel
theorem dX7_unbindAll_45 : decode cX7_unbindAll 45 = .ok (.iaload, 1) := by decide +kernel
theorem dX7_unbindAll_46 : decode cX7_unbindAll 46 = .ok (.invokestatic 193, 3) := by decide +kernel
theorem dX7_unbindAll_49 : decode cX7_unbindAll 49 = .ok (.ifCond .eq 9, 3) := by decide +kernel
theorem dX7_unbindAll_52 : decode cX7_unbindAll 52 = .ok (.iconst 1, 1) := by decide +kernel
theorem dX7_unbindAll_53 : decode cX7_unbindAll 53 = .ok (.iload_n 3, 1) := by decide +kernel
theorem dX7_unbindAll_54 : decode cX7_unbindAll 54 = .ok (.ishl, 1) := by decide +kernel
theorem dX7_unbindAll_55 : decode cX7_unbindAll 55 = .ok (.goto 4, 3) := by decide +kernel
theorem dX7_unbindAll_58 : decode cX7_unbindAll 58 = .ok (.iconst 0, 1) := by decide +kernel
theorem dX7_unbindAll_59 : decode cX7_unbindAll 59 = .ok (.ior, 1) := by decide +kernel
theorem dX7_unbindAll_60 : decode cX7_unbindAll 60 = .ok (.istore_n 2, 1) := by decide +kernel
theorem dX7_unbindAll_61 : decode cX7_unbindAll 61 = .ok (.iinc 3 1, 3) := by decide +kernel
theorem dX7_unbindAll_64 : decode cX7_unbindAll 64 = .ok (.goto (-60), 3) := by decide +kernel
theorem dX7_unbindAll_67 : decode cX7_unbindAll 67 = .ok (.iconst 0, 1) := by decide +kernel
theorem dX7_unbindAll_68 : decode cX7_unbindAll 68 = .ok (.istore_n 3, 1) := by decide +kernel
theorem dX7_unbindAll_69 : decode cX7_unbindAll 69 = .ok (.aload_n 0, 1) := by decide +kernel
theorem dX7_unbindAll_70 : decode cX7_unbindAll 70 = .ok (.iload_n 2, 1) := by decide +kernel
theorem dX7_unbindAll_71 : decode cX7_unbindAll 71 = .ok (.invokevirtual 196, 3) := by decide +kernel
theorem dX7_unbindAll_74 : decode cX7_unbindAll 74 = .ok (.istore 4, 2) := by decide +kernel
theorem dX7_unbindAll_76 : decode cX7_unbindAll 76 = .ok (.iload 4, 2) := by decide +kernel
theorem dX7_unbindAll_78 : decode cX7_unbindAll 78 = .ok (.iconst (-1), 1) := by decide +kernel
theorem dX7_unbindAll_79 : decode cX7_unbindAll 79 = .ok (.if_icmp .eq 88, 3) := by decide +kernel
theorem dX7_unbindAll_82 : decode cX7_unbindAll 82 = .ok (.aload_n 0, 1) := by decide +kernel
theorem dX7_unbindAll_83 : decode cX7_unbindAll 83 = .ok (.iload 4, 2) := by decide +kernel
theorem dX7_unbindAll_85 : decode cX7_unbindAll 85 = .ok (.invokevirtual 199, 3) := by decide +kernel
theorem dX7_unbindAll_88 : decode cX7_unbindAll 88 = .ok (.istore 5, 2) := by decide +kernel
theorem dX7_unbindAll_90 : decode cX7_unbindAll 90 = .ok (.aload_n 0, 1) := by decide +kernel
theorem dX7_unbindAll_91 : decode cX7_unbindAll 91 = .ok (.iload 4, 2) := by decide +kernel
theorem dX7_unbindAll_93 : decode cX7_unbindAll 93 = .ok (.invokevirtual 202, 3) := by decide +kernel
theorem dX7_unbindAll_96 : decode cX7_unbindAll 96 = .ok (.aload_n 0, 1) := by decide +kernel
theorem dX7_unbindAll_97 : decode cX7_unbindAll 97 = .ok (.getfield 35, 3) := by decide +kernel
theorem dX7_unbindAll_100 : decode cX7_unbindAll 100 = .ok (.iload 4, 2) := by decide +kernel
theorem dX7_unbindAll_102 : decode cX7_unbindAll 102 = .ok (.iconst (-1), 1) := by decide +kernel
theorem dX7_unbindAll_103 : decode cX7_unbindAll 103 = .ok (.iastore, 1) := by decide +kernel
theorem dX7_unbindAll_104 : decode cX7_unbindAll 104 = .ok (.aload_n 0, 1) := by decide +kernel
theorem dX7_unbindAll_105 : decode cX7_unbindAll 105 = .ok (.getfield 38, 3) := by decide +kernel
theorem dX7_unbindAll_108 : decode cX7_unbindAll 108 = .ok (.iload 4, 2) := by decide +kernel
theorem dX7_unbindAll_110 : decode cX7_unbindAll 110 = .ok (.iconst 0, 1) := by decide +kernel
theorem dX7_unbindAll_111 : decode cX7_unbindAll 111 = .ok (.bastore, 1) := by decide +kernel
theorem dX7_unbindAll_112 : decode cX7_unbindAll 112 = .ok (.aload_n 0, 1) := by decide +kernel
theorem dX7_unbindAll_113 : decode cX7_unbindAll 113 = .ok (.getfield 41, 3) := by decide +kernel
theorem dX7_unbindAll_116 : decode cX7_unbindAll 116 = .ok (.iload 4, 2) := by decide +kernel
theorem dX7_unbindAll_118 : decode cX7_unbindAll 118 = .ok (.iconst (-1), 1) := by decide +kernel
theorem dX7_unbindAll_119 : decode cX7_unbindAll 119 = .ok (.iastore, 1) := by decide +kernel
theorem dX7_unbindAll_120 : decode cX7_unbindAll 120 = .ok (.aload_n 0, 1) := by decide +kernel
theorem dX7_unbindAll_121 : decode cX7_unbindAll 121 = .ok (.getfield 65, 3) := by decide +kernel
theorem dX7_unbindAll_124 : decode cX7_unbindAll 124 = .ok (.iload 4, 2) := by decide +kernel
theorem dX7_unbindAll_126 : decode cX7_unbindAll 126 = .ok (.iconst 0, 1) := by decide +kernel
theorem dX7_unbindAll_127 : decode cX7_unbindAll 127 = .ok (.bastore, 1) := by decide +kernel
theorem dX7_unbindAll_128 : decode cX7_unbindAll 128 = .ok (.aload_n 0, 1) := by decide +kernel
theorem dX7_unbindAll_129 : decode cX7_unbindAll 129 = .ok (.getfield 50, 3) := by decide +kernel
theorem dX7_unbindAll_132 : decode cX7_unbindAll 132 = .ok (.iload 4, 2) := by decide +kernel
theorem dX7_unbindAll_134 : decode cX7_unbindAll 134 = .ok (.iconst 0, 1) := by decide +kernel
theorem dX7_unbindAll_135 : decode cX7_unbindAll 135 = .ok (.bastore, 1) := by decide +kernel
theorem dX7_unbindAll_136 : decode cX7_unbindAll 136 = .ok (.aload_n 0, 1) := by decide +kernel
theorem dX7_unbindAll_137 : decode cX7_unbindAll 137 = .ok (.getfield 56, 3) := by decide +kernel
theorem dX7_unbindAll_140 : decode cX7_unbindAll 140 = .ok (.iload 4, 2) := by decide +kernel
theorem dX7_unbindAll_142 : decode cX7_unbindAll 142 = .ok (.dup2, 1) := by decide +kernel
theorem dX7_unbindAll_143 : decode cX7_unbindAll 143 = .ok (.iaload, 1) := by decide +kernel
theorem dX7_unbindAll_144 : decode cX7_unbindAll 144 = .ok (.iconst 1, 1) := by decide +kernel
theorem dX7_unbindAll_145 : decode cX7_unbindAll 145 = .ok (.iadd, 1) := by decide +kernel
theorem dX7_unbindAll_146 : decode cX7_unbindAll 146 = .ok (.iastore, 1) := by decide +kernel
theorem dX7_unbindAll_147 : decode cX7_unbindAll 147 = .ok (.aload_n 0, 1) := by decide +kernel
theorem dX7_unbindAll_148 : decode cX7_unbindAll 148 = .ok (.iconst 1, 1) := by decide +kernel
theorem dX7_unbindAll_149 : decode cX7_unbindAll 149 = .ok (.iload 4, 2) := by decide +kernel
theorem dX7_unbindAll_151 : decode cX7_unbindAll 151 = .ok (.invokevirtual 166, 3) := by decide +kernel
theorem dX7_unbindAll_154 : decode cX7_unbindAll 154 = .ok (.iinc 3 1, 3) := by decide +kernel
theorem dX7_unbindAll_157 : decode cX7_unbindAll 157 = .ok (.aload_n 0, 1) := by decide +kernel
theorem dX7_unbindAll_158 : decode cX7_unbindAll 158 = .ok (.iload_n 2, 1) := by decide +kernel
theorem dX7_unbindAll_159 : decode cX7_unbindAll 159 = .ok (.invokevirtual 196, 3) := by decide +kernel
theorem dX7_unbindAll_162 : decode cX7_unbindAll 162 = .ok (.istore 4, 2) := by decide +kernel
theorem dX7_unbindAll_164 : decode cX7_unbindAll 164 = .ok (.goto (-88), 3) := by decide +kernel
theorem dX7_unbindAll_167 : decode cX7_unbindAll 167 = .ok (.iload_n 3, 1) := by decide +kernel
theorem dX7_unbindAll_168 : decode cX7_unbindAll 168 = .ok (.ireturn, 1) := by decide +kernel
theorem dX7_isNeeded_0 : decode cX7_isNeeded 0 = .ok (.iload_n 1, 1) := by decide +kernel
theorem dX7_isNeeded_1 : decode cX7_isNeeded 1 = .ok (.iconst (-1), 1) := by decide +kernel
theorem dX7_isNeeded_2 : decode cX7_isNeeded 2 = .ok (.if_icmp .eq 20, 3) := by decide +kernel
theorem dX7_isNeeded_5 : decode cX7_isNeeded 5 = .ok (.aload_n 0, 1) := by decide +kernel
theorem dX7_isNeeded_6 : decode cX7_isNeeded 6 = .ok (.iload_n 1, 1) := by decide +kernel
theorem dX7_isNeeded_7 : decode cX7_isNeeded 7 = .ok (.invokevirtual 205, 3) := by decide +kernel
theorem dX7_isNeeded_10 : decode cX7_isNeeded 10 = .ok (.ifCond .eq 16, 3) := by decide +kernel
theorem dX7_isNeeded_13 : decode cX7_isNeeded 13 = .ok (.aload_n 0, 1) := by decide +kernel
theorem dX7_isNeeded_14 : decode cX7_isNeeded 14 = .ok (.getfield 32, 3) := by decide +kernel
theorem dX7_isNeeded_17 : decode cX7_isNeeded 17 = .ok (.iload_n 1, 1) := by decide +kernel
theorem dX7_isNeeded_18 : decode cX7_isNeeded 18 = .ok (.baload, 1) := by decide +kernel
theorem dX7_isNeeded_19 : decode cX7_isNeeded 19 = .ok (.ifCond .eq 7, 3) := by decide +kernel
theorem dX7_isNeeded_22 : decode cX7_isNeeded 22 = .ok (.iconst 1, 1) := by decide +kernel
theorem dX7_isNeeded_23 : decode cX7_isNeeded 23 = .ok (.goto 4, 3) := by decide +kernel
theorem dX7_isNeeded_26 : decode cX7_isNeeded 26 = .ok (.iconst 0, 1) := by decide +kernel
theorem dX7_isNeeded_27 : decode cX7_isNeeded 27 = .ok (.ireturn, 1) := by decide +kernel
theorem dX7_plug_0 : decode cX7_plug 0 = .ok (.iload_n 2, 1) := by decide +kernel
theorem dX7_plug_1 : decode cX7_plug 1 = .ok (.iconst 0, 1) := by decide +kernel
theorem dX7_plug_2 : decode cX7_plug 2 = .ok (.bipush 31, 2) := by decide +kernel
theorem dX7_plug_4 : decode cX7_plug 4 = .ok (.invokestatic 129, 3) := by decide +kernel
theorem dX7_plug_7 : decode cX7_plug 7 = .ok (.ifCond .eq 51, 3) := by decide +kernel
theorem dX7_plug_10 : decode cX7_plug 10 = .ok (.iload_n 3, 1) := by decide +kernel
theorem dX7_plug_11 : decode cX7_plug 11 = .ok (.iconst 0, 1) := by decide +kernel
theorem dX7_plug_12 : decode cX7_plug 12 = .ok (.iconst 2, 1) := by decide +kernel
theorem dX7_plug_13 : decode cX7_plug 13 = .ok (.invokestatic 129, 3) := by decide +kernel
theorem dX7_plug_16 : decode cX7_plug 16 = .ok (.ifCond .ne 14, 3) := by decide +kernel
theorem dX7_plug_19 : decode cX7_plug 19 = .ok (.iload_n 3, 1) := by decide +kernel
theorem dX7_plug_20 : decode cX7_plug 20 = .ok (.iconst 4, 1) := by decide +kernel
theorem dX7_plug_21 : decode cX7_plug 21 = .ok (.if_icmp .eq 9, 3) := by decide +kernel
theorem dX7_plug_24 : decode cX7_plug 24 = .ok (.iload_n 3, 1) := by decide +kernel
theorem dX7_plug_25 : decode cX7_plug 25 = .ok (.bipush 8, 2) := by decide +kernel
theorem dX7_plug_27 : decode cX7_plug 27 = .ok (.if_icmp .ne 31, 3) := by decide +kernel
theorem dX7_plug_30 : decode cX7_plug 30 = .ok (.iload 4, 2) := by decide +kernel
theorem dX7_plug_32 : decode cX7_plug 32 = .ok (.iconst (-1), 1) := by decide +kernel
theorem dX7_plug_33 : decode cX7_plug 33 = .ok (.bipush 7, 2) := by decide +kernel
theorem dX7_plug_35 : decode cX7_plug 35 = .ok (.invokestatic 129, 3) := by decide +kernel
theorem dX7_plug_38 : decode cX7_plug 38 = .ok (.ifCond .eq 20, 3) := by decide +kernel
theorem dX7_plug_41 : decode cX7_plug 41 = .ok (.iload 6, 2) := by decide +kernel
theorem dX7_plug_43 : decode cX7_plug 43 = .ok (.iconst (-1), 1) := by decide +kernel
theorem dX7_plug_44 : decode cX7_plug 44 = .ok (.if_icmp .eq 10, 3) := by decide +kernel
theorem dX7_plug_47 : decode cX7_plug 47 = .ok (.iload 6, 2) := by decide +kernel
theorem dX7_plug_49 : decode cX7_plug 49 = .ok (.iload 7, 2) := by decide +kernel
theorem dX7_plug_51 : decode cX7_plug 51 = .ok (.if_icmp .eq 7, 3) := by decide +kernel
theorem dX7_plug_54 : decode cX7_plug 54 = .ok (.iconst 1, 1) := by decide +kernel
theorem dX7_plug_55 : decode cX7_plug 55 = .ok (.goto 4, 3) := by decide +kernel
theorem dX7_plug_58 : decode cX7_plug 58 = .ok (.iconst 0, 1) := by decide +kernel
theorem dX7_plug_59 : decode cX7_plug 59 = .ok (.istore 8, 2) := by decide +kernel
theorem dX7_plug_61 : decode cX7_plug 61 = .ok (.aload_n 0, 1) := by decide +kernel
theorem dX7_plug_62 : decode cX7_plug 62 = .ok (.aload_n 0, 1) := by decide +kernel
theorem dX7_plug_63 : decode cX7_plug 63 = .ok (.iload_n 1, 1) := by decide +kernel
theorem dX7_plug_64 : decode cX7_plug 64 = .ok (.invokevirtual 208, 3) := by decide +kernel
theorem dX7_plug_67 : decode cX7_plug 67 = .ok (.ifCond .eq 21, 3) := by decide +kernel
theorem dX7_plug_70 : decode cX7_plug 70 = .ok (.aload_n 0, 1) := by decide +kernel
theorem dX7_plug_71 : decode cX7_plug 71 = .ok (.iload 6, 2) := by decide +kernel
theorem dX7_plug_73 : decode cX7_plug 73 = .ok (.invokevirtual 208, 3) := by decide +kernel
theorem dX7_plug_76 : decode cX7_plug 76 = .ok (.ifCond .eq 12, 3) := by decide +kernel
theorem dX7_plug_79 : decode cX7_plug 79 = .ok (.aload_n 0, 1) := by decide +kernel
theorem dX7_plug_80 : decode cX7_plug 80 = .ok (.iload 7, 2) := by decide +kernel
theorem dX7_plug_82 : decode cX7_plug 82 = .ok (.invokevirtual 208, 3) := by decide +kernel
theorem dX7_plug_85 : decode cX7_plug 85 = .ok (.ifCond .ne 7, 3) := by decide +kernel
theorem dX7_plug_88 : decode cX7_plug 88 = .ok (.iconst 1, 1) := by decide +kernel
theorem dX7_plug_89 : decode cX7_plug 89 = .ok (.goto 26, 3) := by decide +kernel
theorem dX7_plug_92 : decode cX7_plug 92 = .ok (.iload 8, 2) := by decide +kernel
theorem dX7_plug_94 : decode cX7_plug 94 = .ok (.ifCond .ne 7, 3) := by decide +kernel
theorem dX7_plug_97 : decode cX7_plug 97 = .ok (.iconst 2, 1) := by decide +kernel
theorem dX7_plug_98 : decode cX7_plug 98 = .ok (.goto 17, 3) := by decide +kernel
theorem dX7_plug_101 : decode cX7_plug 101 = .ok (.aload_n 0, 1) := by decide +kernel
theorem dX7_plug_102 : decode cX7_plug 102 = .ok (.getfield 126, 3) := by decide +kernel
theorem dX7_plug_105 : decode cX7_plug 105 = .ok (.bipush 24, 2) := by decide +kernel
theorem dX7_plug_107 : decode cX7_plug 107 = .ok (.if_icmp .ne 7, 3) := by decide +kernel
theorem dX7_plug_110 : decode cX7_plug 110 = .ok (.iconst 3, 1) := by decide +kernel
theorem dX7_plug_111 : decode cX7_plug 111 = .ok (.goto 4, 3) := by decide +kernel
theorem dX7_plug_114 : decode cX7_plug 114 = .ok (.iconst 0, 1) := by decide +kernel
theorem dX7_plug_115 : decode cX7_plug 115 = .ok (.putfield 122, 3) := by decide +kernel
theorem dX7_plug_118 : decode cX7_plug 118 = .ok (.aload_n 0, 1) := by decide +kernel
theorem dX7_plug_119 : decode cX7_plug 119 = .ok (.getfield 122, 3) := by decide +kernel
theorem dX7_plug_122 : decode cX7_plug 122 = .ok (.ifCond .eq 5, 3) := by decide +kernel
theorem dX7_plug_125 : decode cX7_plug 125 = .ok (.iconst 0, 1) := by decide +kernel
theorem dX7_plug_126 : decode cX7_plug 126 = .ok (.ireturn, 1) := by decide +kernel
theorem dX7_plug_127 : decode cX7_plug 127 = .ok (.aload_n 0, 1) := by decide +kernel
theorem dX7_plug_128 : decode cX7_plug 128 = .ok (.getfield 126, 3) := by decide +kernel
theorem dX7_plug_131 : decode cX7_plug 131 = .ok (.istore 9, 2) := by decide +kernel
theorem dX7_plug_133 : decode cX7_plug 133 = .ok (.aload_n 0, 1) := by decide +kernel
theorem dX7_plug_134 : decode cX7_plug 134 = .ok (.dup, 1) := by decide +kernel
theorem dX7_plug_135 : decode cX7_plug 135 = .ok (.getfield 126, 3) := by decide +kernel
theorem dX7_plug_138 : decode cX7_plug 138 = .ok (.iconst 1, 1) := by decide +kernel
theorem dX7_plug_139 : decode cX7_plug 139 = .ok (.iadd, 1) := by decide +kernel
theorem dX7_plug_140 : decode cX7_plug 140 = .ok (.putfield 126, 3) := by decide +kernel
theorem dX7_plug_143 : decode cX7_plug 143 = .ok (.aload_n 0, 1) := by decide +kernel
theorem dX7_plug_144 : decode cX7_plug 144 = .ok (.getfield 7, 3) := by decide +kernel
theorem dX7_plug_147 : decode cX7_plug 147 = .ok (.iload 9, 2) := by decide +kernel
theorem dX7_plug_149 : decode cX7_plug 149 = .ok (.iload_n 1, 1) := by decide +kernel
theorem dX7_plug_150 : decode cX7_plug 150 = .ok (.iastore, 1) := by decide +kernel
theorem dX7_plug_151 : decode cX7_plug 151 = .ok (.aload_n 0, 1) := by decide +kernel
theorem dX7_plug_152 : decode cX7_plug 152 = .ok (.getfield 13, 3) := by decide +kernel
theorem dX7_plug_155 : decode cX7_plug 155 = .ok (.iload 9, 2) := by decide +kernel
theorem dX7_plug_157 : decode cX7_plug 157 = .ok (.iload_n 2, 1) := by decide +kernel
theorem dX7_plug_158 : decode cX7_plug 158 = .ok (.iastore, 1) := by decide +kernel
theorem dX7_plug_159 : decode cX7_plug 159 = .ok (.aload_n 0, 1) := by decide +kernel
theorem dX7_plug_160 : decode cX7_plug 160 = .ok (.getfield 16, 3) := by decide +kernel
theorem dX7_plug_163 : decode cX7_plug 163 = .ok (.iload 9, 2) := by decide +kernel
theorem dX7_plug_165 : decode cX7_plug 165 = .ok (.iload_n 3, 1) := by decide +kernel
theorem dX7_plug_166 : decode cX7_plug 166 = .ok (.iastore, 1) := by decide +kernel
theorem dX7_plug_167 : decode cX7_plug 167 = .ok (.aload_n 0, 1) := by decide +kernel
theorem dX7_plug_168 : decode cX7_plug 168 = .ok (.getfield 19, 3) := by decide +kernel
theorem dX7_plug_171 : decode cX7_plug 171 = .ok (.iload 9, 2) := by decide +kernel
theorem dX7_plug_173 : decode cX7_plug 173 = .ok (.iload 4, 2) := by decide +kernel
theorem dX7_plug_175 : decode cX7_plug 175 = .ok (.iastore, 1) := by decide +kernel
theorem dX7_plug_176 : decode cX7_plug 176 = .ok (.aload_n 0, 1) := by decide +kernel
theorem dX7_plug_177 : decode cX7_plug 177 = .ok (.getfield 22, 3) := by decide +kernel
theorem dX7_plug_180 : decode cX7_plug 180 = .ok (.iload 9, 2) := by decide +kernel
theorem dX7_plug_182 : decode cX7_plug 182 = .ok (.iload 5, 2) := by decide +kernel
theorem dX7_plug_184 : decode cX7_plug 184 = .ok (.bastore, 1) := by decide +kernel
theorem dX7_plug_185 : decode cX7_plug 185 = .ok (.aload_n 0, 1) := by decide +kernel
theorem dX7_plug_186 : decode cX7_plug 186 = .ok (.getfield 26, 3) := by decide +kernel
theorem dX7_plug_189 : decode cX7_plug 189 = .ok (.iload 9, 2) := by decide +kernel
theorem dX7_plug_191 : decode cX7_plug 191 = .ok (.iload 6, 2) := by decide +kernel
theorem dX7_plug_193 : decode cX7_plug 193 = .ok (.iastore, 1) := by decide +kernel
theorem dX7_plug_194 : decode cX7_plug 194 = .ok (.aload_n 0, 1) := by decide +kernel
theorem dX7_plug_195 : decode cX7_plug 195 = .ok (.getfield 29, 3) := by decide +kernel
theorem dX7_plug_198 : decode cX7_plug 198 = .ok (.iload 9, 2) := by decide +kernel
theorem dX7_plug_200 : decode cX7_plug 200 = .ok (.iload 7, 2) := by decide +kernel
theorem dX7_plug_202 : decode cX7_plug 202 = .ok (.iastore, 1) := by decide +kernel
theorem dX7_plug_203 : decode cX7_plug 203 = .ok (.aload_n 0, 1) := by decide +kernel
theorem dX7_plug_204 : decode cX7_plug 204 = .ok (.getfield 32, 3) := by decide +kernel
theorem dX7_plug_207 : decode cX7_plug 207 = .ok (.iload 9, 2) := by decide +kernel
theorem dX7_plug_209 : decode cX7_plug 209 = .ok (.iconst 1, 1) := by decide +kernel
theorem dX7_plug_210 : decode cX7_plug 210 = .ok (.bastore, 1) := by decide +kernel
theorem dX7_plug_211 : decode cX7_plug 211 = .ok (.aload_n 0, 1) := by decide +kernel
theorem dX7_plug_212 : decode cX7_plug 212 = .ok (.invokevirtual 211, 3) := by decide +kernel
theorem dX7_plug_215 : decode cX7_plug 215 = .ok (.iload 9, 2) := by decide +kernel
theorem dX7_plug_217 : decode cX7_plug 217 = .ok (.ireturn, 1) := by decide +kernel
theorem dX7_unplug_0 : decode cX7_unplug 0 = .ok (.aload_n 0, 1) := by decide +kernel
theorem dX7_unplug_1 : decode cX7_unplug 1 = .ok (.aload_n 0, 1) := by decide +kernel
theorem dX7_unplug_2 : decode cX7_unplug 2 = .ok (.iload_n 1, 1) := by decide +kernel
theorem dX7_unplug_3 : decode cX7_unplug 3 = .ok (.invokevirtual 205, 3) := by decide +kernel
theorem dX7_unplug_6 : decode cX7_unplug 6 = .ok (.ifCond .ne 7, 3) := by decide +kernel
theorem dX7_unplug_9 : decode cX7_unplug 9 = .ok (.iconst 1, 1) := by decide +kernel
theorem dX7_unplug_10 : decode cX7_unplug 10 = .ok (.goto 17, 3) := by decide +kernel
theorem dX7_unplug_13 : decode cX7_unplug 13 = .ok (.aload_n 0, 1) := by decide +kernel
theorem dX7_unplug_14 : decode cX7_unplug 14 = .ok (.getfield 32, 3) := by decide +kernel
theorem dX7_unplug_17 : decode cX7_unplug 17 = .ok (.iload_n 1, 1) := by decide +kernel
theorem dX7_unplug_18 : decode cX7_unplug 18 = .ok (.baload, 1) := by decide +kernel
theorem dX7_unplug_19 : decode cX7_unplug 19 = .ok (.ifCond .ne 7, 3) := by decide +kernel
theorem dX7_unplug_22 : decode cX7_unplug 22 = .ok (.iconst 2, 1) := by decide +kernel
theorem dX7_unplug_23 : decode cX7_unplug 23 = .ok (.goto 4, 3) := by decide +kernel
theorem dX7_unplug_26 : decode cX7_unplug 26 = .ok (.iconst 0, 1) := by decide +kernel
theorem dX7_unplug_27 : decode cX7_unplug 27 = .ok (.putfield 122, 3) := by decide +kernel
theorem dX7_unplug_30 : decode cX7_unplug 30 = .ok (.aload_n 0, 1) := by decide +kernel
theorem dX7_unplug_31 : decode cX7_unplug 31 = .ok (.getfield 122, 3) := by decide +kernel
theorem dX7_unplug_34 : decode cX7_unplug 34 = .ok (.ifCond .eq 5, 3) := by decide +kernel
theorem dX7_unplug_37 : decode cX7_unplug 37 = .ok (.iconst 0, 1) := by decide +kernel
theorem dX7_unplug_38 : decode cX7_unplug 38 = .ok (.ireturn, 1) := by decide +kernel
theorem dX7_unplug_39 : decode cX7_unplug 39 = .ok (.iconst 1, 1) := by decide +kernel
theorem dX7_unplug_40 : decode cX7_unplug 40 = .ok (.iload_n 1, 1) := by decide +kernel
theorem dX7_unplug_41 : decode cX7_unplug 41 = .ok (.ishl, 1) := by decide +kernel
theorem dX7_unplug_42 : decode cX7_unplug 42 = .ok (.istore_n 2, 1) := by decide +kernel
theorem dX7_unplug_43 : decode cX7_unplug 43 = .ok (.iload_n 1, 1) := by decide +kernel
theorem dX7_unplug_44 : decode cX7_unplug 44 = .ok (.iconst 1, 1) := by decide +kernel
theorem dX7_unplug_45 : decode cX7_unplug 45 = .ok (.iadd, 1) := by decide +kernel
theorem dX7_unplug_46 : decode cX7_unplug 46 = .ok (.istore_n 3, 1) := by decide +kernel
theorem dX7_unplug_47 : decode cX7_unplug 47 = .ok (.iload_n 3, 1) := by decide +kernel
theorem dX7_unplug_48 : decode cX7_unplug 48 = .ok (.aload_n 0, 1) := by decide +kernel
theorem dX7_unplug_49 : decode cX7_unplug 49 = .ok (.getfield 126, 3) := by decide +kernel
theorem dX7_unplug_52 : decode cX7_unplug 52 = .ok (.if_icmp .ge 41, 3) := by decide +kernel
theorem dX7_unplug_55 : decode cX7_unplug 55 = .ok (.iload_n 2, 1) := by decide +kernel
theorem dX7_unplug_56 : decode cX7_unplug 56 = .ok (.aload_n 0, 1) := by decide +kernel
theorem dX7_unplug_57 : decode cX7_unplug 57 = .ok (.getfield 32, 3) := by decide +kernel
theorem dX7_unplug_60 : decode cX7_unplug 60 = .ok (.iload_n 3, 1) := by decide +kernel
theorem dX7_unplug_61 : decode cX7_unplug 61 = .ok (.baload, 1) := by decide +kernel
theorem dX7_unplug_62 : decode cX7_unplug 62 = .ok (.ifCond .eq 22, 3) := by decide +kernel
theorem dX7_unplug_65 : decode cX7_unplug 65 = .ok (.iload_n 2, 1) := by decide +kernel
theorem dX7_unplug_66 : decode cX7_unplug 66 = .ok (.aload_n 0, 1) := by decide +kernel
theorem dX7_unplug_67 : decode cX7_unplug 67 = .ok (.getfield 7, 3) := by decide +kernel
theorem dX7_unplug_70 : decode cX7_unplug 70 = .ok (.iload_n 3, 1) := by decide +kernel
theorem dX7_unplug_71 : decode cX7_unplug 71 = .ok (.iaload, 1) := by decide +kernel
theorem dX7_unplug_72 : decode cX7_unplug 72 = .ok (.invokestatic 193, 3) := by decide +kernel
theorem dX7_unplug_75 : decode cX7_unplug 75 = .ok (.ifCond .eq 9, 3) := by decide +kernel
theorem dX7_unplug_78 : decode cX7_unplug 78 = .ok (.iconst 1, 1) := by decide +kernel
theorem dX7_unplug_79 : decode cX7_unplug 79 = .ok (.iload_n 3, 1) := by decide +kernel
theorem dX7_unplug_80 : decode cX7_unplug 80 = .ok (.ishl, 1) := by decide +kernel
theorem dX7_unplug_81 : decode cX7_unplug 81 = .ok (.goto 4, 3) := by decide +kernel
theorem dX7_unplug_84 : decode cX7_unplug 84 = .ok (.iconst 0, 1) := by decide +kernel
theorem dX7_unplug_85 : decode cX7_unplug 85 = .ok (.ior, 1) := by decide +kernel
theorem dX7_unplug_86 : decode cX7_unplug 86 = .ok (.istore_n 2, 1) := by decide +kernel
theorem dX7_unplug_87 : decode cX7_unplug 87 = .ok (.iinc 3 1, 3) := by decide +kernel
theorem dX7_unplug_90 : decode cX7_unplug 90 = .ok (.goto (-43), 3) := by decide +kernel
theorem dX7_unplug_93 : decode cX7_unplug 93 = .ok (.aload_n 0, 1) := by decide +kernel
theorem dX7_unplug_94 : decode cX7_unplug 94 = .ok (.iload_n 2, 1) := by decide +kernel
theorem dX7_unplug_95 : decode cX7_unplug 95 = .ok (.invokevirtual 214, 3) := by decide +kernel
theorem dX7_unplug_98 : decode cX7_unplug 98 = .ok (.istore_n 3, 1) := by decide +kernel
theorem dX7_unplug_99 : decode cX7_unplug 99 = .ok (.iconst 0, 1) := by decide +kernel
theorem dX7_unplug_100 : decode cX7_unplug 100 = .ok (.istore_n 3, 1) := by decide +kernel
theorem dX7_unplug_101 : decode cX7_unplug 101 = .ok (.aload_n 0, 1) := by decide +kernel
theorem dX7_unplug_102 : decode cX7_unplug 102 = .ok (.getfield 126, 3) := by decide +kernel
theorem dX7_unplug_105 : decode cX7_unplug 105 = .ok (.iconst 1, 1) := by decide +kernel
theorem dX7_unplug_106 : decode cX7_unplug 106 = .ok (.isub, 1) := by decide +kernel
theorem dX7_unplug_107 : decode cX7_unplug 107 = .ok (.istore 4, 2) := by decide +kernel
theorem dX7_unplug_109 : decode cX7_unplug 109 = .ok (.iload 4, 2) := by decide +kernel
theorem dX7_unplug_111 : decode cX7_unplug 111 = .ok (.ifCond .lt 44, 3) := by decide +kernel
theorem dX7_unplug_114 : decode cX7_unplug 114 = .ok (.iload_n 2, 1) := by decide +kernel
theorem dX7_unplug_115 : decode cX7_unplug 115 = .ok (.iload 4, 2) := by decide +kernel
theorem dX7_unplug_117 : decode cX7_unplug 117 = .ok (.invokestatic 193, 3) := by decide +kernel
theorem dX7_unplug_120 : decode cX7_unplug 120 = .ok (.ifCond .eq 29, 3) := by decide +kernel
theorem dX7_unplug_123 : decode cX7_unplug 123 = .ok (.aload_n 0, 1) := by decide +kernel
theorem dX7_unplug_124 : decode cX7_unplug 124 = .ok (.getfield 32, 3) := by decide +kernel
theorem dX7_unplug_127 : decode cX7_unplug 127 = .ok (.iload 4, 2) := by decide +kernel
theorem dX7_unplug_129 : decode cX7_unplug 129 = .ok (.iconst 0, 1) := by decide +kernel
theorem dX7_unplug_130 : decode cX7_unplug 130 = .ok (.bastore, 1) := by decide +kernel
theorem dX7_unplug_131 : decode cX7_unplug 131 = .ok (.aload_n 0, 1) := by decide +kernel
theorem dX7_unplug_132 : decode cX7_unplug 132 = .ok (.getfield 50, 3) := by decide +kernel
theorem dX7_unplug_135 : decode cX7_unplug 135 = .ok (.iload 4, 2) := by decide +kernel
theorem dX7_unplug_137 : decode cX7_unplug 137 = .ok (.iconst 0, 1) := by decide +kernel
theorem dX7_unplug_138 : decode cX7_unplug 138 = .ok (.bastore, 1) := by decide +kernel
theorem dX7_unplug_139 : decode cX7_unplug 139 = .ok (.aload_n 0, 1) := by decide +kernel
theorem dX7_unplug_140 : decode cX7_unplug 140 = .ok (.iconst 2, 1) := by decide +kernel
theorem dX7_unplug_141 : decode cX7_unplug 141 = .ok (.iload 4, 2) := by decide +kernel
theorem dX7_unplug_143 : decode cX7_unplug 143 = .ok (.invokevirtual 166, 3) := by decide +kernel
theorem dX7_unplug_146 : decode cX7_unplug 146 = .ok (.iinc 3 1, 3) := by decide +kernel
theorem dX7_unplug_149 : decode cX7_unplug 149 = .ok (.iinc 4 (-1), 3) := by decide +kernel
theorem dX7_unplug_152 : decode cX7_unplug 152 = .ok (.goto (-43), 3) := by decide +kernel
theorem dX7_unplug_155 : decode cX7_unplug 155 = .ok (.aload_n 0, 1) := by decide +kernel
theorem dX7_unplug_156 : decode cX7_unplug 156 = .ok (.invokevirtual 211, 3) := by decide +kernel
theorem dX7_unplug_159 : decode cX7_unplug 159 = .ok (.iload_n 3, 1) := by decide +kernel
theorem dX7_unplug_160 : decode cX7_unplug 160 = .ok (.ireturn, 1) := by decide +kernel
theorem dX7_driver_0 : decode cX7_driver 0 = .ok (.aload_n 0, 1) := by decide +kernel
theorem dX7_driver_1 : decode cX7_driver 1 = .ok (.iload_n 2, 1) := by decide +kernel
theorem dX7_driver_2 : decode cX7_driver 2 = .ok (.iconst 0, 1) := by decide +kernel
theorem dX7_driver_3 : decode cX7_driver 3 = .ok (.bipush 9, 2) := by decide +kernel
theorem dX7_driver_5 : decode cX7_driver 5 = .ok (.invokestatic 129, 3) := by decide +kernel
theorem dX7_driver_8 : decode cX7_driver 8 = .ok (.ifCond .eq 13, 3) := by decide +kernel
theorem dX7_driver_11 : decode cX7_driver 11 = .ok (.iload_n 3, 1) := by decide +kernel
theorem dX7_driver_12 : decode cX7_driver 12 = .ok (.iconst 0, 1) := by decide +kernel
theorem dX7_driver_13 : decode cX7_driver 13 = .ok (.bipush 9, 2) := by decide +kernel
theorem dX7_driver_15 : decode cX7_driver 15 = .ok (.invokestatic 129, 3) := by decide +kernel
theorem dX7_driver_18 : decode cX7_driver 18 = .ok (.ifCond .ne 7, 3) := by decide +kernel
theorem dX7_driver_21 : decode cX7_driver 21 = .ok (.iconst 1, 1) := by decide +kernel
theorem dX7_driver_22 : decode cX7_driver 22 = .ok (.goto 17, 3) := by decide +kernel
theorem dX7_driver_25 : decode cX7_driver 25 = .ok (.aload_n 0, 1) := by decide +kernel
theorem dX7_driver_26 : decode cX7_driver 26 = .ok (.getfield 136, 3) := by decide +kernel
theorem dX7_driver_29 : decode cX7_driver 29 = .ok (.bipush 8, 2) := by decide +kernel
theorem dX7_driver_31 : decode cX7_driver 31 = .ok (.if_icmp .ne 7, 3) := by decide +kernel
theorem dX7_driver_34 : decode cX7_driver 34 = .ok (.iconst 2, 1) := by decide +kernel
theorem dX7_driver_35 : decode cX7_driver 35 = .ok (.goto 4, 3) := by decide +kernel
theorem dX7_driver_38 : decode cX7_driver 38 = .ok (.iconst 0, 1) := by decide +kernel
theorem dX7_driver_39 : decode cX7_driver 39 = .ok (.putfield 122, 3) := by decide +kernel
theorem dX7_driver_42 : decode cX7_driver 42 = .ok (.aload_n 0, 1) := by decide +kernel
theorem dX7_driver_43 : decode cX7_driver 43 = .ok (.getfield 122, 3) := by decide +kernel
theorem dX7_driver_46 : decode cX7_driver 46 = .ok (.ifCond .eq 5, 3) := by decide +kernel
theorem dX7_driver_49 : decode cX7_driver 49 = .ok (.iconst 0, 1) := by decide +kernel
theorem dX7_driver_50 : decode cX7_driver 50 = .ok (.ireturn, 1) := by decide +kernel
theorem dX7_driver_51 : decode cX7_driver 51 = .ok (.aload_n 0, 1) := by decide +kernel
theorem dX7_driver_52 : decode cX7_driver 52 = .ok (.getfield 136, 3) := by decide +kernel
theorem dX7_driver_55 : decode cX7_driver 55 = .ok (.istore 5, 2) := by decide +kernel
theorem dX7_driver_57 : decode cX7_driver 57 = .ok (.aload_n 0, 1) := by decide +kernel
theorem dX7_driver_58 : decode cX7_driver 58 = .ok (.dup, 1) := by decide +kernel
theorem dX7_driver_59 : decode cX7_driver 59 = .ok (.getfield 136, 3) := by decide +kernel
theorem dX7_driver_62 : decode cX7_driver 62 = .ok (.iconst 1, 1) := by decide +kernel
theorem dX7_driver_63 : decode cX7_driver 63 = .ok (.iadd, 1) := by decide +kernel
theorem dX7_driver_64 : decode cX7_driver 64 = .ok (.putfield 136, 3) := by decide +kernel
theorem dX7_driver_67 : decode cX7_driver 67 = .ok (.aload_n 0, 1) := by decide +kernel
theorem dX7_driver_68 : decode cX7_driver 68 = .ok (.getfield 68, 3) := by decide +kernel
theorem dX7_driver_71 : decode cX7_driver 71 = .ok (.iload 5, 2) := by decide +kernel
theorem dX7_driver_73 : decode cX7_driver 73 = .ok (.iload_n 1, 1) := by decide +kernel
theorem dX7_driver_74 : decode cX7_driver 74 = .ok (.iastore, 1) := by decide +kernel
theorem dX7_driver_75 : decode cX7_driver 75 = .ok (.aload_n 0, 1) := by decide +kernel
theorem dX7_driver_76 : decode cX7_driver 76 = .ok (.getfield 71, 3) := by decide +kernel
theorem dX7_driver_79 : decode cX7_driver 79 = .ok (.iload 5, 2) := by decide +kernel
theorem dX7_driver_81 : decode cX7_driver 81 = .ok (.iload_n 2, 1) := by decide +kernel
theorem dX7_driver_82 : decode cX7_driver 82 = .ok (.iastore, 1) := by decide +kernel
theorem dX7_driver_83 : decode cX7_driver 83 = .ok (.aload_n 0, 1) := by decide +kernel
theorem dX7_driver_84 : decode cX7_driver 84 = .ok (.getfield 74, 3) := by decide +kernel
theorem dX7_driver_87 : decode cX7_driver 87 = .ok (.iload 5, 2) := by decide +kernel
theorem dX7_driver_89 : decode cX7_driver 89 = .ok (.iload_n 3, 1) := by decide +kernel
theorem dX7_driver_90 : decode cX7_driver 90 = .ok (.iastore, 1) := by decide +kernel
theorem dX7_driver_91 : decode cX7_driver 91 = .ok (.aload_n 0, 1) := by decide +kernel
theorem dX7_driver_92 : decode cX7_driver 92 = .ok (.getfield 77, 3) := by decide +kernel
theorem dX7_driver_95 : decode cX7_driver 95 = .ok (.iload 5, 2) := by decide +kernel
theorem dX7_driver_97 : decode cX7_driver 97 = .ok (.iload 4, 2) := by decide +kernel
theorem dX7_driver_99 : decode cX7_driver 99 = .ok (.bastore, 1) := by decide +kernel
theorem dX7_driver_100 : decode cX7_driver 100 = .ok (.aload_n 0, 1) := by decide +kernel
theorem dX7_driver_101 : decode cX7_driver 101 = .ok (.invokevirtual 211, 3) := by decide +kernel
theorem dX7_driver_104 : decode cX7_driver 104 = .ok (.iload 5, 2) := by decide +kernel
theorem dX7_driver_106 : decode cX7_driver 106 = .ok (.ireturn, 1) := by decide +kernel
theorem dX7_load_0 : decode cX7_load 0 = .ok (.aload_n 0, 1) := by decide +kernel
theorem dX7_load_1 : decode cX7_load 1 = .ok (.iload_n 1, 1) := by decide +kernel
theorem dX7_load_2 : decode cX7_load 2 = .ok (.iconst 0, 1) := by decide +kernel
theorem dX7_load_3 : decode cX7_load 3 = .ok (.aload_n 0, 1) := by decide +kernel
theorem dX7_load_4 : decode cX7_load 4 = .ok (.getfield 136, 3) := by decide +kernel
theorem dX7_load_7 : decode cX7_load 7 = .ok (.iconst 1, 1) := by decide +kernel
theorem dX7_load_8 : decode cX7_load 8 = .ok (.isub, 1) := by decide +kernel
theorem dX7_load_9 : decode cX7_load 9 = .ok (.invokestatic 129, 3) := by decide +kernel
theorem dX7_load_12 : decode cX7_load 12 = .ok (.ifCond .ne 7, 3) := by decide +kernel
theorem dX7_load_15 : decode cX7_load 15 = .ok (.iconst 1, 1) := by decide +kernel
theorem dX7_load_16 : decode cX7_load 16 = .ok (.goto 18, 3) := by decide +kernel
theorem dX7_load_19 : decode cX7_load 19 = .ok (.iload_n 2, 1) := by decide +kernel
theorem dX7_load_20 : decode cX7_load 20 = .ok (.iconst 0, 1) := by decide +kernel
theorem dX7_load_21 : decode cX7_load 21 = .ok (.bipush 9, 2) := by decide +kernel
theorem dX7_load_23 : decode cX7_load 23 = .ok (.invokestatic 129, 3) := by decide +kernel
theorem dX7_load_26 : decode cX7_load 26 = .ok (.ifCond .ne 7, 3) := by decide +kernel
theorem dX7_load_29 : decode cX7_load 29 = .ok (.iconst 2, 1) := by decide +kernel
theorem dX7_load_30 : decode cX7_load 30 = .ok (.goto 4, 3) := by decide +kernel
theorem dX7_load_33 : decode cX7_load 33 = .ok (.iconst 0, 1) := by decide +kernel
theorem dX7_load_34 : decode cX7_load 34 = .ok (.putfield 122, 3) := by decide +kernel
theorem dX7_load_37 : decode cX7_load 37 = .ok (.aload_n 0, 1) := by decide +kernel
theorem dX7_load_38 : decode cX7_load 38 = .ok (.getfield 122, 3) := by decide +kernel
theorem dX7_load_41 : decode cX7_load 41 = .ok (.ifCond .eq 5, 3) := by decide +kernel
theorem dX7_load_44 : decode cX7_load 44 = .ok (.iconst 0, 1) := by decide +kernel
theorem dX7_load_45 : decode cX7_load 45 = .ok (.ireturn, 1) := by decide +kernel
theorem dX7_load_46 : decode cX7_load 46 = .ok (.aload_n 0, 1) := by decide +kernel
theorem dX7_load_47 : decode cX7_load 47 = .ok (.getfield 80, 3) := by decide +kernel
theorem dX7_load_50 : decode cX7_load 50 = .ok (.iload_n 1, 1) := by decide +kernel
theorem dX7_load_51 : decode cX7_load 51 = .ok (.iaload, 1) := by decide +kernel
theorem dX7_load_52 : decode cX7_load 52 = .ok (.istore_n 3, 1) := by decide +kernel
theorem dX7_load_53 : decode cX7_load 53 = .ok (.aload_n 0, 1) := by decide +kernel
theorem dX7_load_54 : decode cX7_load 54 = .ok (.getfield 80, 3) := by decide +kernel
theorem dX7_load_57 : decode cX7_load 57 = .ok (.iload_n 1, 1) := by decide +kernel
theorem dX7_load_58 : decode cX7_load 58 = .ok (.iload_n 2, 1) := by decide +kernel
theorem dX7_load_59 : decode cX7_load 59 = .ok (.iastore, 1) := by decide +kernel
theorem dX7_load_60 : decode cX7_load 60 = .ok (.aload_n 0, 1) := by decide +kernel
theorem dX7_load_61 : decode cX7_load 61 = .ok (.invokevirtual 211, 3) := by decide +kernel
theorem dX7_load_64 : decode cX7_load 64 = .ok (.iload_n 3, 1) := by decide +kernel
theorem dX7_load_65 : decode cX7_load 65 = .ok (.ireturn, 1) := by decide +kernel
theorem dX7_unbind_0 : decode cX7_unbind 0 = .ok (.aload_n 0, 1) := by decide +kernel
theorem dX7_unbind_1 : decode cX7_unbind 1 = .ok (.aload_n 0, 1) := by decide +kernel
theorem dX7_unbind_2 : decode cX7_unbind 2 = .ok (.iload_n 1, 1) := by decide +kernel
theorem dX7_unbind_3 : decode cX7_unbind 3 = .ok (.invokevirtual 205, 3) := by decide +kernel
theorem dX7_unbind_6 : decode cX7_unbind 6 = .ok (.ifCond .ne 7, 3) := by decide +kernel
theorem dX7_unbind_9 : decode cX7_unbind 9 = .ok (.iconst 1, 1) := by decide +kernel
theorem dX7_unbind_10 : decode cX7_unbind 10 = .ok (.goto 16, 3) := by decide +kernel
theorem dX7_unbind_13 : decode cX7_unbind 13 = .ok (.aload_n 0, 1) := by decide +kernel
theorem dX7_unbind_14 : decode cX7_unbind 14 = .ok (.iload_n 1, 1) := by decide +kernel
theorem dX7_unbind_15 : decode cX7_unbind 15 = .ok (.invokevirtual 139, 3) := by decide +kernel
theorem dX7_unbind_18 : decode cX7_unbind 18 = .ok (.ifCond .ne 7, 3) := by decide +kernel
theorem dX7_unbind_21 : decode cX7_unbind 21 = .ok (.iconst 2, 1) := by decide +kernel
theorem dX7_unbind_22 : decode cX7_unbind 22 = .ok (.goto 4, 3) := by decide +kernel
theorem dX7_unbind_25 : decode cX7_unbind 25 = .ok (.iconst 0, 1) := by decide +kernel
theorem dX7_unbind_26 : decode cX7_unbind 26 = .ok (.putfield 122, 3) := by decide +kernel
theorem dX7_unbind_29 : decode cX7_unbind 29 = .ok (.aload_n 0, 1) := by decide +kernel
theorem dX7_unbind_30 : decode cX7_unbind 30 = .ok (.getfield 122, 3) := by decide +kernel
theorem dX7_unbind_33 : decode cX7_unbind 33 = .ok (.ifCond .eq 5, 3) := by decide +kernel
theorem dX7_unbind_36 : decode cX7_unbind 36 = .ok (.iconst 0, 1) := by decide +kernel
theorem dX7_unbind_37 : decode cX7_unbind 37 = .ok (.ireturn, 1) := by decide +kernel
theorem dX7_unbind_38 : decode cX7_unbind 38 = .ok (.aload_n 0, 1) := by decide +kernel
theorem dX7_unbind_39 : decode cX7_unbind 39 = .ok (.iconst 1, 1) := by decide +kernel
theorem dX7_unbind_40 : decode cX7_unbind 40 = .ok (.iload_n 1, 1) := by decide +kernel
theorem dX7_unbind_41 : decode cX7_unbind 41 = .ok (.ishl, 1) := by decide +kernel
theorem dX7_unbind_42 : decode cX7_unbind 42 = .ok (.invokevirtual 214, 3) := by decide +kernel
theorem dX7_unbind_45 : decode cX7_unbind 45 = .ok (.istore_n 2, 1) := by decide +kernel
theorem dX7_unbind_46 : decode cX7_unbind 46 = .ok (.aload_n 0, 1) := by decide +kernel
theorem dX7_unbind_47 : decode cX7_unbind 47 = .ok (.getfield 53, 3) := by decide +kernel
theorem dX7_unbind_50 : decode cX7_unbind 50 = .ok (.iload_n 1, 1) := by decide +kernel
theorem dX7_unbind_51 : decode cX7_unbind 51 = .ok (.iconst 1, 1) := by decide +kernel
theorem dX7_unbind_52 : decode cX7_unbind 52 = .ok (.bastore, 1) := by decide +kernel
theorem dX7_unbind_53 : decode cX7_unbind 53 = .ok (.aload_n 0, 1) := by decide +kernel
theorem dX7_unbind_54 : decode cX7_unbind 54 = .ok (.invokevirtual 211, 3) := by decide +kernel
theorem dX7_unbind_57 : decode cX7_unbind 57 = .ok (.iload_n 2, 1) := by decide +kernel
theorem dX7_unbind_58 : decode cX7_unbind 58 = .ok (.ireturn, 1) := by decide +kernel
theorem dX7_bind_0 : decode cX7_bind 0 = .ok (.aload_n 0, 1) := by decide +kernel
theorem dX7_bind_1 : decode cX7_bind 1 = .ok (.aload_n 0, 1) := by decide +kernel
theorem dX7_bind_2 : decode cX7_bind 2 = .ok (.iload_n 1, 1) := by decide +kernel
theorem dX7_bind_3 : decode cX7_bind 3 = .ok (.invokevirtual 205, 3) := by decide +kernel
theorem dX7_bind_6 : decode cX7_bind 6 = .ok (.ifCond .ne 7, 3) := by decide +kernel
theorem dX7_bind_9 : decode cX7_bind 9 = .ok (.iconst 1, 1) := by decide +kernel
theorem dX7_bind_10 : decode cX7_bind 10 = .ok (.goto 26, 3) := by decide +kernel
theorem dX7_bind_13 : decode cX7_bind 13 = .ok (.aload_n 0, 1) := by decide +kernel
theorem dX7_bind_14 : decode cX7_bind 14 = .ok (.getfield 53, 3) := by decide +kernel
theorem dX7_bind_17 : decode cX7_bind 17 = .ok (.iload_n 1, 1) := by decide +kernel
theorem dX7_bind_18 : decode cX7_bind 18 = .ok (.baload, 1) := by decide +kernel
theorem dX7_bind_19 : decode cX7_bind 19 = .ok (.ifCond .eq 12, 3) := by decide +kernel
theorem dX7_bind_22 : decode cX7_bind 22 = .ok (.aload_n 0, 1) := by decide +kernel
theorem dX7_bind_23 : decode cX7_bind 23 = .ok (.getfield 32, 3) := by decide +kernel
theorem dX7_bind_26 : decode cX7_bind 26 = .ok (.iload_n 1, 1) := by decide +kernel
theorem dX7_bind_27 : decode cX7_bind 27 = .ok (.baload, 1) := by decide +kernel
theorem dX7_bind_28 : decode cX7_bind 28 = .ok (.ifCond .ne 7, 3) := by decide +kernel
theorem dX7_bind_31 : decode cX7_bind 31 = .ok (.iconst 2, 1) := by decide +kernel
theorem dX7_bind_32 : decode cX7_bind 32 = .ok (.goto 4, 3) := by decide +kernel
theorem dX7_bind_35 : decode cX7_bind 35 = .ok (.iconst 0, 1) := by decide +kernel
theorem dX7_bind_36 : decode cX7_bind 36 = .ok (.putfield 122, 3) := by decide +kernel
theorem dX7_bind_39 : decode cX7_bind 39 = .ok (.aload_n 0, 1) := by decide +kernel
theorem dX7_bind_40 : decode cX7_bind 40 = .ok (.getfield 122, 3) := by decide +kernel
theorem dX7_bind_43 : decode cX7_bind 43 = .ok (.ifCond .eq 5, 3) := by decide +kernel
theorem dX7_bind_46 : decode cX7_bind 46 = .ok (.iconst 0, 1) := by decide +kernel
theorem dX7_bind_47 : decode cX7_bind 47 = .ok (.ireturn, 1) := by decide +kernel
theorem dX7_bind_48 : decode cX7_bind 48 = .ok (.aload_n 0, 1) := by decide +kernel
theorem dX7_bind_49 : decode cX7_bind 49 = .ok (.getfield 53, 3) := by decide +kernel
theorem dX7_bind_52 : decode cX7_bind 52 = .ok (.iload_n 1, 1) := by decide +kernel
theorem dX7_bind_53 : decode cX7_bind 53 = .ok (.iconst 0, 1) := by decide +kernel
theorem dX7_bind_54 : decode cX7_bind 54 = .ok (.bastore, 1) := by decide +kernel
theorem dX7_bind_55 : decode cX7_bind 55 = .ok (.aload_n 0, 1) := by decide +kernel
theorem dX7_bind_56 : decode cX7_bind 56 = .ok (.iload_n 1, 1) := by decide +kernel
theorem dX7_bind_57 : decode cX7_bind 57 = .ok (.invokevirtual 184, 3) := by decide +kernel
theorem dX7_bind_60 : decode cX7_bind 60 = .ok (.istore_n 2, 1) := by decide +kernel
theorem dX7_bind_61 : decode cX7_bind 61 = .ok (.aload_n 0, 1) := by decide +kernel
theorem dX7_bind_62 : decode cX7_bind 62 = .ok (.invokevirtual 211, 3) := by decide +kernel
theorem dX7_bind_65 : decode cX7_bind 65 = .ok (.iload_n 2, 1) := by decide +kernel
theorem dX7_bind_66 : decode cX7_bind 66 = .ok (.ireturn, 1) := by decide +kernel
theorem dX7_reset_0 : decode cX7_reset 0 = .ok (.aload_n 0, 1) := by decide +kernel
theorem dX7_reset_1 : decode cX7_reset 1 = .ok (.aload_n 0, 1) := by decide +kernel
theorem dX7_reset_2 : decode cX7_reset 2 = .ok (.iload_n 1, 1) := by decide +kernel
theorem dX7_reset_3 : decode cX7_reset 3 = .ok (.invokevirtual 205, 3) := by decide +kernel
theorem dX7_reset_6 : decode cX7_reset 6 = .ok (.ifCond .ne 7, 3) := by decide +kernel
theorem dX7_reset_9 : decode cX7_reset 9 = .ok (.iconst 1, 1) := by decide +kernel
theorem dX7_reset_10 : decode cX7_reset 10 = .ok (.goto 23, 3) := by decide +kernel
theorem dX7_reset_13 : decode cX7_reset 13 = .ok (.aload_n 0, 1) := by decide +kernel
theorem dX7_reset_14 : decode cX7_reset 14 = .ok (.iload_n 1, 1) := by decide +kernel
theorem dX7_reset_15 : decode cX7_reset 15 = .ok (.invokevirtual 139, 3) := by decide +kernel
theorem dX7_reset_18 : decode cX7_reset 18 = .ok (.ifCond .eq 10, 3) := by decide +kernel
theorem dX7_reset_21 : decode cX7_reset 21 = .ok (.aload_n 0, 1) := by decide +kernel
theorem dX7_reset_22 : decode cX7_reset 22 = .ok (.getfield 180, 3) := by decide +kernel
theorem dX7_reset_25 : decode cX7_reset 25 = .ok (.ifCond .eq 7, 3) := by decide +kernel
theorem dX7_reset_28 : decode cX7_reset 28 = .ok (.iconst 2, 1) := by decide +kernel
theorem dX7_reset_29 : decode cX7_reset 29 = .ok (.goto 4, 3) := by decide +kernel
theorem dX7_reset_32 : decode cX7_reset 32 = .ok (.iconst 0, 1) := by decide +kernel
theorem dX7_reset_33 : decode cX7_reset 33 = .ok (.putfield 122, 3) := by decide +kernel
theorem dX7_reset_36 : decode cX7_reset 36 = .ok (.aload_n 0, 1) := by decide +kernel
theorem dX7_reset_37 : decode cX7_reset 37 = .ok (.getfield 122, 3) := by decide +kernel
theorem dX7_reset_40 : decode cX7_reset 40 = .ok (.ifCond .eq 5, 3) := by decide +kernel
theorem dX7_reset_43 : decode cX7_reset 43 = .ok (.iconst 0, 1) := by decide +kernel
theorem dX7_reset_44 : decode cX7_reset 44 = .ok (.ireturn, 1) := by decide +kernel
theorem dX7_reset_45 : decode cX7_reset 45 = .ok (.aload_n 0, 1) := by decide +kernel
theorem dX7_reset_46 : decode cX7_reset 46 = .ok (.iload_n 1, 1) := by decide +kernel
theorem dX7_reset_47 : decode cX7_reset 47 = .ok (.invokevirtual 199, 3) := by decide +kernel
theorem dX7_reset_50 : decode cX7_reset 50 = .ok (.istore_n 2, 1) := by decide +kernel
theorem dX7_reset_51 : decode cX7_reset 51 = .ok (.aload_n 0, 1) := by decide +kernel
theorem dX7_reset_52 : decode cX7_reset 52 = .ok (.iload_n 1, 1) := by decide +kernel
theorem dX7_reset_53 : decode cX7_reset 53 = .ok (.invokevirtual 202, 3) := by decide +kernel
theorem dX7_reset_56 : decode cX7_reset 56 = .ok (.aload_n 0, 1) := by decide +kernel
theorem dX7_reset_57 : decode cX7_reset 57 = .ok (.getfield 44, 3) := by decide +kernel
theorem dX7_reset_60 : decode cX7_reset 60 = .ok (.iload_n 1, 1) := by decide +kernel
theorem dX7_reset_61 : decode cX7_reset 61 = .ok (.iconst 0, 1) := by decide +kernel
theorem dX7_reset_62 : decode cX7_reset 62 = .ok (.iastore, 1) := by decide +kernel
theorem dX7_reset_63 : decode cX7_reset 63 = .ok (.aload_n 0, 1) := by decide +kernel
theorem dX7_reset_64 : decode cX7_reset 64 = .ok (.getfield 47, 3) := by decide +kernel
theorem dX7_reset_67 : decode cX7_reset 67 = .ok (.iload_n 1, 1) := by decide +kernel
theorem dX7_reset_68 : decode cX7_reset 68 = .ok (.iconst 0, 1) := by decide +kernel
theorem dX7_reset_69 : decode cX7_reset 69 = .ok (.iastore, 1) := by decide +kernel
theorem dX7_reset_70 : decode cX7_reset 70 = .ok (.aload_n 0, 1) := by decide +kernel
theorem dX7_reset_71 : decode cX7_reset 71 = .ok (.getfield 50, 3) := by decide +kernel
theorem dX7_reset_74 : decode cX7_reset 74 = .ok (.iload_n 1, 1) := by decide +kernel
theorem dX7_reset_75 : decode cX7_reset 75 = .ok (.iconst 0, 1) := by decide +kernel
theorem dX7_reset_76 : decode cX7_reset 76 = .ok (.bastore, 1) := by decide +kernel
theorem dX7_reset_77 : decode cX7_reset 77 = .ok (.aload_n 0, 1) := by decide +kernel
theorem dX7_reset_78 : decode cX7_reset 78 = .ok (.invokevirtual 211, 3) := by decide +kernel
theorem dX7_reset_81 : decode cX7_reset 81 = .ok (.iload_n 2, 1) := by decide +kernel
theorem dX7_reset_82 : decode cX7_reset 82 = .ok (.ireturn, 1) := by decide +kernel
theorem dX7_isHandle_0 : decode cX7_isHandle 0 = .ok (.iload_n 1, 1) := by decide +kernel
theorem dX7_isHandle_1 : decode cX7_isHandle 1 = .ok (.iconst 0, 1) := by decide +kernel
theorem dX7_isHandle_2 : decode cX7_isHandle 2 = .ok (.aload_n 0, 1) := by decide +kernel
theorem dX7_isHandle_3 : decode cX7_isHandle 3 = .ok (.getfield 217, 3) := by decide +kernel
theorem dX7_isHandle_6 : decode cX7_isHandle 6 = .ok (.iconst 1, 1) := by decide +kernel
theorem dX7_isHandle_7 : decode cX7_isHandle 7 = .ok (.isub, 1) := by decide +kernel
theorem dX7_isHandle_8 : decode cX7_isHandle 8 = .ok (.invokestatic 129, 3) := by decide +kernel
theorem dX7_isHandle_11 : decode cX7_isHandle 11 = .ok (.ireturn, 1) := by decide +kernel
theorem dX7_isDead_0 : decode cX7_isDead 0 = .ok (.aload_n 0, 1) := by decide +kernel
theorem dX7_isDead_1 : decode cX7_isDead 1 = .ok (.getfield 56, 3) := by decide +kernel
theorem dX7_isDead_4 : decode cX7_isDead 4 = .ok (.aload_n 0, 1) := by decide +kernel
theorem dX7_isDead_5 : decode cX7_isDead 5 = .ok (.getfield 83, 3) := by decide +kernel
theorem dX7_isDead_8 : decode cX7_isDead 8 = .ok (.iload_n 1, 1) := by decide +kernel
theorem dX7_isDead_9 : decode cX7_isDead 9 = .ok (.iaload, 1) := by decide +kernel
theorem dX7_isDead_10 : decode cX7_isDead 10 = .ok (.iaload, 1) := by decide +kernel
theorem dX7_isDead_11 : decode cX7_isDead 11 = .ok (.aload_n 0, 1) := by decide +kernel
theorem dX7_isDead_12 : decode cX7_isDead 12 = .ok (.getfield 86, 3) := by decide +kernel
theorem dX7_isDead_15 : decode cX7_isDead 15 = .ok (.iload_n 1, 1) := by decide +kernel
theorem dX7_isDead_16 : decode cX7_isDead 16 = .ok (.iaload, 1) := by decide +kernel
theorem dX7_isDead_17 : decode cX7_isDead 17 = .ok (.if_icmp .eq 7, 3) := by decide +kernel
theorem dX7_isDead_20 : decode cX7_isDead 20 = .ok (.iconst 1, 1) := by decide +kernel
theorem dX7_isDead_21 : decode cX7_isDead 21 = .ok (.goto 4, 3) := by decide +kernel
theorem dX7_isDead_24 : decode cX7_isDead 24 = .ok (.iconst 0, 1) := by decide +kernel
theorem dX7_isDead_25 : decode cX7_isDead 25 = .ok (.ireturn, 1) := by decide +kernel
theorem dX7_isUsable_0 : decode cX7_isUsable 0 = .ok (.aload_n 0, 1) := by decide +kernel
theorem dX7_isUsable_1 : decode cX7_isUsable 1 = .ok (.getfield 89, 3) := by decide +kernel
theorem dX7_isUsable_4 : decode cX7_isUsable 4 = .ok (.iload_n 1, 1) := by decide +kernel
theorem dX7_isUsable_5 : decode cX7_isUsable 5 = .ok (.baload, 1) := by decide +kernel
theorem dX7_isUsable_6 : decode cX7_isUsable 6 = .ok (.ifCond .ne 15, 3) := by decide +kernel
theorem dX7_isUsable_9 : decode cX7_isUsable 9 = .ok (.aload_n 0, 1) := by decide +kernel
theorem dX7_isUsable_10 : decode cX7_isUsable 10 = .ok (.iload_n 1, 1) := by decide +kernel
theorem dX7_isUsable_11 : decode cX7_isUsable 11 = .ok (.invokevirtual 220, 3) := by decide +kernel
theorem dX7_isUsable_14 : decode cX7_isUsable 14 = .ok (.ifCond .ne 7, 3) := by decide +kernel
theorem dX7_isUsable_17 : decode cX7_isUsable 17 = .ok (.iconst 1, 1) := by decide +kernel
theorem dX7_isUsable_18 : decode cX7_isUsable 18 = .ok (.goto 4, 3) := by decide +kernel
theorem dX7_isUsable_21 : decode cX7_isUsable 21 = .ok (.iconst 0, 1) := by decide +kernel
theorem dX7_isUsable_22 : decode cX7_isUsable 22 = .ok (.ireturn, 1) := by decide +kernel
theorem dX7_open_0 : decode cX7_open 0 = .ok (.aload_n 0, 1) := by decide +kernel
theorem dX7_open_1 : decode cX7_open 1 = .ok (.aload_n 0, 1) := by decide +kernel
theorem dX7_open_2 : decode cX7_open 2 = .ok (.iload_n 1, 1) := by decide +kernel
theorem dX7_open_3 : decode cX7_open 3 = .ok (.invokevirtual 205, 3) := by decide +kernel
theorem dX7_open_6 : decode cX7_open 6 = .ok (.ifCond .ne 7, 3) := by decide +kernel
theorem dX7_open_9 : decode cX7_open 9 = .ok (.iconst 1, 1) := by decide +kernel
theorem dX7_open_10 : decode cX7_open 10 = .ok (.goto 32, 3) := by decide +kernel
theorem dX7_open_13 : decode cX7_open 13 = .ok (.aload_n 0, 1) := by decide +kernel
theorem dX7_open_14 : decode cX7_open 14 = .ok (.iload_n 1, 1) := by decide +kernel
theorem dX7_open_15 : decode cX7_open 15 = .ok (.invokevirtual 139, 3) := by decide +kernel
theorem dX7_open_18 : decode cX7_open 18 = .ok (.ifCond .eq 19, 3) := by decide +kernel
theorem dX7_open_21 : decode cX7_open 21 = .ok (.aload_n 0, 1) := by decide +kernel
theorem dX7_open_22 : decode cX7_open 22 = .ok (.getfield 180, 3) := by decide +kernel
theorem dX7_open_25 : decode cX7_open 25 = .ok (.ifCond .ne 12, 3) := by decide +kernel
theorem dX7_open_28 : decode cX7_open 28 = .ok (.aload_n 0, 1) := by decide +kernel
theorem dX7_open_29 : decode cX7_open 29 = .ok (.getfield 217, 3) := by decide +kernel
theorem dX7_open_32 : decode cX7_open 32 = .ok (.bipush 40, 2) := by decide +kernel
theorem dX7_open_34 : decode cX7_open 34 = .ok (.if_icmp .ne 7, 3) := by decide +kernel
theorem dX7_open_37 : decode cX7_open 37 = .ok (.iconst 2, 1) := by decide +kernel
theorem dX7_open_38 : decode cX7_open 38 = .ok (.goto 4, 3) := by decide +kernel
theorem dX7_open_41 : decode cX7_open 41 = .ok (.iconst 0, 1) := by decide +kernel
theorem dX7_open_42 : decode cX7_open 42 = .ok (.putfield 122, 3) := by decide +kernel
theorem dX7_open_45 : decode cX7_open 45 = .ok (.aload_n 0, 1) := by decide +kernel
theorem dX7_open_46 : decode cX7_open 46 = .ok (.getfield 122, 3) := by decide +kernel
theorem dX7_open_49 : decode cX7_open 49 = .ok (.ifCond .eq 5, 3) := by decide +kernel
theorem dX7_open_52 : decode cX7_open 52 = .ok (.iconst 0, 1) := by decide +kernel
theorem dX7_open_53 : decode cX7_open 53 = .ok (.ireturn, 1) := by decide +kernel
theorem dX7_open_54 : decode cX7_open 54 = .ok (.aload_n 0, 1) := by decide +kernel
theorem dX7_open_55 : decode cX7_open 55 = .ok (.getfield 83, 3) := by decide +kernel
theorem dX7_open_58 : decode cX7_open 58 = .ok (.aload_n 0, 1) := by decide +kernel
theorem dX7_open_59 : decode cX7_open 59 = .ok (.getfield 217, 3) := by decide +kernel
theorem dX7_open_62 : decode cX7_open 62 = .ok (.iload_n 1, 1) := by decide +kernel
theorem dX7_open_63 : decode cX7_open 63 = .ok (.iastore, 1) := by decide +kernel
theorem dX7_open_64 : decode cX7_open 64 = .ok (.aload_n 0, 1) := by decide +kernel
theorem dX7_open_65 : decode cX7_open 65 = .ok (.getfield 86, 3) := by decide +kernel
theorem dX7_open_68 : decode cX7_open 68 = .ok (.aload_n 0, 1) := by decide +kernel
theorem dX7_open_69 : decode cX7_open 69 = .ok (.getfield 217, 3) := by decide +kernel
theorem dX7_open_72 : decode cX7_open 72 = .ok (.aload_n 0, 1) := by decide +kernel
theorem dX7_open_73 : decode cX7_open 73 = .ok (.getfield 56, 3) := by decide +kernel
theorem dX7_open_76 : decode cX7_open 76 = .ok (.iload_n 1, 1) := by decide +kernel
theorem dX7_open_77 : decode cX7_open 77 = .ok (.iaload, 1) := by decide +kernel
theorem dX7_open_78 : decode cX7_open 78 = .ok (.iastore, 1) := by decide +kernel
theorem dX7_open_79 : decode cX7_open 79 = .ok (.aload_n 0, 1) := by decide +kernel
theorem dX7_open_80 : decode cX7_open 80 = .ok (.dup, 1) := by decide +kernel
theorem dX7_open_81 : decode cX7_open 81 = .ok (.getfield 217, 3) := by decide +kernel
theorem dX7_open_84 : decode cX7_open 84 = .ok (.iconst 1, 1) := by decide +kernel
theorem dX7_open_85 : decode cX7_open 85 = .ok (.iadd, 1) := by decide +kernel
theorem dX7_open_86 : decode cX7_open 86 = .ok (.putfield 217, 3) := by decide +kernel
theorem dX7_open_89 : decode cX7_open 89 = .ok (.aload_n 0, 1) := by decide +kernel
theorem dX7_open_90 : decode cX7_open 90 = .ok (.invokevirtual 211, 3) := by decide +kernel
theorem dX7_open_93 : decode cX7_open 93 = .ok (.aload_n 0, 1) := by decide +kernel
theorem dX7_open_94 : decode cX7_open 94 = .ok (.getfield 217, 3) := by decide +kernel
theorem dX7_open_97 : decode cX7_open 97 = .ok (.iconst 1, 1) := by decide +kernel
theorem dX7_open_98 : decode cX7_open 98 = .ok (.isub, 1) := by decide +kernel
theorem dX7_open_99 : decode cX7_open 99 = .ok (.ireturn, 1) := by decide +kernel
theorem dX7_close_0 : decode cX7_close 0 = .ok (.aload_n 0, 1) := by decide +kernel
theorem dX7_close_1 : decode cX7_close 1 = .ok (.aload_n 0, 1) := by decide +kernel
theorem dX7_close_2 : decode cX7_close 2 = .ok (.iload_n 1, 1) := by decide +kernel
theorem dX7_close_3 : decode cX7_close 3 = .ok (.invokevirtual 223, 3) := by decide +kernel
theorem dX7_close_6 : decode cX7_close 6 = .ok (.ifCond .ne 7, 3) := by decide +kernel
theorem dX7_close_9 : decode cX7_close 9 = .ok (.iconst 1, 1) := by decide +kernel
theorem dX7_close_10 : decode cX7_close 10 = .ok (.goto 17, 3) := by decide +kernel
theorem dX7_close_13 : decode cX7_close 13 = .ok (.aload_n 0, 1) := by decide +kernel
theorem dX7_close_14 : decode cX7_close 14 = .ok (.getfield 89, 3) := by decide +kernel
theorem dX7_close_17 : decode cX7_close 17 = .ok (.iload_n 1, 1) := by decide +kernel
theorem dX7_close_18 : decode cX7_close 18 = .ok (.baload, 1) := by decide +kernel
theorem dX7_close_19 : decode cX7_close 19 = .ok (.ifCond .eq 7, 3) := by decide +kernel
theorem dX7_close_22 : decode cX7_close 22 = .ok (.iconst 2, 1) := by decide +kernel
theorem dX7_close_23 : decode cX7_close 23 = .ok (.goto 4, 3) := by decide +kernel
theorem dX7_close_26 : decode cX7_close 26 = .ok (.iconst 0, 1) := by decide +kernel
theorem dX7_close_27 : decode cX7_close 27 = .ok (.putfield 122, 3) := by decide +kernel
theorem dX7_close_30 : decode cX7_close 30 = .ok (.aload_n 0, 1) := by decide +kernel
theorem dX7_close_31 : decode cX7_close 31 = .ok (.getfield 122, 3) := by decide +kernel
theorem dX7_close_34 : decode cX7_close 34 = .ok (.ifCond .eq 5, 3) := by decide +kernel
theorem dX7_close_37 : decode cX7_close 37 = .ok (.iconst 0, 1) := by decide +kernel
theorem dX7_close_38 : decode cX7_close 38 = .ok (.ireturn, 1) := by decide +kernel
theorem dX7_close_39 : decode cX7_close 39 = .ok (.aload_n 0, 1) := by decide +kernel
theorem dX7_close_40 : decode cX7_close 40 = .ok (.iload_n 1, 1) := by decide +kernel
theorem dX7_close_41 : decode cX7_close 41 = .ok (.invokevirtual 220, 3) := by decide +kernel
theorem dX7_close_44 : decode cX7_close 44 = .ok (.istore_n 2, 1) := by decide +kernel
theorem dX7_close_45 : decode cX7_close 45 = .ok (.aload_n 0, 1) := by decide +kernel
theorem dX7_close_46 : decode cX7_close 46 = .ok (.getfield 89, 3) := by decide +kernel
theorem dX7_close_49 : decode cX7_close 49 = .ok (.iload_n 1, 1) := by decide +kernel
theorem dX7_close_50 : decode cX7_close 50 = .ok (.iconst 1, 1) := by decide +kernel
theorem dX7_close_51 : decode cX7_close 51 = .ok (.bastore, 1) := by decide +kernel
theorem dX7_close_52 : decode cX7_close 52 = .ok (.iconst 0, 1) := by decide +kernel
theorem dX7_close_53 : decode cX7_close 53 = .ok (.istore_n 3, 1) := by decide +kernel
theorem dX7_close_54 : decode cX7_close 54 = .ok (.iload_n 3, 1) := by decide +kernel
theorem dX7_close_55 : decode cX7_close 55 = .ok (.aload_n 0, 1) := by decide +kernel
theorem dX7_close_56 : decode cX7_close 56 = .ok (.getfield 190, 3) := by decide +kernel
theorem dX7_close_59 : decode cX7_close 59 = .ok (.if_icmp .ge 44, 3) := by decide +kernel
theorem dX7_close_62 : decode cX7_close 62 = .ok (.aload_n 0, 1) := by decide +kernel
theorem dX7_close_63 : decode cX7_close 63 = .ok (.getfield 98, 3) := by decide +kernel
theorem dX7_close_66 : decode cX7_close 66 = .ok (.iload_n 3, 1) := by decide +kernel
theorem dX7_close_67 : decode cX7_close 67 = .ok (.aload_n 0, 1) := by decide +kernel
theorem dX7_close_68 : decode cX7_close 68 = .ok (.getfield 98, 3) := by decide +kernel
theorem dX7_close_71 : decode cX7_close 71 = .ok (.iload_n 3, 1) := by decide +kernel
theorem dX7_close_72 : decode cX7_close 72 = .ok (.iaload, 1) := by decide +kernel
theorem dX7_close_73 : decode cX7_close 73 = .ok (.ifCond .ne 17, 3) := by decide +kernel
theorem dX7_close_76 : decode cX7_close 76 = .ok (.aload_n 0, 1) := by decide +kernel
theorem dX7_close_77 : decode cX7_close 77 = .ok (.getfield 92, 3) := by decide +kernel
theorem dX7_close_80 : decode cX7_close 80 = .ok (.iload_n 3, 1) := by decide +kernel
theorem dX7_close_81 : decode cX7_close 81 = .ok (.iaload, 1) := by decide +kernel
theorem dX7_close_82 : decode cX7_close 82 = .ok (.iload_n 1, 1) := by decide +kernel
theorem dX7_close_83 : decode cX7_close 83 = .ok (.if_icmp .ne 7, 3) := by decide +kernel
theorem dX7_close_86 : decode cX7_close 86 = .ok (.iconst 2, 1) := by decide +kernel
theorem dX7_close_87 : decode cX7_close 87 = .ok (.goto 9, 3) := by decide +kernel
theorem dX7_close_90 : decode cX7_close 90 = .ok (.aload_n 0, 1) := by decide +kernel
theorem dX7_close_91 : decode cX7_close 91 = .ok (.getfield 98, 3) := by decide +kernel
theorem dX7_close_94 : decode cX7_close 94 = .ok (.iload_n 3, 1) := by decide +kernel
theorem dX7_close_95 : decode cX7_close 95 = .ok (.iaload, 1) := by decide +kernel
theorem dX7_close_96 : decode cX7_close 96 = .ok (.iastore, 1) := by decide +kernel
theorem dX7_close_97 : decode cX7_close 97 = .ok (.iinc 3 1, 3) := by decide +kernel
theorem dX7_close_100 : decode cX7_close 100 = .ok (.goto (-46), 3) := by decide +kernel
theorem dX7_close_103 : decode cX7_close 103 = .ok (.aload_n 0, 1) := by decide +kernel
theorem dX7_close_104 : decode cX7_close 104 = .ok (.invokevirtual 211, 3) := by decide +kernel
theorem dX7_close_107 : decode cX7_close 107 = .ok (.iload_n 2, 1) := by decide +kernel
theorem dX7_close_108 : decode cX7_close 108 = .ok (.ireturn, 1) := by decide +kernel
theorem dX7_touch_0 : decode cX7_touch 0 = .ok (.aload_n 0, 1) := by decide +kernel
theorem dX7_touch_1 : decode cX7_touch 1 = .ok (.iload_n 1, 1) := by decide +kernel
theorem dX7_touch_2 : decode cX7_touch 2 = .ok (.invokevirtual 173, 3) := by decide +kernel
theorem dX7_touch_5 : decode cX7_touch 5 = .ok (.aload_n 0, 1) := by decide +kernel
theorem dX7_touch_6 : decode cX7_touch 6 = .ok (.getfield 62, 3) := by decide +kernel
theorem dX7_touch_9 : decode cX7_touch 9 = .ok (.iload_n 1, 1) := by decide +kernel
theorem dX7_touch_10 : decode cX7_touch 10 = .ok (.aload_n 0, 1) := by decide +kernel
theorem dX7_touch_11 : decode cX7_touch 11 = .ok (.getfield 163, 3) := by decide +kernel
theorem dX7_touch_14 : decode cX7_touch 14 = .ok (.iastore, 1) := by decide +kernel
theorem dX7_touch_15 : decode cX7_touch 15 = .ok (.return_, 1) := by decide +kernel
theorem dX7_call_0 : decode cX7_call 0 = .ok (.aload_n 0, 1) := by decide +kernel
theorem dX7_call_1 : decode cX7_call 1 = .ok (.aload_n 0, 1) := by decide +kernel
theorem dX7_call_2 : decode cX7_call 2 = .ok (.iload_n 1, 1) := by decide +kernel
theorem dX7_call_3 : decode cX7_call 3 = .ok (.invokevirtual 223, 3) := by decide +kernel
theorem dX7_call_6 : decode cX7_call 6 = .ok (.ifCond .ne 7, 3) := by decide +kernel
theorem dX7_call_9 : decode cX7_call 9 = .ok (.iconst 1, 1) := by decide +kernel
theorem dX7_call_10 : decode cX7_call 10 = .ok (.goto 46, 3) := by decide +kernel
theorem dX7_call_13 : decode cX7_call 13 = .ok (.iload_n 2, 1) := by decide +kernel
theorem dX7_call_14 : decode cX7_call 14 = .ok (.iconst 1, 1) := by decide +kernel
theorem dX7_call_15 : decode cX7_call 15 = .ok (.bipush 20, 2) := by decide +kernel
theorem dX7_call_17 : decode cX7_call 17 = .ok (.invokestatic 129, 3) := by decide +kernel
theorem dX7_call_20 : decode cX7_call 20 = .ok (.ifCond .ne 7, 3) := by decide +kernel
theorem dX7_call_23 : decode cX7_call 23 = .ok (.iconst 2, 1) := by decide +kernel
theorem dX7_call_24 : decode cX7_call 24 = .ok (.goto 32, 3) := by decide +kernel
theorem dX7_call_27 : decode cX7_call 27 = .ok (.aload_n 0, 1) := by decide +kernel
theorem dX7_call_28 : decode cX7_call 28 = .ok (.iload_n 1, 1) := by decide +kernel
theorem dX7_call_29 : decode cX7_call 29 = .ok (.invokevirtual 226, 3) := by decide +kernel
theorem dX7_call_32 : decode cX7_call 32 = .ok (.ifCond .eq 19, 3) := by decide +kernel
theorem dX7_call_35 : decode cX7_call 35 = .ok (.aload_n 0, 1) := by decide +kernel
theorem dX7_call_36 : decode cX7_call 36 = .ok (.getfield 180, 3) := by decide +kernel
theorem dX7_call_39 : decode cX7_call 39 = .ok (.ifCond .ne 12, 3) := by decide +kernel
theorem dX7_call_42 : decode cX7_call 42 = .ok (.aload_n 0, 1) := by decide +kernel
theorem dX7_call_43 : decode cX7_call 43 = .ok (.getfield 190, 3) := by decide +kernel
theorem dX7_call_46 : decode cX7_call 46 = .ok (.bipush 100, 2) := by decide +kernel
theorem dX7_call_48 : decode cX7_call 48 = .ok (.if_icmp .ne 7, 3) := by decide +kernel
theorem dX7_call_51 : decode cX7_call 51 = .ok (.iconst 3, 1) := by decide +kernel
theorem dX7_call_52 : decode cX7_call 52 = .ok (.goto 4, 3) := by decide +kernel
theorem dX7_call_55 : decode cX7_call 55 = .ok (.iconst 0, 1) := by decide +kernel
theorem dX7_call_56 : decode cX7_call 56 = .ok (.putfield 122, 3) := by decide +kernel
theorem dX7_call_59 : decode cX7_call 59 = .ok (.aload_n 0, 1) := by decide +kernel
theorem dX7_call_60 : decode cX7_call 60 = .ok (.getfield 122, 3) := by decide +kernel
theorem dX7_call_63 : decode cX7_call 63 = .ok (.ifCond .eq 5, 3) := by decide +kernel
theorem dX7_call_66 : decode cX7_call 66 = .ok (.iconst 0, 1) := by decide +kernel
theorem dX7_call_67 : decode cX7_call 67 = .ok (.ireturn, 1) := by decide +kernel
theorem dX7_call_68 : decode cX7_call 68 = .ok (.aload_n 0, 1) := by decide +kernel
theorem dX7_call_69 : decode cX7_call 69 = .ok (.aload_n 0, 1) := by decide +kernel
theorem dX7_call_70 : decode cX7_call 70 = .ok (.getfield 83, 3) := by decide +kernel
theorem dX7_call_73 : decode cX7_call 73 = .ok (.iload_n 1, 1) := by decide +kernel
theorem dX7_call_74 : decode cX7_call 74 = .ok (.iaload, 1) := by decide +kernel
theorem dX7_call_75 : decode cX7_call 75 = .ok (.invokevirtual 229, 3) := by decide +kernel
theorem dX7_call_78 : decode cX7_call 78 = .ok (.aload_n 0, 1) := by decide +kernel
theorem dX7_call_79 : decode cX7_call 79 = .ok (.getfield 92, 3) := by decide +kernel
theorem dX7_call_82 : decode cX7_call 82 = .ok (.aload_n 0, 1) := by decide +kernel
theorem dX7_call_83 : decode cX7_call 83 = .ok (.getfield 190, 3) := by decide +kernel
theorem dX7_call_86 : decode cX7_call 86 = .ok (.iload_n 1, 1) := by decide +kernel
theorem dX7_call_87 : decode cX7_call 87 = .ok (.iastore, 1) := by decide +kernel
theorem dX7_call_88 : decode cX7_call 88 = .ok (.aload_n 0, 1) := by decide +kernel
theorem dX7_call_89 : decode cX7_call 89 = .ok (.getfield 95, 3) := by decide +kernel
theorem dX7_call_92 : decode cX7_call 92 = .ok (.aload_n 0, 1) := by decide +kernel
theorem dX7_call_93 : decode cX7_call 93 = .ok (.getfield 190, 3) := by decide +kernel
theorem dX7_call_96 : decode cX7_call 96 = .ok (.aload_n 0, 1) := by decide +kernel
theorem dX7_call_97 : decode cX7_call 97 = .ok (.getfield 163, 3) := by decide +kernel
theorem dX7_call_100 : decode cX7_call 100 = .ok (.iload_n 2, 1) := by decide +kernel
theorem dX7_call_101 : decode cX7_call 101 = .ok (.iadd, 1) := by decide +kernel
theorem dX7_call_102 : decode cX7_call 102 = .ok (.iastore, 1) := by decide +kernel
theorem dX7_call_103 : decode cX7_call 103 = .ok (.aload_n 0, 1) := by decide +kernel
theorem dX7_call_104 : decode cX7_call 104 = .ok (.getfield 98, 3) := by decide +kernel
theorem dX7_call_107 : decode cX7_call 107 = .ok (.aload_n 0, 1) := by decide +kernel
theorem dX7_call_108 : decode cX7_call 108 = .ok (.getfield 190, 3) := by decide +kernel
theorem dX7_call_111 : decode cX7_call 111 = .ok (.iconst 0, 1) := by decide +kernel
theorem dX7_call_112 : decode cX7_call 112 = .ok (.iastore, 1) := by decide +kernel
theorem dX7_call_113 : decode cX7_call 113 = .ok (.aload_n 0, 1) := by decide +kernel
theorem dX7_call_114 : decode cX7_call 114 = .ok (.dup, 1) := by decide +kernel
theorem dX7_call_115 : decode cX7_call 115 = .ok (.getfield 190, 3) := by decide +kernel
theorem dX7_call_118 : decode cX7_call 118 = .ok (.iconst 1, 1) := by decide +kernel
theorem dX7_call_119 : decode cX7_call 119 = .ok (.iadd, 1) := by decide +kernel
theorem dX7_call_120 : decode cX7_call 120 = .ok (.putfield 190, 3) := by decide +kernel
theorem dX7_call_123 : decode cX7_call 123 = .ok (.aload_n 0, 1) := by decide +kernel
theorem dX7_call_124 : decode cX7_call 124 = .ok (.invokevirtual 211, 3) := by decide +kernel
theorem dX7_call_127 : decode cX7_call 127 = .ok (.aload_n 0, 1) := by decide +kernel
theorem dX7_call_128 : decode cX7_call 128 = .ok (.getfield 190, 3) := by decide +kernel
theorem dX7_call_131 : decode cX7_call 131 = .ok (.iconst 1, 1) := by decide +kernel
theorem dX7_call_132 : decode cX7_call 132 = .ok (.isub, 1) := by decide +kernel
theorem dX7_call_133 : decode cX7_call 133 = .ok (.ireturn, 1) := by decide +kernel
theorem dX7_set_0 : decode cX7_set 0 = .ok (.aload_n 0, 1) := by decide +kernel
theorem dX7_set_1 : decode cX7_set 1 = .ok (.aload_n 0, 1) := by decide +kernel
theorem dX7_set_2 : decode cX7_set 2 = .ok (.iload_n 1, 1) := by decide +kernel
theorem dX7_set_3 : decode cX7_set 3 = .ok (.invokevirtual 223, 3) := by decide +kernel
theorem dX7_set_6 : decode cX7_set 6 = .ok (.ifCond .ne 7, 3) := by decide +kernel
theorem dX7_set_9 : decode cX7_set 9 = .ok (.iconst 1, 1) := by decide +kernel
theorem dX7_set_10 : decode cX7_set 10 = .ok (.goto 37, 3) := by decide +kernel
theorem dX7_set_13 : decode cX7_set 13 = .ok (.iload_n 2, 1) := by decide +kernel
theorem dX7_set_14 : decode cX7_set 14 = .ok (.iconst 0, 1) := by decide +kernel
theorem dX7_set_15 : decode cX7_set 15 = .ok (.bipush 99, 2) := by decide +kernel
theorem dX7_set_17 : decode cX7_set 17 = .ok (.invokestatic 129, 3) := by decide +kernel
theorem dX7_set_20 : decode cX7_set 20 = .ok (.ifCond .ne 7, 3) := by decide +kernel
theorem dX7_set_23 : decode cX7_set 23 = .ok (.iconst 2, 1) := by decide +kernel
theorem dX7_set_24 : decode cX7_set 24 = .ok (.goto 23, 3) := by decide +kernel
theorem dX7_set_27 : decode cX7_set 27 = .ok (.aload_n 0, 1) := by decide +kernel
theorem dX7_set_28 : decode cX7_set 28 = .ok (.iload_n 1, 1) := by decide +kernel
theorem dX7_set_29 : decode cX7_set 29 = .ok (.invokevirtual 226, 3) := by decide +kernel
theorem dX7_set_32 : decode cX7_set 32 = .ok (.ifCond .eq 10, 3) := by decide +kernel
theorem dX7_set_35 : decode cX7_set 35 = .ok (.aload_n 0, 1) := by decide +kernel
theorem dX7_set_36 : decode cX7_set 36 = .ok (.getfield 180, 3) := by decide +kernel
theorem dX7_set_39 : decode cX7_set 39 = .ok (.ifCond .eq 7, 3) := by decide +kernel
theorem dX7_set_42 : decode cX7_set 42 = .ok (.iconst 3, 1) := by decide +kernel
theorem dX7_set_43 : decode cX7_set 43 = .ok (.goto 4, 3) := by decide +kernel
theorem dX7_set_46 : decode cX7_set 46 = .ok (.iconst 0, 1) := by decide +kernel
theorem dX7_set_47 : decode cX7_set 47 = .ok (.putfield 122, 3) := by decide +kernel
theorem dX7_set_50 : decode cX7_set 50 = .ok (.aload_n 0, 1) := by decide +kernel
theorem dX7_set_51 : decode cX7_set 51 = .ok (.getfield 122, 3) := by decide +kernel
theorem dX7_set_54 : decode cX7_set 54 = .ok (.ifCond .eq 5, 3) := by decide +kernel
theorem dX7_set_57 : decode cX7_set 57 = .ok (.iconst 0, 1) := by decide +kernel
theorem dX7_set_58 : decode cX7_set 58 = .ok (.ireturn, 1) := by decide +kernel
theorem dX7_set_59 : decode cX7_set 59 = .ok (.aload_n 0, 1) := by decide +kernel
theorem dX7_set_60 : decode cX7_set 60 = .ok (.getfield 83, 3) := by decide +kernel
theorem dX7_set_63 : decode cX7_set 63 = .ok (.iload_n 1, 1) := by decide +kernel
theorem dX7_set_64 : decode cX7_set 64 = .ok (.iaload, 1) := by decide +kernel
theorem dX7_set_65 : decode cX7_set 65 = .ok (.istore_n 3, 1) := by decide +kernel
theorem dX7_set_66 : decode cX7_set 66 = .ok (.aload_n 0, 1) := by decide +kernel
theorem dX7_set_67 : decode cX7_set 67 = .ok (.iload_n 3, 1) := by decide +kernel
theorem dX7_set_68 : decode cX7_set 68 = .ok (.invokevirtual 229, 3) := by decide +kernel
theorem dX7_set_71 : decode cX7_set 71 = .ok (.aload_n 0, 1) := by decide +kernel
theorem dX7_set_72 : decode cX7_set 72 = .ok (.getfield 44, 3) := by decide +kernel
theorem dX7_set_75 : decode cX7_set 75 = .ok (.iload_n 3, 1) := by decide +kernel
theorem dX7_set_76 : decode cX7_set 76 = .ok (.iaload, 1) := by decide +kernel
theorem dX7_set_77 : decode cX7_set 77 = .ok (.istore 4, 2) := by decide +kernel
theorem dX7_set_79 : decode cX7_set 79 = .ok (.aload_n 0, 1) := by decide +kernel
theorem dX7_set_80 : decode cX7_set 80 = .ok (.getfield 44, 3) := by decide +kernel
theorem dX7_set_83 : decode cX7_set 83 = .ok (.iload_n 3, 1) := by decide +kernel
theorem dX7_set_84 : decode cX7_set 84 = .ok (.iload_n 2, 1) := by decide +kernel
theorem dX7_set_85 : decode cX7_set 85 = .ok (.iastore, 1) := by decide +kernel
theorem dX7_set_86 : decode cX7_set 86 = .ok (.aload_n 0, 1) := by decide +kernel
theorem dX7_set_87 : decode cX7_set 87 = .ok (.invokevirtual 211, 3) := by decide +kernel
theorem dX7_set_90 : decode cX7_set 90 = .ok (.iload 4, 2) := by decide +kernel
theorem dX7_set_92 : decode cX7_set 92 = .ok (.ireturn, 1) := by decide +kernel
theorem dX7_get_0 : decode cX7_get 0 = .ok (.aload_n 0, 1) := by decide +kernel
theorem dX7_get_1 : decode cX7_get 1 = .ok (.aload_n 0, 1) := by decide +kernel
theorem dX7_get_2 : decode cX7_get 2 = .ok (.iload_n 1, 1) := by decide +kernel
theorem dX7_get_3 : decode cX7_get 3 = .ok (.invokevirtual 223, 3) := by decide +kernel
theorem dX7_get_6 : decode cX7_get 6 = .ok (.ifCond .ne 7, 3) := by decide +kernel
theorem dX7_get_9 : decode cX7_get 9 = .ok (.iconst 1, 1) := by decide +kernel
theorem dX7_get_10 : decode cX7_get 10 = .ok (.goto 23, 3) := by decide +kernel
theorem dX7_get_13 : decode cX7_get 13 = .ok (.aload_n 0, 1) := by decide +kernel
theorem dX7_get_14 : decode cX7_get 14 = .ok (.iload_n 1, 1) := by decide +kernel
theorem dX7_get_15 : decode cX7_get 15 = .ok (.invokevirtual 226, 3) := by decide +kernel
theorem dX7_get_18 : decode cX7_get 18 = .ok (.ifCond .eq 10, 3) := by decide +kernel
theorem dX7_get_21 : decode cX7_get 21 = .ok (.aload_n 0, 1) := by decide +kernel
theorem dX7_get_22 : decode cX7_get 22 = .ok (.getfield 180, 3) := by decide +kernel
theorem dX7_get_25 : decode cX7_get 25 = .ok (.ifCond .eq 7, 3) := by decide +kernel
theorem dX7_get_28 : decode cX7_get 28 = .ok (.iconst 2, 1) := by decide +kernel
theorem dX7_get_29 : decode cX7_get 29 = .ok (.goto 4, 3) := by decide +kernel
theorem dX7_get_32 : decode cX7_get 32 = .ok (.iconst 0, 1) := by decide +kernel
theorem dX7_get_33 : decode cX7_get 33 = .ok (.putfield 122, 3) := by decide +kernel
theorem dX7_get_36 : decode cX7_get 36 = .ok (.aload_n 0, 1) := by decide +kernel
theorem dX7_get_37 : decode cX7_get 37 = .ok (.getfield 122, 3) := by decide +kernel
theorem dX7_get_40 : decode cX7_get 40 = .ok (.ifCond .eq 5, 3) := by decide +kernel
theorem dX7_get_43 : decode cX7_get 43 = .ok (.iconst 0, 1) := by decide +kernel
theorem dX7_get_44 : decode cX7_get 44 = .ok (.ireturn, 1) := by decide +kernel
theorem dX7_get_45 : decode cX7_get 45 = .ok (.aload_n 0, 1) := by decide +kernel
theorem dX7_get_46 : decode cX7_get 46 = .ok (.aload_n 0, 1) := by decide +kernel
theorem dX7_get_47 : decode cX7_get 47 = .ok (.getfield 83, 3) := by decide +kernel
theorem dX7_get_50 : decode cX7_get 50 = .ok (.iload_n 1, 1) := by decide +kernel
theorem dX7_get_51 : decode cX7_get 51 = .ok (.iaload, 1) := by decide +kernel
theorem dX7_get_52 : decode cX7_get 52 = .ok (.invokevirtual 229, 3) := by decide +kernel
theorem dX7_get_55 : decode cX7_get 55 = .ok (.aload_n 0, 1) := by decide +kernel
theorem dX7_get_56 : decode cX7_get 56 = .ok (.invokevirtual 211, 3) := by decide +kernel
theorem dX7_get_59 : decode cX7_get 59 = .ok (.aload_n 0, 1) := by decide +kernel
theorem dX7_get_60 : decode cX7_get 60 = .ok (.getfield 44, 3) := by decide +kernel
theorem dX7_get_63 : decode cX7_get 63 = .ok (.aload_n 0, 1) := by decide +kernel
theorem dX7_get_64 : decode cX7_get 64 = .ok (.getfield 83, 3) := by decide +kernel
theorem dX7_get_67 : decode cX7_get 67 = .ok (.iload_n 1, 1) := by decide +kernel
theorem dX7_get_68 : decode cX7_get 68 = .ok (.iaload, 1) := by decide +kernel
theorem dX7_get_69 : decode cX7_get 69 = .ok (.iaload, 1) := by decide +kernel
theorem dX7_get_70 : decode cX7_get 70 = .ok (.ireturn, 1) := by decide +kernel
theorem dX7_map_0 : decode cX7_map 0 = .ok (.iconst 0, 1) := by decide +kernel
theorem dX7_map_1 : decode cX7_map 1 = .ok (.istore_n 3, 1) := by decide +kernel
theorem dX7_map_2 : decode cX7_map 2 = .ok (.iload_n 3, 1) := by decide +kernel
theorem dX7_map_3 : decode cX7_map 3 = .ok (.bipush 16, 2) := by decide +kernel
theorem dX7_map_5 : decode cX7_map 5 = .ok (.if_icmp .ge 19, 3) := by decide +kernel
theorem dX7_map_8 : decode cX7_map 8 = .ok (.aload_n 0, 1) := by decide +kernel
theorem dX7_map_9 : decode cX7_map 9 = .ok (.getfield 104, 3) := by decide +kernel
theorem dX7_map_12 : decode cX7_map 12 = .ok (.iload_n 3, 1) := by decide +kernel
theorem dX7_map_13 : decode cX7_map 13 = .ok (.iaload, 1) := by decide +kernel
theorem dX7_map_14 : decode cX7_map 14 = .ok (.iconst (-1), 1) := by decide +kernel
theorem dX7_map_15 : decode cX7_map 15 = .ok (.if_icmp .eq 9, 3) := by decide +kernel
theorem dX7_map_18 : decode cX7_map 18 = .ok (.iinc 3 1, 3) := by decide +kernel
theorem dX7_map_21 : decode cX7_map 21 = .ok (.goto (-19), 3) := by decide +kernel
theorem dX7_map_24 : decode cX7_map 24 = .ok (.aload_n 0, 1) := by decide +kernel
theorem dX7_map_25 : decode cX7_map 25 = .ok (.aload_n 0, 1) := by decide +kernel
theorem dX7_map_26 : decode cX7_map 26 = .ok (.iload_n 1, 1) := by decide +kernel
theorem dX7_map_27 : decode cX7_map 27 = .ok (.invokevirtual 223, 3) := by decide +kernel
theorem dX7_map_30 : decode cX7_map 30 = .ok (.ifCond .ne 7, 3) := by decide +kernel
theorem dX7_map_33 : decode cX7_map 33 = .ok (.iconst 1, 1) := by decide +kernel
theorem dX7_map_34 : decode cX7_map 34 = .ok (.goto 43, 3) := by decide +kernel
theorem dX7_map_37 : decode cX7_map 37 = .ok (.iload_n 2, 1) := by decide +kernel
theorem dX7_map_38 : decode cX7_map 38 = .ok (.iconst 0, 1) := by decide +kernel
theorem dX7_map_39 : decode cX7_map 39 = .ok (.bipush 31, 2) := by decide +kernel
theorem dX7_map_41 : decode cX7_map 41 = .ok (.invokestatic 129, 3) := by decide +kernel
theorem dX7_map_44 : decode cX7_map 44 = .ok (.ifCond .ne 7, 3) := by decide +kernel
theorem dX7_map_47 : decode cX7_map 47 = .ok (.iconst 2, 1) := by decide +kernel
theorem dX7_map_48 : decode cX7_map 48 = .ok (.goto 29, 3) := by decide +kernel
theorem dX7_map_51 : decode cX7_map 51 = .ok (.aload_n 0, 1) := by decide +kernel
theorem dX7_map_52 : decode cX7_map 52 = .ok (.iload_n 1, 1) := by decide +kernel
theorem dX7_map_53 : decode cX7_map 53 = .ok (.invokevirtual 226, 3) := by decide +kernel
theorem dX7_map_56 : decode cX7_map 56 = .ok (.ifCond .eq 16, 3) := by decide +kernel
theorem dX7_map_59 : decode cX7_map 59 = .ok (.aload_n 0, 1) := by decide +kernel
theorem dX7_map_60 : decode cX7_map 60 = .ok (.getfield 180, 3) := by decide +kernel
theorem dX7_map_63 : decode cX7_map 63 = .ok (.ifCond .ne 9, 3) := by decide +kernel
theorem dX7_map_66 : decode cX7_map 66 = .ok (.iload_n 3, 1) := by decide +kernel
theorem dX7_map_67 : decode cX7_map 67 = .ok (.bipush 16, 2) := by decide +kernel
theorem dX7_map_69 : decode cX7_map 69 = .ok (.if_icmp .ne 7, 3) := by decide +kernel
theorem dX7_map_72 : decode cX7_map 72 = .ok (.iconst 3, 1) := by decide +kernel
theorem dX7_map_73 : decode cX7_map 73 = .ok (.goto 4, 3) := by decide +kernel
theorem dX7_map_76 : decode cX7_map 76 = .ok (.iconst 0, 1) := by decide +kernel
theorem dX7_map_77 : decode cX7_map 77 = .ok (.putfield 122, 3) := by decide +kernel
theorem dX7_map_80 : decode cX7_map 80 = .ok (.aload_n 0, 1) := by decide +kernel
theorem dX7_map_81 : decode cX7_map 81 = .ok (.getfield 122, 3) := by decide +kernel
theorem dX7_map_84 : decode cX7_map 84 = .ok (.ifCond .eq 5, 3) := by decide +kernel
theorem dX7_map_87 : decode cX7_map 87 = .ok (.iconst 0, 1) := by decide +kernel
theorem dX7_map_88 : decode cX7_map 88 = .ok (.ireturn, 1) := by decide +kernel
theorem dX7_map_89 : decode cX7_map 89 = .ok (.aload_n 0, 1) := by decide +kernel
theorem dX7_map_90 : decode cX7_map 90 = .ok (.getfield 104, 3) := by decide +kernel
theorem dX7_map_93 : decode cX7_map 93 = .ok (.iload_n 3, 1) := by decide +kernel
theorem dX7_map_94 : decode cX7_map 94 = .ok (.aload_n 0, 1) := by decide +kernel
theorem dX7_map_95 : decode cX7_map 95 = .ok (.getfield 83, 3) := by decide +kernel
theorem dX7_map_98 : decode cX7_map 98 = .ok (.iload_n 1, 1) := by decide +kernel
theorem dX7_map_99 : decode cX7_map 99 = .ok (.iaload, 1) := by decide +kernel
theorem dX7_map_100 : decode cX7_map 100 = .ok (.iastore, 1) := by decide +kernel
theorem dX7_map_101 : decode cX7_map 101 = .ok (.aload_n 0, 1) := by decide +kernel
theorem dX7_map_102 : decode cX7_map 102 = .ok (.getfield 107, 3) := by decide +kernel
theorem dX7_map_105 : decode cX7_map 105 = .ok (.iload_n 3, 1) := by decide +kernel
theorem dX7_map_106 : decode cX7_map 106 = .ok (.iload_n 2, 1) := by decide +kernel
theorem dX7_map_107 : decode cX7_map 107 = .ok (.iastore, 1) := by decide +kernel
theorem dX7_map_108 : decode cX7_map 108 = .ok (.aload_n 0, 1) := by decide +kernel
theorem dX7_map_109 : decode cX7_map 109 = .ok (.invokevirtual 211, 3) := by decide +kernel
theorem dX7_map_112 : decode cX7_map 112 = .ok (.iload_n 3, 1) := by decide +kernel
theorem dX7_map_113 : decode cX7_map 113 = .ok (.ireturn, 1) := by decide +kernel
theorem dX7_unmap_0 : decode cX7_unmap 0 = .ok (.aload_n 0, 1) := by decide +kernel
theorem dX7_unmap_1 : decode cX7_unmap 1 = .ok (.aload_n 0, 1) := by decide +kernel
theorem dX7_unmap_2 : decode cX7_unmap 2 = .ok (.iload_n 1, 1) := by decide +kernel
theorem dX7_unmap_3 : decode cX7_unmap 3 = .ok (.invokevirtual 223, 3) := by decide +kernel
theorem dX7_unmap_6 : decode cX7_unmap 6 = .ok (.ifCond .eq 13, 3) := by decide +kernel
theorem dX7_unmap_9 : decode cX7_unmap 9 = .ok (.iload_n 2, 1) := by decide +kernel
theorem dX7_unmap_10 : decode cX7_unmap 10 = .ok (.iconst 0, 1) := by decide +kernel
theorem dX7_unmap_11 : decode cX7_unmap 11 = .ok (.bipush 15, 2) := by decide +kernel
theorem dX7_unmap_13 : decode cX7_unmap 13 = .ok (.invokestatic 129, 3) := by decide +kernel
theorem dX7_unmap_16 : decode cX7_unmap 16 = .ok (.ifCond .ne 7, 3) := by decide +kernel
theorem dX7_unmap_19 : decode cX7_unmap 19 = .ok (.iconst 1, 1) := by decide +kernel
theorem dX7_unmap_20 : decode cX7_unmap 20 = .ok (.goto 31, 3) := by decide +kernel
theorem dX7_unmap_23 : decode cX7_unmap 23 = .ok (.aload_n 0, 1) := by decide +kernel
theorem dX7_unmap_24 : decode cX7_unmap 24 = .ok (.iload_n 1, 1) := by decide +kernel
theorem dX7_unmap_25 : decode cX7_unmap 25 = .ok (.invokevirtual 226, 3) := by decide +kernel
theorem dX7_unmap_28 : decode cX7_unmap 28 = .ok (.ifCond .eq 18, 3) := by decide +kernel
theorem dX7_unmap_31 : decode cX7_unmap 31 = .ok (.aload_n 0, 1) := by decide +kernel
theorem dX7_unmap_32 : decode cX7_unmap 32 = .ok (.getfield 104, 3) := by decide +kernel
theorem dX7_unmap_35 : decode cX7_unmap 35 = .ok (.iload_n 2, 1) := by decide +kernel
theorem dX7_unmap_36 : decode cX7_unmap 36 = .ok (.iaload, 1) := by decide +kernel
theorem dX7_unmap_37 : decode cX7_unmap 37 = .ok (.aload_n 0, 1) := by decide +kernel
theorem dX7_unmap_38 : decode cX7_unmap 38 = .ok (.getfield 83, 3) := by decide +kernel
theorem dX7_unmap_41 : decode cX7_unmap 41 = .ok (.iload_n 1, 1) := by decide +kernel
theorem dX7_unmap_42 : decode cX7_unmap 42 = .ok (.iaload, 1) := by decide +kernel
theorem dX7_unmap_43 : decode cX7_unmap 43 = .ok (.if_icmp .eq 7, 3) := by decide +kernel
theorem dX7_unmap_46 : decode cX7_unmap 46 = .ok (.iconst 2, 1) := by decide +kernel
theorem dX7_unmap_47 : decode cX7_unmap 47 = .ok (.goto 4, 3) := by decide +kernel
theorem dX7_unmap_50 : decode cX7_unmap 50 = .ok (.iconst 0, 1) := by decide +kernel
theorem dX7_unmap_51 : decode cX7_unmap 51 = .ok (.putfield 122, 3) := by decide +kernel
theorem dX7_unmap_54 : decode cX7_unmap 54 = .ok (.aload_n 0, 1) := by decide +kernel
theorem dX7_unmap_55 : decode cX7_unmap 55 = .ok (.getfield 122, 3) := by decide +kernel
theorem dX7_unmap_58 : decode cX7_unmap 58 = .ok (.ifCond .eq 5, 3) := by decide +kernel
theorem dX7_unmap_61 : decode cX7_unmap 61 = .ok (.iconst 0, 1) := by decide +kernel
theorem dX7_unmap_62 : decode cX7_unmap 62 = .ok (.ireturn, 1) := by decide +kernel
theorem dX7_unmap_63 : decode cX7_unmap 63 = .ok (.aload_n 0, 1) := by decide +kernel
theorem dX7_unmap_64 : decode cX7_unmap 64 = .ok (.getfield 104, 3) := by decide +kernel
theorem dX7_unmap_67 : decode cX7_unmap 67 = .ok (.iload_n 2, 1) := by decide +kernel
theorem dX7_unmap_68 : decode cX7_unmap 68 = .ok (.iconst (-1), 1) := by decide +kernel
theorem dX7_unmap_69 : decode cX7_unmap 69 = .ok (.iastore, 1) := by decide +kernel
theorem dX7_unmap_70 : decode cX7_unmap 70 = .ok (.aload_n 0, 1) := by decide +kernel
theorem dX7_unmap_71 : decode cX7_unmap 71 = .ok (.invokevirtual 211, 3) := by decide +kernel
theorem dX7_unmap_74 : decode cX7_unmap 74 = .ok (.aload_n 0, 1) := by decide +kernel
theorem dX7_unmap_75 : decode cX7_unmap 75 = .ok (.getfield 107, 3) := by decide +kernel
theorem dX7_unmap_78 : decode cX7_unmap 78 = .ok (.iload_n 2, 1) := by decide +kernel
theorem dX7_unmap_79 : decode cX7_unmap 79 = .ok (.iaload, 1) := by decide +kernel
theorem dX7_unmap_80 : decode cX7_unmap 80 = .ok (.ireturn, 1) := by decide +kernel
theorem dX7_access_0 : decode cX7_access 0 = .ok (.aload_n 0, 1) := by decide +kernel
theorem dX7_access_1 : decode cX7_access 1 = .ok (.aload_n 0, 1) := by decide +kernel
theorem dX7_access_2 : decode cX7_access 2 = .ok (.iload_n 1, 1) := by decide +kernel
theorem dX7_access_3 : decode cX7_access 3 = .ok (.invokevirtual 205, 3) := by decide +kernel
theorem dX7_access_6 : decode cX7_access 6 = .ok (.ifCond .eq 13, 3) := by decide +kernel
theorem dX7_access_9 : decode cX7_access 9 = .ok (.iload_n 2, 1) := by decide +kernel
theorem dX7_access_10 : decode cX7_access 10 = .ok (.iconst 0, 1) := by decide +kernel
theorem dX7_access_11 : decode cX7_access 11 = .ok (.bipush 15, 2) := by decide +kernel
theorem dX7_access_13 : decode cX7_access 13 = .ok (.invokestatic 129, 3) := by decide +kernel
theorem dX7_access_16 : decode cX7_access 16 = .ok (.ifCond .ne 7, 3) := by decide +kernel
theorem dX7_access_19 : decode cX7_access 19 = .ok (.iconst 1, 1) := by decide +kernel
theorem dX7_access_20 : decode cX7_access 20 = .ok (.goto 17, 3) := by decide +kernel
theorem dX7_access_23 : decode cX7_access 23 = .ok (.aload_n 0, 1) := by decide +kernel
theorem dX7_access_24 : decode cX7_access 24 = .ok (.getfield 32, 3) := by decide +kernel
theorem dX7_access_27 : decode cX7_access 27 = .ok (.iload_n 1, 1) := by decide +kernel
theorem dX7_access_28 : decode cX7_access 28 = .ok (.baload, 1) := by decide +kernel
theorem dX7_access_29 : decode cX7_access 29 = .ok (.ifCond .ne 7, 3) := by decide +kernel
theorem dX7_access_32 : decode cX7_access 32 = .ok (.iconst 2, 1) := by decide +kernel
theorem dX7_access_33 : decode cX7_access 33 = .ok (.goto 4, 3) := by decide +kernel
theorem dX7_access_36 : decode cX7_access 36 = .ok (.iconst 0, 1) := by decide +kernel
theorem dX7_access_37 : decode cX7_access 37 = .ok (.putfield 122, 3) := by decide +kernel
theorem dX7_access_40 : decode cX7_access 40 = .ok (.aload_n 0, 1) := by decide +kernel
theorem dX7_access_41 : decode cX7_access 41 = .ok (.getfield 122, 3) := by decide +kernel
theorem dX7_access_44 : decode cX7_access 44 = .ok (.ifCond .eq 5, 3) := by decide +kernel
theorem dX7_access_47 : decode cX7_access 47 = .ok (.iconst 0, 1) := by decide +kernel
theorem dX7_access_48 : decode cX7_access 48 = .ok (.ireturn, 1) := by decide +kernel
theorem dX7_access_49 : decode cX7_access 49 = .ok (.aload_n 0, 1) := by decide +kernel
theorem dX7_access_50 : decode cX7_access 50 = .ok (.getfield 38, 3) := by decide +kernel
theorem dX7_access_53 : decode cX7_access 53 = .ok (.iload_n 1, 1) := by decide +kernel
theorem dX7_access_54 : decode cX7_access 54 = .ok (.baload, 1) := by decide +kernel
theorem dX7_access_55 : decode cX7_access 55 = .ok (.ifCond .eq 17, 3) := by decide +kernel
theorem dX7_access_58 : decode cX7_access 58 = .ok (.aload_n 0, 1) := by decide +kernel
theorem dX7_access_59 : decode cX7_access 59 = .ok (.getfield 104, 3) := by decide +kernel
theorem dX7_access_62 : decode cX7_access 62 = .ok (.iload_n 2, 1) := by decide +kernel
theorem dX7_access_63 : decode cX7_access 63 = .ok (.iaload, 1) := by decide +kernel
theorem dX7_access_64 : decode cX7_access 64 = .ok (.iload_n 1, 1) := by decide +kernel
theorem dX7_access_65 : decode cX7_access 65 = .ok (.if_icmp .ne 7, 3) := by decide +kernel
theorem dX7_access_68 : decode cX7_access 68 = .ok (.iconst 1, 1) := by decide +kernel
theorem dX7_access_69 : decode cX7_access 69 = .ok (.goto 4, 3) := by decide +kernel
theorem dX7_access_72 : decode cX7_access 72 = .ok (.iconst 0, 1) := by decide +kernel
theorem dX7_access_73 : decode cX7_access 73 = .ok (.istore_n 3, 1) := by decide +kernel
theorem dX7_access_74 : decode cX7_access 74 = .ok (.aload_n 0, 1) := by decide +kernel
theorem dX7_access_75 : decode cX7_access 75 = .ok (.dup, 1) := by decide +kernel
theorem dX7_access_76 : decode cX7_access 76 = .ok (.getfield 232, 3) := by decide +kernel
theorem dX7_access_79 : decode cX7_access 79 = .ok (.iload_n 3, 1) := by decide +kernel
theorem dX7_access_80 : decode cX7_access 80 = .ok (.ifCond .eq 7, 3) := by decide +kernel
theorem dX7_access_83 : decode cX7_access 83 = .ok (.iconst 0, 1) := by decide +kernel
theorem dX7_access_84 : decode cX7_access 84 = .ok (.goto 4, 3) := by decide +kernel
theorem dX7_access_87 : decode cX7_access 87 = .ok (.iconst 1, 1) := by decide +kernel
theorem dX7_access_88 : decode cX7_access 88 = .ok (.iadd, 1) := by decide +kernel
theorem dX7_access_89 : decode cX7_access 89 = .ok (.putfield 232, 3) := by decide +kernel
theorem dX7_access_92 : decode cX7_access 92 = .ok (.aload_n 0, 1) := by decide +kernel
theorem dX7_access_93 : decode cX7_access 93 = .ok (.invokevirtual 211, 3) := by decide +kernel
theorem dX7_access_96 : decode cX7_access 96 = .ok (.iload_n 3, 1) := by decide +kernel
theorem dX7_access_97 : decode cX7_access 97 = .ok (.ifCond .eq 12, 3) := by decide +kernel
theorem dX7_access_100 : decode cX7_access 100 = .ok (.aload_n 0, 1) := by decide +kernel
theorem dX7_access_101 : decode cX7_access 101 = .ok (.getfield 107, 3) := by decide +kernel
theorem dX7_access_104 : decode cX7_access 104 = .ok (.iload_n 2, 1) := by decide +kernel
theorem dX7_access_105 : decode cX7_access 105 = .ok (.iaload, 1) := by decide +kernel
theorem dX7_access_106 : decode cX7_access 106 = .ok (.goto 4, 3) := by decide +kernel
theorem dX7_access_109 : decode cX7_access 109 = .ok (.iconst (-1), 1) := by decide +kernel
theorem dX7_access_110 : decode cX7_access 110 = .ok (.ireturn, 1) := by decide +kernel
theorem dX7_hasCall_0 : decode cX7_hasCall 0 = .ok (.iconst 0, 1) := by decide +kernel
theorem dX7_hasCall_1 : decode cX7_hasCall 1 = .ok (.istore_n 2, 1) := by decide +kernel
theorem dX7_hasCall_2 : decode cX7_hasCall 2 = .ok (.iconst 0, 1) := by decide +kernel
theorem dX7_hasCall_3 : decode cX7_hasCall 3 = .ok (.istore_n 3, 1) := by decide +kernel
theorem dX7_hasCall_4 : decode cX7_hasCall 4 = .ok (.iload_n 3, 1) := by decide +kernel
theorem dX7_hasCall_5 : decode cX7_hasCall 5 = .ok (.aload_n 0, 1) := by decide +kernel
theorem dX7_hasCall_6 : decode cX7_hasCall 6 = .ok (.getfield 190, 3) := by decide +kernel
theorem dX7_hasCall_9 : decode cX7_hasCall 9 = .ok (.if_icmp .ge 43, 3) := by decide +kernel
theorem dX7_hasCall_12 : decode cX7_hasCall 12 = .ok (.iload_n 2, 1) := by decide +kernel
theorem dX7_hasCall_13 : decode cX7_hasCall 13 = .ok (.ifCond .ne 27, 3) := by decide +kernel
theorem dX7_hasCall_16 : decode cX7_hasCall 16 = .ok (.aload_n 0, 1) := by decide +kernel
theorem dX7_hasCall_17 : decode cX7_hasCall 17 = .ok (.getfield 98, 3) := by decide +kernel
theorem dX7_hasCall_20 : decode cX7_hasCall 20 = .ok (.iload_n 3, 1) := by decide +kernel
theorem dX7_hasCall_21 : decode cX7_hasCall 21 = .ok (.iaload, 1) := by decide +kernel
theorem dX7_hasCall_22 : decode cX7_hasCall 22 = .ok (.ifCond .ne 22, 3) := by decide +kernel
theorem dX7_hasCall_25 : decode cX7_hasCall 25 = .ok (.aload_n 0, 1) := by decide +kernel
theorem dX7_hasCall_26 : decode cX7_hasCall 26 = .ok (.getfield 83, 3) := by decide +kernel
theorem dX7_hasCall_29 : decode cX7_hasCall 29 = .ok (.aload_n 0, 1) := by decide +kernel
theorem dX7_hasCall_30 : decode cX7_hasCall 30 = .ok (.getfield 92, 3) := by decide +kernel
theorem dX7_hasCall_33 : decode cX7_hasCall 33 = .ok (.iload_n 3, 1) := by decide +kernel
theorem dX7_hasCall_34 : decode cX7_hasCall 34 = .ok (.iaload, 1) := by decide +kernel
theorem dX7_hasCall_35 : decode cX7_hasCall 35 = .ok (.iaload, 1) := by decide +kernel
theorem dX7_hasCall_36 : decode cX7_hasCall 36 = .ok (.iload_n 1, 1) := by decide +kernel
theorem dX7_hasCall_37 : decode cX7_hasCall 37 = .ok (.if_icmp .ne 7, 3) := by decide +kernel
theorem dX7_hasCall_40 : decode cX7_hasCall 40 = .ok (.iconst 1, 1) := by decide +kernel
theorem dX7_hasCall_41 : decode cX7_hasCall 41 = .ok (.goto 4, 3) := by decide +kernel
theorem dX7_hasCall_44 : decode cX7_hasCall 44 = .ok (.iconst 0, 1) := by decide +kernel
theorem dX7_hasCall_45 : decode cX7_hasCall 45 = .ok (.istore_n 2, 1) := by decide +kernel
theorem dX7_hasCall_46 : decode cX7_hasCall 46 = .ok (.iinc 3 1, 3) := by decide +kernel
theorem dX7_hasCall_49 : decode cX7_hasCall 49 = .ok (.goto (-45), 3) := by decide +kernel
theorem dX7_hasCall_52 : decode cX7_hasCall 52 = .ok (.iload_n 2, 1) := by decide +kernel
theorem dX7_hasCall_53 : decode cX7_hasCall 53 = .ok (.ireturn, 1) := by decide +kernel
theorem dX7_isHeld_0 : decode cX7_isHeld 0 = .ok (.aload_n 0, 1) := by decide +kernel
theorem dX7_isHeld_1 : decode cX7_isHeld 1 = .ok (.iload_n 1, 1) := by decide +kernel
theorem dX7_isHeld_2 : decode cX7_isHeld 2 = .ok (.invokevirtual 235, 3) := by decide +kernel
theorem dX7_isHeld_5 : decode cX7_isHeld 5 = .ok (.istore_n 2, 1) := by decide +kernel
theorem dX7_isHeld_6 : decode cX7_isHeld 6 = .ok (.iload_n 1, 1) := by decide +kernel
theorem dX7_isHeld_7 : decode cX7_isHeld 7 = .ok (.iconst 1, 1) := by decide +kernel
theorem dX7_isHeld_8 : decode cX7_isHeld 8 = .ok (.iadd, 1) := by decide +kernel
theorem dX7_isHeld_9 : decode cX7_isHeld 9 = .ok (.istore_n 3, 1) := by decide +kernel
theorem dX7_isHeld_10 : decode cX7_isHeld 10 = .ok (.iload_n 3, 1) := by decide +kernel
theorem dX7_isHeld_11 : decode cX7_isHeld 11 = .ok (.aload_n 0, 1) := by decide +kernel
theorem dX7_isHeld_12 : decode cX7_isHeld 12 = .ok (.getfield 126, 3) := by decide +kernel
theorem dX7_isHeld_15 : decode cX7_isHeld 15 = .ok (.if_icmp .ge 58, 3) := by decide +kernel
theorem dX7_isHeld_18 : decode cX7_isHeld 18 = .ok (.iload_n 2, 1) := by decide +kernel
theorem dX7_isHeld_19 : decode cX7_isHeld 19 = .ok (.ifCond .ne 42, 3) := by decide +kernel
theorem dX7_isHeld_22 : decode cX7_isHeld 22 = .ok (.aload_n 0, 1) := by decide +kernel
theorem dX7_isHeld_23 : decode cX7_isHeld 23 = .ok (.getfield 38, 3) := by decide +kernel
theorem dX7_isHeld_26 : decode cX7_isHeld 26 = .ok (.iload_n 3, 1) := by decide +kernel
theorem dX7_isHeld_27 : decode cX7_isHeld 27 = .ok (.baload, 1) := by decide +kernel
theorem dX7_isHeld_28 : decode cX7_isHeld 28 = .ok (.ifCond .eq 37, 3) := by decide +kernel
theorem dX7_isHeld_31 : decode cX7_isHeld 31 = .ok (.aload_n 0, 1) := by decide +kernel
theorem dX7_isHeld_32 : decode cX7_isHeld 32 = .ok (.getfield 7, 3) := by decide +kernel
theorem dX7_isHeld_35 : decode cX7_isHeld 35 = .ok (.iload_n 3, 1) := by decide +kernel
theorem dX7_isHeld_36 : decode cX7_isHeld 36 = .ok (.iaload, 1) := by decide +kernel
theorem dX7_isHeld_37 : decode cX7_isHeld 37 = .ok (.iload_n 1, 1) := by decide +kernel
theorem dX7_isHeld_38 : decode cX7_isHeld 38 = .ok (.if_icmp .eq 23, 3) := by decide +kernel
theorem dX7_isHeld_41 : decode cX7_isHeld 41 = .ok (.aload_n 0, 1) := by decide +kernel
theorem dX7_isHeld_42 : decode cX7_isHeld 42 = .ok (.getfield 26, 3) := by decide +kernel
theorem dX7_isHeld_45 : decode cX7_isHeld 45 = .ok (.iload_n 3, 1) := by decide +kernel
theorem dX7_isHeld_46 : decode cX7_isHeld 46 = .ok (.iaload, 1) := by decide +kernel
theorem dX7_isHeld_47 : decode cX7_isHeld 47 = .ok (.iload_n 1, 1) := by decide +kernel
theorem dX7_isHeld_48 : decode cX7_isHeld 48 = .ok (.if_icmp .eq 13, 3) := by decide +kernel
theorem dX7_isHeld_51 : decode cX7_isHeld 51 = .ok (.aload_n 0, 1) := by decide +kernel
theorem dX7_isHeld_52 : decode cX7_isHeld 52 = .ok (.getfield 29, 3) := by decide +kernel
theorem dX7_isHeld_55 : decode cX7_isHeld 55 = .ok (.iload_n 3, 1) := by decide +kernel
theorem dX7_isHeld_56 : decode cX7_isHeld 56 = .ok (.iaload, 1) := by decide +kernel
theorem dX7_isHeld_57 : decode cX7_isHeld 57 = .ok (.iload_n 1, 1) := by decide +kernel
theorem dX7_isHeld_58 : decode cX7_isHeld 58 = .ok (.if_icmp .ne 7, 3) := by decide +kernel
theorem dX7_isHeld_61 : decode cX7_isHeld 61 = .ok (.iconst 1, 1) := by decide +kernel
theorem dX7_isHeld_62 : decode cX7_isHeld 62 = .ok (.goto 4, 3) := by decide +kernel
theorem dX7_isHeld_65 : decode cX7_isHeld 65 = .ok (.iconst 0, 1) := by decide +kernel
theorem dX7_isHeld_66 : decode cX7_isHeld 66 = .ok (.istore_n 2, 1) := by decide +kernel
theorem dX7_isHeld_67 : decode cX7_isHeld 67 = .ok (.iinc 3 1, 3) := by decide +kernel
theorem dX7_isHeld_70 : decode cX7_isHeld 70 = .ok (.goto (-60), 3) := by decide +kernel
theorem dX7_isHeld_73 : decode cX7_isHeld 73 = .ok (.iload_n 2, 1) := by decide +kernel
theorem dX7_isHeld_74 : decode cX7_isHeld 74 = .ok (.ireturn, 1) := by decide +kernel
theorem dX7_tick_0 : decode cX7_tick 0 = .ok (.aload_n 0, 1) := by decide +kernel
theorem dX7_tick_1 : decode cX7_tick 1 = .ok (.dup, 1) := by decide +kernel
theorem dX7_tick_2 : decode cX7_tick 2 = .ok (.getfield 163, 3) := by decide +kernel
theorem dX7_tick_5 : decode cX7_tick 5 = .ok (.iconst 1, 1) := by decide +kernel
theorem dX7_tick_6 : decode cX7_tick 6 = .ok (.iadd, 1) := by decide +kernel
theorem dX7_tick_7 : decode cX7_tick 7 = .ok (.putfield 163, 3) := by decide +kernel
theorem dX7_tick_10 : decode cX7_tick 10 = .ok (.iconst 0, 1) := by decide +kernel
theorem dX7_tick_11 : decode cX7_tick 11 = .ok (.istore_n 1, 1) := by decide +kernel
theorem dX7_tick_12 : decode cX7_tick 12 = .ok (.iload_n 1, 1) := by decide +kernel
theorem dX7_tick_13 : decode cX7_tick 13 = .ok (.aload_n 0, 1) := by decide +kernel
theorem dX7_tick_14 : decode cX7_tick 14 = .ok (.getfield 190, 3) := by decide +kernel
theorem dX7_tick_17 : decode cX7_tick 17 = .ok (.if_icmp .ge 47, 3) := by decide +kernel
theorem dX7_tick_20 : decode cX7_tick 20 = .ok (.aload_n 0, 1) := by decide +kernel
theorem dX7_tick_21 : decode cX7_tick 21 = .ok (.getfield 98, 3) := by decide +kernel
theorem dX7_tick_24 : decode cX7_tick 24 = .ok (.iload_n 1, 1) := by decide +kernel
theorem dX7_tick_25 : decode cX7_tick 25 = .ok (.aload_n 0, 1) := by decide +kernel
theorem dX7_tick_26 : decode cX7_tick 26 = .ok (.getfield 98, 3) := by decide +kernel
theorem dX7_tick_29 : decode cX7_tick 29 = .ok (.iload_n 1, 1) := by decide +kernel
theorem dX7_tick_30 : decode cX7_tick 30 = .ok (.iaload, 1) := by decide +kernel
theorem dX7_tick_31 : decode cX7_tick 31 = .ok (.ifCond .ne 20, 3) := by decide +kernel
theorem dX7_tick_34 : decode cX7_tick 34 = .ok (.aload_n 0, 1) := by decide +kernel
theorem dX7_tick_35 : decode cX7_tick 35 = .ok (.getfield 95, 3) := by decide +kernel
theorem dX7_tick_38 : decode cX7_tick 38 = .ok (.iload_n 1, 1) := by decide +kernel
theorem dX7_tick_39 : decode cX7_tick 39 = .ok (.iaload, 1) := by decide +kernel
theorem dX7_tick_40 : decode cX7_tick 40 = .ok (.aload_n 0, 1) := by decide +kernel
theorem dX7_tick_41 : decode cX7_tick 41 = .ok (.getfield 163, 3) := by decide +kernel
theorem dX7_tick_44 : decode cX7_tick 44 = .ok (.if_icmp .ne 7, 3) := by decide +kernel
theorem dX7_tick_47 : decode cX7_tick 47 = .ok (.iconst 1, 1) := by decide +kernel
theorem dX7_tick_48 : decode cX7_tick 48 = .ok (.goto 9, 3) := by decide +kernel
theorem dX7_tick_51 : decode cX7_tick 51 = .ok (.aload_n 0, 1) := by decide +kernel
theorem dX7_tick_52 : decode cX7_tick 52 = .ok (.getfield 98, 3) := by decide +kernel
theorem dX7_tick_55 : decode cX7_tick 55 = .ok (.iload_n 1, 1) := by decide +kernel
theorem dX7_tick_56 : decode cX7_tick 56 = .ok (.iaload, 1) := by decide +kernel
theorem dX7_tick_57 : decode cX7_tick 57 = .ok (.iastore, 1) := by decide +kernel
theorem dX7_tick_58 : decode cX7_tick 58 = .ok (.iinc 1 1, 3) := by decide +kernel
theorem dX7_tick_61 : decode cX7_tick 61 = .ok (.goto (-49), 3) := by decide +kernel
theorem dX7_tick_64 : decode cX7_tick 64 = .ok (.iconst 0, 1) := by decide +kernel
theorem dX7_tick_65 : decode cX7_tick 65 = .ok (.istore_n 1, 1) := by decide +kernel
theorem dX7_tick_66 : decode cX7_tick 66 = .ok (.iconst 0, 1) := by decide +kernel
theorem dX7_tick_67 : decode cX7_tick 67 = .ok (.istore_n 2, 1) := by decide +kernel
theorem dX7_tick_68 : decode cX7_tick 68 = .ok (.iload_n 2, 1) := by decide +kernel
theorem dX7_tick_69 : decode cX7_tick 69 = .ok (.aload_n 0, 1) := by decide +kernel
theorem dX7_tick_70 : decode cX7_tick 70 = .ok (.getfield 126, 3) := by decide +kernel
theorem dX7_tick_73 : decode cX7_tick 73 = .ok (.if_icmp .ge 79, 3) := by decide +kernel
theorem dX7_tick_76 : decode cX7_tick 76 = .ok (.aload_n 0, 1) := by decide +kernel
theorem dX7_tick_77 : decode cX7_tick 77 = .ok (.getfield 62, 3) := by decide +kernel
theorem dX7_tick_80 : decode cX7_tick 80 = .ok (.iload_n 2, 1) := by decide +kernel
theorem dX7_tick_81 : decode cX7_tick 81 = .ok (.aload_n 0, 1) := by decide +kernel
theorem dX7_tick_82 : decode cX7_tick 82 = .ok (.getfield 38, 3) := by decide +kernel
theorem dX7_tick_85 : decode cX7_tick 85 = .ok (.iload_n 2, 1) := by decide +kernel
theorem dX7_tick_86 : decode cX7_tick 86 = .ok (.baload, 1) := by decide +kernel
theorem dX7_tick_87 : decode cX7_tick 87 = .ok (.ifCond .eq 18, 3) := by decide +kernel
theorem dX7_tick_90 : decode cX7_tick 90 = .ok (.aload_n 0, 1) := by decide +kernel
theorem dX7_tick_91 : decode cX7_tick 91 = .ok (.iload_n 2, 1) := by decide +kernel
theorem dX7_tick_92 : decode cX7_tick 92 = .ok (.invokevirtual 238, 3) := by decide +kernel
theorem dX7_tick_95 : decode cX7_tick 95 = .ok (.ifCond .eq 10, 3) := by decide +kernel
theorem dX7_tick_98 : decode cX7_tick 98 = .ok (.aload_n 0, 1) := by decide +kernel
theorem dX7_tick_99 : decode cX7_tick 99 = .ok (.getfield 163, 3) := by decide +kernel
theorem dX7_tick_102 : decode cX7_tick 102 = .ok (.goto 9, 3) := by decide +kernel
theorem dX7_tick_105 : decode cX7_tick 105 = .ok (.aload_n 0, 1) := by decide +kernel
theorem dX7_tick_106 : decode cX7_tick 106 = .ok (.getfield 62, 3) := by decide +kernel
theorem dX7_tick_109 : decode cX7_tick 109 = .ok (.iload_n 2, 1) := by decide +kernel
theorem dX7_tick_110 : decode cX7_tick 110 = .ok (.iaload, 1) := by decide +kernel
theorem dX7_tick_111 : decode cX7_tick 111 = .ok (.iastore, 1) := by decide +kernel
theorem dX7_tick_112 : decode cX7_tick 112 = .ok (.iload_n 1, 1) := by decide +kernel
theorem dX7_tick_113 : decode cX7_tick 113 = .ok (.aload_n 0, 1) := by decide +kernel
theorem dX7_tick_114 : decode cX7_tick 114 = .ok (.getfield 38, 3) := by decide +kernel
theorem dX7_tick_117 : decode cX7_tick 117 = .ok (.iload_n 2, 1) := by decide +kernel
theorem dX7_tick_118 : decode cX7_tick 118 = .ok (.baload, 1) := by decide +kernel
theorem dX7_tick_119 : decode cX7_tick 119 = .ok (.ifCond .eq 24, 3) := by decide +kernel
theorem dX7_tick_122 : decode cX7_tick 122 = .ok (.aload_n 0, 1) := by decide +kernel
theorem dX7_tick_123 : decode cX7_tick 123 = .ok (.getfield 163, 3) := by decide +kernel
theorem dX7_tick_126 : decode cX7_tick 126 = .ok (.aload_n 0, 1) := by decide +kernel
theorem dX7_tick_127 : decode cX7_tick 127 = .ok (.getfield 62, 3) := by decide +kernel
theorem dX7_tick_130 : decode cX7_tick 130 = .ok (.iload_n 2, 1) := by decide +kernel
theorem dX7_tick_131 : decode cX7_tick 131 = .ok (.iaload, 1) := by decide +kernel
theorem dX7_tick_132 : decode cX7_tick 132 = .ok (.isub, 1) := by decide +kernel
theorem dX7_tick_133 : decode cX7_tick 133 = .ok (.iconst 5, 1) := by decide +kernel
theorem dX7_tick_134 : decode cX7_tick 134 = .ok (.if_icmp .lt 9, 3) := by decide +kernel
theorem dX7_tick_137 : decode cX7_tick 137 = .ok (.iconst 1, 1) := by decide +kernel
theorem dX7_tick_138 : decode cX7_tick 138 = .ok (.iload_n 2, 1) := by decide +kernel
theorem dX7_tick_139 : decode cX7_tick 139 = .ok (.ishl, 1) := by decide +kernel
theorem dX7_tick_140 : decode cX7_tick 140 = .ok (.goto 4, 3) := by decide +kernel
theorem dX7_tick_143 : decode cX7_tick 143 = .ok (.iconst 0, 1) := by decide +kernel
theorem dX7_tick_144 : decode cX7_tick 144 = .ok (.ior, 1) := by decide +kernel
theorem dX7_tick_145 : decode cX7_tick 145 = .ok (.istore_n 1, 1) := by decide +kernel
theorem dX7_tick_146 : decode cX7_tick 146 = .ok (.iinc 2 1, 3) := by decide +kernel
theorem dX7_tick_149 : decode cX7_tick 149 = .ok (.goto (-81), 3) := by decide +kernel
theorem dX7_tick_152 : decode cX7_tick 152 = .ok (.aload_n 0, 1) := by decide +kernel
theorem dX7_tick_153 : decode cX7_tick 153 = .ok (.iload_n 1, 1) := by decide +kernel
theorem dX7_tick_154 : decode cX7_tick 154 = .ok (.invokevirtual 196, 3) := by decide +kernel
theorem dX7_tick_157 : decode cX7_tick 157 = .ok (.istore_n 2, 1) := by decide +kernel
theorem dX7_tick_158 : decode cX7_tick 158 = .ok (.iload_n 2, 1) := by decide +kernel
theorem dX7_tick_159 : decode cX7_tick 159 = .ok (.iconst (-1), 1) := by decide +kernel
theorem dX7_tick_160 : decode cX7_tick 160 = .ok (.if_icmp .eq 25, 3) := by decide +kernel
theorem dX7_tick_163 : decode cX7_tick 163 = .ok (.aload_n 0, 1) := by decide +kernel
theorem dX7_tick_164 : decode cX7_tick 164 = .ok (.iload_n 2, 1) := by decide +kernel
theorem dX7_tick_165 : decode cX7_tick 165 = .ok (.invokevirtual 241, 3) := by decide +kernel
theorem dX7_tick_168 : decode cX7_tick 168 = .ok (.iload_n 1, 1) := by decide +kernel
theorem dX7_tick_169 : decode cX7_tick 169 = .ok (.iconst 1, 1) := by decide +kernel
theorem dX7_tick_170 : decode cX7_tick 170 = .ok (.iload_n 2, 1) := by decide +kernel
theorem dX7_tick_171 : decode cX7_tick 171 = .ok (.ishl, 1) := by decide +kernel
theorem dX7_tick_172 : decode cX7_tick 172 = .ok (.iconst (-1), 1) := by decide +kernel
theorem dX7_tick_173 : decode cX7_tick 173 = .ok (.ixor, 1) := by decide +kernel
theorem dX7_tick_174 : decode cX7_tick 174 = .ok (.iand, 1) := by decide +kernel
theorem dX7_tick_175 : decode cX7_tick 175 = .ok (.istore_n 1, 1) := by decide +kernel
theorem dX7_tick_176 : decode cX7_tick 176 = .ok (.aload_n 0, 1) := by decide +kernel
theorem dX7_tick_177 : decode cX7_tick 177 = .ok (.iload_n 1, 1) := by decide +kernel
theorem dX7_tick_178 : decode cX7_tick 178 = .ok (.invokevirtual 196, 3) := by decide +kernel
theorem dX7_tick_181 : decode cX7_tick 181 = .ok (.istore_n 2, 1) := by decide +kernel
theorem dX7_tick_182 : decode cX7_tick 182 = .ok (.goto (-24), 3) := by decide +kernel
theorem dX7_tick_185 : decode cX7_tick 185 = .ok (.return_, 1) := by decide +kernel
theorem dX7_pass_0 : decode cX7_pass 0 = .ok (.aload_n 0, 1) := by decide +kernel
theorem dX7_pass_1 : decode cX7_pass 1 = .ok (.iload_n 1, 1) := by decide +kernel
theorem dX7_pass_2 : decode cX7_pass 2 = .ok (.iconst 1, 1) := by decide +kernel
theorem dX7_pass_3 : decode cX7_pass 3 = .ok (.bipush 50, 2) := by decide +kernel
theorem dX7_pass_5 : decode cX7_pass 5 = .ok (.invokestatic 129, 3) := by decide +kernel
theorem dX7_pass_8 : decode cX7_pass 8 = .ok (.ifCond .ne 7, 3) := by decide +kernel
theorem dX7_pass_11 : decode cX7_pass 11 = .ok (.iconst 1, 1) := by decide +kernel
theorem dX7_pass_12 : decode cX7_pass 12 = .ok (.goto 15, 3) := by decide +kernel
theorem dX7_pass_15 : decode cX7_pass 15 = .ok (.aload_n 0, 1) := by decide +kernel
theorem dX7_pass_16 : decode cX7_pass 16 = .ok (.getfield 180, 3) := by decide +kernel
theorem dX7_pass_19 : decode cX7_pass 19 = .ok (.ifCond .eq 7, 3) := by decide +kernel
theorem dX7_pass_22 : decode cX7_pass 22 = .ok (.iconst 2, 1) := by decide +kernel
theorem dX7_pass_23 : decode cX7_pass 23 = .ok (.goto 4, 3) := by decide +kernel
theorem dX7_pass_26 : decode cX7_pass 26 = .ok (.iconst 0, 1) := by decide +kernel
theorem dX7_pass_27 : decode cX7_pass 27 = .ok (.putfield 122, 3) := by decide +kernel
theorem dX7_pass_30 : decode cX7_pass 30 = .ok (.aload_n 0, 1) := by decide +kernel
theorem dX7_pass_31 : decode cX7_pass 31 = .ok (.getfield 122, 3) := by decide +kernel
theorem dX7_pass_34 : decode cX7_pass 34 = .ok (.ifCond .eq 5, 3) := by decide +kernel
theorem dX7_pass_37 : decode cX7_pass 37 = .ok (.iconst 0, 1) := by decide +kernel
theorem dX7_pass_38 : decode cX7_pass 38 = .ok (.ireturn, 1) := by decide +kernel
theorem dX7_pass_39 : decode cX7_pass 39 = .ok (.iconst 0, 1) := by decide +kernel
theorem dX7_pass_40 : decode cX7_pass 40 = .ok (.istore_n 2, 1) := by decide +kernel
theorem dX7_pass_41 : decode cX7_pass 41 = .ok (.iload_n 2, 1) := by decide +kernel
theorem dX7_pass_42 : decode cX7_pass 42 = .ok (.iload_n 1, 1) := by decide +kernel
theorem dX7_pass_43 : decode cX7_pass 43 = .ok (.if_icmp .ge 13, 3) := by decide +kernel
theorem dX7_pass_46 : decode cX7_pass 46 = .ok (.aload_n 0, 1) := by decide +kernel
theorem dX7_pass_47 : decode cX7_pass 47 = .ok (.invokevirtual 244, 3) := by decide +kernel
theorem dX7_pass_50 : decode cX7_pass 50 = .ok (.iinc 2 1, 3) := by decide +kernel
theorem dX7_pass_53 : decode cX7_pass 53 = .ok (.goto (-12), 3) := by decide +kernel
theorem dX7_pass_56 : decode cX7_pass 56 = .ok (.aload_n 0, 1) := by decide +kernel
theorem dX7_pass_57 : decode cX7_pass 57 = .ok (.invokevirtual 211, 3) := by decide +kernel
theorem dX7_pass_60 : decode cX7_pass 60 = .ok (.aload_n 0, 1) := by decide +kernel
theorem dX7_pass_61 : decode cX7_pass 61 = .ok (.getfield 163, 3) := by decide +kernel
theorem dX7_pass_64 : decode cX7_pass 64 = .ok (.ireturn, 1) := by decide +kernel
theorem dX7_allOn_0 : decode cX7_allOn 0 = .ok (.iconst 0, 1) := by decide +kernel
theorem dX7_allOn_1 : decode cX7_allOn 1 = .ok (.istore_n 1, 1) := by decide +kernel
theorem dX7_allOn_2 : decode cX7_allOn 2 = .ok (.iconst 0, 1) := by decide +kernel
theorem dX7_allOn_3 : decode cX7_allOn 3 = .ok (.istore_n 2, 1) := by decide +kernel
theorem dX7_allOn_4 : decode cX7_allOn 4 = .ok (.iload_n 2, 1) := by decide +kernel
theorem dX7_allOn_5 : decode cX7_allOn 5 = .ok (.aload_n 0, 1) := by decide +kernel
theorem dX7_allOn_6 : decode cX7_allOn 6 = .ok (.getfield 126, 3) := by decide +kernel
theorem dX7_allOn_9 : decode cX7_allOn 9 = .ok (.if_icmp .ge 28, 3) := by decide +kernel
theorem dX7_allOn_12 : decode cX7_allOn 12 = .ok (.iload_n 1, 1) := by decide +kernel
theorem dX7_allOn_13 : decode cX7_allOn 13 = .ok (.aload_n 0, 1) := by decide +kernel
theorem dX7_allOn_14 : decode cX7_allOn 14 = .ok (.getfield 38, 3) := by decide +kernel
theorem dX7_allOn_17 : decode cX7_allOn 17 = .ok (.iload_n 2, 1) := by decide +kernel
theorem dX7_allOn_18 : decode cX7_allOn 18 = .ok (.baload, 1) := by decide +kernel
theorem dX7_allOn_19 : decode cX7_allOn 19 = .ok (.ifCond .eq 9, 3) := by decide +kernel
theorem dX7_allOn_22 : decode cX7_allOn 22 = .ok (.iconst 1, 1) := by decide +kernel
theorem dX7_allOn_23 : decode cX7_allOn 23 = .ok (.iload_n 2, 1) := by decide +kernel
theorem dX7_allOn_24 : decode cX7_allOn 24 = .ok (.ishl, 1) := by decide +kernel
theorem dX7_allOn_25 : decode cX7_allOn 25 = .ok (.goto 4, 3) := by decide +kernel
theorem dX7_allOn_28 : decode cX7_allOn 28 = .ok (.iconst 0, 1) := by decide +kernel
theorem dX7_allOn_29 : decode cX7_allOn 29 = .ok (.ior, 1) := by decide +kernel
theorem dX7_allOn_30 : decode cX7_allOn 30 = .ok (.istore_n 1, 1) := by decide +kernel
theorem dX7_allOn_31 : decode cX7_allOn 31 = .ok (.iinc 2 1, 3) := by decide +kernel
theorem dX7_allOn_34 : decode cX7_allOn 34 = .ok (.goto (-30), 3) := by decide +kernel
theorem dX7_allOn_37 : decode cX7_allOn 37 = .ok (.iload_n 1, 1) := by decide +kernel
theorem dX7_allOn_38 : decode cX7_allOn 38 = .ok (.ireturn, 1) := by decide +kernel
theorem dX7_firstSlept_0 : decode cX7_firstSlept 0 = .ok (.iconst (-1), 1) := by decide +kernel
theorem dX7_firstSlept_1 : decode cX7_firstSlept 1 = .ok (.istore_n 1, 1) := by decide +kernel
theorem dX7_firstSlept_2 : decode cX7_firstSlept 2 = .ok (.iconst 0, 1) := by decide +kernel
theorem dX7_firstSlept_3 : decode cX7_firstSlept 3 = .ok (.istore_n 2, 1) := by decide +kernel
theorem dX7_firstSlept_4 : decode cX7_firstSlept 4 = .ok (.iload_n 2, 1) := by decide +kernel
theorem dX7_firstSlept_5 : decode cX7_firstSlept 5 = .ok (.aload_n 0, 1) := by decide +kernel
theorem dX7_firstSlept_6 : decode cX7_firstSlept 6 = .ok (.getfield 126, 3) := by decide +kernel
theorem dX7_firstSlept_9 : decode cX7_firstSlept 9 = .ok (.if_icmp .ge 44, 3) := by decide +kernel
theorem dX7_firstSlept_12 : decode cX7_firstSlept 12 = .ok (.aload_n 0, 1) := by decide +kernel
theorem dX7_firstSlept_13 : decode cX7_firstSlept 13 = .ok (.getfield 65, 3) := by decide +kernel
theorem dX7_firstSlept_16 : decode cX7_firstSlept 16 = .ok (.iload_n 2, 1) := by decide +kernel
theorem dX7_firstSlept_17 : decode cX7_firstSlept 17 = .ok (.baload, 1) := by decide +kernel
theorem dX7_firstSlept_18 : decode cX7_firstSlept 18 = .ok (.ifCond .eq 27, 3) := by decide +kernel
theorem dX7_firstSlept_21 : decode cX7_firstSlept 21 = .ok (.iload_n 1, 1) := by decide +kernel
theorem dX7_firstSlept_22 : decode cX7_firstSlept 22 = .ok (.iconst (-1), 1) := by decide +kernel
theorem dX7_firstSlept_23 : decode cX7_firstSlept 23 = .ok (.if_icmp .eq 18, 3) := by decide +kernel
theorem dX7_firstSlept_26 : decode cX7_firstSlept 26 = .ok (.aload_n 0, 1) := by decide +kernel
theorem dX7_firstSlept_27 : decode cX7_firstSlept 27 = .ok (.getfield 59, 3) := by decide +kernel
theorem dX7_firstSlept_30 : decode cX7_firstSlept 30 = .ok (.iload_n 2, 1) := by decide +kernel
theorem dX7_firstSlept_31 : decode cX7_firstSlept 31 = .ok (.iaload, 1) := by decide +kernel
theorem dX7_firstSlept_32 : decode cX7_firstSlept 32 = .ok (.aload_n 0, 1) := by decide +kernel
theorem dX7_firstSlept_33 : decode cX7_firstSlept 33 = .ok (.getfield 59, 3) := by decide +kernel
theorem dX7_firstSlept_36 : decode cX7_firstSlept 36 = .ok (.iload_n 1, 1) := by decide +kernel
theorem dX7_firstSlept_37 : decode cX7_firstSlept 37 = .ok (.iaload, 1) := by decide +kernel
theorem dX7_firstSlept_38 : decode cX7_firstSlept 38 = .ok (.if_icmp .ge 7, 3) := by decide +kernel
theorem dX7_firstSlept_41 : decode cX7_firstSlept 41 = .ok (.iload_n 2, 1) := by decide +kernel
theorem dX7_firstSlept_42 : decode cX7_firstSlept 42 = .ok (.goto 4, 3) := by decide +kernel
theorem dX7_firstSlept_45 : decode cX7_firstSlept 45 = .ok (.iload_n 1, 1) := by decide +kernel
theorem dX7_firstSlept_46 : decode cX7_firstSlept 46 = .ok (.istore_n 1, 1) := by decide +kernel
theorem dX7_firstSlept_47 : decode cX7_firstSlept 47 = .ok (.iinc 2 1, 3) := by decide +kernel
theorem dX7_firstSlept_50 : decode cX7_firstSlept 50 = .ok (.goto (-46), 3) := by decide +kernel
theorem dX7_firstSlept_53 : decode cX7_firstSlept 53 = .ok (.iload_n 1, 1) := by decide +kernel
theorem dX7_firstSlept_54 : decode cX7_firstSlept 54 = .ok (.ireturn, 1) := by decide +kernel
theorem dX7_suspend_0 : decode cX7_suspend 0 = .ok (.aload_n 0, 1) := by decide +kernel
theorem dX7_suspend_1 : decode cX7_suspend 1 = .ok (.aload_n 0, 1) := by decide +kernel
theorem dX7_suspend_2 : decode cX7_suspend 2 = .ok (.getfield 180, 3) := by decide +kernel
theorem dX7_suspend_5 : decode cX7_suspend 5 = .ok (.ifCond .eq 7, 3) := by decide +kernel
theorem dX7_suspend_8 : decode cX7_suspend 8 = .ok (.iconst 1, 1) := by decide +kernel
theorem dX7_suspend_9 : decode cX7_suspend 9 = .ok (.goto 4, 3) := by decide +kernel
theorem dX7_suspend_12 : decode cX7_suspend 12 = .ok (.iconst 0, 1) := by decide +kernel
theorem dX7_suspend_13 : decode cX7_suspend 13 = .ok (.putfield 122, 3) := by decide +kernel
theorem dX7_suspend_16 : decode cX7_suspend 16 = .ok (.aload_n 0, 1) := by decide +kernel
theorem dX7_suspend_17 : decode cX7_suspend 17 = .ok (.getfield 122, 3) := by decide +kernel
theorem dX7_suspend_20 : decode cX7_suspend 20 = .ok (.ifCond .eq 5, 3) := by decide +kernel
theorem dX7_suspend_23 : decode cX7_suspend 23 = .ok (.iconst 0, 1) := by decide +kernel
theorem dX7_suspend_24 : decode cX7_suspend 24 = .ok (.ireturn, 1) := by decide +kernel
theorem dX7_suspend_25 : decode cX7_suspend 25 = .ok (.aload_n 0, 1) := by decide +kernel
theorem dX7_suspend_26 : decode cX7_suspend 26 = .ok (.invokevirtual 247, 3) := by decide +kernel
theorem dX7_suspend_29 : decode cX7_suspend 29 = .ok (.istore_n 1, 1) := by decide +kernel
theorem dX7_suspend_30 : decode cX7_suspend 30 = .ok (.iconst (-1), 1) := by decide +kernel
theorem dX7_suspend_31 : decode cX7_suspend 31 = .ok (.istore_n 2, 1) := by decide +kernel
theorem dX7_suspend_32 : decode cX7_suspend 32 = .ok (.aload_n 0, 1) := by decide +kernel
theorem dX7_suspend_33 : decode cX7_suspend 33 = .ok (.iload_n 1, 1) := by decide +kernel
theorem dX7_suspend_34 : decode cX7_suspend 34 = .ok (.invokevirtual 196, 3) := by decide +kernel
theorem dX7_suspend_37 : decode cX7_suspend 37 = .ok (.istore_n 3, 1) := by decide +kernel
theorem dX7_suspend_38 : decode cX7_suspend 38 = .ok (.iload_n 3, 1) := by decide +kernel
theorem dX7_suspend_39 : decode cX7_suspend 39 = .ok (.iconst (-1), 1) := by decide +kernel
theorem dX7_suspend_40 : decode cX7_suspend 40 = .ok (.if_icmp .eq 56, 3) := by decide +kernel
theorem dX7_suspend_43 : decode cX7_suspend 43 = .ok (.iload_n 2, 1) := by decide +kernel
theorem dX7_suspend_44 : decode cX7_suspend 44 = .ok (.iconst (-1), 1) := by decide +kernel
theorem dX7_suspend_45 : decode cX7_suspend 45 = .ok (.if_icmp .ne 51, 3) := by decide +kernel
theorem dX7_suspend_48 : decode cX7_suspend 48 = .ok (.aload_n 0, 1) := by decide +kernel
theorem dX7_suspend_49 : decode cX7_suspend 49 = .ok (.iload_n 3, 1) := by decide +kernel
theorem dX7_suspend_50 : decode cX7_suspend 50 = .ok (.invokevirtual 235, 3) := by decide +kernel
theorem dX7_suspend_53 : decode cX7_suspend 53 = .ok (.ifCond .eq 7, 3) := by decide +kernel
theorem dX7_suspend_56 : decode cX7_suspend 56 = .ok (.iload_n 3, 1) := by decide +kernel
theorem dX7_suspend_57 : decode cX7_suspend 57 = .ok (.goto 4, 3) := by decide +kernel
theorem dX7_suspend_60 : decode cX7_suspend 60 = .ok (.iconst (-1), 1) := by decide +kernel
theorem dX7_suspend_61 : decode cX7_suspend 61 = .ok (.istore_n 2, 1) := by decide +kernel
theorem dX7_suspend_62 : decode cX7_suspend 62 = .ok (.iload_n 2, 1) := by decide +kernel
theorem dX7_suspend_63 : decode cX7_suspend 63 = .ok (.iconst (-1), 1) := by decide +kernel
theorem dX7_suspend_64 : decode cX7_suspend 64 = .ok (.if_icmp .ne 23, 3) := by decide +kernel
theorem dX7_suspend_67 : decode cX7_suspend 67 = .ok (.aload_n 0, 1) := by decide +kernel
theorem dX7_suspend_68 : decode cX7_suspend 68 = .ok (.iload_n 3, 1) := by decide +kernel
theorem dX7_suspend_69 : decode cX7_suspend 69 = .ok (.invokevirtual 241, 3) := by decide +kernel
theorem dX7_suspend_72 : decode cX7_suspend 72 = .ok (.aload_n 0, 1) := by decide +kernel
theorem dX7_suspend_73 : decode cX7_suspend 73 = .ok (.getfield 65, 3) := by decide +kernel
theorem dX7_suspend_76 : decode cX7_suspend 76 = .ok (.iload_n 3, 1) := by decide +kernel
theorem dX7_suspend_77 : decode cX7_suspend 77 = .ok (.iconst 1, 1) := by decide +kernel
theorem dX7_suspend_78 : decode cX7_suspend 78 = .ok (.bastore, 1) := by decide +kernel
theorem dX7_suspend_79 : decode cX7_suspend 79 = .ok (.iload_n 1, 1) := by decide +kernel
theorem dX7_suspend_80 : decode cX7_suspend 80 = .ok (.iconst 1, 1) := by decide +kernel
theorem dX7_suspend_81 : decode cX7_suspend 81 = .ok (.iload_n 3, 1) := by decide +kernel
theorem dX7_suspend_82 : decode cX7_suspend 82 = .ok (.ishl, 1) := by decide +kernel
theorem dX7_suspend_83 : decode cX7_suspend 83 = .ok (.iconst (-1), 1) := by decide +kernel
theorem dX7_suspend_84 : decode cX7_suspend 84 = .ok (.ixor, 1) := by decide +kernel
theorem dX7_suspend_85 : decode cX7_suspend 85 = .ok (.iand, 1) := by decide +kernel
theorem dX7_suspend_86 : decode cX7_suspend 86 = .ok (.istore_n 1, 1) := by decide +kernel
theorem dX7_suspend_87 : decode cX7_suspend 87 = .ok (.aload_n 0, 1) := by decide +kernel
theorem dX7_suspend_88 : decode cX7_suspend 88 = .ok (.iload_n 1, 1) := by decide +kernel
theorem dX7_suspend_89 : decode cX7_suspend 89 = .ok (.invokevirtual 196, 3) := by decide +kernel
theorem dX7_suspend_92 : decode cX7_suspend 92 = .ok (.istore_n 3, 1) := by decide +kernel
theorem dX7_suspend_93 : decode cX7_suspend 93 = .ok (.goto (-55), 3) := by decide +kernel
theorem dX7_suspend_96 : decode cX7_suspend 96 = .ok (.aload_n 0, 1) := by decide +kernel
theorem dX7_suspend_97 : decode cX7_suspend 97 = .ok (.iload_n 2, 1) := by decide +kernel
theorem dX7_suspend_98 : decode cX7_suspend 98 = .ok (.iconst (-1), 1) := by decide +kernel
theorem dX7_suspend_99 : decode cX7_suspend 99 = .ok (.if_icmp .ne 7, 3) := by decide +kernel
theorem dX7_suspend_102 : decode cX7_suspend 102 = .ok (.iconst 1, 1) := by decide +kernel
theorem dX7_suspend_103 : decode cX7_suspend 103 = .ok (.goto 4, 3) := by decide +kernel
theorem dX7_suspend_106 : decode cX7_suspend 106 = .ok (.iconst 0, 1) := by decide +kernel
theorem dX7_suspend_107 : decode cX7_suspend 107 = .ok (.putfield 180, 3) := by decide +kernel
theorem dX7_suspend_110 : decode cX7_suspend 110 = .ok (.aload_n 0, 1) := by decide +kernel
theorem dX7_suspend_111 : decode cX7_suspend 111 = .ok (.invokevirtual 251, 3) := by decide +kernel
theorem dX7_suspend_114 : decode cX7_suspend 114 = .ok (.istore_n 3, 1) := by decide +kernel
theorem dX7_suspend_115 : decode cX7_suspend 115 = .ok (.iload_n 3, 1) := by decide +kernel
theorem dX7_suspend_116 : decode cX7_suspend 116 = .ok (.iconst (-1), 1) := by decide +kernel
theorem dX7_suspend_117 : decode cX7_suspend 117 = .ok (.if_icmp .eq 23, 3) := by decide +kernel
theorem dX7_suspend_120 : decode cX7_suspend 120 = .ok (.aload_n 0, 1) := by decide +kernel
theorem dX7_suspend_121 : decode cX7_suspend 121 = .ok (.getfield 180, 3) := by decide +kernel
theorem dX7_suspend_124 : decode cX7_suspend 124 = .ok (.ifCond .ne 16, 3) := by decide +kernel
theorem dX7_suspend_127 : decode cX7_suspend 127 = .ok (.aload_n 0, 1) := by decide +kernel
theorem dX7_suspend_128 : decode cX7_suspend 128 = .ok (.iload_n 3, 1) := by decide +kernel
theorem dX7_suspend_129 : decode cX7_suspend 129 = .ok (.invokevirtual 173, 3) := by decide +kernel
theorem dX7_suspend_132 : decode cX7_suspend 132 = .ok (.aload_n 0, 1) := by decide +kernel
theorem dX7_suspend_133 : decode cX7_suspend 133 = .ok (.invokevirtual 251, 3) := by decide +kernel
theorem dX7_suspend_136 : decode cX7_suspend 136 = .ok (.istore_n 3, 1) := by decide +kernel
theorem dX7_suspend_137 : decode cX7_suspend 137 = .ok (.goto (-22), 3) := by decide +kernel
theorem dX7_suspend_140 : decode cX7_suspend 140 = .ok (.aload_n 0, 1) := by decide +kernel
theorem dX7_suspend_141 : decode cX7_suspend 141 = .ok (.invokevirtual 211, 3) := by decide +kernel
theorem dX7_suspend_144 : decode cX7_suspend 144 = .ok (.iload_n 2, 1) := by decide +kernel
theorem dX7_suspend_145 : decode cX7_suspend 145 = .ok (.ireturn, 1) := by decide +kernel
theorem dX7_resume_0 : decode cX7_resume 0 = .ok (.aload_n 0, 1) := by decide +kernel
theorem dX7_resume_1 : decode cX7_resume 1 = .ok (.aload_n 0, 1) := by decide +kernel
theorem dX7_resume_2 : decode cX7_resume 2 = .ok (.getfield 180, 3) := by decide +kernel
theorem dX7_resume_5 : decode cX7_resume 5 = .ok (.ifCond .eq 7, 3) := by decide +kernel
theorem dX7_resume_8 : decode cX7_resume 8 = .ok (.iconst 0, 1) := by decide +kernel
theorem dX7_resume_9 : decode cX7_resume 9 = .ok (.goto 4, 3) := by decide +kernel
theorem dX7_resume_12 : decode cX7_resume 12 = .ok (.iconst 1, 1) := by decide +kernel
theorem dX7_resume_13 : decode cX7_resume 13 = .ok (.putfield 122, 3) := by decide +kernel
theorem dX7_resume_16 : decode cX7_resume 16 = .ok (.aload_n 0, 1) := by decide +kernel
theorem dX7_resume_17 : decode cX7_resume 17 = .ok (.getfield 122, 3) := by decide +kernel
theorem dX7_resume_20 : decode cX7_resume 20 = .ok (.ifCond .eq 5, 3) := by decide +kernel
theorem dX7_resume_23 : decode cX7_resume 23 = .ok (.iconst 0, 1) := by decide +kernel
theorem dX7_resume_24 : decode cX7_resume 24 = .ok (.ireturn, 1) := by decide +kernel
theorem dX7_resume_25 : decode cX7_resume 25 = .ok (.aload_n 0, 1) := by decide +kernel
theorem dX7_resume_26 : decode cX7_resume 26 = .ok (.iconst 0, 1) := by decide +kernel
theorem dX7_resume_27 : decode cX7_resume 27 = .ok (.putfield 180, 3) := by decide +kernel
theorem dX7_resume_30 : decode cX7_resume 30 = .ok (.aload_n 0, 1) := by decide +kernel
theorem dX7_resume_31 : decode cX7_resume 31 = .ok (.iconst 0, 1) := by decide +kernel
theorem dX7_resume_32 : decode cX7_resume 32 = .ok (.putfield 170, 3) := by decide +kernel
theorem dX7_resume_35 : decode cX7_resume 35 = .ok (.aload_n 0, 1) := by decide +kernel
theorem dX7_resume_36 : decode cX7_resume 36 = .ok (.invokevirtual 251, 3) := by decide +kernel
theorem dX7_resume_39 : decode cX7_resume 39 = .ok (.istore_n 1, 1) := by decide +kernel
theorem dX7_resume_40 : decode cX7_resume 40 = .ok (.iload_n 1, 1) := by decide +kernel
theorem dX7_resume_41 : decode cX7_resume 41 = .ok (.iconst (-1), 1) := by decide +kernel
theorem dX7_resume_42 : decode cX7_resume 42 = .ok (.if_icmp .eq 16, 3) := by decide +kernel
theorem dX7_resume_45 : decode cX7_resume 45 = .ok (.aload_n 0, 1) := by decide +kernel
theorem dX7_resume_46 : decode cX7_resume 46 = .ok (.iload_n 1, 1) := by decide +kernel
theorem dX7_resume_47 : decode cX7_resume 47 = .ok (.invokevirtual 173, 3) := by decide +kernel
theorem dX7_resume_50 : decode cX7_resume 50 = .ok (.aload_n 0, 1) := by decide +kernel
theorem dX7_resume_51 : decode cX7_resume 51 = .ok (.invokevirtual 251, 3) := by decide +kernel
theorem dX7_resume_54 : decode cX7_resume 54 = .ok (.istore_n 1, 1) := by decide +kernel
theorem dX7_resume_55 : decode cX7_resume 55 = .ok (.goto (-15), 3) := by decide +kernel
theorem dX7_resume_58 : decode cX7_resume 58 = .ok (.aload_n 0, 1) := by decide +kernel
theorem dX7_resume_59 : decode cX7_resume 59 = .ok (.getfield 170, 3) := by decide +kernel
theorem dX7_resume_62 : decode cX7_resume 62 = .ok (.istore_n 1, 1) := by decide +kernel
theorem dX7_resume_63 : decode cX7_resume 63 = .ok (.iconst 0, 1) := by decide +kernel
theorem dX7_resume_64 : decode cX7_resume 64 = .ok (.istore_n 2, 1) := by decide +kernel
theorem dX7_resume_65 : decode cX7_resume 65 = .ok (.iload_n 2, 1) := by decide +kernel
theorem dX7_resume_66 : decode cX7_resume 66 = .ok (.bipush 8, 2) := by decide +kernel
theorem dX7_resume_68 : decode cX7_resume 68 = .ok (.if_icmp .ge 29, 3) := by decide +kernel
theorem dX7_resume_71 : decode cX7_resume 71 = .ok (.aload_n 0, 1) := by decide +kernel
theorem dX7_resume_72 : decode cX7_resume 72 = .ok (.getfield 101, 3) := by decide +kernel
theorem dX7_resume_75 : decode cX7_resume 75 = .ok (.iload_n 2, 1) := by decide +kernel
theorem dX7_resume_76 : decode cX7_resume 76 = .ok (.iaload, 1) := by decide +kernel
theorem dX7_resume_77 : decode cX7_resume 77 = .ok (.iconst 3, 1) := by decide +kernel
theorem dX7_resume_78 : decode cX7_resume 78 = .ok (.if_icmp .ge 11, 3) := by decide +kernel
theorem dX7_resume_81 : decode cX7_resume 81 = .ok (.aload_n 0, 1) := by decide +kernel
theorem dX7_resume_82 : decode cX7_resume 82 = .ok (.iload_n 2, 1) := by decide +kernel
theorem dX7_resume_83 : decode cX7_resume 83 = .ok (.invokevirtual 254, 3) := by decide +kernel
theorem dX7_resume_86 : decode cX7_resume 86 = .ok (.goto 4, 3) := by decide +kernel
theorem dX7_resume_89 : decode cX7_resume 89 = .ok (.iconst 0, 1) := by decide +kernel
theorem dX7_resume_90 : decode cX7_resume 90 = .ok (.istore_n 3, 1) := by decide +kernel
theorem dX7_resume_91 : decode cX7_resume 91 = .ok (.iinc 2 1, 3) := by decide +kernel
theorem dX7_resume_94 : decode cX7_resume 94 = .ok (.goto (-29), 3) := by decide +kernel
theorem dX7_resume_97 : decode cX7_resume 97 = .ok (.aload_n 0, 1) := by decide +kernel
theorem dX7_resume_98 : decode cX7_resume 98 = .ok (.invokevirtual 211, 3) := by decide +kernel
theorem dX7_resume_101 : decode cX7_resume 101 = .ok (.iload_n 1, 1) := by decide +kernel
theorem dX7_resume_102 : decode cX7_resume 102 = .ok (.ireturn, 1) := by decide +kernel
theorem dX7_ask_0 : decode cX7_ask 0 = .ok (.iconst 0, 1) := by decide +kernel
theorem dX7_ask_1 : decode cX7_ask 1 = .ok (.istore_n 2, 1) := by decide +kernel
theorem dX7_ask_2 : decode cX7_ask 2 = .ok (.iconst 0, 1) := by decide +kernel
theorem dX7_ask_3 : decode cX7_ask 3 = .ok (.istore_n 3, 1) := by decide +kernel
theorem dX7_ask_4 : decode cX7_ask 4 = .ok (.iload_n 3, 1) := by decide +kernel
theorem dX7_ask_5 : decode cX7_ask 5 = .ok (.aload_n 0, 1) := by decide +kernel
theorem dX7_ask_6 : decode cX7_ask 6 = .ok (.getfield 126, 3) := by decide +kernel
theorem dX7_ask_9 : decode cX7_ask 9 = .ok (.if_icmp .ge 37, 3) := by decide +kernel
theorem dX7_ask_12 : decode cX7_ask 12 = .ok (.iload_n 2, 1) := by decide +kernel
theorem dX7_ask_13 : decode cX7_ask 13 = .ok (.aload_n 0, 1) := by decide +kernel
theorem dX7_ask_14 : decode cX7_ask 14 = .ok (.iload_n 3, 1) := by decide +kernel
theorem dX7_ask_15 : decode cX7_ask 15 = .ok (.invokevirtual 139, 3) := by decide +kernel
theorem dX7_ask_18 : decode cX7_ask 18 = .ok (.ifCond .eq 19, 3) := by decide +kernel
theorem dX7_ask_21 : decode cX7_ask 21 = .ok (.aload_n 0, 1) := by decide +kernel
theorem dX7_ask_22 : decode cX7_ask 22 = .ok (.getfield 19, 3) := by decide +kernel
theorem dX7_ask_25 : decode cX7_ask 25 = .ok (.iload_n 3, 1) := by decide +kernel
theorem dX7_ask_26 : decode cX7_ask 26 = .ok (.iaload, 1) := by decide +kernel
theorem dX7_ask_27 : decode cX7_ask 27 = .ok (.iload_n 1, 1) := by decide +kernel
theorem dX7_ask_28 : decode cX7_ask 28 = .ok (.if_icmp .ne 9, 3) := by decide +kernel
theorem dX7_ask_31 : decode cX7_ask 31 = .ok (.iconst 1, 1) := by decide +kernel
theorem dX7_ask_32 : decode cX7_ask 32 = .ok (.iload_n 3, 1) := by decide +kernel
theorem dX7_ask_33 : decode cX7_ask 33 = .ok (.ishl, 1) := by decide +kernel
theorem dX7_ask_34 : decode cX7_ask 34 = .ok (.goto 4, 3) := by decide +kernel
theorem dX7_ask_37 : decode cX7_ask 37 = .ok (.iconst 0, 1) := by decide +kernel
theorem dX7_ask_38 : decode cX7_ask 38 = .ok (.ior, 1) := by decide +kernel
theorem dX7_ask_39 : decode cX7_ask 39 = .ok (.istore_n 2, 1) := by decide +kernel
theorem dX7_ask_40 : decode cX7_ask 40 = .ok (.iinc 3 1, 3) := by decide +kernel
theorem dX7_ask_43 : decode cX7_ask 43 = .ok (.goto (-39), 3) := by decide +kernel
theorem dX7_ask_46 : decode cX7_ask 46 = .ok (.iconst 0, 1) := by decide +kernel
theorem dX7_ask_47 : decode cX7_ask 47 = .ok (.istore_n 3, 1) := by decide +kernel
theorem dX7_ask_48 : decode cX7_ask 48 = .ok (.aload_n 0, 1) := by decide +kernel
theorem dX7_ask_49 : decode cX7_ask 49 = .ok (.iload_n 2, 1) := by decide +kernel
theorem dX7_ask_50 : decode cX7_ask 50 = .ok (.invokevirtual 257, 3) := by decide +kernel
theorem dX7_ask_53 : decode cX7_ask 53 = .ok (.istore 4, 2) := by decide +kernel
theorem dX7_ask_55 : decode cX7_ask 55 = .ok (.iload 4, 2) := by decide +kernel
theorem dX7_ask_57 : decode cX7_ask 57 = .ok (.iconst (-1), 1) := by decide +kernel
theorem dX7_ask_58 : decode cX7_ask 58 = .ok (.if_icmp .eq 74, 3) := by decide +kernel
theorem dX7_ask_61 : decode cX7_ask 61 = .ok (.iload_n 2, 1) := by decide +kernel
theorem dX7_ask_62 : decode cX7_ask 62 = .ok (.iconst 1, 1) := by decide +kernel
theorem dX7_ask_63 : decode cX7_ask 63 = .ok (.iload 4, 2) := by decide +kernel
theorem dX7_ask_65 : decode cX7_ask 65 = .ok (.ishl, 1) := by decide +kernel
theorem dX7_ask_66 : decode cX7_ask 66 = .ok (.iconst (-1), 1) := by decide +kernel
theorem dX7_ask_67 : decode cX7_ask 67 = .ok (.ixor, 1) := by decide +kernel
theorem dX7_ask_68 : decode cX7_ask 68 = .ok (.iand, 1) := by decide +kernel
theorem dX7_ask_69 : decode cX7_ask 69 = .ok (.istore_n 2, 1) := by decide +kernel
theorem dX7_ask_70 : decode cX7_ask 70 = .ok (.aload_n 0, 1) := by decide +kernel
theorem dX7_ask_71 : decode cX7_ask 71 = .ok (.getfield 50, 3) := by decide +kernel
theorem dX7_ask_74 : decode cX7_ask 74 = .ok (.iload 4, 2) := by decide +kernel
theorem dX7_ask_76 : decode cX7_ask 76 = .ok (.baload, 1) := by decide +kernel
theorem dX7_ask_77 : decode cX7_ask 77 = .ok (.ifCond .eq 45, 3) := by decide +kernel
theorem dX7_ask_80 : decode cX7_ask 80 = .ok (.aload_n 0, 1) := by decide +kernel
theorem dX7_ask_81 : decode cX7_ask 81 = .ok (.getfield 38, 3) := by decide +kernel
theorem dX7_ask_84 : decode cX7_ask 84 = .ok (.iload 4, 2) := by decide +kernel
theorem dX7_ask_86 : decode cX7_ask 86 = .ok (.baload, 1) := by decide +kernel
theorem dX7_ask_87 : decode cX7_ask 87 = .ok (.ifCond .ne 18, 3) := by decide +kernel
theorem dX7_ask_90 : decode cX7_ask 90 = .ok (.aload_n 0, 1) := by decide +kernel
theorem dX7_ask_91 : decode cX7_ask 91 = .ok (.getfield 77, 3) := by decide +kernel
theorem dX7_ask_94 : decode cX7_ask 94 = .ok (.aload_n 0, 1) := by decide +kernel
theorem dX7_ask_95 : decode cX7_ask 95 = .ok (.getfield 35, 3) := by decide +kernel
theorem dX7_ask_98 : decode cX7_ask 98 = .ok (.iload 4, 2) := by decide +kernel
theorem dX7_ask_100 : decode cX7_ask 100 = .ok (.iaload, 1) := by decide +kernel
theorem dX7_ask_101 : decode cX7_ask 101 = .ok (.baload, 1) := by decide +kernel
theorem dX7_ask_102 : decode cX7_ask 102 = .ok (.ifCond .eq 20, 3) := by decide +kernel
theorem dX7_ask_105 : decode cX7_ask 105 = .ok (.aload_n 0, 1) := by decide +kernel
theorem dX7_ask_106 : decode cX7_ask 106 = .ok (.iload 4, 2) := by decide +kernel
theorem dX7_ask_108 : decode cX7_ask 108 = .ok (.invokevirtual 173, 3) := by decide +kernel
theorem dX7_ask_111 : decode cX7_ask 111 = .ok (.aload_n 0, 1) := by decide +kernel
theorem dX7_ask_112 : decode cX7_ask 112 = .ok (.getfield 50, 3) := by decide +kernel
theorem dX7_ask_115 : decode cX7_ask 115 = .ok (.iload 4, 2) := by decide +kernel
theorem dX7_ask_117 : decode cX7_ask 117 = .ok (.iconst 0, 1) := by decide +kernel
theorem dX7_ask_118 : decode cX7_ask 118 = .ok (.bastore, 1) := by decide +kernel
theorem dX7_ask_119 : decode cX7_ask 119 = .ok (.iinc 3 1, 3) := by decide +kernel
theorem dX7_ask_122 : decode cX7_ask 122 = .ok (.aload_n 0, 1) := by decide +kernel
theorem dX7_ask_123 : decode cX7_ask 123 = .ok (.iload_n 2, 1) := by decide +kernel
theorem dX7_ask_124 : decode cX7_ask 124 = .ok (.invokevirtual 257, 3) := by decide +kernel
theorem dX7_ask_127 : decode cX7_ask 127 = .ok (.istore 4, 2) := by decide +kernel
theorem dX7_ask_129 : decode cX7_ask 129 = .ok (.goto (-74), 3) := by decide +kernel
theorem dX7_ask_132 : decode cX7_ask 132 = .ok (.iload_n 3, 1) := by decide +kernel
theorem dX7_ask_133 : decode cX7_ask 133 = .ok (.ireturn, 1) := by decide +kernel
theorem dX7_firstOf_0 : decode cX7_firstOf 0 = .ok (.iconst (-1), 1) := by decide +kernel
theorem dX7_firstOf_1 : decode cX7_firstOf 1 = .ok (.istore_n 2, 1) := by decide +kernel
theorem dX7_firstOf_2 : decode cX7_firstOf 2 = .ok (.iconst 0, 1) := by decide +kernel
theorem dX7_firstOf_3 : decode cX7_firstOf 3 = .ok (.istore_n 3, 1) := by decide +kernel
theorem dX7_firstOf_4 : decode cX7_firstOf 4 = .ok (.iload_n 3, 1) := by decide +kernel
theorem dX7_firstOf_5 : decode cX7_firstOf 5 = .ok (.aload_n 0, 1) := by decide +kernel
theorem dX7_firstOf_6 : decode cX7_firstOf 6 = .ok (.getfield 126, 3) := by decide +kernel
theorem dX7_firstOf_9 : decode cX7_firstOf 9 = .ok (.if_icmp .ge 51, 3) := by decide +kernel
theorem dX7_firstOf_12 : decode cX7_firstOf 12 = .ok (.iload_n 1, 1) := by decide +kernel
theorem dX7_firstOf_13 : decode cX7_firstOf 13 = .ok (.iload_n 3, 1) := by decide +kernel
theorem dX7_firstOf_14 : decode cX7_firstOf 14 = .ok (.invokestatic 193, 3) := by decide +kernel
theorem dX7_firstOf_17 : decode cX7_firstOf 17 = .ok (.ifCond .eq 35, 3) := by decide +kernel
theorem dX7_firstOf_20 : decode cX7_firstOf 20 = .ok (.aload_n 0, 1) := by decide +kernel
theorem dX7_firstOf_21 : decode cX7_firstOf 21 = .ok (.iload_n 3, 1) := by decide +kernel
theorem dX7_firstOf_22 : decode cX7_firstOf 22 = .ok (.invokevirtual 139, 3) := by decide +kernel
theorem dX7_firstOf_25 : decode cX7_firstOf 25 = .ok (.ifCond .eq 27, 3) := by decide +kernel
theorem dX7_firstOf_28 : decode cX7_firstOf 28 = .ok (.iload_n 2, 1) := by decide +kernel
theorem dX7_firstOf_29 : decode cX7_firstOf 29 = .ok (.iconst (-1), 1) := by decide +kernel
theorem dX7_firstOf_30 : decode cX7_firstOf 30 = .ok (.if_icmp .eq 18, 3) := by decide +kernel
theorem dX7_firstOf_33 : decode cX7_firstOf 33 = .ok (.aload_n 0, 1) := by decide +kernel
theorem dX7_firstOf_34 : decode cX7_firstOf 34 = .ok (.getfield 59, 3) := by decide +kernel
theorem dX7_firstOf_37 : decode cX7_firstOf 37 = .ok (.iload_n 3, 1) := by decide +kernel
theorem dX7_firstOf_38 : decode cX7_firstOf 38 = .ok (.iaload, 1) := by decide +kernel
theorem dX7_firstOf_39 : decode cX7_firstOf 39 = .ok (.aload_n 0, 1) := by decide +kernel
theorem dX7_firstOf_40 : decode cX7_firstOf 40 = .ok (.getfield 59, 3) := by decide +kernel
theorem dX7_firstOf_43 : decode cX7_firstOf 43 = .ok (.iload_n 2, 1) := by decide +kernel
theorem dX7_firstOf_44 : decode cX7_firstOf 44 = .ok (.iaload, 1) := by decide +kernel
theorem dX7_firstOf_45 : decode cX7_firstOf 45 = .ok (.if_icmp .ge 7, 3) := by decide +kernel
theorem dX7_firstOf_48 : decode cX7_firstOf 48 = .ok (.iload_n 3, 1) := by decide +kernel
theorem dX7_firstOf_49 : decode cX7_firstOf 49 = .ok (.goto 4, 3) := by decide +kernel
theorem dX7_firstOf_52 : decode cX7_firstOf 52 = .ok (.iload_n 2, 1) := by decide +kernel
theorem dX7_firstOf_53 : decode cX7_firstOf 53 = .ok (.istore_n 2, 1) := by decide +kernel
theorem dX7_firstOf_54 : decode cX7_firstOf 54 = .ok (.iinc 3 1, 3) := by decide +kernel
theorem dX7_firstOf_57 : decode cX7_firstOf 57 = .ok (.goto (-53), 3) := by decide +kernel
theorem dX7_firstOf_60 : decode cX7_firstOf 60 = .ok (.iload_n 2, 1) := by decide +kernel
theorem dX7_firstOf_61 : decode cX7_firstOf 61 = .ok (.ireturn, 1) := by decide +kernel
theorem dX7_raise_0 : decode cX7_raise 0 = .ok (.aload_n 0, 1) := by decide +kernel
theorem dX7_raise_1 : decode cX7_raise 1 = .ok (.aload_n 0, 1) := by decide +kernel
theorem dX7_raise_2 : decode cX7_raise 2 = .ok (.iload_n 1, 1) := by decide +kernel
theorem dX7_raise_3 : decode cX7_raise 3 = .ok (.invokevirtual 205, 3) := by decide +kernel
theorem dX7_raise_6 : decode cX7_raise 6 = .ok (.ifCond .ne 7, 3) := by decide +kernel
theorem dX7_raise_9 : decode cX7_raise 9 = .ok (.iconst 1, 1) := by decide +kernel
theorem dX7_raise_10 : decode cX7_raise 10 = .ok (.goto 27, 3) := by decide +kernel
theorem dX7_raise_13 : decode cX7_raise 13 = .ok (.aload_n 0, 1) := by decide +kernel
theorem dX7_raise_14 : decode cX7_raise 14 = .ok (.getfield 32, 3) := by decide +kernel
theorem dX7_raise_17 : decode cX7_raise 17 = .ok (.iload_n 1, 1) := by decide +kernel
theorem dX7_raise_18 : decode cX7_raise 18 = .ok (.baload, 1) := by decide +kernel
theorem dX7_raise_19 : decode cX7_raise 19 = .ok (.ifCond .eq 13, 3) := by decide +kernel
theorem dX7_raise_22 : decode cX7_raise 22 = .ok (.aload_n 0, 1) := by decide +kernel
theorem dX7_raise_23 : decode cX7_raise 23 = .ok (.getfield 19, 3) := by decide +kernel
theorem dX7_raise_26 : decode cX7_raise 26 = .ok (.iload_n 1, 1) := by decide +kernel
theorem dX7_raise_27 : decode cX7_raise 27 = .ok (.iaload, 1) := by decide +kernel
theorem dX7_raise_28 : decode cX7_raise 28 = .ok (.iconst (-1), 1) := by decide +kernel
theorem dX7_raise_29 : decode cX7_raise 29 = .ok (.if_icmp .ne 7, 3) := by decide +kernel
theorem dX7_raise_32 : decode cX7_raise 32 = .ok (.iconst 2, 1) := by decide +kernel
theorem dX7_raise_33 : decode cX7_raise 33 = .ok (.goto 4, 3) := by decide +kernel
theorem dX7_raise_36 : decode cX7_raise 36 = .ok (.iconst 0, 1) := by decide +kernel
theorem dX7_raise_37 : decode cX7_raise 37 = .ok (.putfield 122, 3) := by decide +kernel
theorem dX7_raise_40 : decode cX7_raise 40 = .ok (.aload_n 0, 1) := by decide +kernel
theorem dX7_raise_41 : decode cX7_raise 41 = .ok (.getfield 122, 3) := by decide +kernel
theorem dX7_raise_44 : decode cX7_raise 44 = .ok (.ifCond .eq 5, 3) := by decide +kernel
theorem dX7_raise_47 : decode cX7_raise 47 = .ok (.iconst 0, 1) := by decide +kernel
theorem dX7_raise_48 : decode cX7_raise 48 = .ok (.ireturn, 1) := by decide +kernel
theorem dX7_raise_49 : decode cX7_raise 49 = .ok (.aload_n 0, 1) := by decide +kernel
theorem dX7_raise_50 : decode cX7_raise 50 = .ok (.getfield 19, 3) := by decide +kernel
theorem dX7_raise_53 : decode cX7_raise 53 = .ok (.iload_n 1, 1) := by decide +kernel
theorem dX7_raise_54 : decode cX7_raise 54 = .ok (.iaload, 1) := by decide +kernel
theorem dX7_raise_55 : decode cX7_raise 55 = .ok (.istore_n 2, 1) := by decide +kernel
theorem dX7_raise_56 : decode cX7_raise 56 = .ok (.aload_n 0, 1) := by decide +kernel
theorem dX7_raise_57 : decode cX7_raise 57 = .ok (.getfield 50, 3) := by decide +kernel
theorem dX7_raise_60 : decode cX7_raise 60 = .ok (.iload_n 1, 1) := by decide +kernel
theorem dX7_raise_61 : decode cX7_raise 61 = .ok (.iconst 1, 1) := by decide +kernel
theorem dX7_raise_62 : decode cX7_raise 62 = .ok (.bastore, 1) := by decide +kernel
theorem dX7_raise_63 : decode cX7_raise 63 = .ok (.iconst 0, 1) := by decide +kernel
theorem dX7_raise_64 : decode cX7_raise 64 = .ok (.istore_n 3, 1) := by decide +kernel
theorem dX7_raise_65 : decode cX7_raise 65 = .ok (.aload_n 0, 1) := by decide +kernel
theorem dX7_raise_66 : decode cX7_raise 66 = .ok (.getfield 180, 3) := by decide +kernel
theorem dX7_raise_69 : decode cX7_raise 69 = .ok (.ifCond .ne 57, 3) := by decide +kernel
theorem dX7_raise_72 : decode cX7_raise 72 = .ok (.aload_n 0, 1) := by decide +kernel
theorem dX7_raise_73 : decode cX7_raise 73 = .ok (.getfield 101, 3) := by decide +kernel
theorem dX7_raise_76 : decode cX7_raise 76 = .ok (.iload_n 2, 1) := by decide +kernel
theorem dX7_raise_77 : decode cX7_raise 77 = .ok (.iaload, 1) := by decide +kernel
theorem dX7_raise_78 : decode cX7_raise 78 = .ok (.iconst 3, 1) := by decide +kernel
theorem dX7_raise_79 : decode cX7_raise 79 = .ok (.if_icmp .ge 47, 3) := by decide +kernel
theorem dX7_raise_82 : decode cX7_raise 82 = .ok (.aload_n 0, 1) := by decide +kernel
theorem dX7_raise_83 : decode cX7_raise 83 = .ok (.iload_n 2, 1) := by decide +kernel
theorem dX7_raise_84 : decode cX7_raise 84 = .ok (.invokevirtual 254, 3) := by decide +kernel
theorem dX7_raise_87 : decode cX7_raise 87 = .ok (.istore_n 3, 1) := by decide +kernel
theorem dX7_raise_88 : decode cX7_raise 88 = .ok (.aload_n 0, 1) := by decide +kernel
theorem dX7_raise_89 : decode cX7_raise 89 = .ok (.getfield 101, 3) := by decide +kernel
theorem dX7_raise_92 : decode cX7_raise 92 = .ok (.iload_n 2, 1) := by decide +kernel
theorem dX7_raise_93 : decode cX7_raise 93 = .ok (.iload_n 3, 1) := by decide +kernel
theorem dX7_raise_94 : decode cX7_raise 94 = .ok (.ifCond .le 7, 3) := by decide +kernel
theorem dX7_raise_97 : decode cX7_raise 97 = .ok (.iconst 0, 1) := by decide +kernel
theorem dX7_raise_98 : decode cX7_raise 98 = .ok (.goto 11, 3) := by decide +kernel
theorem dX7_raise_101 : decode cX7_raise 101 = .ok (.aload_n 0, 1) := by decide +kernel
theorem dX7_raise_102 : decode cX7_raise 102 = .ok (.getfield 101, 3) := by decide +kernel
theorem dX7_raise_105 : decode cX7_raise 105 = .ok (.iload_n 2, 1) := by decide +kernel
theorem dX7_raise_106 : decode cX7_raise 106 = .ok (.iaload, 1) := by decide +kernel
theorem dX7_raise_107 : decode cX7_raise 107 = .ok (.iconst 1, 1) := by decide +kernel
theorem dX7_raise_108 : decode cX7_raise 108 = .ok (.iadd, 1) := by decide +kernel
theorem dX7_raise_109 : decode cX7_raise 109 = .ok (.iastore, 1) := by decide +kernel
theorem dX7_raise_110 : decode cX7_raise 110 = .ok (.aload_n 0, 1) := by decide +kernel
theorem dX7_raise_111 : decode cX7_raise 111 = .ok (.getfield 101, 3) := by decide +kernel
theorem dX7_raise_114 : decode cX7_raise 114 = .ok (.iload_n 2, 1) := by decide +kernel
theorem dX7_raise_115 : decode cX7_raise 115 = .ok (.iaload, 1) := by decide +kernel
theorem dX7_raise_116 : decode cX7_raise 116 = .ok (.iconst 3, 1) := by decide +kernel
theorem dX7_raise_117 : decode cX7_raise 117 = .ok (.if_icmp .ne 9, 3) := by decide +kernel
theorem dX7_raise_120 : decode cX7_raise 120 = .ok (.aload_n 0, 1) := by decide +kernel
theorem dX7_raise_121 : decode cX7_raise 121 = .ok (.iconst 5, 1) := by decide +kernel
theorem dX7_raise_122 : decode cX7_raise 122 = .ok (.iload_n 2, 1) := by decide +kernel
theorem dX7_raise_123 : decode cX7_raise 123 = .ok (.invokevirtual 166, 3) := by decide +kernel
theorem dX7_raise_126 : decode cX7_raise 126 = .ok (.aload_n 0, 1) := by decide +kernel
theorem dX7_raise_127 : decode cX7_raise 127 = .ok (.invokevirtual 211, 3) := by decide +kernel
theorem dX7_raise_130 : decode cX7_raise 130 = .ok (.iload_n 3, 1) := by decide +kernel
theorem dX7_raise_131 : decode cX7_raise 131 = .ok (.ireturn, 1) := by decide +kernel
theorem dX7_openLine_0 : decode cX7_openLine 0 = .ok (.aload_n 0, 1) := by decide +kernel
theorem dX7_openLine_1 : decode cX7_openLine 1 = .ok (.iload_n 1, 1) := by decide +kernel
theorem dX7_openLine_2 : decode cX7_openLine 2 = .ok (.iconst 0, 1) := by decide +kernel
theorem dX7_openLine_3 : decode cX7_openLine 3 = .ok (.bipush 7, 2) := by decide +kernel
theorem dX7_openLine_5 : decode cX7_openLine 5 = .ok (.invokestatic 129, 3) := by decide +kernel
theorem dX7_openLine_8 : decode cX7_openLine 8 = .ok (.ifCond .eq 7, 3) := by decide +kernel
theorem dX7_openLine_11 : decode cX7_openLine 11 = .ok (.iconst 0, 1) := by decide +kernel
theorem dX7_openLine_12 : decode cX7_openLine 12 = .ok (.goto 4, 3) := by decide +kernel
theorem dX7_openLine_15 : decode cX7_openLine 15 = .ok (.iconst 1, 1) := by decide +kernel
theorem dX7_openLine_16 : decode cX7_openLine 16 = .ok (.putfield 122, 3) := by decide +kernel
theorem dX7_openLine_19 : decode cX7_openLine 19 = .ok (.aload_n 0, 1) := by decide +kernel
theorem dX7_openLine_20 : decode cX7_openLine 20 = .ok (.getfield 122, 3) := by decide +kernel
theorem dX7_openLine_23 : decode cX7_openLine 23 = .ok (.ifCond .eq 5, 3) := by decide +kernel
theorem dX7_openLine_26 : decode cX7_openLine 26 = .ok (.iconst 0, 1) := by decide +kernel
theorem dX7_openLine_27 : decode cX7_openLine 27 = .ok (.ireturn, 1) := by decide +kernel
theorem dX7_openLine_28 : decode cX7_openLine 28 = .ok (.aload_n 0, 1) := by decide +kernel
theorem dX7_openLine_29 : decode cX7_openLine 29 = .ok (.getfield 101, 3) := by decide +kernel
theorem dX7_openLine_32 : decode cX7_openLine 32 = .ok (.iload_n 1, 1) := by decide +kernel
theorem dX7_openLine_33 : decode cX7_openLine 33 = .ok (.iconst 0, 1) := by decide +kernel
theorem dX7_openLine_34 : decode cX7_openLine 34 = .ok (.iastore, 1) := by decide +kernel
theorem dX7_openLine_35 : decode cX7_openLine 35 = .ok (.aload_n 0, 1) := by decide +kernel
theorem dX7_openLine_36 : decode cX7_openLine 36 = .ok (.getfield 180, 3) := by decide +kernel
theorem dX7_openLine_39 : decode cX7_openLine 39 = .ok (.ifCond .eq 7, 3) := by decide +kernel
theorem dX7_openLine_42 : decode cX7_openLine 42 = .ok (.iconst 0, 1) := by decide +kernel
theorem dX7_openLine_43 : decode cX7_openLine 43 = .ok (.goto 8, 3) := by decide +kernel
theorem dX7_openLine_46 : decode cX7_openLine 46 = .ok (.aload_n 0, 1) := by decide +kernel
theorem dX7_openLine_47 : decode cX7_openLine 47 = .ok (.iload_n 1, 1) := by decide +kernel
theorem dX7_openLine_48 : decode cX7_openLine 48 = .ok (.invokevirtual 254, 3) := by decide +kernel
theorem dX7_openLine_51 : decode cX7_openLine 51 = .ok (.istore_n 2, 1) := by decide +kernel
theorem dX7_openLine_52 : decode cX7_openLine 52 = .ok (.aload_n 0, 1) := by decide +kernel
theorem dX7_openLine_53 : decode cX7_openLine 53 = .ok (.invokevirtual 211, 3) := by decide +kernel
theorem dX7_openLine_56 : decode cX7_openLine 56 = .ok (.iload_n 2, 1) := by decide +kernel
theorem dX7_openLine_57 : decode cX7_openLine 57 = .ok (.ireturn, 1) := by decide +kernel
theorem dX7_isThere_0 : decode cX7_isThere 0 = .ok (.aload_n 0, 1) := by decide +kernel
theorem dX7_isThere_1 : decode cX7_isThere 1 = .ok (.aload_n 0, 1) := by decide +kernel
theorem dX7_isThere_2 : decode cX7_isThere 2 = .ok (.iload_n 1, 1) := by decide +kernel
theorem dX7_isThere_3 : decode cX7_isThere 3 = .ok (.invokevirtual 205, 3) := by decide +kernel
theorem dX7_isThere_6 : decode cX7_isThere 6 = .ok (.ifCond .eq 7, 3) := by decide +kernel
theorem dX7_isThere_9 : decode cX7_isThere 9 = .ok (.iconst 0, 1) := by decide +kernel
theorem dX7_isThere_10 : decode cX7_isThere 10 = .ok (.goto 4, 3) := by decide +kernel
theorem dX7_isThere_13 : decode cX7_isThere 13 = .ok (.iconst 1, 1) := by decide +kernel
theorem dX7_isThere_14 : decode cX7_isThere 14 = .ok (.putfield 122, 3) := by decide +kernel
theorem dX7_isThere_17 : decode cX7_isThere 17 = .ok (.aload_n 0, 1) := by decide +kernel
theorem dX7_isThere_18 : decode cX7_isThere 18 = .ok (.getfield 122, 3) := by decide +kernel
theorem dX7_isThere_21 : decode cX7_isThere 21 = .ok (.ifCond .ne 16, 3) := by decide +kernel
theorem dX7_isThere_24 : decode cX7_isThere 24 = .ok (.aload_n 0, 1) := by decide +kernel
theorem dX7_isThere_25 : decode cX7_isThere 25 = .ok (.getfield 32, 3) := by decide +kernel
theorem dX7_isThere_28 : decode cX7_isThere 28 = .ok (.iload_n 1, 1) := by decide +kernel
theorem dX7_isThere_29 : decode cX7_isThere 29 = .ok (.baload, 1) := by decide +kernel
theorem dX7_isThere_30 : decode cX7_isThere 30 = .ok (.ifCond .eq 7, 3) := by decide +kernel
theorem dX7_isThere_33 : decode cX7_isThere 33 = .ok (.iconst 1, 1) := by decide +kernel
theorem dX7_isThere_34 : decode cX7_isThere 34 = .ok (.goto 4, 3) := by decide +kernel
theorem dX7_isThere_37 : decode cX7_isThere 37 = .ok (.iconst 0, 1) := by decide +kernel
theorem dX7_isThere_38 : decode cX7_isThere 38 = .ok (.ireturn, 1) := by decide +kernel
theorem dX7_reason_0 : decode cX7_reason 0 = .ok (.aload_n 0, 1) := by decide +kernel
theorem dX7_reason_1 : decode cX7_reason 1 = .ok (.aload_n 0, 1) := by decide +kernel
theorem dX7_reason_2 : decode cX7_reason 2 = .ok (.iload_n 1, 1) := by decide +kernel
theorem dX7_reason_3 : decode cX7_reason 3 = .ok (.invokevirtual 205, 3) := by decide +kernel
theorem dX7_reason_6 : decode cX7_reason 6 = .ok (.ifCond .eq 7, 3) := by decide +kernel
theorem dX7_reason_9 : decode cX7_reason 9 = .ok (.iconst 0, 1) := by decide +kernel
theorem dX7_reason_10 : decode cX7_reason 10 = .ok (.goto 4, 3) := by decide +kernel
theorem dX7_reason_13 : decode cX7_reason 13 = .ok (.iconst 1, 1) := by decide +kernel
theorem dX7_reason_14 : decode cX7_reason 14 = .ok (.putfield 122, 3) := by decide +kernel
theorem dX7_reason_17 : decode cX7_reason 17 = .ok (.aload_n 0, 1) := by decide +kernel
theorem dX7_reason_18 : decode cX7_reason 18 = .ok (.getfield 122, 3) := by decide +kernel
theorem dX7_reason_21 : decode cX7_reason 21 = .ok (.ifCond .eq 5, 3) := by decide +kernel
theorem dX7_reason_24 : decode cX7_reason 24 = .ok (.iconst 0, 1) := by decide +kernel
theorem dX7_reason_25 : decode cX7_reason 25 = .ok (.ireturn, 1) := by decide +kernel
theorem dX7_reason_26 : decode cX7_reason 26 = .ok (.aload_n 0, 1) := by decide +kernel
theorem dX7_reason_27 : decode cX7_reason 27 = .ok (.getfield 32, 3) := by decide +kernel
theorem dX7_reason_30 : decode cX7_reason 30 = .ok (.iload_n 1, 1) := by decide +kernel
theorem dX7_reason_31 : decode cX7_reason 31 = .ok (.baload, 1) := by decide +kernel
theorem dX7_reason_32 : decode cX7_reason 32 = .ok (.ifCond .ne 8, 3) := by decide +kernel
theorem dX7_reason_35 : decode cX7_reason 35 = .ok (.bipush 8, 2) := by decide +kernel
theorem dX7_reason_37 : decode cX7_reason 37 = .ok (.goto 20, 3) := by decide +kernel
theorem dX7_reason_40 : decode cX7_reason 40 = .ok (.aload_n 0, 1) := by decide +kernel
theorem dX7_reason_41 : decode cX7_reason 41 = .ok (.iload_n 1, 1) := by decide +kernel
theorem dX7_reason_42 : decode cX7_reason 42 = .ok (.invokevirtual 139, 3) := by decide +kernel
theorem dX7_reason_45 : decode cX7_reason 45 = .ok (.ifCond .eq 7, 3) := by decide +kernel
theorem dX7_reason_48 : decode cX7_reason 48 = .ok (.iconst 0, 1) := by decide +kernel
theorem dX7_reason_49 : decode cX7_reason 49 = .ok (.goto 8, 3) := by decide +kernel
theorem dX7_reason_52 : decode cX7_reason 52 = .ok (.aload_n 0, 1) := by decide +kernel
theorem dX7_reason_53 : decode cX7_reason 53 = .ok (.iload_n 1, 1) := by decide +kernel
theorem dX7_reason_54 : decode cX7_reason 54 = .ok (.invokevirtual 184, 3) := by decide +kernel
theorem dX7_reason_57 : decode cX7_reason 57 = .ok (.istore_n 2, 1) := by decide +kernel
theorem dX7_reason_58 : decode cX7_reason 58 = .ok (.iload_n 2, 1) := by decide +kernel
theorem dX7_reason_59 : decode cX7_reason 59 = .ok (.ifCond .ne 15, 3) := by decide +kernel
theorem dX7_reason_62 : decode cX7_reason 62 = .ok (.aload_n 0, 1) := by decide +kernel
theorem dX7_reason_63 : decode cX7_reason 63 = .ok (.iload_n 1, 1) := by decide +kernel
theorem dX7_reason_64 : decode cX7_reason 64 = .ok (.invokevirtual 139, 3) := by decide +kernel
theorem dX7_reason_67 : decode cX7_reason 67 = .ok (.ifCond .ne 7, 3) := by decide +kernel
theorem dX7_reason_70 : decode cX7_reason 70 = .ok (.iconst (-1), 1) := by decide +kernel
theorem dX7_reason_71 : decode cX7_reason 71 = .ok (.goto 4, 3) := by decide +kernel
theorem dX7_reason_74 : decode cX7_reason 74 = .ok (.iload_n 2, 1) := by decide +kernel
theorem dX7_reason_75 : decode cX7_reason 75 = .ok (.ireturn, 1) := by decide +kernel
theorem dX7_driverOf_0 : decode cX7_driverOf 0 = .ok (.aload_n 0, 1) := by decide +kernel
theorem dX7_driverOf_1 : decode cX7_driverOf 1 = .ok (.aload_n 0, 1) := by decide +kernel
theorem dX7_driverOf_2 : decode cX7_driverOf 2 = .ok (.iload_n 1, 1) := by decide +kernel
theorem dX7_driverOf_3 : decode cX7_driverOf 3 = .ok (.invokevirtual 205, 3) := by decide +kernel
theorem dX7_driverOf_6 : decode cX7_driverOf 6 = .ok (.ifCond .eq 7, 3) := by decide +kernel
theorem dX7_driverOf_9 : decode cX7_driverOf 9 = .ok (.iconst 0, 1) := by decide +kernel
theorem dX7_driverOf_10 : decode cX7_driverOf 10 = .ok (.goto 4, 3) := by decide +kernel
theorem dX7_driverOf_13 : decode cX7_driverOf 13 = .ok (.iconst 1, 1) := by decide +kernel
theorem dX7_driverOf_14 : decode cX7_driverOf 14 = .ok (.putfield 122, 3) := by decide +kernel
theorem dX7_driverOf_17 : decode cX7_driverOf 17 = .ok (.aload_n 0, 1) := by decide +kernel
theorem dX7_driverOf_18 : decode cX7_driverOf 18 = .ok (.getfield 122, 3) := by decide +kernel
theorem dX7_driverOf_21 : decode cX7_driverOf 21 = .ok (.ifCond .eq 7, 3) := by decide +kernel
theorem dX7_driverOf_24 : decode cX7_driverOf 24 = .ok (.iconst 0, 1) := by decide +kernel
theorem dX7_driverOf_25 : decode cX7_driverOf 25 = .ok (.goto 43, 3) := by decide +kernel
theorem dX7_driverOf_28 : decode cX7_driverOf 28 = .ok (.aload_n 0, 1) := by decide +kernel
theorem dX7_driverOf_29 : decode cX7_driverOf 29 = .ok (.getfield 32, 3) := by decide +kernel
theorem dX7_driverOf_32 : decode cX7_driverOf 32 = .ok (.iload_n 1, 1) := by decide +kernel
theorem dX7_driverOf_33 : decode cX7_driverOf 33 = .ok (.baload, 1) := by decide +kernel
theorem dX7_driverOf_34 : decode cX7_driverOf 34 = .ok (.ifCond .ne 7, 3) := by decide +kernel
theorem dX7_driverOf_37 : decode cX7_driverOf 37 = .ok (.iconst (-1), 1) := by decide +kernel
theorem dX7_driverOf_38 : decode cX7_driverOf 38 = .ok (.goto 30, 3) := by decide +kernel
theorem dX7_driverOf_41 : decode cX7_driverOf 41 = .ok (.aload_n 0, 1) := by decide +kernel
theorem dX7_driverOf_42 : decode cX7_driverOf 42 = .ok (.iload_n 1, 1) := by decide +kernel
theorem dX7_driverOf_43 : decode cX7_driverOf 43 = .ok (.invokevirtual 139, 3) := by decide +kernel
theorem dX7_driverOf_46 : decode cX7_driverOf 46 = .ok (.ifCond .eq 12, 3) := by decide +kernel
theorem dX7_driverOf_49 : decode cX7_driverOf 49 = .ok (.aload_n 0, 1) := by decide +kernel
theorem dX7_driverOf_50 : decode cX7_driverOf 50 = .ok (.getfield 35, 3) := by decide +kernel
theorem dX7_driverOf_53 : decode cX7_driverOf 53 = .ok (.iload_n 1, 1) := by decide +kernel
theorem dX7_driverOf_54 : decode cX7_driverOf 54 = .ok (.iaload, 1) := by decide +kernel
theorem dX7_driverOf_55 : decode cX7_driverOf 55 = .ok (.goto 13, 3) := by decide +kernel
theorem dX7_driverOf_58 : decode cX7_driverOf 58 = .ok (.aload_n 0, 1) := by decide +kernel
theorem dX7_driverOf_59 : decode cX7_driverOf 59 = .ok (.aload_n 0, 1) := by decide +kernel
theorem dX7_driverOf_60 : decode cX7_driverOf 60 = .ok (.getfield 13, 3) := by decide +kernel
theorem dX7_driverOf_63 : decode cX7_driverOf 63 = .ok (.iload_n 1, 1) := by decide +kernel
theorem dX7_driverOf_64 : decode cX7_driverOf 64 = .ok (.iaload, 1) := by decide +kernel
theorem dX7_driverOf_65 : decode cX7_driverOf 65 = .ok (.invokevirtual 151, 3) := by decide +kernel
theorem dX7_driverOf_68 : decode cX7_driverOf 68 = .ok (.ireturn, 1) := by decide +kernel
theorem dX7_window_0 : decode cX7_window 0 = .ok (.aload_n 0, 1) := by decide +kernel
theorem dX7_window_1 : decode cX7_window 1 = .ok (.aload_n 0, 1) := by decide +kernel
theorem dX7_window_2 : decode cX7_window 2 = .ok (.iload_n 1, 1) := by decide +kernel
theorem dX7_window_3 : decode cX7_window 3 = .ok (.invokevirtual 205, 3) := by decide +kernel
theorem dX7_window_6 : decode cX7_window 6 = .ok (.ifCond .eq 7, 3) := by decide +kernel
theorem dX7_window_9 : decode cX7_window 9 = .ok (.iconst 0, 1) := by decide +kernel
theorem dX7_window_10 : decode cX7_window 10 = .ok (.goto 4, 3) := by decide +kernel
theorem dX7_window_13 : decode cX7_window 13 = .ok (.iconst 1, 1) := by decide +kernel
theorem dX7_window_14 : decode cX7_window 14 = .ok (.putfield 122, 3) := by decide +kernel
theorem dX7_window_17 : decode cX7_window 17 = .ok (.aload_n 0, 1) := by decide +kernel
theorem dX7_window_18 : decode cX7_window 18 = .ok (.getfield 122, 3) := by decide +kernel
theorem dX7_window_21 : decode cX7_window 21 = .ok (.ifCond .eq 7, 3) := by decide +kernel
theorem dX7_window_24 : decode cX7_window 24 = .ok (.iconst 0, 1) := by decide +kernel
theorem dX7_window_25 : decode cX7_window 25 = .ok (.goto 9, 3) := by decide +kernel
theorem dX7_window_28 : decode cX7_window 28 = .ok (.aload_n 0, 1) := by decide +kernel
theorem dX7_window_29 : decode cX7_window 29 = .ok (.getfield 41, 3) := by decide +kernel
theorem dX7_window_32 : decode cX7_window 32 = .ok (.iload_n 1, 1) := by decide +kernel
theorem dX7_window_33 : decode cX7_window 33 = .ok (.iaload, 1) := by decide +kernel
theorem dX7_window_34 : decode cX7_window 34 = .ok (.ireturn, 1) := by decide +kernel
theorem dX7_isOn_0 : decode cX7_isOn 0 = .ok (.aload_n 0, 1) := by decide +kernel
theorem dX7_isOn_1 : decode cX7_isOn 1 = .ok (.aload_n 0, 1) := by decide +kernel
theorem dX7_isOn_2 : decode cX7_isOn 2 = .ok (.iload_n 1, 1) := by decide +kernel
theorem dX7_isOn_3 : decode cX7_isOn 3 = .ok (.invokevirtual 205, 3) := by decide +kernel
theorem dX7_isOn_6 : decode cX7_isOn 6 = .ok (.ifCond .eq 7, 3) := by decide +kernel
theorem dX7_isOn_9 : decode cX7_isOn 9 = .ok (.iconst 0, 1) := by decide +kernel
theorem dX7_isOn_10 : decode cX7_isOn 10 = .ok (.goto 4, 3) := by decide +kernel
theorem dX7_isOn_13 : decode cX7_isOn 13 = .ok (.iconst 1, 1) := by decide +kernel
theorem dX7_isOn_14 : decode cX7_isOn 14 = .ok (.putfield 122, 3) := by decide +kernel
theorem dX7_isOn_17 : decode cX7_isOn 17 = .ok (.aload_n 0, 1) := by decide +kernel
theorem dX7_isOn_18 : decode cX7_isOn 18 = .ok (.getfield 122, 3) := by decide +kernel
theorem dX7_isOn_21 : decode cX7_isOn 21 = .ok (.ifCond .ne 16, 3) := by decide +kernel
theorem dX7_isOn_24 : decode cX7_isOn 24 = .ok (.aload_n 0, 1) := by decide +kernel
theorem dX7_isOn_25 : decode cX7_isOn 25 = .ok (.getfield 38, 3) := by decide +kernel
theorem dX7_isOn_28 : decode cX7_isOn 28 = .ok (.iload_n 1, 1) := by decide +kernel
theorem dX7_isOn_29 : decode cX7_isOn 29 = .ok (.baload, 1) := by decide +kernel
theorem dX7_isOn_30 : decode cX7_isOn 30 = .ok (.ifCond .eq 7, 3) := by decide +kernel
theorem dX7_isOn_33 : decode cX7_isOn 33 = .ok (.iconst 1, 1) := by decide +kernel
theorem dX7_isOn_34 : decode cX7_isOn 34 = .ok (.goto 4, 3) := by decide +kernel
theorem dX7_isOn_37 : decode cX7_isOn 37 = .ok (.iconst 0, 1) := by decide +kernel
theorem dX7_isOn_38 : decode cX7_isOn 38 = .ok (.ireturn, 1) := by decide +kernel
theorem dX7_isPending_0 : decode cX7_isPending 0 = .ok (.aload_n 0, 1) := by decide +kernel
theorem dX7_isPending_1 : decode cX7_isPending 1 = .ok (.aload_n 0, 1) := by decide +kernel
theorem dX7_isPending_2 : decode cX7_isPending 2 = .ok (.iload_n 1, 1) := by decide +kernel
theorem dX7_isPending_3 : decode cX7_isPending 3 = .ok (.invokevirtual 205, 3) := by decide +kernel
theorem dX7_isPending_6 : decode cX7_isPending 6 = .ok (.ifCond .eq 7, 3) := by decide +kernel
theorem dX7_isPending_9 : decode cX7_isPending 9 = .ok (.iconst 0, 1) := by decide +kernel
theorem dX7_isPending_10 : decode cX7_isPending 10 = .ok (.goto 4, 3) := by decide +kernel
theorem dX7_isPending_13 : decode cX7_isPending 13 = .ok (.iconst 1, 1) := by decide +kernel
theorem dX7_isPending_14 : decode cX7_isPending 14 = .ok (.putfield 122, 3) := by decide +kernel
theorem dX7_isPending_17 : decode cX7_isPending 17 = .ok (.aload_n 0, 1) := by decide +kernel
theorem dX7_isPending_18 : decode cX7_isPending 18 = .ok (.getfield 122, 3) := by decide +kernel
theorem dX7_isPending_21 : decode cX7_isPending 21 = .ok (.ifCond .ne 16, 3) := by decide +kernel
theorem dX7_isPending_24 : decode cX7_isPending 24 = .ok (.aload_n 0, 1) := by decide +kernel
theorem dX7_isPending_25 : decode cX7_isPending 25 = .ok (.getfield 50, 3) := by decide +kernel
theorem dX7_isPending_28 : decode cX7_isPending 28 = .ok (.iload_n 1, 1) := by decide +kernel
theorem dX7_isPending_29 : decode cX7_isPending 29 = .ok (.baload, 1) := by decide +kernel
theorem dX7_isPending_30 : decode cX7_isPending 30 = .ok (.ifCond .eq 7, 3) := by decide +kernel
theorem dX7_isPending_33 : decode cX7_isPending 33 = .ok (.iconst 1, 1) := by decide +kernel
theorem dX7_isPending_34 : decode cX7_isPending 34 = .ok (.goto 4, 3) := by decide +kernel
theorem dX7_isPending_37 : decode cX7_isPending 37 = .ok (.iconst 0, 1) := by decide +kernel
theorem dX7_isPending_38 : decode cX7_isPending 38 = .ok (.ireturn, 1) := by decide +kernel
theorem dX7_strikes_0 : decode cX7_strikes 0 = .ok (.aload_n 0, 1) := by decide +kernel
theorem dX7_strikes_1 : decode cX7_strikes 1 = .ok (.iload_n 1, 1) := by decide +kernel
theorem dX7_strikes_2 : decode cX7_strikes 2 = .ok (.iconst 0, 1) := by decide +kernel
theorem dX7_strikes_3 : decode cX7_strikes 3 = .ok (.bipush 7, 2) := by decide +kernel
theorem dX7_strikes_5 : decode cX7_strikes 5 = .ok (.invokestatic 129, 3) := by decide +kernel
theorem dX7_strikes_8 : decode cX7_strikes 8 = .ok (.ifCond .eq 7, 3) := by decide +kernel
theorem dX7_strikes_11 : decode cX7_strikes 11 = .ok (.iconst 0, 1) := by decide +kernel
theorem dX7_strikes_12 : decode cX7_strikes 12 = .ok (.goto 4, 3) := by decide +kernel
theorem dX7_strikes_15 : decode cX7_strikes 15 = .ok (.iconst 1, 1) := by decide +kernel
theorem dX7_strikes_16 : decode cX7_strikes 16 = .ok (.putfield 122, 3) := by decide +kernel
theorem dX7_strikes_19 : decode cX7_strikes 19 = .ok (.aload_n 0, 1) := by decide +kernel
theorem dX7_strikes_20 : decode cX7_strikes 20 = .ok (.getfield 122, 3) := by decide +kernel
theorem dX7_strikes_23 : decode cX7_strikes 23 = .ok (.ifCond .eq 7, 3) := by decide +kernel
theorem dX7_strikes_26 : decode cX7_strikes 26 = .ok (.iconst 0, 1) := by decide +kernel
theorem dX7_strikes_27 : decode cX7_strikes 27 = .ok (.goto 9, 3) := by decide +kernel
theorem dX7_strikes_30 : decode cX7_strikes 30 = .ok (.aload_n 0, 1) := by decide +kernel
theorem dX7_strikes_31 : decode cX7_strikes 31 = .ok (.getfield 101, 3) := by decide +kernel
theorem dX7_strikes_34 : decode cX7_strikes 34 = .ok (.iload_n 1, 1) := by decide +kernel
theorem dX7_strikes_35 : decode cX7_strikes 35 = .ok (.iaload, 1) := by decide +kernel
theorem dX7_strikes_36 : decode cX7_strikes 36 = .ok (.ireturn, 1) := by decide +kernel
theorem dX7_handles_0 : decode cX7_handles 0 = .ok (.aload_n 0, 1) := by decide +kernel
theorem dX7_handles_1 : decode cX7_handles 1 = .ok (.aload_n 0, 1) := by decide +kernel
theorem dX7_handles_2 : decode cX7_handles 2 = .ok (.iload_n 1, 1) := by decide +kernel
theorem dX7_handles_3 : decode cX7_handles 3 = .ok (.invokevirtual 205, 3) := by decide +kernel
theorem dX7_handles_6 : decode cX7_handles 6 = .ok (.ifCond .eq 7, 3) := by decide +kernel
theorem dX7_handles_9 : decode cX7_handles 9 = .ok (.iconst 0, 1) := by decide +kernel
theorem dX7_handles_10 : decode cX7_handles 10 = .ok (.goto 4, 3) := by decide +kernel
theorem dX7_handles_13 : decode cX7_handles 13 = .ok (.iconst 1, 1) := by decide +kernel
theorem dX7_handles_14 : decode cX7_handles 14 = .ok (.putfield 122, 3) := by decide +kernel
theorem dX7_handles_17 : decode cX7_handles 17 = .ok (.iconst 0, 1) := by decide +kernel
theorem dX7_handles_18 : decode cX7_handles 18 = .ok (.istore_n 2, 1) := by decide +kernel
theorem dX7_handles_19 : decode cX7_handles 19 = .ok (.iconst 0, 1) := by decide +kernel
theorem dX7_handles_20 : decode cX7_handles 20 = .ok (.istore_n 3, 1) := by decide +kernel
theorem dX7_handles_21 : decode cX7_handles 21 = .ok (.iload_n 3, 1) := by decide +kernel
theorem dX7_handles_22 : decode cX7_handles 22 = .ok (.aload_n 0, 1) := by decide +kernel
theorem dX7_handles_23 : decode cX7_handles 23 = .ok (.getfield 217, 3) := by decide +kernel
theorem dX7_handles_26 : decode cX7_handles 26 = .ok (.if_icmp .ge 43, 3) := by decide +kernel
theorem dX7_handles_29 : decode cX7_handles 29 = .ok (.aload_n 0, 1) := by decide +kernel
theorem dX7_handles_30 : decode cX7_handles 30 = .ok (.getfield 122, 3) := by decide +kernel
theorem dX7_handles_33 : decode cX7_handles 33 = .ok (.ifCond .ne 36, 3) := by decide +kernel
theorem dX7_handles_36 : decode cX7_handles 36 = .ok (.iload_n 2, 1) := by decide +kernel
theorem dX7_handles_37 : decode cX7_handles 37 = .ok (.aload_n 0, 1) := by decide +kernel
theorem dX7_handles_38 : decode cX7_handles 38 = .ok (.getfield 83, 3) := by decide +kernel
theorem dX7_handles_41 : decode cX7_handles 41 = .ok (.iload_n 3, 1) := by decide +kernel
theorem dX7_handles_42 : decode cX7_handles 42 = .ok (.iaload, 1) := by decide +kernel
theorem dX7_handles_43 : decode cX7_handles 43 = .ok (.iload_n 1, 1) := by decide +kernel
theorem dX7_handles_44 : decode cX7_handles 44 = .ok (.if_icmp .ne 16, 3) := by decide +kernel
theorem dX7_handles_47 : decode cX7_handles 47 = .ok (.aload_n 0, 1) := by decide +kernel
theorem dX7_handles_48 : decode cX7_handles 48 = .ok (.getfield 89, 3) := by decide +kernel
theorem dX7_handles_51 : decode cX7_handles 51 = .ok (.iload_n 3, 1) := by decide +kernel
theorem dX7_handles_52 : decode cX7_handles 52 = .ok (.baload, 1) := by decide +kernel
theorem dX7_handles_53 : decode cX7_handles 53 = .ok (.ifCond .ne 7, 3) := by decide +kernel
theorem dX7_handles_56 : decode cX7_handles 56 = .ok (.iconst 1, 1) := by decide +kernel
theorem dX7_handles_57 : decode cX7_handles 57 = .ok (.goto 4, 3) := by decide +kernel
theorem dX7_handles_60 : decode cX7_handles 60 = .ok (.iconst 0, 1) := by decide +kernel
theorem dX7_handles_61 : decode cX7_handles 61 = .ok (.iadd, 1) := by decide +kernel
theorem dX7_handles_62 : decode cX7_handles 62 = .ok (.istore_n 2, 1) := by decide +kernel
theorem dX7_handles_63 : decode cX7_handles 63 = .ok (.iinc 3 1, 3) := by decide +kernel
theorem dX7_handles_66 : decode cX7_handles 66 = .ok (.goto (-45), 3) := by decide +kernel
theorem dX7_handles_69 : decode cX7_handles 69 = .ok (.iload_n 2, 1) := by decide +kernel
theorem dX7_handles_70 : decode cX7_handles 70 = .ok (.ireturn, 1) := by decide +kernel
theorem dX7_callState_0 : decode cX7_callState 0 = .ok (.aload_n 0, 1) := by decide +kernel
theorem dX7_callState_1 : decode cX7_callState 1 = .ok (.iload_n 1, 1) := by decide +kernel
theorem dX7_callState_2 : decode cX7_callState 2 = .ok (.iconst 0, 1) := by decide +kernel
theorem dX7_callState_3 : decode cX7_callState 3 = .ok (.aload_n 0, 1) := by decide +kernel
theorem dX7_callState_4 : decode cX7_callState 4 = .ok (.getfield 190, 3) := by decide +kernel
theorem dX7_callState_7 : decode cX7_callState 7 = .ok (.iconst 1, 1) := by decide +kernel
theorem dX7_callState_8 : decode cX7_callState 8 = .ok (.isub, 1) := by decide +kernel
theorem dX7_callState_9 : decode cX7_callState 9 = .ok (.invokestatic 129, 3) := by decide +kernel
theorem dX7_callState_12 : decode cX7_callState 12 = .ok (.ifCond .eq 7, 3) := by decide +kernel
theorem dX7_callState_15 : decode cX7_callState 15 = .ok (.iconst 0, 1) := by decide +kernel
theorem dX7_callState_16 : decode cX7_callState 16 = .ok (.goto 4, 3) := by decide +kernel
theorem dX7_callState_19 : decode cX7_callState 19 = .ok (.iconst 1, 1) := by decide +kernel
theorem dX7_callState_20 : decode cX7_callState 20 = .ok (.putfield 122, 3) := by decide +kernel
theorem dX7_callState_23 : decode cX7_callState 23 = .ok (.aload_n 0, 1) := by decide +kernel
theorem dX7_callState_24 : decode cX7_callState 24 = .ok (.getfield 122, 3) := by decide +kernel
theorem dX7_callState_27 : decode cX7_callState 27 = .ok (.ifCond .eq 7, 3) := by decide +kernel
theorem dX7_callState_30 : decode cX7_callState 30 = .ok (.iconst 0, 1) := by decide +kernel
theorem dX7_callState_31 : decode cX7_callState 31 = .ok (.goto 9, 3) := by decide +kernel
theorem dX7_callState_34 : decode cX7_callState 34 = .ok (.aload_n 0, 1) := by decide +kernel
theorem dX7_callState_35 : decode cX7_callState 35 = .ok (.getfield 98, 3) := by decide +kernel
theorem dX7_callState_38 : decode cX7_callState 38 = .ok (.iload_n 1, 1) := by decide +kernel
theorem dX7_callState_39 : decode cX7_callState 39 = .ok (.iaload, 1) := by decide +kernel
theorem dX7_callState_40 : decode cX7_callState 40 = .ok (.ireturn, 1) := by decide +kernel
theorem dX7_faults_0 : decode cX7_faults 0 = .ok (.aload_n 0, 1) := by decide +kernel
theorem dX7_faults_1 : decode cX7_faults 1 = .ok (.getfield 232, 3) := by decide +kernel
theorem dX7_faults_4 : decode cX7_faults 4 = .ok (.ireturn, 1) := by decide +kernel
theorem dX7_given_0 : decode cX7_given 0 = .ok (.aload_n 0, 1) := by decide +kernel
theorem dX7_given_1 : decode cX7_given 1 = .ok (.iload_n 1, 1) := by decide +kernel
theorem dX7_given_2 : decode cX7_given 2 = .ok (.iconst 0, 1) := by decide +kernel
theorem dX7_given_3 : decode cX7_given 3 = .ok (.iconst 3, 1) := by decide +kernel
theorem dX7_given_4 : decode cX7_given 4 = .ok (.invokestatic 129, 3) := by decide +kernel
theorem dX7_given_7 : decode cX7_given 7 = .ok (.ifCond .eq 7, 3) := by decide +kernel
theorem dX7_given_10 : decode cX7_given 10 = .ok (.iconst 0, 1) := by decide +kernel
theorem dX7_given_11 : decode cX7_given 11 = .ok (.goto 4, 3) := by decide +kernel
theorem dX7_given_14 : decode cX7_given 14 = .ok (.iconst 1, 1) := by decide +kernel
theorem dX7_given_15 : decode cX7_given 15 = .ok (.putfield 122, 3) := by decide +kernel
theorem dX7_given_18 : decode cX7_given 18 = .ok (.aload_n 0, 1) := by decide +kernel
theorem dX7_given_19 : decode cX7_given 19 = .ok (.getfield 122, 3) := by decide +kernel
theorem dX7_given_22 : decode cX7_given 22 = .ok (.ifCond .eq 5, 3) := by decide +kernel
theorem dX7_given_25 : decode cX7_given 25 = .ok (.iconst 0, 1) := by decide +kernel
theorem dX7_given_26 : decode cX7_given 26 = .ok (.ireturn, 1) := by decide +kernel
theorem dX7_given_27 : decode cX7_given 27 = .ok (.iconst 0, 1) := by decide +kernel
theorem dX7_given_28 : decode cX7_given 28 = .ok (.istore_n 2, 1) := by decide +kernel
theorem dX7_given_29 : decode cX7_given 29 = .ok (.iconst 0, 1) := by decide +kernel
theorem dX7_given_30 : decode cX7_given 30 = .ok (.istore_n 3, 1) := by decide +kernel
theorem dX7_given_31 : decode cX7_given 31 = .ok (.iconst 0, 1) := by decide +kernel
theorem dX7_given_32 : decode cX7_given 32 = .ok (.istore 4, 2) := by decide +kernel
theorem dX7_given_34 : decode cX7_given 34 = .ok (.iload 4, 2) := by decide +kernel
theorem dX7_given_36 : decode cX7_given 36 = .ok (.aload_n 0, 1) := by decide +kernel
theorem dX7_given_37 : decode cX7_given 37 = .ok (.getfield 126, 3) := by decide +kernel
theorem dX7_given_40 : decode cX7_given 40 = .ok (.if_icmp .ge 82, 3) := by decide +kernel
theorem dX7_given_43 : decode cX7_given 43 = .ok (.aload_n 0, 1) := by decide +kernel
theorem dX7_given_44 : decode cX7_given 44 = .ok (.iload 4, 2) := by decide +kernel
theorem dX7_given_46 : decode cX7_given 46 = .ok (.invokevirtual 139, 3) := by decide +kernel
theorem dX7_given_49 : decode cX7_given 49 = .ok (.ifCond .eq 67, 3) := by decide +kernel
theorem dX7_given_52 : decode cX7_given 52 = .ok (.iload_n 2, 1) := by decide +kernel
theorem dX7_given_53 : decode cX7_given 53 = .ok (.iload_n 1, 1) := by decide +kernel
theorem dX7_given_54 : decode cX7_given 54 = .ok (.ifCond .ne 23, 3) := by decide +kernel
theorem dX7_given_57 : decode cX7_given 57 = .ok (.aload_n 0, 1) := by decide +kernel
theorem dX7_given_58 : decode cX7_given 58 = .ok (.iload 4, 2) := by decide +kernel
theorem dX7_given_60 : decode cX7_given 60 = .ok (.invokevirtual 143, 3) := by decide +kernel
theorem dX7_given_63 : decode cX7_given 63 = .ok (.iconst (-1), 1) := by decide +kernel
theorem dX7_given_64 : decode cX7_given 64 = .ok (.if_icmp .ne 13, 3) := by decide +kernel
theorem dX7_given_67 : decode cX7_given 67 = .ok (.aload_n 0, 1) := by decide +kernel
theorem dX7_given_68 : decode cX7_given 68 = .ok (.getfield 16, 3) := by decide +kernel
theorem dX7_given_71 : decode cX7_given 71 = .ok (.iload 4, 2) := by decide +kernel
theorem dX7_given_73 : decode cX7_given 73 = .ok (.iaload, 1) := by decide +kernel
theorem dX7_given_74 : decode cX7_given 74 = .ok (.goto 13, 3) := by decide +kernel
theorem dX7_given_77 : decode cX7_given 77 = .ok (.iload_n 1, 1) := by decide +kernel
theorem dX7_given_78 : decode cX7_given 78 = .ok (.iconst 3, 1) := by decide +kernel
theorem dX7_given_79 : decode cX7_given 79 = .ok (.if_icmp .ne 7, 3) := by decide +kernel
theorem dX7_given_82 : decode cX7_given 82 = .ok (.iconst 1, 1) := by decide +kernel
theorem dX7_given_83 : decode cX7_given 83 = .ok (.goto 4, 3) := by decide +kernel
theorem dX7_given_86 : decode cX7_given 86 = .ok (.iconst 0, 1) := by decide +kernel
theorem dX7_given_87 : decode cX7_given 87 = .ok (.iadd, 1) := by decide +kernel
theorem dX7_given_88 : decode cX7_given 88 = .ok (.istore_n 2, 1) := by decide +kernel
theorem dX7_given_89 : decode cX7_given 89 = .ok (.iload_n 3, 1) := by decide +kernel
theorem dX7_given_90 : decode cX7_given 90 = .ok (.aload_n 0, 1) := by decide +kernel
theorem dX7_given_91 : decode cX7_given 91 = .ok (.getfield 19, 3) := by decide +kernel
theorem dX7_given_94 : decode cX7_given 94 = .ok (.iload 4, 2) := by decide +kernel
theorem dX7_given_96 : decode cX7_given 96 = .ok (.iaload, 1) := by decide +kernel
theorem dX7_given_97 : decode cX7_given 97 = .ok (.iconst (-1), 1) := by decide +kernel
theorem dX7_given_98 : decode cX7_given 98 = .ok (.if_icmp .ne 7, 3) := by decide +kernel
theorem dX7_given_101 : decode cX7_given 101 = .ok (.iconst 0, 1) := by decide +kernel
theorem dX7_given_102 : decode cX7_given 102 = .ok (.goto 12, 3) := by decide +kernel
theorem dX7_given_105 : decode cX7_given 105 = .ok (.iconst 1, 1) := by decide +kernel
theorem dX7_given_106 : decode cX7_given 106 = .ok (.aload_n 0, 1) := by decide +kernel
theorem dX7_given_107 : decode cX7_given 107 = .ok (.getfield 19, 3) := by decide +kernel
theorem dX7_given_110 : decode cX7_given 110 = .ok (.iload 4, 2) := by decide +kernel
theorem dX7_given_112 : decode cX7_given 112 = .ok (.iaload, 1) := by decide +kernel
theorem dX7_given_113 : decode cX7_given 113 = .ok (.ishl, 1) := by decide +kernel
theorem dX7_given_114 : decode cX7_given 114 = .ok (.ior, 1) := by decide +kernel
theorem dX7_given_115 : decode cX7_given 115 = .ok (.istore_n 3, 1) := by decide +kernel
theorem dX7_given_116 : decode cX7_given 116 = .ok (.iinc 4 1, 3) := by decide +kernel
theorem dX7_given_119 : decode cX7_given 119 = .ok (.goto (-85), 3) := by decide +kernel
theorem dX7_given_122 : decode cX7_given 122 = .ok (.iconst 0, 1) := by decide +kernel
theorem dX7_given_123 : decode cX7_given 123 = .ok (.istore 4, 2) := by decide +kernel
theorem dX7_given_125 : decode cX7_given 125 = .ok (.iload 4, 2) := by decide +kernel
theorem dX7_given_127 : decode cX7_given 127 = .ok (.bipush 16, 2) := by decide +kernel
theorem dX7_given_129 : decode cX7_given 129 = .ok (.if_icmp .ge 51, 3) := by decide +kernel
theorem dX7_given_132 : decode cX7_given 132 = .ok (.iload_n 2, 1) := by decide +kernel
theorem dX7_given_133 : decode cX7_given 133 = .ok (.iload_n 1, 1) := by decide +kernel
theorem dX7_given_134 : decode cX7_given 134 = .ok (.iconst 2, 1) := by decide +kernel
theorem dX7_given_135 : decode cX7_given 135 = .ok (.if_icmp .ne 18, 3) := by decide +kernel
theorem dX7_given_138 : decode cX7_given 138 = .ok (.aload_n 0, 1) := by decide +kernel
theorem dX7_given_139 : decode cX7_given 139 = .ok (.getfield 104, 3) := by decide +kernel
theorem dX7_given_142 : decode cX7_given 142 = .ok (.iload 4, 2) := by decide +kernel
theorem dX7_given_144 : decode cX7_given 144 = .ok (.iaload, 1) := by decide +kernel
theorem dX7_given_145 : decode cX7_given 145 = .ok (.iconst (-1), 1) := by decide +kernel
theorem dX7_given_146 : decode cX7_given 146 = .ok (.if_icmp .eq 7, 3) := by decide +kernel
theorem dX7_given_149 : decode cX7_given 149 = .ok (.iconst 1, 1) := by decide +kernel
theorem dX7_given_150 : decode cX7_given 150 = .ok (.goto 4, 3) := by decide +kernel
theorem dX7_given_153 : decode cX7_given 153 = .ok (.iconst 0, 1) := by decide +kernel
theorem dX7_given_154 : decode cX7_given 154 = .ok (.iadd, 1) := by decide +kernel
theorem dX7_given_155 : decode cX7_given 155 = .ok (.istore_n 2, 1) := by decide +kernel
theorem dX7_given_156 : decode cX7_given 156 = .ok (.iload_n 2, 1) := by decide +kernel
theorem dX7_given_157 : decode cX7_given 157 = .ok (.iload_n 1, 1) := by decide +kernel
theorem dX7_given_158 : decode cX7_given 158 = .ok (.iconst 1, 1) := by decide +kernel
theorem dX7_given_159 : decode cX7_given 159 = .ok (.if_icmp .ne 12, 3) := by decide +kernel
theorem dX7_given_162 : decode cX7_given 162 = .ok (.iload_n 3, 1) := by decide +kernel
theorem dX7_given_163 : decode cX7_given 163 = .ok (.iload 4, 2) := by decide +kernel
theorem dX7_given_165 : decode cX7_given 165 = .ok (.ishr, 1) := by decide +kernel
theorem dX7_given_166 : decode cX7_given 166 = .ok (.iconst 1, 1) := by decide +kernel
theorem dX7_given_167 : decode cX7_given 167 = .ok (.iand, 1) := by decide +kernel
theorem dX7_given_168 : decode cX7_given 168 = .ok (.goto 4, 3) := by decide +kernel
theorem dX7_given_171 : decode cX7_given 171 = .ok (.iconst 0, 1) := by decide +kernel
theorem dX7_given_172 : decode cX7_given 172 = .ok (.iadd, 1) := by decide +kernel
theorem dX7_given_173 : decode cX7_given 173 = .ok (.istore_n 2, 1) := by decide +kernel
theorem dX7_given_174 : decode cX7_given 174 = .ok (.iinc 4 1, 3) := by decide +kernel
theorem dX7_given_177 : decode cX7_given 177 = .ok (.goto (-52), 3) := by decide +kernel
theorem dX7_given_180 : decode cX7_given 180 = .ok (.iload_n 2, 1) := by decide +kernel
theorem dX7_given_181 : decode cX7_given 181 = .ok (.ireturn, 1) := by decide +kernel
theorem dX7_events_0 : decode cX7_events 0 = .ok (.aload_n 0, 1) := by decide +kernel
theorem dX7_events_1 : decode cX7_events 1 = .ok (.getfield 133, 3) := by decide +kernel
theorem dX7_events_4 : decode cX7_events 4 = .ok (.ireturn, 1) := by decide +kernel
theorem dX7_isKept_0 : decode cX7_isKept 0 = .ok (.iload_n 1, 1) := by decide +kernel
theorem dX7_isKept_1 : decode cX7_isKept 1 = .ok (.iconst 0, 1) := by decide +kernel
theorem dX7_isKept_2 : decode cX7_isKept 2 = .ok (.aload_n 0, 1) := by decide +kernel
theorem dX7_isKept_3 : decode cX7_isKept 3 = .ok (.getfield 133, 3) := by decide +kernel
theorem dX7_isKept_6 : decode cX7_isKept 6 = .ok (.iconst 1, 1) := by decide +kernel
theorem dX7_isKept_7 : decode cX7_isKept 7 = .ok (.isub, 1) := by decide +kernel
theorem dX7_isKept_8 : decode cX7_isKept 8 = .ok (.invokestatic 129, 3) := by decide +kernel
theorem dX7_isKept_11 : decode cX7_isKept 11 = .ok (.ifCond .eq 18, 3) := by decide +kernel
theorem dX7_isKept_14 : decode cX7_isKept 14 = .ok (.iload_n 1, 1) := by decide +kernel
theorem dX7_isKept_15 : decode cX7_isKept 15 = .ok (.aload_n 0, 1) := by decide +kernel
theorem dX7_isKept_16 : decode cX7_isKept 16 = .ok (.getfield 133, 3) := by decide +kernel
theorem dX7_isKept_19 : decode cX7_isKept 19 = .ok (.bipush 20, 2) := by decide +kernel
theorem dX7_isKept_21 : decode cX7_isKept 21 = .ok (.isub, 1) := by decide +kernel
theorem dX7_isKept_22 : decode cX7_isKept 22 = .ok (.if_icmp .lt 7, 3) := by decide +kernel
theorem dX7_isKept_25 : decode cX7_isKept 25 = .ok (.iconst 1, 1) := by decide +kernel
theorem dX7_isKept_26 : decode cX7_isKept 26 = .ok (.goto 4, 3) := by decide +kernel
theorem dX7_isKept_29 : decode cX7_isKept 29 = .ok (.iconst 0, 1) := by decide +kernel
theorem dX7_isKept_30 : decode cX7_isKept 30 = .ok (.ireturn, 1) := by decide +kernel
theorem dX7_eventKind_0 : decode cX7_eventKind 0 = .ok (.aload_n 0, 1) := by decide +kernel
theorem dX7_eventKind_1 : decode cX7_eventKind 1 = .ok (.aload_n 0, 1) := by decide +kernel
theorem dX7_eventKind_2 : decode cX7_eventKind 2 = .ok (.iload_n 1, 1) := by decide +kernel
theorem dX7_eventKind_3 : decode cX7_eventKind 3 = .ok (.invokevirtual 260, 3) := by decide +kernel
theorem dX7_eventKind_6 : decode cX7_eventKind 6 = .ok (.ifCond .eq 7, 3) := by decide +kernel
theorem dX7_eventKind_9 : decode cX7_eventKind 9 = .ok (.iconst 0, 1) := by decide +kernel
theorem dX7_eventKind_10 : decode cX7_eventKind 10 = .ok (.goto 4, 3) := by decide +kernel
theorem dX7_eventKind_13 : decode cX7_eventKind 13 = .ok (.iconst 1, 1) := by decide +kernel
theorem dX7_eventKind_14 : decode cX7_eventKind 14 = .ok (.putfield 122, 3) := by decide +kernel
theorem dX7_eventKind_17 : decode cX7_eventKind 17 = .ok (.aload_n 0, 1) := by decide +kernel
theorem dX7_eventKind_18 : decode cX7_eventKind 18 = .ok (.getfield 122, 3) := by decide +kernel
theorem dX7_eventKind_21 : decode cX7_eventKind 21 = .ok (.ifCond .eq 7, 3) := by decide +kernel
theorem dX7_eventKind_24 : decode cX7_eventKind 24 = .ok (.iconst 0, 1) := by decide +kernel
theorem dX7_eventKind_25 : decode cX7_eventKind 25 = .ok (.goto 12, 3) := by decide +kernel
theorem dX7_eventKind_28 : decode cX7_eventKind 28 = .ok (.aload_n 0, 1) := by decide +kernel
theorem dX7_eventKind_29 : decode cX7_eventKind 29 = .ok (.getfield 110, 3) := by decide +kernel
theorem dX7_eventKind_32 : decode cX7_eventKind 32 = .ok (.iload_n 1, 1) := by decide +kernel
theorem dX7_eventKind_33 : decode cX7_eventKind 33 = .ok (.bipush 20, 2) := by decide +kernel
theorem dX7_eventKind_35 : decode cX7_eventKind 35 = .ok (.irem, 1) := by decide +kernel
theorem dX7_eventKind_36 : decode cX7_eventKind 36 = .ok (.iaload, 1) := by decide +kernel
theorem dX7_eventKind_37 : decode cX7_eventKind 37 = .ok (.ireturn, 1) := by decide +kernel
theorem dX7_eventOf_0 : decode cX7_eventOf 0 = .ok (.aload_n 0, 1) := by decide +kernel
theorem dX7_eventOf_1 : decode cX7_eventOf 1 = .ok (.aload_n 0, 1) := by decide +kernel
theorem dX7_eventOf_2 : decode cX7_eventOf 2 = .ok (.iload_n 1, 1) := by decide +kernel
theorem dX7_eventOf_3 : decode cX7_eventOf 3 = .ok (.invokevirtual 260, 3) := by decide +kernel
theorem dX7_eventOf_6 : decode cX7_eventOf 6 = .ok (.ifCond .eq 7, 3) := by decide +kernel
theorem dX7_eventOf_9 : decode cX7_eventOf 9 = .ok (.iconst 0, 1) := by decide +kernel
theorem dX7_eventOf_10 : decode cX7_eventOf 10 = .ok (.goto 4, 3) := by decide +kernel
theorem dX7_eventOf_13 : decode cX7_eventOf 13 = .ok (.iconst 1, 1) := by decide +kernel
theorem dX7_eventOf_14 : decode cX7_eventOf 14 = .ok (.putfield 122, 3) := by decide +kernel
theorem dX7_eventOf_17 : decode cX7_eventOf 17 = .ok (.aload_n 0, 1) := by decide +kernel
theorem dX7_eventOf_18 : decode cX7_eventOf 18 = .ok (.getfield 122, 3) := by decide +kernel
theorem dX7_eventOf_21 : decode cX7_eventOf 21 = .ok (.ifCond .eq 7, 3) := by decide +kernel
theorem dX7_eventOf_24 : decode cX7_eventOf 24 = .ok (.iconst 0, 1) := by decide +kernel
theorem dX7_eventOf_25 : decode cX7_eventOf 25 = .ok (.goto 12, 3) := by decide +kernel
theorem dX7_eventOf_28 : decode cX7_eventOf 28 = .ok (.aload_n 0, 1) := by decide +kernel
theorem dX7_eventOf_29 : decode cX7_eventOf 29 = .ok (.getfield 113, 3) := by decide +kernel
theorem dX7_eventOf_32 : decode cX7_eventOf 32 = .ok (.iload_n 1, 1) := by decide +kernel
theorem dX7_eventOf_33 : decode cX7_eventOf 33 = .ok (.bipush 20, 2) := by decide +kernel
theorem dX7_eventOf_35 : decode cX7_eventOf 35 = .ok (.irem, 1) := by decide +kernel
theorem dX7_eventOf_36 : decode cX7_eventOf 36 = .ok (.iaload, 1) := by decide +kernel
theorem dX7_eventOf_37 : decode cX7_eventOf 37 = .ok (.ireturn, 1) := by decide +kernel
