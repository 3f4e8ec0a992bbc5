theorem dX11_procedure_160 : decode cX11_procedure 160 = .ok (.iconst 0, 1) := by decide +kernel
theorem dX11_procedure_161 : decode cX11_procedure 161 = .ok (.iastore, 1) := by decide +kernel
theorem dX11_procedure_162 : decode cX11_procedure 162 = .ok (.aload_n 0, 1) := by decide +kernel
theorem dX11_procedure_163 : decode cX11_procedure 163 = .ok (.dup, 1) := by decide +kernel
theorem dX11_procedure_164 : decode cX11_procedure 164 = .ok (.getfield 146, 3) := by decide +kernel
theorem dX11_procedure_167 : decode cX11_procedure 167 = .ok (.iconst 1, 1) := by decide +kernel
theorem dX11_procedure_168 : decode cX11_procedure 168 = .ok (.iadd, 1) := by decide +kernel
theorem dX11_procedure_169 : decode cX11_procedure 169 = .ok (.putfield 146, 3) := by decide +kernel
theorem dX11_procedure_172 : decode cX11_procedure 172 = .ok (.iload 6, 2) := by decide +kernel
theorem dX11_procedure_174 : decode cX11_procedure 174 = .ok (.ireturn, 1) := by decide +kernel
theorem dX11_isSlot_0 : decode cX11_isSlot 0 = .ok (.iload_n 2, 1) := by decide +kernel
theorem dX11_isSlot_1 : decode cX11_isSlot 1 = .ok (.iconst 0, 1) := by decide +kernel
theorem dX11_isSlot_2 : decode cX11_isSlot 2 = .ok (.aload_n 0, 1) := by decide +kernel
theorem dX11_isSlot_3 : decode cX11_isSlot 3 = .ok (.getfield 17, 3) := by decide +kernel
theorem dX11_isSlot_6 : decode cX11_isSlot 6 = .ok (.iload_n 1, 1) := by decide +kernel
theorem dX11_isSlot_7 : decode cX11_isSlot 7 = .ok (.iaload, 1) := by decide +kernel
theorem dX11_isSlot_8 : decode cX11_isSlot 8 = .ok (.iconst 1, 1) := by decide +kernel
theorem dX11_isSlot_9 : decode cX11_isSlot 9 = .ok (.isub, 1) := by decide +kernel
theorem dX11_isSlot_10 : decode cX11_isSlot 10 = .ok (.invokestatic 138, 3) := by decide +kernel
theorem dX11_isSlot_13 : decode cX11_isSlot 13 = .ok (.ireturn, 1) := by decide +kernel
theorem dX11_isTo_0 : decode cX11_isTo 0 = .ok (.iload_n 0, 1) := by decide +kernel
theorem dX11_isTo_1 : decode cX11_isTo 1 = .ok (.iconst 0, 1) := by decide +kernel
theorem dX11_isTo_2 : decode cX11_isTo 2 = .ok (.sipush 1999, 3) := by decide +kernel
theorem dX11_isTo_5 : decode cX11_isTo 5 = .ok (.invokestatic 138, 3) := by decide +kernel
theorem dX11_isTo_8 : decode cX11_isTo 8 = .ok (.ireturn, 1) := by decide +kernel
theorem dX11_isRight_0 : decode cX11_isRight 0 = .ok (.iload_n 2, 1) := by decide +kernel
theorem dX11_isRight_1 : decode cX11_isRight 1 = .ok (.tableswitch 322 0 13 #[71, 78, 103, 103, 78, 150, 195, 230, 235, 230, 269, 71, 71, 71], 71) := by decide +kernel
theorem dX11_isRight_72 : decode cX11_isRight 72 = .ok (.aload_n 0, 1) := by decide +kernel
theorem dX11_isRight_73 : decode cX11_isRight 73 = .ok (.iload_n 1, 1) := by decide +kernel
theorem dX11_isRight_74 : decode cX11_isRight 74 = .ok (.iload_n 3, 1) := by decide +kernel
theorem dX11_isRight_75 : decode cX11_isRight 75 = .ok (.invokevirtual 153, 3) := by decide +kernel
theorem dX11_isRight_78 : decode cX11_isRight 78 = .ok (.ireturn, 1) := by decide +kernel
theorem dX11_isRight_79 : decode cX11_isRight 79 = .ok (.aload_n 0, 1) := by decide +kernel
theorem dX11_isRight_80 : decode cX11_isRight 80 = .ok (.iload_n 1, 1) := by decide +kernel
theorem dX11_isRight_81 : decode cX11_isRight 81 = .ok (.iload_n 3, 1) := by decide +kernel
theorem dX11_isRight_82 : decode cX11_isRight 82 = .ok (.invokevirtual 153, 3) := by decide +kernel
theorem dX11_isRight_85 : decode cX11_isRight 85 = .ok (.ifCond .eq 17, 3) := by decide +kernel
theorem dX11_isRight_88 : decode cX11_isRight 88 = .ok (.aload_n 0, 1) := by decide +kernel
theorem dX11_isRight_89 : decode cX11_isRight 89 = .ok (.iload_n 1, 1) := by decide +kernel
theorem dX11_isRight_90 : decode cX11_isRight 90 = .ok (.iload 4, 2) := by decide +kernel
theorem dX11_isRight_92 : decode cX11_isRight 92 = .ok (.invokevirtual 153, 3) := by decide +kernel
theorem dX11_isRight_95 : decode cX11_isRight 95 = .ok (.ifCond .eq 7, 3) := by decide +kernel
theorem dX11_isRight_98 : decode cX11_isRight 98 = .ok (.iconst 1, 1) := by decide +kernel
theorem dX11_isRight_99 : decode cX11_isRight 99 = .ok (.goto 4, 3) := by decide +kernel
theorem dX11_isRight_102 : decode cX11_isRight 102 = .ok (.iconst 0, 1) := by decide +kernel
theorem dX11_isRight_103 : decode cX11_isRight 103 = .ok (.ireturn, 1) := by decide +kernel
theorem dX11_isRight_104 : decode cX11_isRight 104 = .ok (.aload_n 0, 1) := by decide +kernel
theorem dX11_isRight_105 : decode cX11_isRight 105 = .ok (.iload_n 1, 1) := by decide +kernel
theorem dX11_isRight_106 : decode cX11_isRight 106 = .ok (.iload_n 3, 1) := by decide +kernel
theorem dX11_isRight_107 : decode cX11_isRight 107 = .ok (.invokevirtual 153, 3) := by decide +kernel
theorem dX11_isRight_110 : decode cX11_isRight 110 = .ok (.ifCond .eq 39, 3) := by decide +kernel
theorem dX11_isRight_113 : decode cX11_isRight 113 = .ok (.iload 4, 2) := by decide +kernel
theorem dX11_isRight_115 : decode cX11_isRight 115 = .ok (.iconst 0, 1) := by decide +kernel
theorem dX11_isRight_116 : decode cX11_isRight 116 = .ok (.bipush 31, 2) := by decide +kernel
theorem dX11_isRight_118 : decode cX11_isRight 118 = .ok (.invokestatic 138, 3) := by decide +kernel
theorem dX11_isRight_121 : decode cX11_isRight 121 = .ok (.ifCond .eq 28, 3) := by decide +kernel
theorem dX11_isRight_124 : decode cX11_isRight 124 = .ok (.iload 7, 2) := by decide +kernel
theorem dX11_isRight_126 : decode cX11_isRight 126 = .ok (.iconst 5, 1) := by decide +kernel
theorem dX11_isRight_127 : decode cX11_isRight 127 = .ok (.if_icmp .ge 22, 3) := by decide +kernel
theorem dX11_isRight_130 : decode cX11_isRight 130 = .ok (.aload_n 0, 1) := by decide +kernel
theorem dX11_isRight_131 : decode cX11_isRight 131 = .ok (.iload 7, 2) := by decide +kernel
theorem dX11_isRight_133 : decode cX11_isRight 133 = .ok (.aload_n 0, 1) := by decide +kernel
theorem dX11_isRight_134 : decode cX11_isRight 134 = .ok (.getfield 17, 3) := by decide +kernel
theorem dX11_isRight_137 : decode cX11_isRight 137 = .ok (.iload_n 1, 1) := by decide +kernel
theorem dX11_isRight_138 : decode cX11_isRight 138 = .ok (.iaload, 1) := by decide +kernel
theorem dX11_isRight_139 : decode cX11_isRight 139 = .ok (.invokevirtual 149, 3) := by decide +kernel
theorem dX11_isRight_142 : decode cX11_isRight 142 = .ok (.ifCond .eq 7, 3) := by decide +kernel
theorem dX11_isRight_145 : decode cX11_isRight 145 = .ok (.iconst 1, 1) := by decide +kernel
theorem dX11_isRight_146 : decode cX11_isRight 146 = .ok (.goto 4, 3) := by decide +kernel
theorem dX11_isRight_149 : decode cX11_isRight 149 = .ok (.iconst 0, 1) := by decide +kernel
theorem dX11_isRight_150 : decode cX11_isRight 150 = .ok (.ireturn, 1) := by decide +kernel
theorem dX11_isRight_151 : decode cX11_isRight 151 = .ok (.aload_n 0, 1) := by decide +kernel
theorem dX11_isRight_152 : decode cX11_isRight 152 = .ok (.iload_n 1, 1) := by decide +kernel
theorem dX11_isRight_153 : decode cX11_isRight 153 = .ok (.iload_n 3, 1) := by decide +kernel
theorem dX11_isRight_154 : decode cX11_isRight 154 = .ok (.invokevirtual 153, 3) := by decide +kernel
theorem dX11_isRight_157 : decode cX11_isRight 157 = .ok (.ifCond .eq 37, 3) := by decide +kernel
theorem dX11_isRight_160 : decode cX11_isRight 160 = .ok (.aload_n 0, 1) := by decide +kernel
theorem dX11_isRight_161 : decode cX11_isRight 161 = .ok (.iload_n 1, 1) := by decide +kernel
theorem dX11_isRight_162 : decode cX11_isRight 162 = .ok (.iload 4, 2) := by decide +kernel
theorem dX11_isRight_164 : decode cX11_isRight 164 = .ok (.invokevirtual 153, 3) := by decide +kernel
theorem dX11_isRight_167 : decode cX11_isRight 167 = .ok (.ifCond .eq 27, 3) := by decide +kernel
theorem dX11_isRight_170 : decode cX11_isRight 170 = .ok (.aload_n 0, 1) := by decide +kernel
theorem dX11_isRight_171 : decode cX11_isRight 171 = .ok (.iload_n 1, 1) := by decide +kernel
theorem dX11_isRight_172 : decode cX11_isRight 172 = .ok (.iload 5, 2) := by decide +kernel
theorem dX11_isRight_174 : decode cX11_isRight 174 = .ok (.invokevirtual 153, 3) := by decide +kernel
theorem dX11_isRight_177 : decode cX11_isRight 177 = .ok (.ifCond .eq 17, 3) := by decide +kernel
theorem dX11_isRight_180 : decode cX11_isRight 180 = .ok (.iload 6, 2) := by decide +kernel
theorem dX11_isRight_182 : decode cX11_isRight 182 = .ok (.iconst 0, 1) := by decide +kernel
theorem dX11_isRight_183 : decode cX11_isRight 183 = .ok (.iconst 4, 1) := by decide +kernel
theorem dX11_isRight_184 : decode cX11_isRight 184 = .ok (.invokestatic 138, 3) := by decide +kernel
theorem dX11_isRight_187 : decode cX11_isRight 187 = .ok (.ifCond .eq 7, 3) := by decide +kernel
theorem dX11_isRight_190 : decode cX11_isRight 190 = .ok (.iconst 1, 1) := by decide +kernel
theorem dX11_isRight_191 : decode cX11_isRight 191 = .ok (.goto 4, 3) := by decide +kernel
theorem dX11_isRight_194 : decode cX11_isRight 194 = .ok (.iconst 0, 1) := by decide +kernel
theorem dX11_isRight_195 : decode cX11_isRight 195 = .ok (.ireturn, 1) := by decide +kernel
theorem dX11_isRight_196 : decode cX11_isRight 196 = .ok (.aload_n 0, 1) := by decide +kernel
theorem dX11_isRight_197 : decode cX11_isRight 197 = .ok (.iload_n 1, 1) := by decide +kernel
theorem dX11_isRight_198 : decode cX11_isRight 198 = .ok (.iload_n 3, 1) := by decide +kernel
theorem dX11_isRight_199 : decode cX11_isRight 199 = .ok (.invokevirtual 153, 3) := by decide +kernel
theorem dX11_isRight_202 : decode cX11_isRight 202 = .ok (.ifCond .eq 27, 3) := by decide +kernel
theorem dX11_isRight_205 : decode cX11_isRight 205 = .ok (.aload_n 0, 1) := by decide +kernel
theorem dX11_isRight_206 : decode cX11_isRight 206 = .ok (.iload_n 1, 1) := by decide +kernel
theorem dX11_isRight_207 : decode cX11_isRight 207 = .ok (.iload 4, 2) := by decide +kernel
theorem dX11_isRight_209 : decode cX11_isRight 209 = .ok (.invokevirtual 153, 3) := by decide +kernel
theorem dX11_isRight_212 : decode cX11_isRight 212 = .ok (.ifCond .eq 17, 3) := by decide +kernel
theorem dX11_isRight_215 : decode cX11_isRight 215 = .ok (.iload 5, 2) := by decide +kernel
theorem dX11_isRight_217 : decode cX11_isRight 217 = .ok (.iconst 0, 1) := by decide +kernel
theorem dX11_isRight_218 : decode cX11_isRight 218 = .ok (.iconst 5, 1) := by decide +kernel
theorem dX11_isRight_219 : decode cX11_isRight 219 = .ok (.invokestatic 138, 3) := by decide +kernel
theorem dX11_isRight_222 : decode cX11_isRight 222 = .ok (.ifCond .eq 7, 3) := by decide +kernel
theorem dX11_isRight_225 : decode cX11_isRight 225 = .ok (.iconst 1, 1) := by decide +kernel
theorem dX11_isRight_226 : decode cX11_isRight 226 = .ok (.goto 4, 3) := by decide +kernel
theorem dX11_isRight_229 : decode cX11_isRight 229 = .ok (.iconst 0, 1) := by decide +kernel
theorem dX11_isRight_230 : decode cX11_isRight 230 = .ok (.ireturn, 1) := by decide +kernel
theorem dX11_isRight_231 : decode cX11_isRight 231 = .ok (.iload_n 3, 1) := by decide +kernel
theorem dX11_isRight_232 : decode cX11_isRight 232 = .ok (.invokestatic 156, 3) := by decide +kernel
theorem dX11_isRight_235 : decode cX11_isRight 235 = .ok (.ireturn, 1) := by decide +kernel
theorem dX11_isRight_236 : decode cX11_isRight 236 = .ok (.aload_n 0, 1) := by decide +kernel
theorem dX11_isRight_237 : decode cX11_isRight 237 = .ok (.iload_n 1, 1) := by decide +kernel
theorem dX11_isRight_238 : decode cX11_isRight 238 = .ok (.iload_n 3, 1) := by decide +kernel
theorem dX11_isRight_239 : decode cX11_isRight 239 = .ok (.invokevirtual 153, 3) := by decide +kernel
theorem dX11_isRight_242 : decode cX11_isRight 242 = .ok (.ifCond .eq 26, 3) := by decide +kernel
theorem dX11_isRight_245 : decode cX11_isRight 245 = .ok (.iload 4, 2) := by decide +kernel
theorem dX11_isRight_247 : decode cX11_isRight 247 = .ok (.iconst 0, 1) := by decide +kernel
theorem dX11_isRight_248 : decode cX11_isRight 248 = .ok (.bipush 31, 2) := by decide +kernel
theorem dX11_isRight_250 : decode cX11_isRight 250 = .ok (.invokestatic 138, 3) := by decide +kernel
theorem dX11_isRight_253 : decode cX11_isRight 253 = .ok (.ifCond .eq 15, 3) := by decide +kernel
theorem dX11_isRight_256 : decode cX11_isRight 256 = .ok (.iload 5, 2) := by decide +kernel
theorem dX11_isRight_258 : decode cX11_isRight 258 = .ok (.invokestatic 156, 3) := by decide +kernel
theorem dX11_isRight_261 : decode cX11_isRight 261 = .ok (.ifCond .eq 7, 3) := by decide +kernel
theorem dX11_isRight_264 : decode cX11_isRight 264 = .ok (.iconst 1, 1) := by decide +kernel
theorem dX11_isRight_265 : decode cX11_isRight 265 = .ok (.goto 4, 3) := by decide +kernel
theorem dX11_isRight_268 : decode cX11_isRight 268 = .ok (.iconst 0, 1) := by decide +kernel
theorem dX11_isRight_269 : decode cX11_isRight 269 = .ok (.ireturn, 1) := by decide +kernel
theorem dX11_isRight_270 : decode cX11_isRight 270 = .ok (.iload_n 3, 1) := by decide +kernel
theorem dX11_isRight_271 : decode cX11_isRight 271 = .ok (.iconst 0, 1) := by decide +kernel
theorem dX11_isRight_272 : decode cX11_isRight 272 = .ok (.aload_n 0, 1) := by decide +kernel
theorem dX11_isRight_273 : decode cX11_isRight 273 = .ok (.getfield 146, 3) := by decide +kernel
theorem dX11_isRight_276 : decode cX11_isRight 276 = .ok (.iconst 1, 1) := by decide +kernel
theorem dX11_isRight_277 : decode cX11_isRight 277 = .ok (.isub, 1) := by decide +kernel
theorem dX11_isRight_278 : decode cX11_isRight 278 = .ok (.invokestatic 138, 3) := by decide +kernel
theorem dX11_isRight_281 : decode cX11_isRight 281 = .ok (.ifCond .eq 40, 3) := by decide +kernel
theorem dX11_isRight_284 : decode cX11_isRight 284 = .ok (.iload 7, 2) := by decide +kernel
theorem dX11_isRight_286 : decode cX11_isRight 286 = .ok (.aload_n 0, 1) := by decide +kernel
theorem dX11_isRight_287 : decode cX11_isRight 287 = .ok (.getfield 20, 3) := by decide +kernel
theorem dX11_isRight_290 : decode cX11_isRight 290 = .ok (.iload_n 3, 1) := by decide +kernel
theorem dX11_isRight_291 : decode cX11_isRight 291 = .ok (.iaload, 1) := by decide +kernel
theorem dX11_isRight_292 : decode cX11_isRight 292 = .ok (.aload_n 0, 1) := by decide +kernel
theorem dX11_isRight_293 : decode cX11_isRight 293 = .ok (.getfield 23, 3) := by decide +kernel
theorem dX11_isRight_296 : decode cX11_isRight 296 = .ok (.iload_n 3, 1) := by decide +kernel
theorem dX11_isRight_297 : decode cX11_isRight 297 = .ok (.iaload, 1) := by decide +kernel
theorem dX11_isRight_298 : decode cX11_isRight 298 = .ok (.iadd, 1) := by decide +kernel
theorem dX11_isRight_299 : decode cX11_isRight 299 = .ok (.if_icmp .ne 22, 3) := by decide +kernel
theorem dX11_isRight_302 : decode cX11_isRight 302 = .ok (.aload_n 0, 1) := by decide +kernel
theorem dX11_isRight_303 : decode cX11_isRight 303 = .ok (.iload 7, 2) := by decide +kernel
theorem dX11_isRight_305 : decode cX11_isRight 305 = .ok (.aload_n 0, 1) := by decide +kernel
theorem dX11_isRight_306 : decode cX11_isRight 306 = .ok (.getfield 17, 3) := by decide +kernel
theorem dX11_isRight_309 : decode cX11_isRight 309 = .ok (.iload_n 1, 1) := by decide +kernel
theorem dX11_isRight_310 : decode cX11_isRight 310 = .ok (.iaload, 1) := by decide +kernel
theorem dX11_isRight_311 : decode cX11_isRight 311 = .ok (.invokevirtual 149, 3) := by decide +kernel
theorem dX11_isRight_314 : decode cX11_isRight 314 = .ok (.ifCond .eq 7, 3) := by decide +kernel
theorem dX11_isRight_317 : decode cX11_isRight 317 = .ok (.iconst 1, 1) := by decide +kernel
theorem dX11_isRight_318 : decode cX11_isRight 318 = .ok (.goto 4, 3) := by decide +kernel
theorem dX11_isRight_321 : decode cX11_isRight 321 = .ok (.iconst 0, 1) := by decide +kernel
theorem dX11_isRight_322 : decode cX11_isRight 322 = .ok (.ireturn, 1) := by decide +kernel
theorem dX11_isRight_323 : decode cX11_isRight 323 = .ok (.iload_n 2, 1) := by decide +kernel
theorem dX11_isRight_324 : decode cX11_isRight 324 = .ok (.bipush 14, 2) := by decide +kernel
theorem dX11_isRight_326 : decode cX11_isRight 326 = .ok (.if_icmp .eq 9, 3) := by decide +kernel
theorem dX11_isRight_329 : decode cX11_isRight 329 = .ok (.iload_n 2, 1) := by decide +kernel
theorem dX11_isRight_330 : decode cX11_isRight 330 = .ok (.bipush 15, 2) := by decide +kernel
theorem dX11_isRight_332 : decode cX11_isRight 332 = .ok (.if_icmp .ne 7, 3) := by decide +kernel
theorem dX11_isRight_335 : decode cX11_isRight 335 = .ok (.iconst 1, 1) := by decide +kernel
theorem dX11_isRight_336 : decode cX11_isRight 336 = .ok (.goto 4, 3) := by decide +kernel
theorem dX11_isRight_339 : decode cX11_isRight 339 = .ok (.iconst 0, 1) := by decide +kernel
theorem dX11_isRight_340 : decode cX11_isRight 340 = .ok (.ireturn, 1) := by decide +kernel
theorem dX11_add_0 : decode cX11_add 0 = .ok (.aload_n 0, 1) := by decide +kernel
theorem dX11_add_1 : decode cX11_add 1 = .ok (.iconst 0, 1) := by decide +kernel
theorem dX11_add_2 : decode cX11_add 2 = .ok (.putfield 132, 3) := by decide +kernel
theorem dX11_add_5 : decode cX11_add 5 = .ok (.aload_n 0, 1) := by decide +kernel
theorem dX11_add_6 : decode cX11_add 6 = .ok (.invokevirtual 142, 3) := by decide +kernel
theorem dX11_add_9 : decode cX11_add 9 = .ok (.istore 7, 2) := by decide +kernel
theorem dX11_add_11 : decode cX11_add 11 = .ok (.aload_n 0, 1) := by decide +kernel
theorem dX11_add_12 : decode cX11_add 12 = .ok (.getfield 160, 3) := by decide +kernel
theorem dX11_add_15 : decode cX11_add 15 = .ok (.sipush 2000, 3) := by decide +kernel
theorem dX11_add_18 : decode cX11_add 18 = .ok (.if_icmp .eq 35, 3) := by decide +kernel
theorem dX11_add_21 : decode cX11_add 21 = .ok (.iload_n 1, 1) := by decide +kernel
theorem dX11_add_22 : decode cX11_add 22 = .ok (.iconst 0, 1) := by decide +kernel
theorem dX11_add_23 : decode cX11_add 23 = .ok (.aload_n 0, 1) := by decide +kernel
theorem dX11_add_24 : decode cX11_add 24 = .ok (.getfield 146, 3) := by decide +kernel
theorem dX11_add_27 : decode cX11_add 27 = .ok (.iconst 1, 1) := by decide +kernel
theorem dX11_add_28 : decode cX11_add 28 = .ok (.isub, 1) := by decide +kernel
theorem dX11_add_29 : decode cX11_add 29 = .ok (.invokestatic 138, 3) := by decide +kernel
theorem dX11_add_32 : decode cX11_add 32 = .ok (.ifCond .eq 21, 3) := by decide +kernel
theorem dX11_add_35 : decode cX11_add 35 = .ok (.aload_n 0, 1) := by decide +kernel
theorem dX11_add_36 : decode cX11_add 36 = .ok (.iload_n 1, 1) := by decide +kernel
theorem dX11_add_37 : decode cX11_add 37 = .ok (.iload_n 2, 1) := by decide +kernel
theorem dX11_add_38 : decode cX11_add 38 = .ok (.iload_n 3, 1) := by decide +kernel
theorem dX11_add_39 : decode cX11_add 39 = .ok (.iload 4, 2) := by decide +kernel
theorem dX11_add_41 : decode cX11_add 41 = .ok (.iload 5, 2) := by decide +kernel
theorem dX11_add_43 : decode cX11_add 43 = .ok (.iload 6, 2) := by decide +kernel
theorem dX11_add_45 : decode cX11_add 45 = .ok (.iload 7, 2) := by decide +kernel
theorem dX11_add_47 : decode cX11_add 47 = .ok (.invokevirtual 163, 3) := by decide +kernel
theorem dX11_add_50 : decode cX11_add 50 = .ok (.ifCond .ne 5, 3) := by decide +kernel
theorem dX11_add_53 : decode cX11_add 53 = .ok (.iconst (-1), 1) := by decide +kernel
theorem dX11_add_54 : decode cX11_add 54 = .ok (.ireturn, 1) := by decide +kernel
theorem dX11_add_55 : decode cX11_add 55 = .ok (.aload_n 0, 1) := by decide +kernel
theorem dX11_add_56 : decode cX11_add 56 = .ok (.getfield 160, 3) := by decide +kernel
theorem dX11_add_59 : decode cX11_add 59 = .ok (.istore 8, 2) := by decide +kernel
theorem dX11_add_61 : decode cX11_add 61 = .ok (.aload_n 0, 1) := by decide +kernel
theorem dX11_add_62 : decode cX11_add 62 = .ok (.getfield 36, 3) := by decide +kernel
theorem dX11_add_65 : decode cX11_add 65 = .ok (.iload 8, 2) := by decide +kernel
theorem dX11_add_67 : decode cX11_add 67 = .ok (.iload_n 2, 1) := by decide +kernel
theorem dX11_add_68 : decode cX11_add 68 = .ok (.iastore, 1) := by decide +kernel
theorem dX11_add_69 : decode cX11_add 69 = .ok (.aload_n 0, 1) := by decide +kernel
theorem dX11_add_70 : decode cX11_add 70 = .ok (.getfield 39, 3) := by decide +kernel
theorem dX11_add_73 : decode cX11_add 73 = .ok (.iload 8, 2) := by decide +kernel
theorem dX11_add_75 : decode cX11_add 75 = .ok (.iload_n 3, 1) := by decide +kernel
theorem dX11_add_76 : decode cX11_add 76 = .ok (.iastore, 1) := by decide +kernel
theorem dX11_add_77 : decode cX11_add 77 = .ok (.aload_n 0, 1) := by decide +kernel
theorem dX11_add_78 : decode cX11_add 78 = .ok (.getfield 42, 3) := by decide +kernel
theorem dX11_add_81 : decode cX11_add 81 = .ok (.iload 8, 2) := by decide +kernel
theorem dX11_add_83 : decode cX11_add 83 = .ok (.iload 4, 2) := by decide +kernel
theorem dX11_add_85 : decode cX11_add 85 = .ok (.iastore, 1) := by decide +kernel
theorem dX11_add_86 : decode cX11_add 86 = .ok (.aload_n 0, 1) := by decide +kernel
theorem dX11_add_87 : decode cX11_add 87 = .ok (.getfield 45, 3) := by decide +kernel
theorem dX11_add_90 : decode cX11_add 90 = .ok (.iload 8, 2) := by decide +kernel
theorem dX11_add_92 : decode cX11_add 92 = .ok (.iload 5, 2) := by decide +kernel
theorem dX11_add_94 : decode cX11_add 94 = .ok (.iastore, 1) := by decide +kernel
theorem dX11_add_95 : decode cX11_add 95 = .ok (.aload_n 0, 1) := by decide +kernel
theorem dX11_add_96 : decode cX11_add 96 = .ok (.getfield 48, 3) := by decide +kernel
theorem dX11_add_99 : decode cX11_add 99 = .ok (.iload 8, 2) := by decide +kernel
theorem dX11_add_101 : decode cX11_add 101 = .ok (.iload 6, 2) := by decide +kernel
theorem dX11_add_103 : decode cX11_add 103 = .ok (.iastore, 1) := by decide +kernel
theorem dX11_add_104 : decode cX11_add 104 = .ok (.aload_n 0, 1) := by decide +kernel
theorem dX11_add_105 : decode cX11_add 105 = .ok (.getfield 51, 3) := by decide +kernel
theorem dX11_add_108 : decode cX11_add 108 = .ok (.iload 8, 2) := by decide +kernel
theorem dX11_add_110 : decode cX11_add 110 = .ok (.iload 7, 2) := by decide +kernel
theorem dX11_add_112 : decode cX11_add 112 = .ok (.iastore, 1) := by decide +kernel
theorem dX11_add_113 : decode cX11_add 113 = .ok (.iconst 0, 1) := by decide +kernel
theorem dX11_add_114 : decode cX11_add 114 = .ok (.istore 9, 2) := by decide +kernel
theorem dX11_add_116 : decode cX11_add 116 = .ok (.iload 9, 2) := by decide +kernel
theorem dX11_add_118 : decode cX11_add 118 = .ok (.iload 7, 2) := by decide +kernel
theorem dX11_add_120 : decode cX11_add 120 = .ok (.if_icmp .ge 29, 3) := by decide +kernel
theorem dX11_add_123 : decode cX11_add 123 = .ok (.aload_n 0, 1) := by decide +kernel
theorem dX11_add_124 : decode cX11_add 124 = .ok (.getfield 54, 3) := by decide +kernel
theorem dX11_add_127 : decode cX11_add 127 = .ok (.bipush 10, 2) := by decide +kernel
theorem dX11_add_129 : decode cX11_add 129 = .ok (.iload 8, 2) := by decide +kernel
theorem dX11_add_131 : decode cX11_add 131 = .ok (.imul, 1) := by decide +kernel
theorem dX11_add_132 : decode cX11_add 132 = .ok (.iload 9, 2) := by decide +kernel
theorem dX11_add_134 : decode cX11_add 134 = .ok (.iadd, 1) := by decide +kernel
theorem dX11_add_135 : decode cX11_add 135 = .ok (.aload_n 0, 1) := by decide +kernel
theorem dX11_add_136 : decode cX11_add 136 = .ok (.getfield 7, 3) := by decide +kernel
theorem dX11_add_139 : decode cX11_add 139 = .ok (.iload 9, 2) := by decide +kernel
theorem dX11_add_141 : decode cX11_add 141 = .ok (.iaload, 1) := by decide +kernel
theorem dX11_add_142 : decode cX11_add 142 = .ok (.iastore, 1) := by decide +kernel
theorem dX11_add_143 : decode cX11_add 143 = .ok (.iinc 9 1, 3) := by decide +kernel
theorem dX11_add_146 : decode cX11_add 146 = .ok (.goto (-30), 3) := by decide +kernel
theorem dX11_add_149 : decode cX11_add 149 = .ok (.aload_n 0, 1) := by decide +kernel
theorem dX11_add_150 : decode cX11_add 150 = .ok (.dup, 1) := by decide +kernel
theorem dX11_add_151 : decode cX11_add 151 = .ok (.getfield 160, 3) := by decide +kernel
theorem dX11_add_154 : decode cX11_add 154 = .ok (.iconst 1, 1) := by decide +kernel
theorem dX11_add_155 : decode cX11_add 155 = .ok (.iadd, 1) := by decide +kernel
theorem dX11_add_156 : decode cX11_add 156 = .ok (.putfield 160, 3) := by decide +kernel
theorem dX11_add_159 : decode cX11_add 159 = .ok (.aload_n 0, 1) := by decide +kernel
theorem dX11_add_160 : decode cX11_add 160 = .ok (.getfield 33, 3) := by decide +kernel
theorem dX11_add_163 : decode cX11_add 163 = .ok (.sipush 2000, 3) := by decide +kernel
theorem dX11_add_166 : decode cX11_add 166 = .ok (.iload_n 1, 1) := by decide +kernel
theorem dX11_add_167 : decode cX11_add 167 = .ok (.imul, 1) := by decide +kernel
theorem dX11_add_168 : decode cX11_add 168 = .ok (.aload_n 0, 1) := by decide +kernel
theorem dX11_add_169 : decode cX11_add 169 = .ok (.getfield 29, 3) := by decide +kernel
theorem dX11_add_172 : decode cX11_add 172 = .ok (.iload_n 1, 1) := by decide +kernel
theorem dX11_add_173 : decode cX11_add 173 = .ok (.iaload, 1) := by decide +kernel
theorem dX11_add_174 : decode cX11_add 174 = .ok (.iadd, 1) := by decide +kernel
theorem dX11_add_175 : decode cX11_add 175 = .ok (.iload 8, 2) := by decide +kernel
theorem dX11_add_177 : decode cX11_add 177 = .ok (.iastore, 1) := by decide +kernel
theorem dX11_add_178 : decode cX11_add 178 = .ok (.aload_n 0, 1) := by decide +kernel
theorem dX11_add_179 : decode cX11_add 179 = .ok (.getfield 29, 3) := by decide +kernel
theorem dX11_add_182 : decode cX11_add 182 = .ok (.iload_n 1, 1) := by decide +kernel
theorem dX11_add_183 : decode cX11_add 183 = .ok (.dup2, 1) := by decide +kernel
theorem dX11_add_184 : decode cX11_add 184 = .ok (.iaload, 1) := by decide +kernel
theorem dX11_add_185 : decode cX11_add 185 = .ok (.iconst 1, 1) := by decide +kernel
theorem dX11_add_186 : decode cX11_add 186 = .ok (.iadd, 1) := by decide +kernel
theorem dX11_add_187 : decode cX11_add 187 = .ok (.iastore, 1) := by decide +kernel
theorem dX11_add_188 : decode cX11_add 188 = .ok (.aload_n 0, 1) := by decide +kernel
theorem dX11_add_189 : decode cX11_add 189 = .ok (.getfield 29, 3) := by decide +kernel
theorem dX11_add_192 : decode cX11_add 192 = .ok (.iload_n 1, 1) := by decide +kernel
theorem dX11_add_193 : decode cX11_add 193 = .ok (.iaload, 1) := by decide +kernel
theorem dX11_add_194 : decode cX11_add 194 = .ok (.iconst 1, 1) := by decide +kernel
theorem dX11_add_195 : decode cX11_add 195 = .ok (.isub, 1) := by decide +kernel
theorem dX11_add_196 : decode cX11_add 196 = .ok (.ireturn, 1) := by decide +kernel
theorem dX11_sizeOf_0 : decode cX11_sizeOf 0 = .ok (.aload_n 0, 1) := by decide +kernel
theorem dX11_sizeOf_1 : decode cX11_sizeOf 1 = .ok (.getfield 70, 3) := by decide +kernel
theorem dX11_sizeOf_4 : decode cX11_sizeOf 4 = .ok (.iload_n 1, 1) := by decide +kernel
theorem dX11_sizeOf_5 : decode cX11_sizeOf 5 = .ok (.baload, 1) := by decide +kernel
theorem dX11_sizeOf_6 : decode cX11_sizeOf 6 = .ok (.ifCond .eq 19, 3) := by decide +kernel
theorem dX11_sizeOf_9 : decode cX11_sizeOf 9 = .ok (.iconst 2, 1) := by decide +kernel
theorem dX11_sizeOf_10 : decode cX11_sizeOf 10 = .ok (.aload_n 0, 1) := by decide +kernel
theorem dX11_sizeOf_11 : decode cX11_sizeOf 11 = .ok (.getfield 17, 3) := by decide +kernel
theorem dX11_sizeOf_14 : decode cX11_sizeOf 14 = .ok (.aload_n 0, 1) := by decide +kernel
theorem dX11_sizeOf_15 : decode cX11_sizeOf 15 = .ok (.getfield 73, 3) := by decide +kernel
theorem dX11_sizeOf_18 : decode cX11_sizeOf 18 = .ok (.iload_n 1, 1) := by decide +kernel
theorem dX11_sizeOf_19 : decode cX11_sizeOf 19 = .ok (.iaload, 1) := by decide +kernel
theorem dX11_sizeOf_20 : decode cX11_sizeOf 20 = .ok (.iaload, 1) := by decide +kernel
theorem dX11_sizeOf_21 : decode cX11_sizeOf 21 = .ok (.iadd, 1) := by decide +kernel
theorem dX11_sizeOf_22 : decode cX11_sizeOf 22 = .ok (.goto 4, 3) := by decide +kernel
theorem dX11_sizeOf_25 : decode cX11_sizeOf 25 = .ok (.iconst 3, 1) := by decide +kernel
theorem dX11_sizeOf_26 : decode cX11_sizeOf 26 = .ok (.ireturn, 1) := by decide +kernel
theorem dX11_grow_0 : decode cX11_grow 0 = .ok (.aload_n 0, 1) := by decide +kernel
theorem dX11_grow_1 : decode cX11_grow 1 = .ok (.dup, 1) := by decide +kernel
theorem dX11_grow_2 : decode cX11_grow 2 = .ok (.getfield 167, 3) := by decide +kernel
theorem dX11_grow_5 : decode cX11_grow 5 = .ok (.iload_n 1, 1) := by decide +kernel
theorem dX11_grow_6 : decode cX11_grow 6 = .ok (.iadd, 1) := by decide +kernel
theorem dX11_grow_7 : decode cX11_grow 7 = .ok (.putfield 167, 3) := by decide +kernel
theorem dX11_grow_10 : decode cX11_grow 10 = .ok (.aload_n 0, 1) := by decide +kernel
theorem dX11_grow_11 : decode cX11_grow 11 = .ok (.aload_n 0, 1) := by decide +kernel
theorem dX11_grow_12 : decode cX11_grow 12 = .ok (.getfield 167, 3) := by decide +kernel
theorem dX11_grow_15 : decode cX11_grow 15 = .ok (.aload_n 0, 1) := by decide +kernel
theorem dX11_grow_16 : decode cX11_grow 16 = .ok (.getfield 170, 3) := by decide +kernel
theorem dX11_grow_19 : decode cX11_grow 19 = .ok (.if_icmp .le 10, 3) := by decide +kernel
theorem dX11_grow_22 : decode cX11_grow 22 = .ok (.aload_n 0, 1) := by decide +kernel
theorem dX11_grow_23 : decode cX11_grow 23 = .ok (.getfield 167, 3) := by decide +kernel
theorem dX11_grow_26 : decode cX11_grow 26 = .ok (.goto 7, 3) := by decide +kernel
theorem dX11_grow_29 : decode cX11_grow 29 = .ok (.aload_n 0, 1) := by decide +kernel
theorem dX11_grow_30 : decode cX11_grow 30 = .ok (.getfield 170, 3) := by decide +kernel
theorem dX11_grow_33 : decode cX11_grow 33 = .ok (.putfield 170, 3) := by decide +kernel
theorem dX11_grow_36 : decode cX11_grow 36 = .ok (.return_, 1) := by decide +kernel
theorem dX11_dropFrom_0 : decode cX11_dropFrom 0 = .ok (.aload_n 0, 1) := by decide +kernel
theorem dX11_dropFrom_1 : decode cX11_dropFrom 1 = .ok (.getfield 173, 3) := by decide +kernel
theorem dX11_dropFrom_4 : decode cX11_dropFrom 4 = .ok (.iload_n 1, 1) := by decide +kernel
theorem dX11_dropFrom_5 : decode cX11_dropFrom 5 = .ok (.if_icmp .le 58, 3) := by decide +kernel
theorem dX11_dropFrom_8 : decode cX11_dropFrom 8 = .ok (.aload_n 0, 1) := by decide +kernel
theorem dX11_dropFrom_9 : decode cX11_dropFrom 9 = .ok (.dup, 1) := by decide +kernel
theorem dX11_dropFrom_10 : decode cX11_dropFrom 10 = .ok (.getfield 173, 3) := by decide +kernel
theorem dX11_dropFrom_13 : decode cX11_dropFrom 13 = .ok (.iconst 1, 1) := by decide +kernel
theorem dX11_dropFrom_14 : decode cX11_dropFrom 14 = .ok (.isub, 1) := by decide +kernel
theorem dX11_dropFrom_15 : decode cX11_dropFrom 15 = .ok (.putfield 173, 3) := by decide +kernel
theorem dX11_dropFrom_18 : decode cX11_dropFrom 18 = .ok (.aload_n 0, 1) := by decide +kernel
theorem dX11_dropFrom_19 : decode cX11_dropFrom 19 = .ok (.dup, 1) := by decide +kernel
theorem dX11_dropFrom_20 : decode cX11_dropFrom 20 = .ok (.getfield 167, 3) := by decide +kernel
theorem dX11_dropFrom_23 : decode cX11_dropFrom 23 = .ok (.aload_n 0, 1) := by decide +kernel
theorem dX11_dropFrom_24 : decode cX11_dropFrom 24 = .ok (.aload_n 0, 1) := by decide +kernel
theorem dX11_dropFrom_25 : decode cX11_dropFrom 25 = .ok (.getfield 173, 3) := by decide +kernel
theorem dX11_dropFrom_28 : decode cX11_dropFrom 28 = .ok (.invokevirtual 176, 3) := by decide +kernel
theorem dX11_dropFrom_31 : decode cX11_dropFrom 31 = .ok (.isub, 1) := by decide +kernel
theorem dX11_dropFrom_32 : decode cX11_dropFrom 32 = .ok (.putfield 167, 3) := by decide +kernel
theorem dX11_dropFrom_35 : decode cX11_dropFrom 35 = .ok (.aload_n 0, 1) := by decide +kernel
theorem dX11_dropFrom_36 : decode cX11_dropFrom 36 = .ok (.getfield 70, 3) := by decide +kernel
theorem dX11_dropFrom_39 : decode cX11_dropFrom 39 = .ok (.aload_n 0, 1) := by decide +kernel
theorem dX11_dropFrom_40 : decode cX11_dropFrom 40 = .ok (.getfield 173, 3) := by decide +kernel
theorem dX11_dropFrom_43 : decode cX11_dropFrom 43 = .ok (.baload, 1) := by decide +kernel
theorem dX11_dropFrom_44 : decode cX11_dropFrom 44 = .ok (.ifCond .eq (-44), 3) := by decide +kernel
theorem dX11_dropFrom_47 : decode cX11_dropFrom 47 = .ok (.aload_n 0, 1) := by decide +kernel
theorem dX11_dropFrom_48 : decode cX11_dropFrom 48 = .ok (.aload_n 0, 1) := by decide +kernel
theorem dX11_dropFrom_49 : decode cX11_dropFrom 49 = .ok (.getfield 76, 3) := by decide +kernel
theorem dX11_dropFrom_52 : decode cX11_dropFrom 52 = .ok (.aload_n 0, 1) := by decide +kernel
theorem dX11_dropFrom_53 : decode cX11_dropFrom 53 = .ok (.getfield 173, 3) := by decide +kernel
theorem dX11_dropFrom_56 : decode cX11_dropFrom 56 = .ok (.iaload, 1) := by decide +kernel
theorem dX11_dropFrom_57 : decode cX11_dropFrom 57 = .ok (.putfield 180, 3) := by decide +kernel
theorem dX11_dropFrom_60 : decode cX11_dropFrom 60 = .ok (.goto (-60), 3) := by decide +kernel
theorem dX11_dropFrom_63 : decode cX11_dropFrom 63 = .ok (.return_, 1) := by decide +kernel
theorem dX11_redos_0 : decode cX11_redos 0 = .ok (.iconst 0, 1) := by decide +kernel
theorem dX11_redos_1 : decode cX11_redos 1 = .ok (.istore_n 1, 1) := by decide +kernel
theorem dX11_redos_2 : decode cX11_redos 2 = .ok (.iconst 0, 1) := by decide +kernel
theorem dX11_redos_3 : decode cX11_redos 3 = .ok (.istore_n 2, 1) := by decide +kernel
theorem dX11_redos_4 : decode cX11_redos 4 = .ok (.iload_n 2, 1) := by decide +kernel
theorem dX11_redos_5 : decode cX11_redos 5 = .ok (.aload_n 0, 1) := by decide +kernel
theorem dX11_redos_6 : decode cX11_redos 6 = .ok (.getfield 173, 3) := by decide +kernel
theorem dX11_redos_9 : decode cX11_redos 9 = .ok (.if_icmp .ge 26, 3) := by decide +kernel
theorem dX11_redos_12 : decode cX11_redos 12 = .ok (.iload_n 1, 1) := by decide +kernel
theorem dX11_redos_13 : decode cX11_redos 13 = .ok (.aload_n 0, 1) := by decide +kernel
theorem dX11_redos_14 : decode cX11_redos 14 = .ok (.getfield 70, 3) := by decide +kernel
theorem dX11_redos_17 : decode cX11_redos 17 = .ok (.iload_n 2, 1) := by decide +kernel
theorem dX11_redos_18 : decode cX11_redos 18 = .ok (.baload, 1) := by decide +kernel
theorem dX11_redos_19 : decode cX11_redos 19 = .ok (.ifCond .eq 7, 3) := by decide +kernel
theorem dX11_redos_22 : decode cX11_redos 22 = .ok (.iconst 0, 1) := by decide +kernel
theorem dX11_redos_23 : decode cX11_redos 23 = .ok (.goto 4, 3) := by decide +kernel
theorem dX11_redos_26 : decode cX11_redos 26 = .ok (.iconst 1, 1) := by decide +kernel
theorem dX11_redos_27 : decode cX11_redos 27 = .ok (.iadd, 1) := by decide +kernel
theorem dX11_redos_28 : decode cX11_redos 28 = .ok (.istore_n 1, 1) := by decide +kernel
theorem dX11_redos_29 : decode cX11_redos 29 = .ok (.iinc 2 1, 3) := by decide +kernel
theorem dX11_redos_32 : decode cX11_redos 32 = .ok (.goto (-28), 3) := by decide +kernel
theorem dX11_redos_35 : decode cX11_redos 35 = .ok (.iload_n 1, 1) := by decide +kernel
theorem dX11_redos_36 : decode cX11_redos 36 = .ok (.ireturn, 1) := by decide +kernel
theorem dX11_redoAt_0 : decode cX11_redoAt 0 = .ok (.iconst 0, 1) := by decide +kernel
theorem dX11_redoAt_1 : decode cX11_redoAt 1 = .ok (.istore_n 2, 1) := by decide +kernel
theorem dX11_redoAt_2 : decode cX11_redoAt 2 = .ok (.iconst 0, 1) := by decide +kernel
theorem dX11_redoAt_3 : decode cX11_redoAt 3 = .ok (.istore_n 3, 1) := by decide +kernel
theorem dX11_redoAt_4 : decode cX11_redoAt 4 = .ok (.iload_n 3, 1) := by decide +kernel
theorem dX11_redoAt_5 : decode cX11_redoAt 5 = .ok (.aload_n 0, 1) := by decide +kernel
theorem dX11_redoAt_6 : decode cX11_redoAt 6 = .ok (.getfield 173, 3) := by decide +kernel
theorem dX11_redoAt_9 : decode cX11_redoAt 9 = .ok (.if_icmp .ge 31, 3) := by decide +kernel
theorem dX11_redoAt_12 : decode cX11_redoAt 12 = .ok (.aload_n 0, 1) := by decide +kernel
theorem dX11_redoAt_13 : decode cX11_redoAt 13 = .ok (.getfield 70, 3) := by decide +kernel
theorem dX11_redoAt_16 : decode cX11_redoAt 16 = .ok (.iload_n 3, 1) := by decide +kernel
theorem dX11_redoAt_17 : decode cX11_redoAt 17 = .ok (.baload, 1) := by decide +kernel
theorem dX11_redoAt_18 : decode cX11_redoAt 18 = .ok (.ifCond .eq 6, 3) := by decide +kernel
theorem dX11_redoAt_21 : decode cX11_redoAt 21 = .ok (.goto 13, 3) := by decide +kernel
theorem dX11_redoAt_24 : decode cX11_redoAt 24 = .ok (.iload_n 2, 1) := by decide +kernel
theorem dX11_redoAt_25 : decode cX11_redoAt 25 = .ok (.iload_n 1, 1) := by decide +kernel
theorem dX11_redoAt_26 : decode cX11_redoAt 26 = .ok (.if_icmp .ne 5, 3) := by decide +kernel
theorem dX11_redoAt_29 : decode cX11_redoAt 29 = .ok (.iload_n 3, 1) := by decide +kernel
theorem dX11_redoAt_30 : decode cX11_redoAt 30 = .ok (.ireturn, 1) := by decide +kernel
theorem dX11_redoAt_31 : decode cX11_redoAt 31 = .ok (.iinc 2 1, 3) := by decide +kernel
theorem dX11_redoAt_34 : decode cX11_redoAt 34 = .ok (.iinc 3 1, 3) := by decide +kernel
theorem dX11_redoAt_37 : decode cX11_redoAt 37 = .ok (.goto (-33), 3) := by decide +kernel
theorem dX11_redoAt_40 : decode cX11_redoAt 40 = .ok (.iconst (-1), 1) := by decide +kernel
theorem dX11_redoAt_41 : decode cX11_redoAt 41 = .ok (.ireturn, 1) := by decide +kernel
theorem dX11_lastRedo_0 : decode cX11_lastRedo 0 = .ok (.aload_n 0, 1) := by decide +kernel
theorem dX11_lastRedo_1 : decode cX11_lastRedo 1 = .ok (.getfield 173, 3) := by decide +kernel
theorem dX11_lastRedo_4 : decode cX11_lastRedo 4 = .ok (.iconst 1, 1) := by decide +kernel
theorem dX11_lastRedo_5 : decode cX11_lastRedo 5 = .ok (.isub, 1) := by decide +kernel
theorem dX11_lastRedo_6 : decode cX11_lastRedo 6 = .ok (.istore_n 1, 1) := by decide +kernel
theorem dX11_lastRedo_7 : decode cX11_lastRedo 7 = .ok (.iload_n 1, 1) := by decide +kernel
theorem dX11_lastRedo_8 : decode cX11_lastRedo 8 = .ok (.ifCond .lt 18, 3) := by decide +kernel
theorem dX11_lastRedo_11 : decode cX11_lastRedo 11 = .ok (.aload_n 0, 1) := by decide +kernel
theorem dX11_lastRedo_12 : decode cX11_lastRedo 12 = .ok (.getfield 70, 3) := by decide +kernel
theorem dX11_lastRedo_15 : decode cX11_lastRedo 15 = .ok (.iload_n 1, 1) := by decide +kernel
theorem dX11_lastRedo_16 : decode cX11_lastRedo 16 = .ok (.baload, 1) := by decide +kernel
theorem dX11_lastRedo_17 : decode cX11_lastRedo 17 = .ok (.ifCond .eq 9, 3) := by decide +kernel
theorem dX11_lastRedo_20 : decode cX11_lastRedo 20 = .ok (.iinc 1 (-1), 3) := by decide +kernel
theorem dX11_lastRedo_23 : decode cX11_lastRedo 23 = .ok (.goto (-16), 3) := by decide +kernel
theorem dX11_lastRedo_26 : decode cX11_lastRedo 26 = .ok (.iload_n 1, 1) := by decide +kernel
theorem dX11_lastRedo_27 : decode cX11_lastRedo 27 = .ok (.ireturn, 1) := by decide +kernel
theorem dX11_pushFrame_0 : decode cX11_pushFrame 0 = .ok (.aload_n 0, 1) := by decide +kernel
theorem dX11_pushFrame_1 : decode cX11_pushFrame 1 = .ok (.getfield 173, 3) := by decide +kernel
theorem dX11_pushFrame_4 : decode cX11_pushFrame 4 = .ok (.istore 4, 2) := by decide +kernel
theorem dX11_pushFrame_6 : decode cX11_pushFrame 6 = .ok (.aload_n 0, 1) := by decide +kernel
theorem dX11_pushFrame_7 : decode cX11_pushFrame 7 = .ok (.getfield 70, 3) := by decide +kernel
theorem dX11_pushFrame_10 : decode cX11_pushFrame 10 = .ok (.iload 4, 2) := by decide +kernel
theorem dX11_pushFrame_12 : decode cX11_pushFrame 12 = .ok (.iconst 1, 1) := by decide +kernel
theorem dX11_pushFrame_13 : decode cX11_pushFrame 13 = .ok (.bastore, 1) := by decide +kernel
theorem dX11_pushFrame_14 : decode cX11_pushFrame 14 = .ok (.aload_n 0, 1) := by decide +kernel
theorem dX11_pushFrame_15 : decode cX11_pushFrame 15 = .ok (.getfield 73, 3) := by decide +kernel
theorem dX11_pushFrame_18 : decode cX11_pushFrame 18 = .ok (.iload 4, 2) := by decide +kernel
theorem dX11_pushFrame_20 : decode cX11_pushFrame 20 = .ok (.iload_n 1, 1) := by decide +kernel
theorem dX11_pushFrame_21 : decode cX11_pushFrame 21 = .ok (.iastore, 1) := by decide +kernel
theorem dX11_pushFrame_22 : decode cX11_pushFrame 22 = .ok (.aload_n 0, 1) := by decide +kernel
theorem dX11_pushFrame_23 : decode cX11_pushFrame 23 = .ok (.getfield 76, 3) := by decide +kernel
theorem dX11_pushFrame_26 : decode cX11_pushFrame 26 = .ok (.iload 4, 2) := by decide +kernel
theorem dX11_pushFrame_28 : decode cX11_pushFrame 28 = .ok (.aload_n 0, 1) := by decide +kernel
theorem dX11_pushFrame_29 : decode cX11_pushFrame 29 = .ok (.getfield 180, 3) := by decide +kernel
theorem dX11_pushFrame_32 : decode cX11_pushFrame 32 = .ok (.iastore, 1) := by decide +kernel
theorem dX11_pushFrame_33 : decode cX11_pushFrame 33 = .ok (.aload_n 0, 1) := by decide +kernel
theorem dX11_pushFrame_34 : decode cX11_pushFrame 34 = .ok (.getfield 79, 3) := by decide +kernel
theorem dX11_pushFrame_37 : decode cX11_pushFrame 37 = .ok (.iload 4, 2) := by decide +kernel
theorem dX11_pushFrame_39 : decode cX11_pushFrame 39 = .ok (.iconst 0, 1) := by decide +kernel
theorem dX11_pushFrame_40 : decode cX11_pushFrame 40 = .ok (.iastore, 1) := by decide +kernel
theorem dX11_pushFrame_41 : decode cX11_pushFrame 41 = .ok (.aload_n 0, 1) := by decide +kernel
theorem dX11_pushFrame_42 : decode cX11_pushFrame 42 = .ok (.getfield 82, 3) := by decide +kernel
theorem dX11_pushFrame_45 : decode cX11_pushFrame 45 = .ok (.iload 4, 2) := by decide +kernel
theorem dX11_pushFrame_47 : decode cX11_pushFrame 47 = .ok (.iload_n 2, 1) := by decide +kernel
theorem dX11_pushFrame_48 : decode cX11_pushFrame 48 = .ok (.iastore, 1) := by decide +kernel
theorem dX11_pushFrame_49 : decode cX11_pushFrame 49 = .ok (.aload_n 0, 1) := by decide +kernel
theorem dX11_pushFrame_50 : decode cX11_pushFrame 50 = .ok (.getfield 85, 3) := by decide +kernel
theorem dX11_pushFrame_53 : decode cX11_pushFrame 53 = .ok (.iload 4, 2) := by decide +kernel
theorem dX11_pushFrame_55 : decode cX11_pushFrame 55 = .ok (.iload_n 3, 1) := by decide +kernel
theorem dX11_pushFrame_56 : decode cX11_pushFrame 56 = .ok (.iastore, 1) := by decide +kernel
theorem dX11_pushFrame_57 : decode cX11_pushFrame 57 = .ok (.aload_n 0, 1) := by decide +kernel
theorem dX11_pushFrame_58 : decode cX11_pushFrame 58 = .ok (.getfield 88, 3) := by decide +kernel
theorem dX11_pushFrame_61 : decode cX11_pushFrame 61 = .ok (.iload 4, 2) := by decide +kernel
theorem dX11_pushFrame_63 : decode cX11_pushFrame 63 = .ok (.aload_n 0, 1) := by decide +kernel
theorem dX11_pushFrame_64 : decode cX11_pushFrame 64 = .ok (.invokevirtual 183, 3) := by decide +kernel
theorem dX11_pushFrame_67 : decode cX11_pushFrame 67 = .ok (.iastore, 1) := by decide +kernel
theorem dX11_pushFrame_68 : decode cX11_pushFrame 68 = .ok (.iconst 0, 1) := by decide +kernel
theorem dX11_pushFrame_69 : decode cX11_pushFrame 69 = .ok (.istore 5, 2) := by decide +kernel
theorem dX11_pushFrame_71 : decode cX11_pushFrame 71 = .ok (.iload 5, 2) := by decide +kernel
theorem dX11_pushFrame_73 : decode cX11_pushFrame 73 = .ok (.aload_n 0, 1) := by decide +kernel
theorem dX11_pushFrame_74 : decode cX11_pushFrame 74 = .ok (.getfield 17, 3) := by decide +kernel
theorem dX11_pushFrame_77 : decode cX11_pushFrame 77 = .ok (.iload_n 1, 1) := by decide +kernel
theorem dX11_pushFrame_78 : decode cX11_pushFrame 78 = .ok (.iaload, 1) := by decide +kernel
theorem dX11_pushFrame_79 : decode cX11_pushFrame 79 = .ok (.if_icmp .ge 22, 3) := by decide +kernel
theorem dX11_pushFrame_82 : decode cX11_pushFrame 82 = .ok (.aload_n 0, 1) := by decide +kernel
theorem dX11_pushFrame_83 : decode cX11_pushFrame 83 = .ok (.getfield 106, 3) := by decide +kernel
theorem dX11_pushFrame_86 : decode cX11_pushFrame 86 = .ok (.aload_n 0, 1) := by decide +kernel
theorem dX11_pushFrame_87 : decode cX11_pushFrame 87 = .ok (.getfield 180, 3) := by decide +kernel
theorem dX11_pushFrame_90 : decode cX11_pushFrame 90 = .ok (.iload 5, 2) := by decide +kernel
theorem dX11_pushFrame_92 : decode cX11_pushFrame 92 = .ok (.iadd, 1) := by decide +kernel
theorem dX11_pushFrame_93 : decode cX11_pushFrame 93 = .ok (.lconst 0, 1) := by decide +kernel
theorem dX11_pushFrame_94 : decode cX11_pushFrame 94 = .ok (.lastore, 1) := by decide +kernel
theorem dX11_pushFrame_95 : decode cX11_pushFrame 95 = .ok (.iinc 5 1, 3) := by decide +kernel
theorem dX11_pushFrame_98 : decode cX11_pushFrame 98 = .ok (.goto (-27), 3) := by decide +kernel
theorem dX11_pushFrame_101 : decode cX11_pushFrame 101 = .ok (.aload_n 0, 1) := by decide +kernel
theorem dX11_pushFrame_102 : decode cX11_pushFrame 102 = .ok (.dup, 1) := by decide +kernel
theorem dX11_pushFrame_103 : decode cX11_pushFrame 103 = .ok (.getfield 180, 3) := by decide +kernel
theorem dX11_pushFrame_106 : decode cX11_pushFrame 106 = .ok (.aload_n 0, 1) := by decide +kernel
theorem dX11_pushFrame_107 : decode cX11_pushFrame 107 = .ok (.getfield 17, 3) := by decide +kernel
theorem dX11_pushFrame_110 : decode cX11_pushFrame 110 = .ok (.iload_n 1, 1) := by decide +kernel
theorem dX11_pushFrame_111 : decode cX11_pushFrame 111 = .ok (.iaload, 1) := by decide +kernel
theorem dX11_pushFrame_112 : decode cX11_pushFrame 112 = .ok (.iadd, 1) := by decide +kernel
theorem dX11_pushFrame_113 : decode cX11_pushFrame 113 = .ok (.putfield 180, 3) := by decide +kernel
theorem dX11_pushFrame_116 : decode cX11_pushFrame 116 = .ok (.aload_n 0, 1) := by decide +kernel
theorem dX11_pushFrame_117 : decode cX11_pushFrame 117 = .ok (.dup, 1) := by decide +kernel
theorem dX11_pushFrame_118 : decode cX11_pushFrame 118 = .ok (.getfield 173, 3) := by decide +kernel
theorem dX11_pushFrame_121 : decode cX11_pushFrame 121 = .ok (.iconst 1, 1) := by decide +kernel
theorem dX11_pushFrame_122 : decode cX11_pushFrame 122 = .ok (.iadd, 1) := by decide +kernel
theorem dX11_pushFrame_123 : decode cX11_pushFrame 123 = .ok (.putfield 173, 3) := by decide +kernel
theorem dX11_pushFrame_126 : decode cX11_pushFrame 126 = .ok (.aload_n 0, 1) := by decide +kernel
theorem dX11_pushFrame_127 : decode cX11_pushFrame 127 = .ok (.iconst 2, 1) := by decide +kernel
theorem dX11_pushFrame_128 : decode cX11_pushFrame 128 = .ok (.aload_n 0, 1) := by decide +kernel
theorem dX11_pushFrame_129 : decode cX11_pushFrame 129 = .ok (.getfield 17, 3) := by decide +kernel
theorem dX11_pushFrame_132 : decode cX11_pushFrame 132 = .ok (.iload_n 1, 1) := by decide +kernel
theorem dX11_pushFrame_133 : decode cX11_pushFrame 133 = .ok (.iaload, 1) := by decide +kernel
theorem dX11_pushFrame_134 : decode cX11_pushFrame 134 = .ok (.iadd, 1) := by decide +kernel
theorem dX11_pushFrame_135 : decode cX11_pushFrame 135 = .ok (.invokevirtual 186, 3) := by decide +kernel
theorem dX11_pushFrame_138 : decode cX11_pushFrame 138 = .ok (.return_, 1) := by decide +kernel
theorem dX11_cut_0 : decode cX11_cut 0 = .ok (.iload_n 1, 1) := by decide +kernel
theorem dX11_cut_1 : decode cX11_cut 1 = .ok (.ifCond .ge 7, 3) := by decide +kernel
theorem dX11_cut_4 : decode cX11_cut 4 = .ok (.iconst 0, 1) := by decide +kernel
theorem dX11_cut_5 : decode cX11_cut 5 = .ok (.goto 4, 3) := by decide +kernel
theorem dX11_cut_8 : decode cX11_cut 8 = .ok (.iload_n 1, 1) := by decide +kernel
theorem dX11_cut_9 : decode cX11_cut 9 = .ok (.istore_n 2, 1) := by decide +kernel
theorem dX11_cut_10 : decode cX11_cut 10 = .ok (.aload_n 0, 1) := by decide +kernel
theorem dX11_cut_11 : decode cX11_cut 11 = .ok (.iload_n 2, 1) := by decide +kernel
theorem dX11_cut_12 : decode cX11_cut 12 = .ok (.invokevirtual 190, 3) := by decide +kernel
theorem dX11_cut_15 : decode cX11_cut 15 = .ok (.istore_n 3, 1) := by decide +kernel
theorem dX11_cut_16 : decode cX11_cut 16 = .ok (.iload_n 3, 1) := by decide +kernel
theorem dX11_cut_17 : decode cX11_cut 17 = .ok (.iconst (-1), 1) := by decide +kernel
theorem dX11_cut_18 : decode cX11_cut 18 = .ok (.if_icmp .ne 8, 3) := by decide +kernel
theorem dX11_cut_21 : decode cX11_cut 21 = .ok (.aload_n 0, 1) := by decide +kernel
theorem dX11_cut_22 : decode cX11_cut 22 = .ok (.invokevirtual 193, 3) := by decide +kernel
theorem dX11_cut_25 : decode cX11_cut 25 = .ok (.return_, 1) := by decide +kernel
theorem dX11_cut_26 : decode cX11_cut 26 = .ok (.aload_n 0, 1) := by decide +kernel
theorem dX11_cut_27 : decode cX11_cut 27 = .ok (.iload_n 3, 1) := by decide +kernel
theorem dX11_cut_28 : decode cX11_cut 28 = .ok (.putfield 196, 3) := by decide +kernel
theorem dX11_cut_31 : decode cX11_cut 31 = .ok (.iload_n 3, 1) := by decide +kernel
theorem dX11_cut_32 : decode cX11_cut 32 = .ok (.istore 4, 2) := by decide +kernel
theorem dX11_cut_34 : decode cX11_cut 34 = .ok (.iload_n 3, 1) := by decide +kernel
theorem dX11_cut_35 : decode cX11_cut 35 = .ok (.istore 5, 2) := by decide +kernel
theorem dX11_cut_37 : decode cX11_cut 37 = .ok (.iload 5, 2) := by decide +kernel
theorem dX11_cut_39 : decode cX11_cut 39 = .ok (.aload_n 0, 1) := by decide +kernel
theorem dX11_cut_40 : decode cX11_cut 40 = .ok (.getfield 173, 3) := by decide +kernel
theorem dX11_cut_43 : decode cX11_cut 43 = .ok (.if_icmp .ge 52, 3) := by decide +kernel
theorem dX11_cut_46 : decode cX11_cut 46 = .ok (.aload_n 0, 1) := by decide +kernel
theorem dX11_cut_47 : decode cX11_cut 47 = .ok (.getfield 129, 3) := by decide +kernel
theorem dX11_cut_50 : decode cX11_cut 50 = .ok (.iload 5, 2) := by decide +kernel
theorem dX11_cut_52 : decode cX11_cut 52 = .ok (.iload 4, 2) := by decide +kernel
theorem dX11_cut_54 : decode cX11_cut 54 = .ok (.iastore, 1) := by decide +kernel
theorem dX11_cut_55 : decode cX11_cut 55 = .ok (.aload_n 0, 1) := by decide +kernel
theorem dX11_cut_56 : decode cX11_cut 56 = .ok (.getfield 70, 3) := by decide +kernel
theorem dX11_cut_59 : decode cX11_cut 59 = .ok (.iload 5, 2) := by decide +kernel
theorem dX11_cut_61 : decode cX11_cut 61 = .ok (.baload, 1) := by decide +kernel
theorem dX11_cut_62 : decode cX11_cut 62 = .ok (.ifCond .ne 16, 3) := by decide +kernel
theorem dX11_cut_65 : decode cX11_cut 65 = .ok (.aload_n 0, 1) := by decide +kernel
theorem dX11_cut_66 : decode cX11_cut 66 = .ok (.dup, 1) := by decide +kernel
theorem dX11_cut_67 : decode cX11_cut 67 = .ok (.getfield 167, 3) := by decide +kernel
theorem dX11_cut_70 : decode cX11_cut 70 = .ok (.iconst 3, 1) := by decide +kernel
theorem dX11_cut_71 : decode cX11_cut 71 = .ok (.isub, 1) := by decide +kernel
theorem dX11_cut_72 : decode cX11_cut 72 = .ok (.putfield 167, 3) := by decide +kernel
theorem dX11_cut_75 : decode cX11_cut 75 = .ok (.goto 14, 3) := by decide +kernel
theorem dX11_cut_78 : decode cX11_cut 78 = .ok (.aload_n 0, 1) := by decide +kernel
theorem dX11_cut_79 : decode cX11_cut 79 = .ok (.iload 5, 2) := by decide +kernel
theorem dX11_cut_81 : decode cX11_cut 81 = .ok (.iload 4, 2) := by decide +kernel
theorem dX11_cut_83 : decode cX11_cut 83 = .ok (.invokevirtual 199, 3) := by decide +kernel
theorem dX11_cut_86 : decode cX11_cut 86 = .ok (.iinc 4 1, 3) := by decide +kernel
theorem dX11_cut_89 : decode cX11_cut 89 = .ok (.iinc 5 1, 3) := by decide +kernel
theorem dX11_cut_92 : decode cX11_cut 92 = .ok (.goto (-55), 3) := by decide +kernel
theorem dX11_cut_95 : decode cX11_cut 95 = .ok (.aload_n 0, 1) := by decide +kernel
theorem dX11_cut_96 : decode cX11_cut 96 = .ok (.iload 4, 2) := by decide +kernel
theorem dX11_cut_98 : decode cX11_cut 98 = .ok (.putfield 173, 3) := by decide +kernel
theorem dX11_cut_101 : decode cX11_cut 101 = .ok (.aload_n 0, 1) := by decide +kernel
theorem dX11_cut_102 : decode cX11_cut 102 = .ok (.aload_n 0, 1) := by decide +kernel
theorem dX11_cut_103 : decode cX11_cut 103 = .ok (.getfield 203, 3) := by decide +kernel
theorem dX11_cut_106 : decode cX11_cut 106 = .ok (.iload_n 3, 1) := by decide +kernel
theorem dX11_cut_107 : decode cX11_cut 107 = .ok (.if_icmp .ge 10, 3) := by decide +kernel
theorem dX11_cut_110 : decode cX11_cut 110 = .ok (.aload_n 0, 1) := by decide +kernel
theorem dX11_cut_111 : decode cX11_cut 111 = .ok (.getfield 203, 3) := by decide +kernel
theorem dX11_cut_114 : decode cX11_cut 114 = .ok (.goto 12, 3) := by decide +kernel
theorem dX11_cut_117 : decode cX11_cut 117 = .ok (.aload_n 0, 1) := by decide +kernel
theorem dX11_cut_118 : decode cX11_cut 118 = .ok (.getfield 129, 3) := by decide +kernel
theorem dX11_cut_121 : decode cX11_cut 121 = .ok (.aload_n 0, 1) := by decide +kernel
theorem dX11_cut_122 : decode cX11_cut 122 = .ok (.getfield 203, 3) := by decide +kernel
theorem dX11_cut_125 : decode cX11_cut 125 = .ok (.iaload, 1) := by decide +kernel
theorem dX11_cut_126 : decode cX11_cut 126 = .ok (.putfield 203, 3) := by decide +kernel
theorem dX11_cut_129 : decode cX11_cut 129 = .ok (.aload_n 0, 1) := by decide +kernel
theorem dX11_cut_130 : decode cX11_cut 130 = .ok (.invokevirtual 193, 3) := by decide +kernel
theorem dX11_cut_133 : decode cX11_cut 133 = .ok (.return_, 1) := by decide +kernel
theorem dX11_copyFrame_0 : decode cX11_copyFrame 0 = .ok (.aload_n 0, 1) := by decide +kernel
theorem dX11_copyFrame_1 : decode cX11_copyFrame 1 = .ok (.getfield 70, 3) := by decide +kernel
theorem dX11_copyFrame_4 : decode cX11_copyFrame 4 = .ok (.iload_n 2, 1) := by decide +kernel
theorem dX11_copyFrame_5 : decode cX11_copyFrame 5 = .ok (.iconst 1, 1) := by decide +kernel
theorem dX11_copyFrame_6 : decode cX11_copyFrame 6 = .ok (.bastore, 1) := by decide +kernel
theorem dX11_copyFrame_7 : decode cX11_copyFrame 7 = .ok (.aload_n 0, 1) := by decide +kernel
theorem dX11_copyFrame_8 : decode cX11_copyFrame 8 = .ok (.getfield 73, 3) := by decide +kernel
theorem dX11_copyFrame_11 : decode cX11_copyFrame 11 = .ok (.iload_n 2, 1) := by decide +kernel
theorem dX11_copyFrame_12 : decode cX11_copyFrame 12 = .ok (.aload_n 0, 1) := by decide +kernel
theorem dX11_copyFrame_13 : decode cX11_copyFrame 13 = .ok (.getfield 73, 3) := by decide +kernel
theorem dX11_copyFrame_16 : decode cX11_copyFrame 16 = .ok (.iload_n 1, 1) := by decide +kernel
theorem dX11_copyFrame_17 : decode cX11_copyFrame 17 = .ok (.iaload, 1) := by decide +kernel
theorem dX11_copyFrame_18 : decode cX11_copyFrame 18 = .ok (.iastore, 1) := by decide +kernel
theorem dX11_copyFrame_19 : decode cX11_copyFrame 19 = .ok (.aload_n 0, 1) := by decide +kernel
theorem dX11_copyFrame_20 : decode cX11_copyFrame 20 = .ok (.getfield 76, 3) := by decide +kernel
theorem dX11_copyFrame_23 : decode cX11_copyFrame 23 = .ok (.iload_n 2, 1) := by decide +kernel
theorem dX11_copyFrame_24 : decode cX11_copyFrame 24 = .ok (.aload_n 0, 1) := by decide +kernel
theorem dX11_copyFrame_25 : decode cX11_copyFrame 25 = .ok (.getfield 76, 3) := by decide +kernel
theorem dX11_copyFrame_28 : decode cX11_copyFrame 28 = .ok (.iload_n 1, 1) := by decide +kernel
theorem dX11_copyFrame_29 : decode cX11_copyFrame 29 = .ok (.iaload, 1) := by decide +kernel
theorem dX11_copyFrame_30 : decode cX11_copyFrame 30 = .ok (.iastore, 1) := by decide +kernel
theorem dX11_copyFrame_31 : decode cX11_copyFrame 31 = .ok (.aload_n 0, 1) := by decide +kernel
theorem dX11_copyFrame_32 : decode cX11_copyFrame 32 = .ok (.getfield 79, 3) := by decide +kernel
theorem dX11_copyFrame_35 : decode cX11_copyFrame 35 = .ok (.iload_n 2, 1) := by decide +kernel
theorem dX11_copyFrame_36 : decode cX11_copyFrame 36 = .ok (.aload_n 0, 1) := by decide +kernel
theorem dX11_copyFrame_37 : decode cX11_copyFrame 37 = .ok (.getfield 79, 3) := by decide +kernel
theorem dX11_copyFrame_40 : decode cX11_copyFrame 40 = .ok (.iload_n 1, 1) := by decide +kernel
theorem dX11_copyFrame_41 : decode cX11_copyFrame 41 = .ok (.iaload, 1) := by decide +kernel
theorem dX11_copyFrame_42 : decode cX11_copyFrame 42 = .ok (.iastore, 1) := by decide +kernel
theorem dX11_copyFrame_43 : decode cX11_copyFrame 43 = .ok (.aload_n 0, 1) := by decide +kernel
theorem dX11_copyFrame_44 : decode cX11_copyFrame 44 = .ok (.getfield 85, 3) := by decide +kernel
theorem dX11_copyFrame_47 : decode cX11_copyFrame 47 = .ok (.iload_n 2, 1) := by decide +kernel
theorem dX11_copyFrame_48 : decode cX11_copyFrame 48 = .ok (.aload_n 0, 1) := by decide +kernel
theorem dX11_copyFrame_49 : decode cX11_copyFrame 49 = .ok (.getfield 85, 3) := by decide +kernel
theorem dX11_copyFrame_52 : decode cX11_copyFrame 52 = .ok (.iload_n 1, 1) := by decide +kernel
theorem dX11_copyFrame_53 : decode cX11_copyFrame 53 = .ok (.iaload, 1) := by decide +kernel
theorem dX11_copyFrame_54 : decode cX11_copyFrame 54 = .ok (.iastore, 1) := by decide +kernel
theorem dX11_copyFrame_55 : decode cX11_copyFrame 55 = .ok (.aload_n 0, 1) := by decide +kernel
theorem dX11_copyFrame_56 : decode cX11_copyFrame 56 = .ok (.getfield 88, 3) := by decide +kernel
theorem dX11_copyFrame_59 : decode cX11_copyFrame 59 = .ok (.iload_n 2, 1) := by decide +kernel
theorem dX11_copyFrame_60 : decode cX11_copyFrame 60 = .ok (.aload_n 0, 1) := by decide +kernel
theorem dX11_copyFrame_61 : decode cX11_copyFrame 61 = .ok (.getfield 88, 3) := by decide +kernel
theorem dX11_copyFrame_64 : decode cX11_copyFrame 64 = .ok (.iload_n 1, 1) := by decide +kernel
theorem dX11_copyFrame_65 : decode cX11_copyFrame 65 = .ok (.iaload, 1) := by decide +kernel
theorem dX11_copyFrame_66 : decode cX11_copyFrame 66 = .ok (.iastore, 1) := by decide +kernel
theorem dX11_copyFrame_67 : decode cX11_copyFrame 67 = .ok (.aload_n 0, 1) := by decide +kernel
theorem dX11_copyFrame_68 : decode cX11_copyFrame 68 = .ok (.getfield 82, 3) := by decide +kernel
theorem dX11_copyFrame_71 : decode cX11_copyFrame 71 = .ok (.iload_n 1, 1) := by decide +kernel
theorem dX11_copyFrame_72 : decode cX11_copyFrame 72 = .ok (.iaload, 1) := by decide +kernel
theorem dX11_copyFrame_73 : decode cX11_copyFrame 73 = .ok (.istore_n 3, 1) := by decide +kernel
theorem dX11_copyFrame_74 : decode cX11_copyFrame 74 = .ok (.aload_n 0, 1) := by decide +kernel
theorem dX11_copyFrame_75 : decode cX11_copyFrame 75 = .ok (.getfield 82, 3) := by decide +kernel
theorem dX11_copyFrame_78 : decode cX11_copyFrame 78 = .ok (.iload_n 2, 1) := by decide +kernel
theorem dX11_copyFrame_79 : decode cX11_copyFrame 79 = .ok (.iload_n 3, 1) := by decide +kernel
theorem dX11_copyFrame_80 : decode cX11_copyFrame 80 = .ok (.iconst (-1), 1) := by decide +kernel
theorem dX11_copyFrame_81 : decode cX11_copyFrame 81 = .ok (.if_icmp .eq 21, 3) := by decide +kernel
theorem dX11_copyFrame_84 : decode cX11_copyFrame 84 = .ok (.aload_n 0, 1) := by decide +kernel
theorem dX11_copyFrame_85 : decode cX11_copyFrame 85 = .ok (.iload_n 3, 1) := by decide +kernel
theorem dX11_copyFrame_86 : decode cX11_copyFrame 86 = .ok (.iload_n 1, 1) := by decide +kernel
theorem dX11_copyFrame_87 : decode cX11_copyFrame 87 = .ok (.invokevirtual 206, 3) := by decide +kernel
theorem dX11_copyFrame_90 : decode cX11_copyFrame 90 = .ok (.ifCond .eq 12, 3) := by decide +kernel
theorem dX11_copyFrame_93 : decode cX11_copyFrame 93 = .ok (.aload_n 0, 1) := by decide +kernel
theorem dX11_copyFrame_94 : decode cX11_copyFrame 94 = .ok (.getfield 129, 3) := by decide +kernel
theorem dX11_copyFrame_97 : decode cX11_copyFrame 97 = .ok (.iload_n 3, 1) := by decide +kernel
theorem dX11_copyFrame_98 : decode cX11_copyFrame 98 = .ok (.iaload, 1) := by decide +kernel
theorem dX11_copyFrame_99 : decode cX11_copyFrame 99 = .ok (.goto 4, 3) := by decide +kernel
theorem dX11_copyFrame_102 : decode cX11_copyFrame 102 = .ok (.iload_n 3, 1) := by decide +kernel
theorem dX11_copyFrame_103 : decode cX11_copyFrame 103 = .ok (.iastore, 1) := by decide +kernel
theorem dX11_copyFrame_104 : decode cX11_copyFrame 104 = .ok (.return_, 1) := by decide +kernel
theorem dX11_isMoved_0 : decode cX11_isMoved 0 = .ok (.iload_n 1, 1) := by decide +kernel
theorem dX11_isMoved_1 : decode cX11_isMoved 1 = .ok (.aload_n 0, 1) := by decide +kernel
theorem dX11_isMoved_2 : decode cX11_isMoved 2 = .ok (.getfield 196, 3) := by decide +kernel
theorem dX11_isMoved_5 : decode cX11_isMoved 5 = .ok (.if_icmp .lt 12, 3) := by decide +kernel
theorem dX11_isMoved_8 : decode cX11_isMoved 8 = .ok (.iload_n 1, 1) := by decide +kernel
theorem dX11_isMoved_9 : decode cX11_isMoved 9 = .ok (.iload_n 2, 1) := by decide +kernel
theorem dX11_isMoved_10 : decode cX11_isMoved 10 = .ok (.if_icmp .ge 7, 3) := by decide +kernel
theorem dX11_isMoved_13 : decode cX11_isMoved 13 = .ok (.iconst 1, 1) := by decide +kernel
theorem dX11_isMoved_14 : decode cX11_isMoved 14 = .ok (.goto 4, 3) := by decide +kernel
theorem dX11_isMoved_17 : decode cX11_isMoved 17 = .ok (.iconst 0, 1) := by decide +kernel
theorem dX11_isMoved_18 : decode cX11_isMoved 18 = .ok (.ireturn, 1) := by decide +kernel
theorem dX11_dropAbove_0 : decode cX11_dropAbove 0 = .ok (.aload_n 0, 1) := by decide +kernel
theorem dX11_dropAbove_1 : decode cX11_dropAbove 1 = .ok (.invokevirtual 209, 3) := by decide +kernel
theorem dX11_dropAbove_4 : decode cX11_dropAbove 4 = .ok (.istore_n 1, 1) := by decide +kernel
theorem dX11_dropAbove_5 : decode cX11_dropAbove 5 = .ok (.aload_n 0, 1) := by decide +kernel
theorem dX11_dropAbove_6 : decode cX11_dropAbove 6 = .ok (.iconst 1, 1) := by decide +kernel
theorem dX11_dropAbove_7 : decode cX11_dropAbove 7 = .ok (.aload_n 0, 1) := by decide +kernel
theorem dX11_dropAbove_8 : decode cX11_dropAbove 8 = .ok (.getfield 203, 3) := by decide +kernel
theorem dX11_dropAbove_11 : decode cX11_dropAbove 11 = .ok (.iload_n 1, 1) := by decide +kernel
theorem dX11_dropAbove_12 : decode cX11_dropAbove 12 = .ok (.if_icmp .le 10, 3) := by decide +kernel
theorem dX11_dropAbove_15 : decode cX11_dropAbove 15 = .ok (.aload_n 0, 1) := by decide +kernel
theorem dX11_dropAbove_16 : decode cX11_dropAbove 16 = .ok (.getfield 203, 3) := by decide +kernel
theorem dX11_dropAbove_19 : decode cX11_dropAbove 19 = .ok (.goto 4, 3) := by decide +kernel
theorem dX11_dropAbove_22 : decode cX11_dropAbove 22 = .ok (.iload_n 1, 1) := by decide +kernel
theorem dX11_dropAbove_23 : decode cX11_dropAbove 23 = .ok (.iadd, 1) := by decide +kernel
theorem dX11_dropAbove_24 : decode cX11_dropAbove 24 = .ok (.invokevirtual 212, 3) := by decide +kernel
theorem dX11_dropAbove_27 : decode cX11_dropAbove 27 = .ok (.return_, 1) := by decide +kernel
theorem dX11_isCell_0 : decode cX11_isCell 0 = .ok (.lload_n 0, 1) := by decide +kernel
theorem dX11_isCell_1 : decode cX11_isCell 1 = .ok (.ldc2_w 215, 3) := by decide +kernel
theorem dX11_isCell_4 : decode cX11_isCell 4 = .ok (.lcmp, 1) := by decide +kernel
theorem dX11_isCell_5 : decode cX11_isCell 5 = .ok (.ifCond .lt 7, 3) := by decide +kernel
theorem dX11_isCell_8 : decode cX11_isCell 8 = .ok (.iconst 1, 1) := by decide +kernel
theorem dX11_isCell_9 : decode cX11_isCell 9 = .ok (.goto 4, 3) := by decide +kernel
theorem dX11_isCell_12 : decode cX11_isCell 12 = .ok (.iconst 0, 1) := by decide +kernel
theorem dX11_isCell_13 : decode cX11_isCell 13 = .ok (.ireturn, 1) := by decide +kernel
theorem dX11_get_0 : decode cX11_get 0 = .ok (.aload_n 0, 1) := by decide +kernel
theorem dX11_get_1 : decode cX11_get 1 = .ok (.getfield 106, 3) := by decide +kernel
theorem dX11_get_4 : decode cX11_get 4 = .ok (.aload_n 0, 1) := by decide +kernel
theorem dX11_get_5 : decode cX11_get 5 = .ok (.getfield 76, 3) := by decide +kernel
theorem dX11_get_8 : decode cX11_get 8 = .ok (.aload_n 0, 1) := by decide +kernel
theorem dX11_get_9 : decode cX11_get 9 = .ok (.getfield 203, 3) := by decide +kernel
theorem dX11_get_12 : decode cX11_get 12 = .ok (.iaload, 1) := by decide +kernel
theorem dX11_get_13 : decode cX11_get 13 = .ok (.iload_n 1, 1) := by decide +kernel
theorem dX11_get_14 : decode cX11_get 14 = .ok (.iadd, 1) := by decide +kernel
theorem dX11_get_15 : decode cX11_get 15 = .ok (.laload, 1) := by decide +kernel
theorem dX11_get_16 : decode cX11_get 16 = .ok (.lreturn, 1) := by decide +kernel
theorem dX11_write_0 : decode cX11_write 0 = .ok (.aload_n 0, 1) := by decide +kernel
theorem dX11_write_1 : decode cX11_write 1 = .ok (.getfield 76, 3) := by decide +kernel
theorem dX11_write_4 : decode cX11_write 4 = .ok (.iload_n 1, 1) := by decide +kernel
theorem dX11_write_5 : decode cX11_write 5 = .ok (.iaload, 1) := by decide +kernel
theorem dX11_write_6 : decode cX11_write 6 = .ok (.iload_n 2, 1) := by decide +kernel
theorem dX11_write_7 : decode cX11_write 7 = .ok (.iadd, 1) := by decide +kernel
theorem dX11_write_8 : decode cX11_write 8 = .ok (.istore 5, 2) := by decide +kernel
theorem dX11_write_10 : decode cX11_write 10 = .ok (.aload_n 0, 1) := by decide +kernel
theorem dX11_write_11 : decode cX11_write 11 = .ok (.getfield 110, 3) := by decide +kernel
theorem dX11_write_14 : decode cX11_write 14 = .ok (.aload_n 0, 1) := by decide +kernel
theorem dX11_write_15 : decode cX11_write 15 = .ok (.getfield 217, 3) := by decide +kernel
theorem dX11_write_18 : decode cX11_write 18 = .ok (.iload 5, 2) := by decide +kernel
theorem dX11_write_20 : decode cX11_write 20 = .ok (.iastore, 1) := by decide +kernel
theorem dX11_write_21 : decode cX11_write 21 = .ok (.aload_n 0, 1) := by decide +kernel
theorem dX11_write_22 : decode cX11_write 22 = .ok (.getfield 113, 3) := by decide +kernel
theorem dX11_write_25 : decode cX11_write 25 = .ok (.aload_n 0, 1) := by decide +kernel
theorem dX11_write_26 : decode cX11_write 26 = .ok (.getfield 217, 3) := by decide +kernel
theorem dX11_write_29 : decode cX11_write 29 = .ok (.aload_n 0, 1) := by decide +kernel
theorem dX11_write_30 : decode cX11_write 30 = .ok (.getfield 106, 3) := by decide +kernel
theorem dX11_write_33 : decode cX11_write 33 = .ok (.iload 5, 2) := by decide +kernel
theorem dX11_write_35 : decode cX11_write 35 = .ok (.laload, 1) := by decide +kernel
theorem dX11_write_36 : decode cX11_write 36 = .ok (.lastore, 1) := by decide +kernel
theorem dX11_write_37 : decode cX11_write 37 = .ok (.aload_n 0, 1) := by decide +kernel
theorem dX11_write_38 : decode cX11_write 38 = .ok (.dup, 1) := by decide +kernel
theorem dX11_write_39 : decode cX11_write 39 = .ok (.getfield 217, 3) := by decide +kernel
theorem dX11_write_42 : decode cX11_write 42 = .ok (.iconst 1, 1) := by decide +kernel
theorem dX11_write_43 : decode cX11_write 43 = .ok (.iadd, 1) := by decide +kernel
theorem dX11_write_44 : decode cX11_write 44 = .ok (.putfield 217, 3) := by decide +kernel
theorem dX11_write_47 : decode cX11_write 47 = .ok (.aload_n 0, 1) := by decide +kernel
theorem dX11_write_48 : decode cX11_write 48 = .ok (.getfield 106, 3) := by decide +kernel
theorem dX11_write_51 : decode cX11_write 51 = .ok (.iload 5, 2) := by decide +kernel
theorem dX11_write_53 : decode cX11_write 53 = .ok (.lload_n 3, 1) := by decide +kernel
theorem dX11_write_54 : decode cX11_write 54 = .ok (.lastore, 1) := by decide +kernel
theorem dX11_write_55 : decode cX11_write 55 = .ok (.return_, 1) := by decide +kernel
theorem dX11_set_0 : decode cX11_set 0 = .ok (.aload_n 0, 1) := by decide +kernel
theorem dX11_set_1 : decode cX11_set 1 = .ok (.aload_n 0, 1) := by decide +kernel
theorem dX11_set_2 : decode cX11_set 2 = .ok (.getfield 203, 3) := by decide +kernel
theorem dX11_set_5 : decode cX11_set 5 = .ok (.iload_n 1, 1) := by decide +kernel
theorem dX11_set_6 : decode cX11_set 6 = .ok (.lload_n 2, 1) := by decide +kernel
theorem dX11_set_7 : decode cX11_set 7 = .ok (.invokevirtual 220, 3) := by decide +kernel
theorem dX11_set_10 : decode cX11_set 10 = .ok (.return_, 1) := by decide +kernel
theorem dX11_has_0 : decode cX11_has 0 = .ok (.lload_n 1, 1) := by decide +kernel
theorem dX11_has_1 : decode cX11_has 1 = .ok (.invokestatic 224, 3) := by decide +kernel
theorem dX11_has_4 : decode cX11_has 4 = .ok (.ifCond .ne 5, 3) := by decide +kernel
theorem dX11_has_7 : decode cX11_has 7 = .ok (.iconst 0, 1) := by decide +kernel
theorem dX11_has_8 : decode cX11_has 8 = .ok (.ireturn, 1) := by decide +kernel
theorem dX11_has_9 : decode cX11_has 9 = .ok (.lload_n 1, 1) := by decide +kernel
theorem dX11_has_10 : decode cX11_has 10 = .ok (.ldc2_w 215, 3) := by decide +kernel
theorem dX11_has_13 : decode cX11_has 13 = .ok (.lsub, 1) := by decide +kernel
theorem dX11_has_14 : decode cX11_has 14 = .ok (.l2i, 1) := by decide +kernel
theorem dX11_has_15 : decode cX11_has 15 = .ok (.istore 5, 2) := by decide +kernel
theorem dX11_has_17 : decode cX11_has 17 = .ok (.aload_n 0, 1) := by decide +kernel
theorem dX11_has_18 : decode cX11_has 18 = .ok (.getfield 57, 3) := by decide +kernel
theorem dX11_has_21 : decode cX11_has 21 = .ok (.iload 5, 2) := by decide +kernel
theorem dX11_has_23 : decode cX11_has 23 = .ok (.iaload, 1) := by decide +kernel
theorem dX11_has_24 : decode cX11_has 24 = .ok (.iload_n 3, 1) := by decide +kernel
theorem dX11_has_25 : decode cX11_has 25 = .ok (.if_icmp .ne 25, 3) := by decide +kernel
theorem dX11_has_28 : decode cX11_has 28 = .ok (.iload 4, 2) := by decide +kernel
theorem dX11_has_30 : decode cX11_has 30 = .ok (.iconst (-1), 1) := by decide +kernel
theorem dX11_has_31 : decode cX11_has 31 = .ok (.if_icmp .eq 15, 3) := by decide +kernel
theorem dX11_has_34 : decode cX11_has 34 = .ok (.aload_n 0, 1) := by decide +kernel
theorem dX11_has_35 : decode cX11_has 35 = .ok (.getfield 60, 3) := by decide +kernel
theorem dX11_has_38 : decode cX11_has 38 = .ok (.iload 5, 2) := by decide +kernel
theorem dX11_has_40 : decode cX11_has 40 = .ok (.iaload, 1) := by decide +kernel
theorem dX11_has_41 : decode cX11_has 41 = .ok (.iload 4, 2) := by decide +kernel
theorem dX11_has_43 : decode cX11_has 43 = .ok (.if_icmp .ne 7, 3) := by decide +kernel
theorem dX11_has_46 : decode cX11_has 46 = .ok (.iconst 1, 1) := by decide +kernel
theorem dX11_has_47 : decode cX11_has 47 = .ok (.goto 4, 3) := by decide +kernel
theorem dX11_has_50 : decode cX11_has 50 = .ok (.iconst 0, 1) := by decide +kernel
theorem dX11_has_51 : decode cX11_has 51 = .ok (.ireturn, 1) := by decide +kernel
theorem dX11_compare_0 : decode cX11_compare 0 = .ok (.iconst 1, 1) := by decide +kernel
theorem dX11_compare_1 : decode cX11_compare 1 = .ok (.istore 5, 2) := by decide +kernel
theorem dX11_compare_3 : decode cX11_compare 3 = .ok (.iconst 0, 1) := by decide +kernel
theorem dX11_compare_4 : decode cX11_compare 4 = .ok (.istore 6, 2) := by decide +kernel
theorem dX11_compare_6 : decode cX11_compare 6 = .ok (.aload_n 0, 1) := by decide +kernel
theorem dX11_compare_7 : decode cX11_compare 7 = .ok (.getfield 123, 3) := by decide +kernel
theorem dX11_compare_10 : decode cX11_compare 10 = .ok (.iconst 0, 1) := by decide +kernel
theorem dX11_compare_11 : decode cX11_compare 11 = .ok (.lload_n 1, 1) := by decide +kernel
theorem dX11_compare_12 : decode cX11_compare 12 = .ok (.lastore, 1) := by decide +kernel
theorem dX11_compare_13 : decode cX11_compare 13 = .ok (.aload_n 0, 1) := by decide +kernel
theorem dX11_compare_14 : decode cX11_compare 14 = .ok (.getfield 126, 3) := by decide +kernel
theorem dX11_compare_17 : decode cX11_compare 17 = .ok (.iconst 0, 1) := by decide +kernel
theorem dX11_compare_18 : decode cX11_compare 18 = .ok (.lload_n 3, 1) := by decide +kernel
theorem dX11_compare_19 : decode cX11_compare 19 = .ok (.lastore, 1) := by decide +kernel
theorem dX11_compare_20 : decode cX11_compare 20 = .ok (.iload 5, 2) := by decide +kernel
theorem dX11_compare_22 : decode cX11_compare 22 = .ok (.ifCond .le 189, 3) := by decide +kernel
theorem dX11_compare_25 : decode cX11_compare 25 = .ok (.iload 6, 2) := by decide +kernel
theorem dX11_compare_27 : decode cX11_compare 27 = .ok (.sipush 5000, 3) := by decide +kernel
theorem dX11_compare_30 : decode cX11_compare 30 = .ok (.if_icmp .ne 5, 3) := by decide +kernel
theorem dX11_compare_33 : decode cX11_compare 33 = .ok (.iconst 2, 1) := by decide +kernel
theorem dX11_compare_34 : decode cX11_compare 34 = .ok (.ireturn, 1) := by decide +kernel
theorem dX11_compare_35 : decode cX11_compare 35 = .ok (.iinc 6 1, 3) := by decide +kernel
theorem dX11_compare_38 : decode cX11_compare 38 = .ok (.iinc 5 (-1), 3) := by decide +kernel
theorem dX11_compare_41 : decode cX11_compare 41 = .ok (.aload_n 0, 1) := by decide +kernel
theorem dX11_compare_42 : decode cX11_compare 42 = .ok (.getfield 123, 3) := by decide +kernel
theorem dX11_compare_45 : decode cX11_compare 45 = .ok (.iload 5, 2) := by decide +kernel
theorem dX11_compare_47 : decode cX11_compare 47 = .ok (.laload, 1) := by decide +kernel
theorem dX11_compare_48 : decode cX11_compare 48 = .ok (.lstore 7, 2) := by decide +kernel
theorem dX11_compare_50 : decode cX11_compare 50 = .ok (.aload_n 0, 1) := by decide +kernel
theorem dX11_compare_51 : decode cX11_compare 51 = .ok (.getfield 126, 3) := by decide +kernel
theorem dX11_compare_54 : decode cX11_compare 54 = .ok (.iload 5, 2) := by decide +kernel
theorem dX11_compare_56 : decode cX11_compare 56 = .ok (.laload, 1) := by decide +kernel
theorem dX11_compare_57 : decode cX11_compare 57 = .ok (.lstore 9, 2) := by decide +kernel
theorem dX11_compare_59 : decode cX11_compare 59 = .ok (.lload 7, 2) := by decide +kernel
theorem dX11_compare_61 : decode cX11_compare 61 = .ok (.invokestatic 224, 3) := by decide +kernel
theorem dX11_compare_64 : decode cX11_compare 64 = .ok (.ifCond .eq 11, 3) := by decide +kernel
theorem dX11_compare_67 : decode cX11_compare 67 = .ok (.lload 9, 2) := by decide +kernel
theorem dX11_compare_69 : decode cX11_compare 69 = .ok (.invokestatic 224, 3) := by decide +kernel
theorem dX11_compare_72 : decode cX11_compare 72 = .ok (.ifCond .ne 13, 3) := by decide +kernel
theorem dX11_compare_75 : decode cX11_compare 75 = .ok (.lload 7, 2) := by decide +kernel
theorem dX11_compare_77 : decode cX11_compare 77 = .ok (.lload 9, 2) := by decide +kernel
theorem dX11_compare_79 : decode cX11_compare 79 = .ok (.lcmp, 1) := by decide +kernel
theorem dX11_compare_80 : decode cX11_compare 80 = .ok (.ifCond .eq (-60), 3) := by decide +kernel
theorem dX11_compare_83 : decode cX11_compare 83 = .ok (.iconst 1, 1) := by decide +kernel
theorem dX11_compare_84 : decode cX11_compare 84 = .ok (.ireturn, 1) := by decide +kernel
theorem dX11_compare_85 : decode cX11_compare 85 = .ok (.lload 7, 2) := by decide +kernel
theorem dX11_compare_87 : decode cX11_compare 87 = .ok (.ldc2_w 215, 3) := by decide +kernel
theorem dX11_compare_90 : decode cX11_compare 90 = .ok (.lsub, 1) := by decide +kernel
theorem dX11_compare_91 : decode cX11_compare 91 = .ok (.l2i, 1) := by decide +kernel
theorem dX11_compare_92 : decode cX11_compare 92 = .ok (.istore 11, 2) := by decide +kernel
theorem dX11_compare_94 : decode cX11_compare 94 = .ok (.lload 9, 2) := by decide +kernel
theorem dX11_compare_96 : decode cX11_compare 96 = .ok (.ldc2_w 215, 3) := by decide +kernel
theorem dX11_compare_99 : decode cX11_compare 99 = .ok (.lsub, 1) := by decide +kernel
theorem dX11_compare_100 : decode cX11_compare 100 = .ok (.l2i, 1) := by decide +kernel
theorem dX11_compare_101 : decode cX11_compare 101 = .ok (.istore 12, 2) := by decide +kernel
theorem dX11_compare_103 : decode cX11_compare 103 = .ok (.aload_n 0, 1) := by decide +kernel
theorem dX11_compare_104 : decode cX11_compare 104 = .ok (.getfield 57, 3) := by decide +kernel
theorem dX11_compare_107 : decode cX11_compare 107 = .ok (.iload 11, 2) := by decide +kernel
theorem dX11_compare_109 : decode cX11_compare 109 = .ok (.iaload, 1) := by decide +kernel
theorem dX11_compare_110 : decode cX11_compare 110 = .ok (.aload_n 0, 1) := by decide +kernel
theorem dX11_compare_111 : decode cX11_compare 111 = .ok (.getfield 57, 3) := by decide +kernel
theorem dX11_compare_114 : decode cX11_compare 114 = .ok (.iload 12, 2) := by decide +kernel
theorem dX11_compare_116 : decode cX11_compare 116 = .ok (.iaload, 1) := by decide +kernel
theorem dX11_compare_117 : decode cX11_compare 117 = .ok (.if_icmp .ne 20, 3) := by decide +kernel
theorem dX11_compare_120 : decode cX11_compare 120 = .ok (.aload_n 0, 1) := by decide +kernel
theorem dX11_compare_121 : decode cX11_compare 121 = .ok (.getfield 60, 3) := by decide +kernel
theorem dX11_compare_124 : decode cX11_compare 124 = .ok (.iload 11, 2) := by decide +kernel
theorem dX11_compare_126 : decode cX11_compare 126 = .ok (.iaload, 1) := by decide +kernel
theorem dX11_compare_127 : decode cX11_compare 127 = .ok (.aload_n 0, 1) := by decide +kernel
theorem dX11_compare_128 : decode cX11_compare 128 = .ok (.getfield 60, 3) := by decide +kernel
theorem dX11_compare_131 : decode cX11_compare 131 = .ok (.iload 12, 2) := by decide +kernel
theorem dX11_compare_133 : decode cX11_compare 133 = .ok (.iaload, 1) := by decide +kernel
theorem dX11_compare_134 : decode cX11_compare 134 = .ok (.if_icmp .eq 5, 3) := by decide +kernel
theorem dX11_compare_137 : decode cX11_compare 137 = .ok (.iconst 1, 1) := by decide +kernel
theorem dX11_compare_138 : decode cX11_compare 138 = .ok (.ireturn, 1) := by decide +kernel
theorem dX11_compare_139 : decode cX11_compare 139 = .ok (.aload_n 0, 1) := by decide +kernel
theorem dX11_compare_140 : decode cX11_compare 140 = .ok (.getfield 60, 3) := by decide +kernel
theorem dX11_compare_143 : decode cX11_compare 143 = .ok (.iload 11, 2) := by decide +kernel
theorem dX11_compare_145 : decode cX11_compare 145 = .ok (.iaload, 1) := by decide +kernel
theorem dX11_compare_146 : decode cX11_compare 146 = .ok (.iconst 1, 1) := by decide +kernel
theorem dX11_compare_147 : decode cX11_compare 147 = .ok (.isub, 1) := by decide +kernel
theorem dX11_compare_148 : decode cX11_compare 148 = .ok (.istore 13, 2) := by decide +kernel
theorem dX11_compare_150 : decode cX11_compare 150 = .ok (.iload 13, 2) := by decide +kernel
theorem dX11_compare_152 : decode cX11_compare 152 = .ok (.ifCond .lt 56, 3) := by decide +kernel
theorem dX11_compare_155 : decode cX11_compare 155 = .ok (.aload_n 0, 1) := by decide +kernel
theorem dX11_compare_156 : decode cX11_compare 156 = .ok (.getfield 123, 3) := by decide +kernel
theorem dX11_compare_159 : decode cX11_compare 159 = .ok (.iload 5, 2) := by decide +kernel
theorem dX11_compare_161 : decode cX11_compare 161 = .ok (.aload_n 0, 1) := by decide +kernel
theorem dX11_compare_162 : decode cX11_compare 162 = .ok (.getfield 66, 3) := by decide +kernel
theorem dX11_compare_165 : decode cX11_compare 165 = .ok (.aload_n 0, 1) := by decide +kernel
theorem dX11_compare_166 : decode cX11_compare 166 = .ok (.getfield 63, 3) := by decide +kernel
theorem dX11_compare_169 : decode cX11_compare 169 = .ok (.iload 11, 2) := by decide +kernel
theorem dX11_compare_171 : decode cX11_compare 171 = .ok (.iaload, 1) := by decide +kernel
theorem dX11_compare_172 : decode cX11_compare 172 = .ok (.iload 13, 2) := by decide +kernel
theorem dX11_compare_174 : decode cX11_compare 174 = .ok (.iadd, 1) := by decide +kernel
theorem dX11_compare_175 : decode cX11_compare 175 = .ok (.laload, 1) := by decide +kernel
theorem dX11_compare_176 : decode cX11_compare 176 = .ok (.lastore, 1) := by decide +kernel
theorem dX11_compare_177 : decode cX11_compare 177 = .ok (.aload_n 0, 1) := by decide +kernel
theorem dX11_compare_178 : decode cX11_compare 178 = .ok (.getfield 126, 3) := by decide +kernel
theorem dX11_compare_181 : decode cX11_compare 181 = .ok (.iload 5, 2) := by decide +kernel
theorem dX11_compare_183 : decode cX11_compare 183 = .ok (.aload_n 0, 1) := by decide +kernel
theorem dX11_compare_184 : decode cX11_compare 184 = .ok (.getfield 66, 3) := by decide +kernel
theorem dX11_compare_187 : decode cX11_compare 187 = .ok (.aload_n 0, 1) := by decide +kernel
theorem dX11_compare_188 : decode cX11_compare 188 = .ok (.getfield 63, 3) := by decide +kernel
theorem dX11_compare_191 : decode cX11_compare 191 = .ok (.iload 12, 2) := by decide +kernel
theorem dX11_compare_193 : decode cX11_compare 193 = .ok (.iaload, 1) := by decide +kernel
theorem dX11_compare_194 : decode cX11_compare 194 = .ok (.iload 13, 2) := by decide +kernel
theorem dX11_compare_196 : decode cX11_compare 196 = .ok (.iadd, 1) := by decide +kernel
theorem dX11_compare_197 : decode cX11_compare 197 = .ok (.laload, 1) := by decide +kernel
theorem dX11_compare_198 : decode cX11_compare 198 = .ok (.lastore, 1) := by decide +kernel
theorem dX11_compare_199 : decode cX11_compare 199 = .ok (.iinc 5 1, 3) := by decide +kernel
theorem dX11_compare_202 : decode cX11_compare 202 = .ok (.iinc 13 (-1), 3) := by decide +kernel
theorem dX11_compare_205 : decode cX11_compare 205 = .ok (.goto (-55), 3) := by decide +kernel
theorem dX11_compare_208 : decode cX11_compare 208 = .ok (.goto (-188), 3) := by decide +kernel
theorem dX11_compare_211 : decode cX11_compare 211 = .ok (.iconst 0, 1) := by decide +kernel
theorem dX11_compare_212 : decode cX11_compare 212 = .ok (.ireturn, 1) := by decide +kernel
theorem dX11_makeCell_0 : decode cX11_makeCell 0 = .ok (.aload_n 0, 1) := by decide +kernel
theorem dX11_makeCell_1 : decode cX11_makeCell 1 = .ok (.getfield 51, 3) := by decide +kernel
theorem dX11_makeCell_4 : decode cX11_makeCell 4 = .ok (.iload_n 1, 1) := by decide +kernel
theorem dX11_makeCell_5 : decode cX11_makeCell 5 = .ok (.iaload, 1) := by decide +kernel
theorem dX11_makeCell_6 : decode cX11_makeCell 6 = .ok (.istore_n 2, 1) := by decide +kernel
theorem dX11_makeCell_7 : decode cX11_makeCell 7 = .ok (.iload_n 2, 1) := by decide +kernel
theorem dX11_makeCell_8 : decode cX11_makeCell 8 = .ok (.ifCond .ne 7, 3) := by decide +kernel
theorem dX11_makeCell_11 : decode cX11_makeCell 11 = .ok (.iconst 0, 1) := by decide +kernel
theorem dX11_makeCell_12 : decode cX11_makeCell 12 = .ok (.goto 6, 3) := by decide +kernel
theorem dX11_makeCell_15 : decode cX11_makeCell 15 = .ok (.iload_n 2, 1) := by decide +kernel
theorem dX11_makeCell_16 : decode cX11_makeCell 16 = .ok (.iconst 1, 1) := by decide +kernel
theorem dX11_makeCell_17 : decode cX11_makeCell 17 = .ok (.iadd, 1) := by decide +kernel
theorem dX11_makeCell_18 : decode cX11_makeCell 18 = .ok (.istore_n 3, 1) := by decide +kernel
theorem dX11_makeCell_19 : decode cX11_makeCell 19 = .ok (.aload_n 0, 1) := by decide +kernel
theorem dX11_makeCell_20 : decode cX11_makeCell 20 = .ok (.getfield 228, 3) := by decide +kernel
theorem dX11_makeCell_23 : decode cX11_makeCell 23 = .ok (.iload_n 3, 1) := by decide +kernel
theorem dX11_makeCell_24 : decode cX11_makeCell 24 = .ok (.iadd, 1) := by decide +kernel
theorem dX11_makeCell_25 : decode cX11_makeCell 25 = .ok (.aload_n 0, 1) := by decide +kernel
theorem dX11_makeCell_26 : decode cX11_makeCell 26 = .ok (.getfield 231, 3) := by decide +kernel
theorem dX11_makeCell_29 : decode cX11_makeCell 29 = .ok (.if_icmp .le 9, 3) := by decide +kernel
theorem dX11_makeCell_32 : decode cX11_makeCell 32 = .ok (.aload_n 0, 1) := by decide +kernel
theorem dX11_makeCell_33 : decode cX11_makeCell 33 = .ok (.iconst 5, 1) := by decide +kernel
theorem dX11_makeCell_34 : decode cX11_makeCell 34 = .ok (.putfield 116, 3) := by decide +kernel
