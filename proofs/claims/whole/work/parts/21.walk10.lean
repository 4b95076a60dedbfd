theorem dX10_statement_0 : decode cX10_statement 0 = .ok (.aload_n 0, 1) := by decide +kernel
theorem dX10_statement_1 : decode cX10_statement 1 = .ok (.ldc 188, 2) := by decide +kernel
theorem dX10_statement_3 : decode cX10_statement 3 = .ok (.invokevirtual 189, 3) := by decide +kernel
theorem dX10_statement_6 : decode cX10_statement 6 = .ok (.ifCond .eq 147, 3) := by decide +kernel
theorem dX10_statement_9 : decode cX10_statement 9 = .ok (.aload_n 0, 1) := by decide +kernel
theorem dX10_statement_10 : decode cX10_statement 10 = .ok (.iload_n 1, 1) := by decide +kernel
theorem dX10_statement_11 : decode cX10_statement 11 = .ok (.invokevirtual 81, 3) := by decide +kernel
theorem dX10_statement_14 : decode cX10_statement 14 = .ok (.bipush 12, 2) := by decide +kernel
theorem dX10_statement_16 : decode cX10_statement 16 = .ok (.if_icmp .ge 137, 3) := by decide +kernel
theorem dX10_statement_19 : decode cX10_statement 19 = .ok (.iconst 5, 1) := by decide +kernel
theorem dX10_statement_20 : decode cX10_statement 20 = .ok (.aload_n 0, 1) := by decide +kernel
theorem dX10_statement_21 : decode cX10_statement 21 = .ok (.iload_n 1, 1) := by decide +kernel
theorem dX10_statement_22 : decode cX10_statement 22 = .ok (.invokevirtual 81, 3) := by decide +kernel
theorem dX10_statement_25 : decode cX10_statement 25 = .ok (.imul, 1) := by decide +kernel
theorem dX10_statement_26 : decode cX10_statement 26 = .ok (.istore_n 2, 1) := by decide +kernel
theorem dX10_statement_27 : decode cX10_statement 27 = .ok (.aload_n 0, 1) := by decide +kernel
theorem dX10_statement_28 : decode cX10_statement 28 = .ok (.invokevirtual 181, 3) := by decide +kernel
theorem dX10_statement_31 : decode cX10_statement 31 = .ok (.aload_n 0, 1) := by decide +kernel
theorem dX10_statement_32 : decode cX10_statement 32 = .ok (.getfield 48, 3) := by decide +kernel
theorem dX10_statement_35 : decode cX10_statement 35 = .ok (.iload_n 1, 1) := by decide +kernel
theorem dX10_statement_36 : decode cX10_statement 36 = .ok (.aaload, 1) := by decide +kernel
theorem dX10_statement_37 : decode cX10_statement 37 = .ok (.iload_n 2, 1) := by decide +kernel
theorem dX10_statement_38 : decode cX10_statement 38 = .ok (.iconst 3, 1) := by decide +kernel
theorem dX10_statement_39 : decode cX10_statement 39 = .ok (.iadd, 1) := by decide +kernel
theorem dX10_statement_40 : decode cX10_statement 40 = .ok (.iconst 1, 1) := by decide +kernel
theorem dX10_statement_41 : decode cX10_statement 41 = .ok (.iastore, 1) := by decide +kernel
theorem dX10_statement_42 : decode cX10_statement 42 = .ok (.aload_n 0, 1) := by decide +kernel
theorem dX10_statement_43 : decode cX10_statement 43 = .ok (.getfield 48, 3) := by decide +kernel
theorem dX10_statement_46 : decode cX10_statement 46 = .ok (.iload_n 1, 1) := by decide +kernel
theorem dX10_statement_47 : decode cX10_statement 47 = .ok (.aaload, 1) := by decide +kernel
theorem dX10_statement_48 : decode cX10_statement 48 = .ok (.iload_n 2, 1) := by decide +kernel
theorem dX10_statement_49 : decode cX10_statement 49 = .ok (.iconst 4, 1) := by decide +kernel
theorem dX10_statement_50 : decode cX10_statement 50 = .ok (.iadd, 1) := by decide +kernel
theorem dX10_statement_51 : decode cX10_statement 51 = .ok (.iconst 0, 1) := by decide +kernel
theorem dX10_statement_52 : decode cX10_statement 52 = .ok (.iastore, 1) := by decide +kernel
theorem dX10_statement_53 : decode cX10_statement 53 = .ok (.aload_n 0, 1) := by decide +kernel
theorem dX10_statement_54 : decode cX10_statement 54 = .ok (.aload_n 0, 1) := by decide +kernel
theorem dX10_statement_55 : decode cX10_statement 55 = .ok (.getfield 48, 3) := by decide +kernel
theorem dX10_statement_58 : decode cX10_statement 58 = .ok (.iload_n 1, 1) := by decide +kernel
theorem dX10_statement_59 : decode cX10_statement 59 = .ok (.aaload, 1) := by decide +kernel
theorem dX10_statement_60 : decode cX10_statement 60 = .ok (.iload_n 2, 1) := by decide +kernel
theorem dX10_statement_61 : decode cX10_statement 61 = .ok (.bipush 30, 2) := by decide +kernel
theorem dX10_statement_63 : decode cX10_statement 63 = .ok (.invokevirtual 193, 3) := by decide +kernel
theorem dX10_statement_66 : decode cX10_statement 66 = .ok (.ifCond .ne 5, 3) := by decide +kernel
theorem dX10_statement_69 : decode cX10_statement 69 = .ok (.iconst 0, 1) := by decide +kernel
theorem dX10_statement_70 : decode cX10_statement 70 = .ok (.ireturn, 1) := by decide +kernel
theorem dX10_statement_71 : decode cX10_statement 71 = .ok (.aload_n 0, 1) := by decide +kernel
theorem dX10_statement_72 : decode cX10_statement 72 = .ok (.ldc 197, 2) := by decide +kernel
theorem dX10_statement_74 : decode cX10_statement 74 = .ok (.invokevirtual 189, 3) := by decide +kernel
theorem dX10_statement_77 : decode cX10_statement 77 = .ok (.ifCond .eq 28, 3) := by decide +kernel
theorem dX10_statement_80 : decode cX10_statement 80 = .ok (.aload_n 0, 1) := by decide +kernel
theorem dX10_statement_81 : decode cX10_statement 81 = .ok (.invokevirtual 181, 3) := by decide +kernel
theorem dX10_statement_84 : decode cX10_statement 84 = .ok (.aload_n 0, 1) := by decide +kernel
theorem dX10_statement_85 : decode cX10_statement 85 = .ok (.aload_n 0, 1) := by decide +kernel
theorem dX10_statement_86 : decode cX10_statement 86 = .ok (.getfield 48, 3) := by decide +kernel
theorem dX10_statement_89 : decode cX10_statement 89 = .ok (.iload_n 1, 1) := by decide +kernel
theorem dX10_statement_90 : decode cX10_statement 90 = .ok (.aaload, 1) := by decide +kernel
theorem dX10_statement_91 : decode cX10_statement 91 = .ok (.iload_n 2, 1) := by decide +kernel
theorem dX10_statement_92 : decode cX10_statement 92 = .ok (.iconst 3, 1) := by decide +kernel
theorem dX10_statement_93 : decode cX10_statement 93 = .ok (.iadd, 1) := by decide +kernel
theorem dX10_statement_94 : decode cX10_statement 94 = .ok (.iconst 1, 1) := by decide +kernel
theorem dX10_statement_95 : decode cX10_statement 95 = .ok (.bipush 99, 2) := by decide +kernel
theorem dX10_statement_97 : decode cX10_statement 97 = .ok (.invokevirtual 184, 3) := by decide +kernel
theorem dX10_statement_100 : decode cX10_statement 100 = .ok (.ifCond .ne 5, 3) := by decide +kernel
theorem dX10_statement_103 : decode cX10_statement 103 = .ok (.iconst 0, 1) := by decide +kernel
theorem dX10_statement_104 : decode cX10_statement 104 = .ok (.ireturn, 1) := by decide +kernel
theorem dX10_statement_105 : decode cX10_statement 105 = .ok (.aload_n 0, 1) := by decide +kernel
theorem dX10_statement_106 : decode cX10_statement 106 = .ok (.ldc 199, 2) := by decide +kernel
theorem dX10_statement_108 : decode cX10_statement 108 = .ok (.invokevirtual 189, 3) := by decide +kernel
theorem dX10_statement_111 : decode cX10_statement 111 = .ok (.ifCond .eq 28, 3) := by decide +kernel
theorem dX10_statement_114 : decode cX10_statement 114 = .ok (.aload_n 0, 1) := by decide +kernel
theorem dX10_statement_115 : decode cX10_statement 115 = .ok (.invokevirtual 181, 3) := by decide +kernel
theorem dX10_statement_118 : decode cX10_statement 118 = .ok (.aload_n 0, 1) := by decide +kernel
theorem dX10_statement_119 : decode cX10_statement 119 = .ok (.aload_n 0, 1) := by decide +kernel
theorem dX10_statement_120 : decode cX10_statement 120 = .ok (.getfield 48, 3) := by decide +kernel
theorem dX10_statement_123 : decode cX10_statement 123 = .ok (.iload_n 1, 1) := by decide +kernel
theorem dX10_statement_124 : decode cX10_statement 124 = .ok (.aaload, 1) := by decide +kernel
theorem dX10_statement_125 : decode cX10_statement 125 = .ok (.iload_n 2, 1) := by decide +kernel
theorem dX10_statement_126 : decode cX10_statement 126 = .ok (.iconst 4, 1) := by decide +kernel
theorem dX10_statement_127 : decode cX10_statement 127 = .ok (.iadd, 1) := by decide +kernel
theorem dX10_statement_128 : decode cX10_statement 128 = .ok (.iconst 0, 1) := by decide +kernel
theorem dX10_statement_129 : decode cX10_statement 129 = .ok (.bipush 9, 2) := by decide +kernel
theorem dX10_statement_131 : decode cX10_statement 131 = .ok (.invokevirtual 184, 3) := by decide +kernel
theorem dX10_statement_134 : decode cX10_statement 134 = .ok (.ifCond .ne 5, 3) := by decide +kernel
theorem dX10_statement_137 : decode cX10_statement 137 = .ok (.iconst 0, 1) := by decide +kernel
theorem dX10_statement_138 : decode cX10_statement 138 = .ok (.ireturn, 1) := by decide +kernel
theorem dX10_statement_139 : decode cX10_statement 139 = .ok (.aload_n 0, 1) := by decide +kernel
theorem dX10_statement_140 : decode cX10_statement 140 = .ok (.getfield 45, 3) := by decide +kernel
theorem dX10_statement_143 : decode cX10_statement 143 = .ok (.iload_n 1, 1) := by decide +kernel
theorem dX10_statement_144 : decode cX10_statement 144 = .ok (.aaload, 1) := by decide +kernel
theorem dX10_statement_145 : decode cX10_statement 145 = .ok (.iconst 0, 1) := by decide +kernel
theorem dX10_statement_146 : decode cX10_statement 146 = .ok (.dup2, 1) := by decide +kernel
theorem dX10_statement_147 : decode cX10_statement 147 = .ok (.iaload, 1) := by decide +kernel
theorem dX10_statement_148 : decode cX10_statement 148 = .ok (.iconst 1, 1) := by decide +kernel
theorem dX10_statement_149 : decode cX10_statement 149 = .ok (.iadd, 1) := by decide +kernel
theorem dX10_statement_150 : decode cX10_statement 150 = .ok (.iastore, 1) := by decide +kernel
theorem dX10_statement_151 : decode cX10_statement 151 = .ok (.iconst 1, 1) := by decide +kernel
theorem dX10_statement_152 : decode cX10_statement 152 = .ok (.ireturn, 1) := by decide +kernel
theorem dX10_statement_153 : decode cX10_statement 153 = .ok (.aload_n 0, 1) := by decide +kernel
theorem dX10_statement_154 : decode cX10_statement 154 = .ok (.ldc 201, 2) := by decide +kernel
theorem dX10_statement_156 : decode cX10_statement 156 = .ok (.invokevirtual 189, 3) := by decide +kernel
theorem dX10_statement_159 : decode cX10_statement 159 = .ok (.ifCond .eq 102, 3) := by decide +kernel
theorem dX10_statement_162 : decode cX10_statement 162 = .ok (.aload_n 0, 1) := by decide +kernel
theorem dX10_statement_163 : decode cX10_statement 163 = .ok (.iload_n 1, 1) := by decide +kernel
theorem dX10_statement_164 : decode cX10_statement 164 = .ok (.invokevirtual 85, 3) := by decide +kernel
theorem dX10_statement_167 : decode cX10_statement 167 = .ok (.bipush 10, 2) := by decide +kernel
theorem dX10_statement_169 : decode cX10_statement 169 = .ok (.if_icmp .ge 92, 3) := by decide +kernel
theorem dX10_statement_172 : decode cX10_statement 172 = .ok (.iconst 4, 1) := by decide +kernel
theorem dX10_statement_173 : decode cX10_statement 173 = .ok (.aload_n 0, 1) := by decide +kernel
theorem dX10_statement_174 : decode cX10_statement 174 = .ok (.iload_n 1, 1) := by decide +kernel
theorem dX10_statement_175 : decode cX10_statement 175 = .ok (.invokevirtual 85, 3) := by decide +kernel
theorem dX10_statement_178 : decode cX10_statement 178 = .ok (.imul, 1) := by decide +kernel
theorem dX10_statement_179 : decode cX10_statement 179 = .ok (.istore_n 2, 1) := by decide +kernel
theorem dX10_statement_180 : decode cX10_statement 180 = .ok (.aload_n 0, 1) := by decide +kernel
theorem dX10_statement_181 : decode cX10_statement 181 = .ok (.invokevirtual 181, 3) := by decide +kernel
theorem dX10_statement_184 : decode cX10_statement 184 = .ok (.aload_n 0, 1) := by decide +kernel
theorem dX10_statement_185 : decode cX10_statement 185 = .ok (.getfield 51, 3) := by decide +kernel
theorem dX10_statement_188 : decode cX10_statement 188 = .ok (.iload_n 1, 1) := by decide +kernel
theorem dX10_statement_189 : decode cX10_statement 189 = .ok (.aaload, 1) := by decide +kernel
theorem dX10_statement_190 : decode cX10_statement 190 = .ok (.iload_n 2, 1) := by decide +kernel
theorem dX10_statement_191 : decode cX10_statement 191 = .ok (.iconst 3, 1) := by decide +kernel
theorem dX10_statement_192 : decode cX10_statement 192 = .ok (.iadd, 1) := by decide +kernel
theorem dX10_statement_193 : decode cX10_statement 193 = .ok (.iconst 0, 1) := by decide +kernel
theorem dX10_statement_194 : decode cX10_statement 194 = .ok (.iastore, 1) := by decide +kernel
theorem dX10_statement_195 : decode cX10_statement 195 = .ok (.aload_n 0, 1) := by decide +kernel
theorem dX10_statement_196 : decode cX10_statement 196 = .ok (.aload_n 0, 1) := by decide +kernel
theorem dX10_statement_197 : decode cX10_statement 197 = .ok (.getfield 51, 3) := by decide +kernel
theorem dX10_statement_200 : decode cX10_statement 200 = .ok (.iload_n 1, 1) := by decide +kernel
theorem dX10_statement_201 : decode cX10_statement 201 = .ok (.aaload, 1) := by decide +kernel
theorem dX10_statement_202 : decode cX10_statement 202 = .ok (.iload_n 2, 1) := by decide +kernel
theorem dX10_statement_203 : decode cX10_statement 203 = .ok (.bipush 40, 2) := by decide +kernel
theorem dX10_statement_205 : decode cX10_statement 205 = .ok (.invokevirtual 193, 3) := by decide +kernel
theorem dX10_statement_208 : decode cX10_statement 208 = .ok (.ifCond .ne 5, 3) := by decide +kernel
theorem dX10_statement_211 : decode cX10_statement 211 = .ok (.iconst 0, 1) := by decide +kernel
theorem dX10_statement_212 : decode cX10_statement 212 = .ok (.ireturn, 1) := by decide +kernel
theorem dX10_statement_213 : decode cX10_statement 213 = .ok (.aload_n 0, 1) := by decide +kernel
theorem dX10_statement_214 : decode cX10_statement 214 = .ok (.ldc 202, 2) := by decide +kernel
theorem dX10_statement_216 : decode cX10_statement 216 = .ok (.invokevirtual 189, 3) := by decide +kernel
theorem dX10_statement_219 : decode cX10_statement 219 = .ok (.ifCond .eq 28, 3) := by decide +kernel
theorem dX10_statement_222 : decode cX10_statement 222 = .ok (.aload_n 0, 1) := by decide +kernel
theorem dX10_statement_223 : decode cX10_statement 223 = .ok (.invokevirtual 181, 3) := by decide +kernel
theorem dX10_statement_226 : decode cX10_statement 226 = .ok (.aload_n 0, 1) := by decide +kernel
theorem dX10_statement_227 : decode cX10_statement 227 = .ok (.aload_n 0, 1) := by decide +kernel
theorem dX10_statement_228 : decode cX10_statement 228 = .ok (.getfield 51, 3) := by decide +kernel
theorem dX10_statement_231 : decode cX10_statement 231 = .ok (.iload_n 1, 1) := by decide +kernel
theorem dX10_statement_232 : decode cX10_statement 232 = .ok (.aaload, 1) := by decide +kernel
theorem dX10_statement_233 : decode cX10_statement 233 = .ok (.iload_n 2, 1) := by decide +kernel
theorem dX10_statement_234 : decode cX10_statement 234 = .ok (.iconst 3, 1) := by decide +kernel
theorem dX10_statement_235 : decode cX10_statement 235 = .ok (.iadd, 1) := by decide +kernel
theorem dX10_statement_236 : decode cX10_statement 236 = .ok (.iconst 0, 1) := by decide +kernel
theorem dX10_statement_237 : decode cX10_statement 237 = .ok (.bipush 99, 2) := by decide +kernel
theorem dX10_statement_239 : decode cX10_statement 239 = .ok (.invokevirtual 184, 3) := by decide +kernel
theorem dX10_statement_242 : decode cX10_statement 242 = .ok (.ifCond .ne 5, 3) := by decide +kernel
theorem dX10_statement_245 : decode cX10_statement 245 = .ok (.iconst 0, 1) := by decide +kernel
theorem dX10_statement_246 : decode cX10_statement 246 = .ok (.ireturn, 1) := by decide +kernel
theorem dX10_statement_247 : decode cX10_statement 247 = .ok (.aload_n 0, 1) := by decide +kernel
theorem dX10_statement_248 : decode cX10_statement 248 = .ok (.getfield 45, 3) := by decide +kernel
theorem dX10_statement_251 : decode cX10_statement 251 = .ok (.iload_n 1, 1) := by decide +kernel
theorem dX10_statement_252 : decode cX10_statement 252 = .ok (.aaload, 1) := by decide +kernel
theorem dX10_statement_253 : decode cX10_statement 253 = .ok (.iconst 1, 1) := by decide +kernel
theorem dX10_statement_254 : decode cX10_statement 254 = .ok (.dup2, 1) := by decide +kernel
theorem dX10_statement_255 : decode cX10_statement 255 = .ok (.iaload, 1) := by decide +kernel
theorem dX10_statement_256 : decode cX10_statement 256 = .ok (.iconst 1, 1) := by decide +kernel
theorem dX10_statement_257 : decode cX10_statement 257 = .ok (.iadd, 1) := by decide +kernel
theorem dX10_statement_258 : decode cX10_statement 258 = .ok (.iastore, 1) := by decide +kernel
theorem dX10_statement_259 : decode cX10_statement 259 = .ok (.iconst 1, 1) := by decide +kernel
theorem dX10_statement_260 : decode cX10_statement 260 = .ok (.ireturn, 1) := by decide +kernel
theorem dX10_statement_261 : decode cX10_statement 261 = .ok (.aload_n 0, 1) := by decide +kernel
theorem dX10_statement_262 : decode cX10_statement 262 = .ok (.ldc 204, 2) := by decide +kernel
theorem dX10_statement_264 : decode cX10_statement 264 = .ok (.invokevirtual 189, 3) := by decide +kernel
theorem dX10_statement_267 : decode cX10_statement 267 = .ok (.ifCond .eq 21, 3) := by decide +kernel
theorem dX10_statement_270 : decode cX10_statement 270 = .ok (.aload_n 0, 1) := by decide +kernel
theorem dX10_statement_271 : decode cX10_statement 271 = .ok (.invokevirtual 181, 3) := by decide +kernel
theorem dX10_statement_274 : decode cX10_statement 274 = .ok (.aload_n 0, 1) := by decide +kernel
theorem dX10_statement_275 : decode cX10_statement 275 = .ok (.aload_n 0, 1) := by decide +kernel
theorem dX10_statement_276 : decode cX10_statement 276 = .ok (.getfield 45, 3) := by decide +kernel
theorem dX10_statement_279 : decode cX10_statement 279 = .ok (.iload_n 1, 1) := by decide +kernel
theorem dX10_statement_280 : decode cX10_statement 280 = .ok (.aaload, 1) := by decide +kernel
theorem dX10_statement_281 : decode cX10_statement 281 = .ok (.iconst 4, 1) := by decide +kernel
theorem dX10_statement_282 : decode cX10_statement 282 = .ok (.bipush 9, 2) := by decide +kernel
theorem dX10_statement_284 : decode cX10_statement 284 = .ok (.invokevirtual 193, 3) := by decide +kernel
theorem dX10_statement_287 : decode cX10_statement 287 = .ok (.ireturn, 1) := by decide +kernel
theorem dX10_statement_288 : decode cX10_statement 288 = .ok (.aload_n 0, 1) := by decide +kernel
theorem dX10_statement_289 : decode cX10_statement 289 = .ok (.ldc 206, 2) := by decide +kernel
theorem dX10_statement_291 : decode cX10_statement 291 = .ok (.invokevirtual 189, 3) := by decide +kernel
theorem dX10_statement_294 : decode cX10_statement 294 = .ok (.ifCond .eq 22, 3) := by decide +kernel
theorem dX10_statement_297 : decode cX10_statement 297 = .ok (.aload_n 0, 1) := by decide +kernel
theorem dX10_statement_298 : decode cX10_statement 298 = .ok (.invokevirtual 181, 3) := by decide +kernel
theorem dX10_statement_301 : decode cX10_statement 301 = .ok (.aload_n 0, 1) := by decide +kernel
theorem dX10_statement_302 : decode cX10_statement 302 = .ok (.aload_n 0, 1) := by decide +kernel
theorem dX10_statement_303 : decode cX10_statement 303 = .ok (.getfield 45, 3) := by decide +kernel
theorem dX10_statement_306 : decode cX10_statement 306 = .ok (.iload_n 1, 1) := by decide +kernel
theorem dX10_statement_307 : decode cX10_statement 307 = .ok (.aaload, 1) := by decide +kernel
theorem dX10_statement_308 : decode cX10_statement 308 = .ok (.bipush 7, 2) := by decide +kernel
theorem dX10_statement_310 : decode cX10_statement 310 = .ok (.bipush 30, 2) := by decide +kernel
theorem dX10_statement_312 : decode cX10_statement 312 = .ok (.invokevirtual 193, 3) := by decide +kernel
theorem dX10_statement_315 : decode cX10_statement 315 = .ok (.ireturn, 1) := by decide +kernel
theorem dX10_statement_316 : decode cX10_statement 316 = .ok (.aload_n 0, 1) := by decide +kernel
theorem dX10_statement_317 : decode cX10_statement 317 = .ok (.ldc 208, 2) := by decide +kernel
theorem dX10_statement_319 : decode cX10_statement 319 = .ok (.invokevirtual 189, 3) := by decide +kernel
theorem dX10_statement_322 : decode cX10_statement 322 = .ok (.ifCond .eq 22, 3) := by decide +kernel
theorem dX10_statement_325 : decode cX10_statement 325 = .ok (.aload_n 0, 1) := by decide +kernel
theorem dX10_statement_326 : decode cX10_statement 326 = .ok (.invokevirtual 181, 3) := by decide +kernel
theorem dX10_statement_329 : decode cX10_statement 329 = .ok (.aload_n 0, 1) := by decide +kernel
theorem dX10_statement_330 : decode cX10_statement 330 = .ok (.aload_n 0, 1) := by decide +kernel
theorem dX10_statement_331 : decode cX10_statement 331 = .ok (.getfield 45, 3) := by decide +kernel
theorem dX10_statement_334 : decode cX10_statement 334 = .ok (.iload_n 1, 1) := by decide +kernel
theorem dX10_statement_335 : decode cX10_statement 335 = .ok (.aaload, 1) := by decide +kernel
theorem dX10_statement_336 : decode cX10_statement 336 = .ok (.iconst 2, 1) := by decide +kernel
theorem dX10_statement_337 : decode cX10_statement 337 = .ok (.iconst 0, 1) := by decide +kernel
theorem dX10_statement_338 : decode cX10_statement 338 = .ok (.bipush 99, 2) := by decide +kernel
theorem dX10_statement_340 : decode cX10_statement 340 = .ok (.invokevirtual 184, 3) := by decide +kernel
theorem dX10_statement_343 : decode cX10_statement 343 = .ok (.ireturn, 1) := by decide +kernel
theorem dX10_statement_344 : decode cX10_statement 344 = .ok (.aload_n 0, 1) := by decide +kernel
theorem dX10_statement_345 : decode cX10_statement 345 = .ok (.ldc 210, 2) := by decide +kernel
theorem dX10_statement_347 : decode cX10_statement 347 = .ok (.invokevirtual 189, 3) := by decide +kernel
theorem dX10_statement_350 : decode cX10_statement 350 = .ok (.ifCond .eq 22, 3) := by decide +kernel
theorem dX10_statement_353 : decode cX10_statement 353 = .ok (.aload_n 0, 1) := by decide +kernel
theorem dX10_statement_354 : decode cX10_statement 354 = .ok (.invokevirtual 181, 3) := by decide +kernel
theorem dX10_statement_357 : decode cX10_statement 357 = .ok (.aload_n 0, 1) := by decide +kernel
theorem dX10_statement_358 : decode cX10_statement 358 = .ok (.aload_n 0, 1) := by decide +kernel
theorem dX10_statement_359 : decode cX10_statement 359 = .ok (.getfield 45, 3) := by decide +kernel
theorem dX10_statement_362 : decode cX10_statement 362 = .ok (.iload_n 1, 1) := by decide +kernel
theorem dX10_statement_363 : decode cX10_statement 363 = .ok (.aaload, 1) := by decide +kernel
theorem dX10_statement_364 : decode cX10_statement 364 = .ok (.iconst 3, 1) := by decide +kernel
theorem dX10_statement_365 : decode cX10_statement 365 = .ok (.iconst 0, 1) := by decide +kernel
theorem dX10_statement_366 : decode cX10_statement 366 = .ok (.bipush 9, 2) := by decide +kernel
theorem dX10_statement_368 : decode cX10_statement 368 = .ok (.invokevirtual 184, 3) := by decide +kernel
theorem dX10_statement_371 : decode cX10_statement 371 = .ok (.ireturn, 1) := by decide +kernel
theorem dX10_statement_372 : decode cX10_statement 372 = .ok (.aload_n 0, 1) := by decide +kernel
theorem dX10_statement_373 : decode cX10_statement 373 = .ok (.invokevirtual 177, 3) := by decide +kernel
theorem dX10_statement_376 : decode cX10_statement 376 = .ok (.ireturn, 1) := by decide +kernel

def f_X10_statement (fu : Nat) (M : gz_M) (a0 : Nat) (a1 : Int32) : Option (Int32 × gz_M) :=
  gz_gd M 10 a0 <|
  (f_X10_isWord fu M a0 9).bind fun x1 =>
  gz_jn ((f_X10_isWord fu M a0 12).bind fun x33 =>
    gz_jn ((f_X10_isWord fu M a0 14).bind fun x55 =>
      if x55 = 0 then
        (f_X10_isWord fu M a0 15).bind fun x61 =>
        if x61 = 0 then
          (f_X10_isWord fu M a0 16).bind fun x67 =>
          if x67 = 0 then
            (f_X10_isWord fu M a0 17).bind fun x73 =>
            if x73 = 0 then
              gz_b2 (f_X10_wrong fu M a0) fun x79 M80 =>
              gz_z x79 (some (x79, M80))
            else
              (f_X10_look fu M a0).bind fun M74 =>
              (gz_gR M74 10 12 a0).bind fun x75 =>
              (gz_aR M74 x75 a1).bind fun x76 =>
              gz_b2 (f_X10_number fu M74 a0 x76 (3 : Int32) (0 : Int32) (9 : Int32)) fun x77 M78 =>
              gz_z x77 (some (x77, M78))
          else
            (f_X10_look fu M a0).bind fun M68 =>
            (gz_gR M68 10 12 a0).bind fun x69 =>
            (gz_aR M68 x69 a1).bind fun x70 =>
            gz_b2 (f_X10_number fu M68 a0 x70 (2 : Int32) (0 : Int32) (99 : Int32)) fun x71 M72 =>
            gz_z x71 (some (x71, M72))
        else
          (f_X10_look fu M a0).bind fun M62 =>
          (gz_gR M62 10 12 a0).bind fun x63 =>
          (gz_aR M62 x63 a1).bind fun x64 =>
          gz_b2 (f_X10_three fu M62 a0 x64 (7 : Int32) (30 : Int32)) fun x65 M66 =>
          gz_z x65 (some (x65, M66))
      else
        (f_X10_look fu M a0).bind fun M56 =>
        (gz_gR M56 10 12 a0).bind fun x57 =>
        (gz_aR M56 x57 a1).bind fun x58 =>
        gz_b2 (f_X10_three fu M56 a0 x58 (4 : Int32) (9 : Int32)) fun x59 M60 =>
        gz_z x59 (some (x59, M60))) fun j261 =>
    if x33 = 0 then
      j261
    else
      (f_X10_lastsOf fu M a0 a1).bind fun x34 =>
      if (10 : Int32) ≤ x34 then
        j261
      else
        (f_X10_lastsOf fu M a0 a1).bind fun x35 =>
        (f_X10_look fu M a0).bind fun M36 =>
        (gz_gR M36 10 14 a0).bind fun x37 =>
        (gz_aR M36 x37 a1).bind fun x38 =>
        (gz_tI M36 x38 (((4 : Int32) * x35) + (3 : Int32)) (0 : Int32)).bind fun M39 =>
        (gz_gR M39 10 14 a0).bind fun x40 =>
        (gz_aR M39 x40 a1).bind fun x41 =>
        gz_b2 (f_X10_three fu M39 a0 x41 ((4 : Int32) * x35) (40 : Int32)) fun x42 M43 =>
        if x42 = 0 then
          gz_z (0 : Int32) (some ((0 : Int32), M43))
        else
          (f_X10_isWord fu M43 a0 13).bind fun x44 =>
          gz_jn (fun (M50 : gz_M) =>
          (gz_gR M50 10 12 a0).bind fun x51 =>
            (gz_aR M50 x51 a1).bind fun x52 =>
            (gz_aI M50 x52 (1 : Int32)).bind fun x53 =>
            (gz_tI M50 x52 (1 : Int32) (x53 + (1 : Int32))).bind fun M54 =>
            gz_z (1 : Int32) (some ((1 : Int32), M54))) fun j247 =>
          if x44 = 0 then
            j247 M43
          else
            (f_X10_look fu M43 a0).bind fun M45 =>
            (gz_gR M45 10 14 a0).bind fun x46 =>
            (gz_aR M45 x46 a1).bind fun x47 =>
            gz_b2 (f_X10_number fu M45 a0 x47 (((4 : Int32) * x35) + (3 : Int32)) (0 : Int32) (99 : Int32)) fun x48 M49 =>
            if x48 = 0 then
              gz_z (0 : Int32) (some ((0 : Int32), M49))
            else
              j247 M49) fun j153 =>
  if x1 = 0 then
    j153
  else
    (f_X10_feetOf fu M a0 a1).bind fun x2 =>
    if (12 : Int32) ≤ x2 then
      j153
    else
      (f_X10_feetOf fu M a0 a1).bind fun x3 =>
      (f_X10_look fu M a0).bind fun M4 =>
      (gz_gR M4 10 13 a0).bind fun x5 =>
      (gz_aR M4 x5 a1).bind fun x6 =>
      (gz_tI M4 x6 (((5 : Int32) * x3) + (3 : Int32)) (1 : Int32)).bind fun M7 =>
      (gz_gR M7 10 13 a0).bind fun x8 =>
      (gz_aR M7 x8 a1).bind fun x9 =>
      (gz_tI M7 x9 (((5 : Int32) * x3) + (4 : Int32)) (0 : Int32)).bind fun M10 =>
      (gz_gR M10 10 13 a0).bind fun x11 =>
      (gz_aR M10 x11 a1).bind fun x12 =>
      gz_b2 (f_X10_three fu M10 a0 x12 ((5 : Int32) * x3) (30 : Int32)) fun x13 M14 =>
      if x13 = 0 then
        gz_z (0 : Int32) (some ((0 : Int32), M14))
      else
        (f_X10_isWord fu M14 a0 10).bind fun x15 =>
        gz_jn (fun (M21 : gz_M) =>
        (f_X10_isWord fu M21 a0 11).bind fun x22 =>
          gz_jn (fun (M28 : gz_M) =>
          (gz_gR M28 10 12 a0).bind fun x29 =>
            (gz_aR M28 x29 a1).bind fun x30 =>
            (gz_aI M28 x30 (0 : Int32)).bind fun x31 =>
            (gz_tI M28 x30 (0 : Int32) (x31 + (1 : Int32))).bind fun M32 =>
            gz_z (1 : Int32) (some ((1 : Int32), M32))) fun j139 =>
          if x22 = 0 then
            j139 M21
          else
            (f_X10_look fu M21 a0).bind fun M23 =>
            (gz_gR M23 10 13 a0).bind fun x24 =>
            (gz_aR M23 x24 a1).bind fun x25 =>
            gz_b2 (f_X10_number fu M23 a0 x25 (((5 : Int32) * x3) + (4 : Int32)) (0 : Int32) (9 : Int32)) fun x26 M27 =>
            if x26 = 0 then
              gz_z (0 : Int32) (some ((0 : Int32), M27))
            else
              j139 M27) fun j105 =>
        if x15 = 0 then
          j105 M14
        else
          (f_X10_look fu M14 a0).bind fun M16 =>
          (gz_gR M16 10 13 a0).bind fun x17 =>
          (gz_aR M16 x17 a1).bind fun x18 =>
          gz_b2 (f_X10_number fu M16 a0 x18 (((5 : Int32) * x3) + (3 : Int32)) (1 : Int32) (99 : Int32)) fun x19 M20 =>
          if x19 = 0 then
            gz_z (0 : Int32) (some ((0 : Int32), M20))
          else
            j105 M20

set_option maxHeartbeats 4000000 in
theorem ct_X10_statement (l : Launch) (G : gz_G) (fu : Nat) (M : gz_M) (a0 : Nat) (a1 : Int32) (y : Int32 × gz_M) (hF : f_X10_statement fu M a0 a1 = some y) : gz_ct l yX10_statement cX10_statement 3 (some .boolean) 5 107 0 0 G [.ref a0, .int a1] M (some (.int y.1)) y.2 := by
  refine gz_ct.of (by decide) (Nat.le_of_ble_eq_true rfl) (fun C hC hX => ?_)
  unfold f_X10_statement at hF
  obtain ⟨-, hF⟩ := gz_gd_some hF
  show gz_go C 0 0 M [(0, .ref a0), (1, .int a1)] 0 []
  refine gz_aload_n 0 hC 0 dX10_statement_0 rfl rfl ?_
  refine gz_ldcs 1 hC 9 rfl dX10_statement_1 ?_
  refine gz_cvP (st := []) 3 hC hX [.ref (C.2.2.2.2.2.2.2 9)] Value.int yl_X10_isWord yv_X10_isWord q_1291 ⟨Nat.le_of_ble_eq_true rfl, Nat.le_of_ble_eq_true rfl⟩ ⟨_, rfl⟩ (fun r h => ct_X10_isWord _ _ fu M a0 9 r h) rfl rfl (Nat.le_of_ble_eq_true rfl) dX10_statement_3 gz_00 hF (fun x1 hF => ?_)
  refine gz_join (fun (j : Option (Int32 × gz_M)) => j = some y → gz_go C 0 0 M [(0, .ref a0), (1, .int a1)] 153 []) hF (fun hF => ?_) (fun j153 hj153 hF => ?_)
  · skip
    refine gz_aload_n 153 hC 0 dX10_statement_153 rfl rfl ?_
    refine gz_ldcs 154 hC 12 rfl dX10_statement_154 ?_
    refine gz_cvP (st := []) 156 hC hX [.ref (C.2.2.2.2.2.2.2 12)] Value.int yl_X10_isWord yv_X10_isWord q_1291 ⟨Nat.le_of_ble_eq_true rfl, Nat.le_of_ble_eq_true rfl⟩ ⟨_, rfl⟩ (fun r h => ct_X10_isWord _ _ fu M a0 12 r h) rfl rfl (Nat.le_of_ble_eq_true rfl) dX10_statement_156 gz_00 hF (fun x33 hF => ?_)
    refine gz_join (fun (j : Option (Int32 × gz_M)) => j = some y → gz_go C 0 0 M [(0, .ref a0), (1, .int a1)] 261 []) hF (fun hF => ?_) (fun j261 hj261 hF => ?_)
    · skip
      refine gz_aload_n 261 hC 0 dX10_statement_261 rfl rfl ?_
      refine gz_ldcs 262 hC 14 rfl dX10_statement_262 ?_
      refine gz_cvP (st := []) 264 hC hX [.ref (C.2.2.2.2.2.2.2 14)] Value.int yl_X10_isWord yv_X10_isWord q_1291 ⟨Nat.le_of_ble_eq_true rfl, Nat.le_of_ble_eq_true rfl⟩ ⟨_, rfl⟩ (fun r h => ct_X10_isWord _ _ fu M a0 14 r h) rfl rfl (Nat.le_of_ble_eq_true rfl) dX10_statement_264 gz_00 hF (fun x55 hF => ?_)
      refine gz_if_eq 267 288 hC dX10_statement_267 (by decide) hF (fun hF => ?_) (fun hF => ?_)
      · skip
        refine gz_aload_n 288 hC 0 dX10_statement_288 rfl rfl ?_
        refine gz_ldcs 289 hC 15 rfl dX10_statement_289 ?_
        refine gz_cvP (st := []) 291 hC hX [.ref (C.2.2.2.2.2.2.2 15)] Value.int yl_X10_isWord yv_X10_isWord q_1291 ⟨Nat.le_of_ble_eq_true rfl, Nat.le_of_ble_eq_true rfl⟩ ⟨_, rfl⟩ (fun r h => ct_X10_isWord _ _ fu M a0 15 r h) rfl rfl (Nat.le_of_ble_eq_true rfl) dX10_statement_291 gz_00 hF (fun x61 hF => ?_)
        refine gz_if_eq 294 316 hC dX10_statement_294 (by decide) hF (fun hF => ?_) (fun hF => ?_)
        · skip
          refine gz_aload_n 316 hC 0 dX10_statement_316 rfl rfl ?_
          refine gz_ldcs 317 hC 16 rfl dX10_statement_317 ?_
          refine gz_cvP (st := []) 319 hC hX [.ref (C.2.2.2.2.2.2.2 16)] Value.int yl_X10_isWord yv_X10_isWord q_1291 ⟨Nat.le_of_ble_eq_true rfl, Nat.le_of_ble_eq_true rfl⟩ ⟨_, rfl⟩ (fun r h => ct_X10_isWord _ _ fu M a0 16 r h) rfl rfl (Nat.le_of_ble_eq_true rfl) dX10_statement_319 gz_00 hF (fun x67 hF => ?_)
          refine gz_if_eq 322 344 hC dX10_statement_322 (by decide) hF (fun hF => ?_) (fun hF => ?_)
          · skip
            refine gz_aload_n 344 hC 0 dX10_statement_344 rfl rfl ?_
            refine gz_ldcs 345 hC 17 rfl dX10_statement_345 ?_
            refine gz_cvP (st := []) 347 hC hX [.ref (C.2.2.2.2.2.2.2 17)] Value.int yl_X10_isWord yv_X10_isWord q_1291 ⟨Nat.le_of_ble_eq_true rfl, Nat.le_of_ble_eq_true rfl⟩ ⟨_, rfl⟩ (fun r h => ct_X10_isWord _ _ fu M a0 17 r h) rfl rfl (Nat.le_of_ble_eq_true rfl) dX10_statement_347 gz_00 hF (fun x73 hF => ?_)
            refine gz_if_eq 350 372 hC dX10_statement_350 (by decide) hF (fun hF => ?_) (fun hF => ?_)
            · skip
              refine gz_aload_n 372 hC 0 dX10_statement_372 rfl rfl ?_
              refine gz_cvM (st := []) 373 hC hX [] Value.int yl_X10_wrong yv_X10_wrong q_1305 ⟨Nat.le_of_ble_eq_true rfl, Nat.le_of_ble_eq_true rfl⟩ ⟨_, rfl⟩ (fun r h => ct_X10_wrong _ _ fu M a0 r h) rfl rfl (Nat.le_of_ble_eq_true rfl) dX10_statement_373 gz_00 hF (fun x79 M80 hF => ?_)
              exact gz_zretM 376 hC hX dX10_statement_376 hF
            · skip
              refine gz_aload_n 353 hC 0 dX10_statement_353 rfl rfl ?_
              refine gz_cvV (st := []) 354 hC hX [] yl_X10_look yv_X10_look q_1273 ⟨Nat.le_of_ble_eq_true rfl, Nat.le_of_ble_eq_true rfl⟩ ⟨_, rfl⟩ (fun r h => ct_X10_look _ _ fu M a0 r h) rfl rfl (Nat.le_of_ble_eq_true rfl) dX10_statement_354 gz_00 hF (fun M74 hF => ?_)
              refine gz_aload_n 357 hC 0 dX10_statement_357 rfl rfl ?_
              refine gz_aload_n 358 hC 0 dX10_statement_358 rfl rfl ?_
              refine gz_getR 359 hC fl_X10_45 fk_10_12 dX10_statement_359 hF (fun x75 hF => ?_)
              refine gz_iload_n 362 hC 1 dX10_statement_362 rfl rfl ?_
              refine gz_aald 363 hC dX10_statement_363 hF (fun x76 hF => ?_)
              refine gz_iconst 364 hC (3 : Int32) dX10_statement_364 gz_k3 ?_
              refine gz_iconst 365 hC (0 : Int32) dX10_statement_365 gz_k0 ?_
              refine gz_bipush 366 hC (9 : Int32) dX10_statement_366 gz_b9 ?_
              refine gz_cvM (st := []) 368 hC hX [.ref x76, .int (3 : Int32), .int (0 : Int32), .int (9 : Int32)] Value.int yl_X10_number yv_X10_number q_1301 ⟨Nat.le_of_ble_eq_true rfl, Nat.le_of_ble_eq_true rfl⟩ ⟨_, rfl⟩ (fun r h => ct_X10_number _ _ fu M74 a0 x76 (3 : Int32) (0 : Int32) (9 : Int32) r h) rfl rfl (Nat.le_of_ble_eq_true rfl) dX10_statement_368 gz_00 hF (fun x77 M78 hF => ?_)
              exact gz_zretM 371 hC hX dX10_statement_371 hF
          · skip
            refine gz_aload_n 325 hC 0 dX10_statement_325 rfl rfl ?_
            refine gz_cvV (st := []) 326 hC hX [] yl_X10_look yv_X10_look q_1273 ⟨Nat.le_of_ble_eq_true rfl, Nat.le_of_ble_eq_true rfl⟩ ⟨_, rfl⟩ (fun r h => ct_X10_look _ _ fu M a0 r h) rfl rfl (Nat.le_of_ble_eq_true rfl) dX10_statement_326 gz_00 hF (fun M68 hF => ?_)
            refine gz_aload_n 329 hC 0 dX10_statement_329 rfl rfl ?_
            refine gz_aload_n 330 hC 0 dX10_statement_330 rfl rfl ?_
            refine gz_getR 331 hC fl_X10_45 fk_10_12 dX10_statement_331 hF (fun x69 hF => ?_)
            refine gz_iload_n 334 hC 1 dX10_statement_334 rfl rfl ?_
            refine gz_aald 335 hC dX10_statement_335 hF (fun x70 hF => ?_)
            refine gz_iconst 336 hC (2 : Int32) dX10_statement_336 gz_k2 ?_
            refine gz_iconst 337 hC (0 : Int32) dX10_statement_337 gz_k0 ?_
            refine gz_bipush 338 hC (99 : Int32) dX10_statement_338 gz_b99 ?_
            refine gz_cvM (st := []) 340 hC hX [.ref x70, .int (2 : Int32), .int (0 : Int32), .int (99 : Int32)] Value.int yl_X10_number yv_X10_number q_1301 ⟨Nat.le_of_ble_eq_true rfl, Nat.le_of_ble_eq_true rfl⟩ ⟨_, rfl⟩ (fun r h => ct_X10_number _ _ fu M68 a0 x70 (2 : Int32) (0 : Int32) (99 : Int32) r h) rfl rfl (Nat.le_of_ble_eq_true rfl) dX10_statement_340 gz_00 hF (fun x71 M72 hF => ?_)
            exact gz_zretM 343 hC hX dX10_statement_343 hF
        · skip
          refine gz_aload_n 297 hC 0 dX10_statement_297 rfl rfl ?_
          refine gz_cvV (st := []) 298 hC hX [] yl_X10_look yv_X10_look q_1273 ⟨Nat.le_of_ble_eq_true rfl, Nat.le_of_ble_eq_true rfl⟩ ⟨_, rfl⟩ (fun r h => ct_X10_look _ _ fu M a0 r h) rfl rfl (Nat.le_of_ble_eq_true rfl) dX10_statement_298 gz_00 hF (fun M62 hF => ?_)
          refine gz_aload_n 301 hC 0 dX10_statement_301 rfl rfl ?_
          refine gz_aload_n 302 hC 0 dX10_statement_302 rfl rfl ?_
          refine gz_getR 303 hC fl_X10_45 fk_10_12 dX10_statement_303 hF (fun x63 hF => ?_)
          refine gz_iload_n 306 hC 1 dX10_statement_306 rfl rfl ?_
          refine gz_aald 307 hC dX10_statement_307 hF (fun x64 hF => ?_)
          refine gz_bipush 308 hC (7 : Int32) dX10_statement_308 gz_b7 ?_
          refine gz_bipush 310 hC (30 : Int32) dX10_statement_310 gz_b30 ?_
          refine gz_cvM (st := []) 312 hC hX [.ref x64, .int (7 : Int32), .int (30 : Int32)] Value.int yl_X10_three yv_X10_three q_1297 ⟨Nat.le_of_ble_eq_true rfl, Nat.le_of_ble_eq_true rfl⟩ ⟨_, rfl⟩ (fun r h => ct_X10_three _ _ fu M62 a0 x64 (7 : Int32) (30 : Int32) r h) rfl rfl (Nat.le_of_ble_eq_true rfl) dX10_statement_312 gz_00 hF (fun x65 M66 hF => ?_)
          exact gz_zretM 315 hC hX dX10_statement_315 hF
      · skip
        refine gz_aload_n 270 hC 0 dX10_statement_270 rfl rfl ?_
        refine gz_cvV (st := []) 271 hC hX [] yl_X10_look yv_X10_look q_1273 ⟨Nat.le_of_ble_eq_true rfl, Nat.le_of_ble_eq_true rfl⟩ ⟨_, rfl⟩ (fun r h => ct_X10_look _ _ fu M a0 r h) rfl rfl (Nat.le_of_ble_eq_true rfl) dX10_statement_271 gz_00 hF (fun M56 hF => ?_)
        refine gz_aload_n 274 hC 0 dX10_statement_274 rfl rfl ?_
        refine gz_aload_n 275 hC 0 dX10_statement_275 rfl rfl ?_
        refine gz_getR 276 hC fl_X10_45 fk_10_12 dX10_statement_276 hF (fun x57 hF => ?_)
        refine gz_iload_n 279 hC 1 dX10_statement_279 rfl rfl ?_
        refine gz_aald 280 hC dX10_statement_280 hF (fun x58 hF => ?_)
        refine gz_iconst 281 hC (4 : Int32) dX10_statement_281 gz_k4 ?_
        refine gz_bipush 282 hC (9 : Int32) dX10_statement_282 gz_b9 ?_
        refine gz_cvM (st := []) 284 hC hX [.ref x58, .int (4 : Int32), .int (9 : Int32)] Value.int yl_X10_three yv_X10_three q_1297 ⟨Nat.le_of_ble_eq_true rfl, Nat.le_of_ble_eq_true rfl⟩ ⟨_, rfl⟩ (fun r h => ct_X10_three _ _ fu M56 a0 x58 (4 : Int32) (9 : Int32) r h) rfl rfl (Nat.le_of_ble_eq_true rfl) dX10_statement_284 gz_00 hF (fun x59 M60 hF => ?_)
        exact gz_zretM 287 hC hX dX10_statement_287 hF
    refine gz_if_eq 159 261 hC dX10_statement_159 (by decide) hF (fun hF => ?_) (fun hF => ?_)
    · skip
      exact hj261 hF
    · skip
      refine gz_aload_n 162 hC 0 dX10_statement_162 rfl rfl ?_
      refine gz_iload_n 163 hC 1 dX10_statement_163 rfl rfl ?_
      refine gz_cvP (st := []) 164 hC hX [.int a1] Value.int yl_X10_lastsOf yv_X10_lastsOf q_1229 ⟨Nat.le_of_ble_eq_true rfl, Nat.le_of_ble_eq_true rfl⟩ ⟨_, rfl⟩ (fun r h => ct_X10_lastsOf _ _ fu M a0 a1 r h) rfl rfl (Nat.le_of_ble_eq_true rfl) dX10_statement_164 gz_00 hF (fun x34 hF => ?_)
      refine gz_bipush 167 hC (10 : Int32) dX10_statement_167 gz_b10 ?_
      refine gz_icmp_ge 169 261 hC dX10_statement_169 (by decide) hF (fun hF => ?_) (fun hF => ?_)
      · skip
        exact hj261 hF
      · skip
        refine gz_iconst 172 hC (4 : Int32) dX10_statement_172 gz_k4 ?_
        refine gz_aload_n 173 hC 0 dX10_statement_173 rfl rfl ?_
        refine gz_iload_n 174 hC 1 dX10_statement_174 rfl rfl ?_
        refine gz_cvP (st := [.int (4 : Int32)]) 175 hC hX [.int a1] Value.int yl_X10_lastsOf yv_X10_lastsOf q_1229 ⟨Nat.le_of_ble_eq_true rfl, Nat.le_of_ble_eq_true rfl⟩ ⟨_, rfl⟩ (fun r h => ct_X10_lastsOf _ _ fu M a0 a1 r h) rfl rfl (Nat.le_of_ble_eq_true rfl) dX10_statement_175 gz_00 hF (fun x35 hF => ?_)
        refine gz_imul 178 hC dX10_statement_178 ?_
        refine gz_istore_n 179 hC [(2, .int ((4 : Int32) * x35)), (0, .ref a0), (1, .int a1)] dX10_statement_179 rfl (by decide) rfl ?_
        refine gz_aload_n 180 hC 1 dX10_statement_180 rfl rfl ?_
        refine gz_cvV (st := []) 181 hC hX [] yl_X10_look yv_X10_look q_1273 ⟨Nat.le_of_ble_eq_true rfl, Nat.le_of_ble_eq_true rfl⟩ ⟨_, rfl⟩ (fun r h => ct_X10_look _ _ fu M a0 r h) rfl rfl (Nat.le_of_ble_eq_true rfl) dX10_statement_181 gz_00 hF (fun M36 hF => ?_)
        refine gz_aload_n 184 hC 1 dX10_statement_184 rfl rfl ?_
        refine gz_getR 185 hC fl_X10_51 fk_10_14 dX10_statement_185 hF (fun x37 hF => ?_)
        refine gz_iload_n 188 hC 2 dX10_statement_188 rfl rfl ?_
        refine gz_aald 189 hC dX10_statement_189 hF (fun x38 hF => ?_)
        refine gz_iload_n 190 hC 0 dX10_statement_190 rfl rfl ?_
        refine gz_iconst 191 hC (3 : Int32) dX10_statement_191 gz_k3 ?_
        refine gz_iadd 192 hC dX10_statement_192 ?_
        refine gz_iconst 193 hC (0 : Int32) dX10_statement_193 gz_k0 ?_
        refine gz_iast 194 hC dX10_statement_194 hF (fun M39 hF => ?_)
        refine gz_aload_n 195 hC 1 dX10_statement_195 rfl rfl ?_
        refine gz_aload_n 196 hC 1 dX10_statement_196 rfl rfl ?_
        refine gz_getR 197 hC fl_X10_51 fk_10_14 dX10_statement_197 hF (fun x40 hF => ?_)
        refine gz_iload_n 200 hC 2 dX10_statement_200 rfl rfl ?_
        refine gz_aald 201 hC dX10_statement_201 hF (fun x41 hF => ?_)
        refine gz_iload_n 202 hC 0 dX10_statement_202 rfl rfl ?_
        refine gz_bipush 203 hC (40 : Int32) dX10_statement_203 gz_b40 ?_
        refine gz_cvM (st := []) 205 hC hX [.ref x41, .int ((4 : Int32) * x35), .int (40 : Int32)] Value.int yl_X10_three yv_X10_three q_1297 ⟨Nat.le_of_ble_eq_true rfl, Nat.le_of_ble_eq_true rfl⟩ ⟨_, rfl⟩ (fun r h => ct_X10_three _ _ fu M39 a0 x41 ((4 : Int32) * x35) (40 : Int32) r h) rfl rfl (Nat.le_of_ble_eq_true rfl) dX10_statement_205 gz_00 hF (fun x42 M43 hF => ?_)
        refine gz_if_ne 208 213 hC dX10_statement_208 (by decide) hF (fun hF => ?_) (fun hF => ?_)
        · skip
          refine gz_aload_n 213 hC 1 dX10_statement_213 rfl rfl ?_
          refine gz_ldcs 214 hC 13 rfl dX10_statement_214 ?_
          refine gz_cvP (st := []) 216 hC hX [.ref (C.2.2.2.2.2.2.2 13)] Value.int yl_X10_isWord yv_X10_isWord q_1291 ⟨Nat.le_of_ble_eq_true rfl, Nat.le_of_ble_eq_true rfl⟩ ⟨_, rfl⟩ (fun r h => ct_X10_isWord _ _ fu M43 a0 13 r h) rfl rfl (Nat.le_of_ble_eq_true rfl) dX10_statement_216 gz_00 hF (fun x44 hF => ?_)
          refine gz_join (fun (j : gz_M → Option (Int32 × gz_M)) => ∀ (M50 : gz_M), j M50 = some y → gz_go C 0 0 M50 [(0, .ref a0), (1, .int a1)] 247 []) hF (fun M50 hF => ?_) (fun j247 hj247 hF => ?_)
          · skip
            refine gz_aload_n 247 hC 0 dX10_statement_247 rfl rfl ?_
            refine gz_getR 248 hC fl_X10_45 fk_10_12 dX10_statement_248 hF (fun x51 hF => ?_)
            refine gz_iload_n 251 hC 1 dX10_statement_251 rfl rfl ?_
            refine gz_aald 252 hC dX10_statement_252 hF (fun x52 hF => ?_)
            refine gz_iconst 253 hC (1 : Int32) dX10_statement_253 gz_k1 ?_
            refine gz_dup2 254 hC dX10_statement_254 rfl rfl ?_
            refine gz_iald 255 hC dX10_statement_255 hF (fun x53 hF => ?_)
            refine gz_iconst 256 hC (1 : Int32) dX10_statement_256 gz_k1 ?_
            refine gz_iadd 257 hC dX10_statement_257 ?_
            refine gz_iast 258 hC dX10_statement_258 hF (fun M54 hF => ?_)
            refine gz_iconst 259 hC (1 : Int32) dX10_statement_259 gz_k1 ?_
            exact gz_zretM 260 hC hX dX10_statement_260 hF
          refine gz_if_eq 219 247 hC dX10_statement_219 (by decide) hF (fun hF => ?_) (fun hF => ?_)
          · skip
            refine gz_sub [1, 2] [(0, .ref a0), (1, .int a1)] rfl ?_
            exact hj247 _ hF
          · skip
            refine gz_aload_n 222 hC 1 dX10_statement_222 rfl rfl ?_
            refine gz_cvV (st := []) 223 hC hX [] yl_X10_look yv_X10_look q_1273 ⟨Nat.le_of_ble_eq_true rfl, Nat.le_of_ble_eq_true rfl⟩ ⟨_, rfl⟩ (fun r h => ct_X10_look _ _ fu M43 a0 r h) rfl rfl (Nat.le_of_ble_eq_true rfl) dX10_statement_223 gz_00 hF (fun M45 hF => ?_)
            refine gz_aload_n 226 hC 1 dX10_statement_226 rfl rfl ?_
            refine gz_aload_n 227 hC 1 dX10_statement_227 rfl rfl ?_
            refine gz_getR 228 hC fl_X10_51 fk_10_14 dX10_statement_228 hF (fun x46 hF => ?_)
            refine gz_iload_n 231 hC 2 dX10_statement_231 rfl rfl ?_
            refine gz_aald 232 hC dX10_statement_232 hF (fun x47 hF => ?_)
            refine gz_iload_n 233 hC 0 dX10_statement_233 rfl rfl ?_
            refine gz_iconst 234 hC (3 : Int32) dX10_statement_234 gz_k3 ?_
            refine gz_iadd 235 hC dX10_statement_235 ?_
            refine gz_iconst 236 hC (0 : Int32) dX10_statement_236 gz_k0 ?_
            refine gz_bipush 237 hC (99 : Int32) dX10_statement_237 gz_b99 ?_
            refine gz_cvM (st := []) 239 hC hX [.ref x47, .int (((4 : Int32) * x35) + (3 : Int32)), .int (0 : Int32), .int (99 : Int32)] Value.int yl_X10_number yv_X10_number q_1301 ⟨Nat.le_of_ble_eq_true rfl, Nat.le_of_ble_eq_true rfl⟩ ⟨_, rfl⟩ (fun r h => ct_X10_number _ _ fu M45 a0 x47 (((4 : Int32) * x35) + (3 : Int32)) (0 : Int32) (99 : Int32) r h) rfl rfl (Nat.le_of_ble_eq_true rfl) dX10_statement_239 gz_00 hF (fun x48 M49 hF => ?_)
            refine gz_if_ne 242 247 hC dX10_statement_242 (by decide) hF (fun hF => ?_) (fun hF => ?_)
            · skip
              refine gz_sub [1, 2] [(0, .ref a0), (1, .int a1)] rfl ?_
              exact hj247 _ hF
            · skip
              refine gz_iconst 245 hC (0 : Int32) dX10_statement_245 gz_k0 ?_
              exact gz_zretM 246 hC hX dX10_statement_246 hF
        · skip
          refine gz_iconst 211 hC (0 : Int32) dX10_statement_211 gz_k0 ?_
          exact gz_zretM 212 hC hX dX10_statement_212 hF
  refine gz_if_eq 6 153 hC dX10_statement_6 (by decide) hF (fun hF => ?_) (fun hF => ?_)
  · skip
    exact hj153 hF
  · skip
    refine gz_aload_n 9 hC 0 dX10_statement_9 rfl rfl ?_
    refine gz_iload_n 10 hC 1 dX10_statement_10 rfl rfl ?_
    refine gz_cvP (st := []) 11 hC hX [.int a1] Value.int yl_X10_feetOf yv_X10_feetOf q_1221 ⟨Nat.le_of_ble_eq_true rfl, Nat.le_of_ble_eq_true rfl⟩ ⟨_, rfl⟩ (fun r h => ct_X10_feetOf _ _ fu M a0 a1 r h) rfl rfl (Nat.le_of_ble_eq_true rfl) dX10_statement_11 gz_00 hF (fun x2 hF => ?_)
    refine gz_bipush 14 hC (12 : Int32) dX10_statement_14 gz_b12 ?_
    refine gz_icmp_ge 16 153 hC dX10_statement_16 (by decide) hF (fun hF => ?_) (fun hF => ?_)
    · skip
      exact hj153 hF
    · skip
      refine gz_iconst 19 hC (5 : Int32) dX10_statement_19 gz_k5 ?_
      refine gz_aload_n 20 hC 0 dX10_statement_20 rfl rfl ?_
      refine gz_iload_n 21 hC 1 dX10_statement_21 rfl rfl ?_
      refine gz_cvP (st := [.int (5 : Int32)]) 22 hC hX [.int a1] Value.int yl_X10_feetOf yv_X10_feetOf q_1221 ⟨Nat.le_of_ble_eq_true rfl, Nat.le_of_ble_eq_true rfl⟩ ⟨_, rfl⟩ (fun r h => ct_X10_feetOf _ _ fu M a0 a1 r h) rfl rfl (Nat.le_of_ble_eq_true rfl) dX10_statement_22 gz_00 hF (fun x3 hF => ?_)
      refine gz_imul 25 hC dX10_statement_25 ?_
      refine gz_istore_n 26 hC [(2, .int ((5 : Int32) * x3)), (0, .ref a0), (1, .int a1)] dX10_statement_26 rfl (by decide) rfl ?_
      refine gz_aload_n 27 hC 1 dX10_statement_27 rfl rfl ?_
      refine gz_cvV (st := []) 28 hC hX [] yl_X10_look yv_X10_look q_1273 ⟨Nat.le_of_ble_eq_true rfl, Nat.le_of_ble_eq_true rfl⟩ ⟨_, rfl⟩ (fun r h => ct_X10_look _ _ fu M a0 r h) rfl rfl (Nat.le_of_ble_eq_true rfl) dX10_statement_28 gz_00 hF (fun M4 hF => ?_)
      refine gz_aload_n 31 hC 1 dX10_statement_31 rfl rfl ?_
      refine gz_getR 32 hC fl_X10_48 fk_10_13 dX10_statement_32 hF (fun x5 hF => ?_)
      refine gz_iload_n 35 hC 2 dX10_statement_35 rfl rfl ?_
      refine gz_aald 36 hC dX10_statement_36 hF (fun x6 hF => ?_)
      refine gz_iload_n 37 hC 0 dX10_statement_37 rfl rfl ?_
      refine gz_iconst 38 hC (3 : Int32) dX10_statement_38 gz_k3 ?_
      refine gz_iadd 39 hC dX10_statement_39 ?_
      refine gz_iconst 40 hC (1 : Int32) dX10_statement_40 gz_k1 ?_
      refine gz_iast 41 hC dX10_statement_41 hF (fun M7 hF => ?_)
      refine gz_aload_n 42 hC 1 dX10_statement_42 rfl rfl ?_
      refine gz_getR 43 hC fl_X10_48 fk_10_13 dX10_statement_43 hF (fun x8 hF => ?_)
      refine gz_iload_n 46 hC 2 dX10_statement_46 rfl rfl ?_
      refine gz_aald 47 hC dX10_statement_47 hF (fun x9 hF => ?_)
      refine gz_iload_n 48 hC 0 dX10_statement_48 rfl rfl ?_
      refine gz_iconst 49 hC (4 : Int32) dX10_statement_49 gz_k4 ?_
      refine gz_iadd 50 hC dX10_statement_50 ?_
      refine gz_iconst 51 hC (0 : Int32) dX10_statement_51 gz_k0 ?_
      refine gz_iast 52 hC dX10_statement_52 hF (fun M10 hF => ?_)
      refine gz_aload_n 53 hC 1 dX10_statement_53 rfl rfl ?_
      refine gz_aload_n 54 hC 1 dX10_statement_54 rfl rfl ?_
      refine gz_getR 55 hC fl_X10_48 fk_10_13 dX10_statement_55 hF (fun x11 hF => ?_)
      refine gz_iload_n 58 hC 2 dX10_statement_58 rfl rfl ?_
      refine gz_aald 59 hC dX10_statement_59 hF (fun x12 hF => ?_)
      refine gz_iload_n 60 hC 0 dX10_statement_60 rfl rfl ?_
      refine gz_bipush 61 hC (30 : Int32) dX10_statement_61 gz_b30 ?_
      refine gz_cvM (st := []) 63 hC hX [.ref x12, .int ((5 : Int32) * x3), .int (30 : Int32)] Value.int yl_X10_three yv_X10_three q_1297 ⟨Nat.le_of_ble_eq_true rfl, Nat.le_of_ble_eq_true rfl⟩ ⟨_, rfl⟩ (fun r h => ct_X10_three _ _ fu M10 a0 x12 ((5 : Int32) * x3) (30 : Int32) r h) rfl rfl (Nat.le_of_ble_eq_true rfl) dX10_statement_63 gz_00 hF (fun x13 M14 hF => ?_)
      refine gz_if_ne 66 71 hC dX10_statement_66 (by decide) hF (fun hF => ?_) (fun hF => ?_)
      · skip
        refine gz_aload_n 71 hC 1 dX10_statement_71 rfl rfl ?_
        refine gz_ldcs 72 hC 10 rfl dX10_statement_72 ?_
        refine gz_cvP (st := []) 74 hC hX [.ref (C.2.2.2.2.2.2.2 10)] Value.int yl_X10_isWord yv_X10_isWord q_1291 ⟨Nat.le_of_ble_eq_true rfl, Nat.le_of_ble_eq_true rfl⟩ ⟨_, rfl⟩ (fun r h => ct_X10_isWord _ _ fu M14 a0 10 r h) rfl rfl (Nat.le_of_ble_eq_true rfl) dX10_statement_74 gz_00 hF (fun x15 hF => ?_)
        refine gz_join (fun (j : gz_M → Option (Int32 × gz_M)) => ∀ (M21 : gz_M), j M21 = some y → gz_go C 0 0 M21 [(0, .ref a0), (1, .int a1), (2, .int ((5 : Int32) * x3))] 105 []) hF (fun M21 hF => ?_) (fun j105 hj105 hF => ?_)
        · skip
          refine gz_aload_n 105 hC 0 dX10_statement_105 rfl rfl ?_
          refine gz_ldcs 106 hC 11 rfl dX10_statement_106 ?_
          refine gz_cvP (st := []) 108 hC hX [.ref (C.2.2.2.2.2.2.2 11)] Value.int yl_X10_isWord yv_X10_isWord q_1291 ⟨Nat.le_of_ble_eq_true rfl, Nat.le_of_ble_eq_true rfl⟩ ⟨_, rfl⟩ (fun r h => ct_X10_isWord _ _ fu M21 a0 11 r h) rfl rfl (Nat.le_of_ble_eq_true rfl) dX10_statement_108 gz_00 hF (fun x22 hF => ?_)
          refine gz_join (fun (j : gz_M → Option (Int32 × gz_M)) => ∀ (M28 : gz_M), j M28 = some y → gz_go C 0 0 M28 [(0, .ref a0), (1, .int a1)] 139 []) hF (fun M28 hF => ?_) (fun j139 hj139 hF => ?_)
          · skip
            refine gz_aload_n 139 hC 0 dX10_statement_139 rfl rfl ?_
            refine gz_getR 140 hC fl_X10_45 fk_10_12 dX10_statement_140 hF (fun x29 hF => ?_)
            refine gz_iload_n 143 hC 1 dX10_statement_143 rfl rfl ?_
            refine gz_aald 144 hC dX10_statement_144 hF (fun x30 hF => ?_)
            refine gz_iconst 145 hC (0 : Int32) dX10_statement_145 gz_k0 ?_
            refine gz_dup2 146 hC dX10_statement_146 rfl rfl ?_
            refine gz_iald 147 hC dX10_statement_147 hF (fun x31 hF => ?_)
            refine gz_iconst 148 hC (1 : Int32) dX10_statement_148 gz_k1 ?_
            refine gz_iadd 149 hC dX10_statement_149 ?_
            refine gz_iast 150 hC dX10_statement_150 hF (fun M32 hF => ?_)
            refine gz_iconst 151 hC (1 : Int32) dX10_statement_151 gz_k1 ?_
            exact gz_zretM 152 hC hX dX10_statement_152 hF
          refine gz_if_eq 111 139 hC dX10_statement_111 (by decide) hF (fun hF => ?_) (fun hF => ?_)
          · skip
            refine gz_sub [0, 1] [(0, .ref a0), (1, .int a1)] rfl ?_
            exact hj139 _ hF
          · skip
            refine gz_aload_n 114 hC 0 dX10_statement_114 rfl rfl ?_
            refine gz_cvV (st := []) 115 hC hX [] yl_X10_look yv_X10_look q_1273 ⟨Nat.le_of_ble_eq_true rfl, Nat.le_of_ble_eq_true rfl⟩ ⟨_, rfl⟩ (fun r h => ct_X10_look _ _ fu M21 a0 r h) rfl rfl (Nat.le_of_ble_eq_true rfl) dX10_statement_115 gz_00 hF (fun M23 hF => ?_)
            refine gz_aload_n 118 hC 0 dX10_statement_118 rfl rfl ?_
            refine gz_aload_n 119 hC 0 dX10_statement_119 rfl rfl ?_
            refine gz_getR 120 hC fl_X10_48 fk_10_13 dX10_statement_120 hF (fun x24 hF => ?_)
            refine gz_iload_n 123 hC 1 dX10_statement_123 rfl rfl ?_
            refine gz_aald 124 hC dX10_statement_124 hF (fun x25 hF => ?_)
            refine gz_iload_n 125 hC 2 dX10_statement_125 rfl rfl ?_
            refine gz_iconst 126 hC (4 : Int32) dX10_statement_126 gz_k4 ?_
            refine gz_iadd 127 hC dX10_statement_127 ?_
            refine gz_iconst 128 hC (0 : Int32) dX10_statement_128 gz_k0 ?_
            refine gz_bipush 129 hC (9 : Int32) dX10_statement_129 gz_b9 ?_
            refine gz_cvM (st := []) 131 hC hX [.ref x25, .int (((5 : Int32) * x3) + (4 : Int32)), .int (0 : Int32), .int (9 : Int32)] Value.int yl_X10_number yv_X10_number q_1301 ⟨Nat.le_of_ble_eq_true rfl, Nat.le_of_ble_eq_true rfl⟩ ⟨_, rfl⟩ (fun r h => ct_X10_number _ _ fu M23 a0 x25 (((5 : Int32) * x3) + (4 : Int32)) (0 : Int32) (9 : Int32) r h) rfl rfl (Nat.le_of_ble_eq_true rfl) dX10_statement_131 gz_00 hF (fun x26 M27 hF => ?_)
            refine gz_if_ne 134 139 hC dX10_statement_134 (by decide) hF (fun hF => ?_) (fun hF => ?_)
            · skip
              refine gz_sub [0, 1] [(0, .ref a0), (1, .int a1)] rfl ?_
              exact hj139 _ hF
            · skip
              refine gz_iconst 137 hC (0 : Int32) dX10_statement_137 gz_k0 ?_
              exact gz_zretM 138 hC hX dX10_statement_138 hF
        refine gz_if_eq 77 105 hC dX10_statement_77 (by decide) hF (fun hF => ?_) (fun hF => ?_)
        · skip
          refine gz_sub [1, 2, 0] [(0, .ref a0), (1, .int a1), (2, .int ((5 : Int32) * x3))] rfl ?_
          exact hj105 _ hF
        · skip
          refine gz_aload_n 80 hC 1 dX10_statement_80 rfl rfl ?_
          refine gz_cvV (st := []) 81 hC hX [] yl_X10_look yv_X10_look q_1273 ⟨Nat.le_of_ble_eq_true rfl, Nat.le_of_ble_eq_true rfl⟩ ⟨_, rfl⟩ (fun r h => ct_X10_look _ _ fu M14 a0 r h) rfl rfl (Nat.le_of_ble_eq_true rfl) dX10_statement_81 gz_00 hF (fun M16 hF => ?_)
          refine gz_aload_n 84 hC 1 dX10_statement_84 rfl rfl ?_
          refine gz_aload_n 85 hC 1 dX10_statement_85 rfl rfl ?_
          refine gz_getR 86 hC fl_X10_48 fk_10_13 dX10_statement_86 hF (fun x17 hF => ?_)
          refine gz_iload_n 89 hC 2 dX10_statement_89 rfl rfl ?_
          refine gz_aald 90 hC dX10_statement_90 hF (fun x18 hF => ?_)
          refine gz_iload_n 91 hC 0 dX10_statement_91 rfl rfl ?_
          refine gz_iconst 92 hC (3 : Int32) dX10_statement_92 gz_k3 ?_
          refine gz_iadd 93 hC dX10_statement_93 ?_
          refine gz_iconst 94 hC (1 : Int32) dX10_statement_94 gz_k1 ?_
          refine gz_bipush 95 hC (99 : Int32) dX10_statement_95 gz_b99 ?_
          refine gz_cvM (st := []) 97 hC hX [.ref x18, .int (((5 : Int32) * x3) + (3 : Int32)), .int (1 : Int32), .int (99 : Int32)] Value.int yl_X10_number yv_X10_number q_1301 ⟨Nat.le_of_ble_eq_true rfl, Nat.le_of_ble_eq_true rfl⟩ ⟨_, rfl⟩ (fun r h => ct_X10_number _ _ fu M16 a0 x18 (((5 : Int32) * x3) + (3 : Int32)) (1 : Int32) (99 : Int32) r h) rfl rfl (Nat.le_of_ble_eq_true rfl) dX10_statement_97 gz_00 hF (fun x19 M20 hF => ?_)
          refine gz_if_ne 100 105 hC dX10_statement_100 (by decide) hF (fun hF => ?_) (fun hF => ?_)
          · skip
            refine gz_sub [1, 2, 0] [(0, .ref a0), (1, .int a1), (2, .int ((5 : Int32) * x3))] rfl ?_
            exact hj105 _ hF
          · skip
            refine gz_iconst 103 hC (0 : Int32) dX10_statement_103 gz_k0 ?_
            exact gz_zretM 104 hC hX dX10_statement_104 hF
      · skip
        refine gz_iconst 69 hC (0 : Int32) dX10_statement_69 gz_k0 ?_
        exact gz_zretM 70 hC hX dX10_statement_70 hF

theorem dX10_read_0 : decode cX10_read 0 = .ok (.aload_n 0, 1) := by decide +kernel
theorem dX10_read_1 : decode cX10_read 1 = .ok (.getfield 45, 3) := by decide +kernel
theorem dX10_read_4 : decode cX10_read 4 = .ok (.iload_n 1, 1) := by decide +kernel
theorem dX10_read_5 : decode cX10_read 5 = .ok (.aaload, 1) := by decide +kernel
theorem dX10_read_6 : decode cX10_read 6 = .ok (.astore_n 2, 1) := by decide +kernel
theorem dX10_read_7 : decode cX10_read 7 = .ok (.aload_n 2, 1) := by decide +kernel
theorem dX10_read_8 : decode cX10_read 8 = .ok (.iconst 0, 1) := by decide +kernel
theorem dX10_read_9 : decode cX10_read 9 = .ok (.iconst 0, 1) := by decide +kernel
theorem dX10_read_10 : decode cX10_read 10 = .ok (.iastore, 1) := by decide +kernel
theorem dX10_read_11 : decode cX10_read 11 = .ok (.aload_n 2, 1) := by decide +kernel
theorem dX10_read_12 : decode cX10_read 12 = .ok (.iconst 1, 1) := by decide +kernel
theorem dX10_read_13 : decode cX10_read 13 = .ok (.iconst 0, 1) := by decide +kernel
theorem dX10_read_14 : decode cX10_read 14 = .ok (.iastore, 1) := by decide +kernel
theorem dX10_read_15 : decode cX10_read 15 = .ok (.aload_n 2, 1) := by decide +kernel
theorem dX10_read_16 : decode cX10_read 16 = .ok (.iconst 2, 1) := by decide +kernel
theorem dX10_read_17 : decode cX10_read 17 = .ok (.bipush 50, 2) := by decide +kernel
theorem dX10_read_19 : decode cX10_read 19 = .ok (.iastore, 1) := by decide +kernel
theorem dX10_read_20 : decode cX10_read 20 = .ok (.aload_n 2, 1) := by decide +kernel
theorem dX10_read_21 : decode cX10_read 21 = .ok (.iconst 3, 1) := by decide +kernel
theorem dX10_read_22 : decode cX10_read 22 = .ok (.iconst 1, 1) := by decide +kernel
theorem dX10_read_23 : decode cX10_read 23 = .ok (.iastore, 1) := by decide +kernel
theorem dX10_read_24 : decode cX10_read 24 = .ok (.iconst 0, 1) := by decide +kernel
theorem dX10_read_25 : decode cX10_read 25 = .ok (.istore_n 3, 1) := by decide +kernel
theorem dX10_read_26 : decode cX10_read 26 = .ok (.iload_n 3, 1) := by decide +kernel
theorem dX10_read_27 : decode cX10_read 27 = .ok (.iconst 3, 1) := by decide +kernel
theorem dX10_read_28 : decode cX10_read 28 = .ok (.if_icmp .ge 23, 3) := by decide +kernel
theorem dX10_read_31 : decode cX10_read 31 = .ok (.aload_n 2, 1) := by decide +kernel
theorem dX10_read_32 : decode cX10_read 32 = .ok (.iconst 4, 1) := by decide +kernel
theorem dX10_read_33 : decode cX10_read 33 = .ok (.iload_n 3, 1) := by decide +kernel
theorem dX10_read_34 : decode cX10_read 34 = .ok (.iadd, 1) := by decide +kernel
theorem dX10_read_35 : decode cX10_read 35 = .ok (.iconst 1, 1) := by decide +kernel
theorem dX10_read_36 : decode cX10_read 36 = .ok (.iastore, 1) := by decide +kernel
theorem dX10_read_37 : decode cX10_read 37 = .ok (.aload_n 2, 1) := by decide +kernel
theorem dX10_read_38 : decode cX10_read 38 = .ok (.bipush 7, 2) := by decide +kernel
theorem dX10_read_40 : decode cX10_read 40 = .ok (.iload_n 3, 1) := by decide +kernel
theorem dX10_read_41 : decode cX10_read 41 = .ok (.iadd, 1) := by decide +kernel
theorem dX10_read_42 : decode cX10_read 42 = .ok (.bipush 9, 2) := by decide +kernel
theorem dX10_read_44 : decode cX10_read 44 = .ok (.iastore, 1) := by decide +kernel
theorem dX10_read_45 : decode cX10_read 45 = .ok (.iinc 3 1, 3) := by decide +kernel
theorem dX10_read_48 : decode cX10_read 48 = .ok (.goto (-22), 3) := by decide +kernel
theorem dX10_read_51 : decode cX10_read 51 = .ok (.aload_n 0, 1) := by decide +kernel
theorem dX10_read_52 : decode cX10_read 52 = .ok (.iconst 0, 1) := by decide +kernel
theorem dX10_read_53 : decode cX10_read 53 = .ok (.putfield 139, 3) := by decide +kernel
theorem dX10_read_56 : decode cX10_read 56 = .ok (.aload_n 0, 1) := by decide +kernel
theorem dX10_read_57 : decode cX10_read 57 = .ok (.invokevirtual 181, 3) := by decide +kernel
theorem dX10_read_60 : decode cX10_read 60 = .ok (.aload_n 0, 1) := by decide +kernel
theorem dX10_read_61 : decode cX10_read 61 = .ok (.iload_n 1, 1) := by decide +kernel
theorem dX10_read_62 : decode cX10_read 62 = .ok (.invokevirtual 212, 3) := by decide +kernel
theorem dX10_read_65 : decode cX10_read 65 = .ok (.ifCond .ne 5, 3) := by decide +kernel
theorem dX10_read_68 : decode cX10_read 68 = .ok (.iconst 0, 1) := by decide +kernel
theorem dX10_read_69 : decode cX10_read 69 = .ok (.ireturn, 1) := by decide +kernel
theorem dX10_read_70 : decode cX10_read 70 = .ok (.aload_n 0, 1) := by decide +kernel
theorem dX10_read_71 : decode cX10_read 71 = .ok (.getfield 149, 3) := by decide +kernel
theorem dX10_read_74 : decode cX10_read 74 = .ok (.ifCond .eq 30, 3) := by decide +kernel
theorem dX10_read_77 : decode cX10_read 77 = .ok (.aload_n 0, 1) := by decide +kernel
theorem dX10_read_78 : decode cX10_read 78 = .ok (.getfield 149, 3) := by decide +kernel
theorem dX10_read_81 : decode cX10_read 81 = .ok (.iconst 3, 1) := by decide +kernel
theorem dX10_read_82 : decode cX10_read 82 = .ok (.if_icmp .eq 8, 3) := by decide +kernel
theorem dX10_read_85 : decode cX10_read 85 = .ok (.aload_n 0, 1) := by decide +kernel
theorem dX10_read_86 : decode cX10_read 86 = .ok (.invokevirtual 177, 3) := by decide +kernel
theorem dX10_read_89 : decode cX10_read 89 = .ok (.ireturn, 1) := by decide +kernel
theorem dX10_read_90 : decode cX10_read 90 = .ok (.aload_n 0, 1) := by decide +kernel
theorem dX10_read_91 : decode cX10_read 91 = .ok (.invokevirtual 181, 3) := by decide +kernel
theorem dX10_read_94 : decode cX10_read 94 = .ok (.aload_n 0, 1) := by decide +kernel
theorem dX10_read_95 : decode cX10_read 95 = .ok (.iload_n 1, 1) := by decide +kernel
theorem dX10_read_96 : decode cX10_read 96 = .ok (.invokevirtual 212, 3) := by decide +kernel
theorem dX10_read_99 : decode cX10_read 99 = .ok (.ifCond .ne (-29), 3) := by decide +kernel
theorem dX10_read_102 : decode cX10_read 102 = .ok (.iconst 0, 1) := by decide +kernel
theorem dX10_read_103 : decode cX10_read 103 = .ok (.ireturn, 1) := by decide +kernel
theorem dX10_read_104 : decode cX10_read 104 = .ok (.iconst 1, 1) := by decide +kernel
theorem dX10_read_105 : decode cX10_read 105 = .ok (.ireturn, 1) := by decide +kernel
def lp_X10_read_26 (j51 : gz_M → Option (Int32 × gz_M)) (x2 : Nat) : Nat → Int32 → gz_M → Option (Int32 × gz_M)
  | 0, _, _ => none
  | n26 + 1, x7, M8 =>
    if (3 : Int32) ≤ x7 then
      j51 M8
    else
      (gz_tI M8 x2 ((4 : Int32) + x7) (1 : Int32)).bind fun M9 =>
      (gz_tI M9 x2 ((7 : Int32) + x7) (9 : Int32)).bind fun M10 =>
      lp_X10_read_26 j51 x2 n26 (x7 + (1 : Int32)) M10
def lp_X10_read_70 (j104 : gz_M → Option (Int32 × gz_M)) (fu : Nat) (a0 : Nat) (a1 : Int32) : Nat → gz_M → Option (Int32 × gz_M)
  | 0, _ => none
  | n70 + 1, M16 =>
    (gz_gI M16 10 22 a0).bind fun x17 =>
    if x17 = 0 then
      j104 M16
    else
      (gz_gI M16 10 22 a0).bind fun x18 =>
      if x18 = (3 : Int32) then
        (f_X10_look fu M16 a0).bind fun M21 =>
        gz_b2 (f_X10_statement fu M21 a0 a1) fun x22 M23 =>
        if x22 = 0 then
          gz_z (0 : Int32) (some ((0 : Int32), M23))
        else
          lp_X10_read_70 j104 fu a0 a1 n70 M23
      else
        gz_b2 (f_X10_wrong fu M16 a0) fun x19 M20 =>
        gz_z x19 (some (x19, M20))
def f_X10_read (fu : Nat) (M : gz_M) (a0 : Nat) (a1 : Int32) : Option (Int32 × gz_M) :=
  gz_gd M 10 a0 <|
  (gz_gR M 10 12 a0).bind fun x1 =>
  (gz_aR M x1 a1).bind fun x2 =>
  (gz_tI M x2 (0 : Int32) (0 : Int32)).bind fun M3 =>
  (gz_tI M3 x2 (1 : Int32) (0 : Int32)).bind fun M4 =>
  (gz_tI M4 x2 (2 : Int32) (50 : Int32)).bind fun M5 =>
  (gz_tI M5 x2 (3 : Int32) (1 : Int32)).bind fun M6 =>
  lp_X10_read_26 (fun (M11 : gz_M) => (gz_pI M11 10 21 a0 (0 : Int32)).bind fun M12 =>
    (f_X10_look fu M12 a0).bind fun M13 =>
    gz_b2 (f_X10_statement fu M13 a0 a1) fun x14 M15 =>
    if x14 = 0 then
      gz_z (0 : Int32) (some ((0 : Int32), M15))
    else
      lp_X10_read_70 (fun (M24 : gz_M) => gz_z (1 : Int32) (some ((1 : Int32), M24))) fu a0 a1 fu M15) x2 fu (0 : Int32) M6
set_option maxHeartbeats 4000000 in
theorem w_X10_read_26 {C : gz_C} {y : Int32 × gz_M} {x2 : Nat} {a0 : Nat} {a1 : Int32} {j51 : gz_M → Option (Int32 × gz_M)} (hC : gz_ok C cX10_read RX10 4) (hX : gz_cx C 6 129 0 0 (some .boolean) (some (.int y.1)) y.2 "read") (hj51 : ∀ (M11 : gz_M), j51 M11 = some y → gz_go C 0 0 M11 [(0, .ref a0), (1, .int a1)] 51 []) : ∀ (n : Nat) (x7 : Int32) (M8 : gz_M), lp_X10_read_26 j51 x2 n x7 M8 = some y → gz_go C 0 0 M8 [(0, .ref a0), (1, .int a1), (2, .ref x2), (3, .int x7)] 26 [] := by
  intro n
  induction n with
  | zero => intro x7 M8 hF; exact nomatch (show (none : Option (Int32 × gz_M)) = some y from hF)
  | succ n26 ih26 =>
    intro x7 M8 hF
    rw [lp_X10_read_26.eq_2] at hF
    refine gz_iload_n 26 hC 3 dX10_read_26 rfl rfl ?_
    refine gz_iconst 27 hC (3 : Int32) dX10_read_27 gz_k3 ?_
    refine gz_icmp_ge 28 51 hC dX10_read_28 (by decide) hF (fun hF => ?_) (fun hF => ?_)
    · skip
      refine gz_sub [0, 1] [(0, .ref a0), (1, .int a1)] rfl ?_
      exact hj51 _ hF
    · skip
      refine gz_aload_n 31 hC 2 dX10_read_31 rfl rfl ?_
      refine gz_iconst 32 hC (4 : Int32) dX10_read_32 gz_k4 ?_
      refine gz_iload_n 33 hC 3 dX10_read_33 rfl rfl ?_
      refine gz_iadd 34 hC dX10_read_34 ?_
      refine gz_iconst 35 hC (1 : Int32) dX10_read_35 gz_k1 ?_
      refine gz_iast 36 hC dX10_read_36 hF (fun M9 hF => ?_)
      refine gz_aload_n 37 hC 2 dX10_read_37 rfl rfl ?_
      refine gz_bipush 38 hC (7 : Int32) dX10_read_38 gz_b7 ?_
      refine gz_iload_n 40 hC 3 dX10_read_40 rfl rfl ?_
      refine gz_iadd 41 hC dX10_read_41 ?_
      refine gz_bipush 42 hC (9 : Int32) dX10_read_42 gz_b9 ?_
      refine gz_iast 44 hC dX10_read_44 hF (fun M10 hF => ?_)
      refine gz_iinc 45 hC (x7 + (1 : Int32)) 3 [(3, .int (x7 + (1 : Int32))), (0, .ref a0), (1, .int a1), (2, .ref x2)] dX10_read_45 rfl rfl (by decide) rfl ?_
      refine gz_goto 48 26 hC dX10_read_48 (by decide) ?_
      refine gz_sub [1, 2, 3, 0] [(0, .ref a0), (1, .int a1), (2, .ref x2), (3, .int (x7 + (1 : Int32)))] rfl ?_
      exact ih26 _ _ hF
set_option maxHeartbeats 4000000 in
theorem w_X10_read_70 {C : gz_C} {y : Int32 × gz_M} {fu : Nat} {a0 : Nat} {a1 : Int32} {j104 : gz_M → Option (Int32 × gz_M)} (hC : gz_ok C cX10_read RX10 4) (hX : gz_cx C 6 129 0 0 (some .boolean) (some (.int y.1)) y.2 "read") (hj104 : ∀ (M24 : gz_M), j104 M24 = some y → gz_go C 0 0 M24 [] 104 []) : ∀ (n : Nat) (M16 : gz_M), lp_X10_read_70 j104 fu a0 a1 n M16 = some y → gz_go C 0 0 M16 [(0, .ref a0), (1, .int a1)] 70 [] := by
  intro n
  induction n with
  | zero => intro M16 hF; exact nomatch (show (none : Option (Int32 × gz_M)) = some y from hF)
  | succ n70 ih70 =>
    intro M16 hF
    rw [lp_X10_read_70.eq_2] at hF
    refine gz_aload_n 70 hC 0 dX10_read_70 rfl rfl ?_
    refine gz_getI 71 hC fl_X10_149 fk_10_22 dX10_read_71 hF (fun x17 hF => ?_)
    refine gz_if_eq 74 104 hC dX10_read_74 (by decide) hF (fun hF => ?_) (fun hF => ?_)
    · skip
      refine gz_sub [] [] rfl ?_
      exact hj104 _ hF
    · skip
      refine gz_aload_n 77 hC 0 dX10_read_77 rfl rfl ?_
      refine gz_getI 78 hC fl_X10_149 fk_10_22 dX10_read_78 hF (fun x18 hF => ?_)
      refine gz_iconst 81 hC (3 : Int32) dX10_read_81 gz_k3 ?_
      refine gz_icmp_eq 82 90 hC dX10_read_82 (by decide) hF (fun hF => ?_) (fun hF => ?_)
      · skip
        refine gz_aload_n 90 hC 0 dX10_read_90 rfl rfl ?_
        refine gz_cvV (st := []) 91 hC hX [] yl_X10_look yv_X10_look q_1273 ⟨Nat.le_of_ble_eq_true rfl, Nat.le_of_ble_eq_true rfl⟩ ⟨_, rfl⟩ (fun r h => ct_X10_look _ _ fu M16 a0 r h) rfl rfl (Nat.le_of_ble_eq_true rfl) dX10_read_91 gz_00 hF (fun M21 hF => ?_)
        refine gz_aload_n 94 hC 0 dX10_read_94 rfl rfl ?_
        refine gz_iload_n 95 hC 1 dX10_read_95 rfl rfl ?_
        refine gz_cvM (st := []) 96 hC hX [.int a1] Value.int yl_X10_statement yv_X10_statement q_1286 ⟨Nat.le_of_ble_eq_true rfl, Nat.le_of_ble_eq_true rfl⟩ ⟨_, rfl⟩ (fun r h => ct_X10_statement _ _ fu M21 a0 a1 r h) rfl rfl (Nat.le_of_ble_eq_true rfl) dX10_read_96 gz_00 hF (fun x22 M23 hF => ?_)
        refine gz_if_ne 99 70 hC dX10_read_99 (by decide) hF (fun hF => ?_) (fun hF => ?_)
        · skip
          exact ih70 _ hF
        · skip
          refine gz_iconst 102 hC (0 : Int32) dX10_read_102 gz_k0 ?_
          exact gz_zretM 103 hC hX dX10_read_103 hF
      · skip
        refine gz_aload_n 85 hC 0 dX10_read_85 rfl rfl ?_
        refine gz_cvM (st := []) 86 hC hX [] Value.int yl_X10_wrong yv_X10_wrong q_1305 ⟨Nat.le_of_ble_eq_true rfl, Nat.le_of_ble_eq_true rfl⟩ ⟨_, rfl⟩ (fun r h => ct_X10_wrong _ _ fu M16 a0 r h) rfl rfl (Nat.le_of_ble_eq_true rfl) dX10_read_86 gz_00 hF (fun x19 M20 hF => ?_)
        exact gz_zretM 89 hC hX dX10_read_89 hF
set_option maxHeartbeats 4000000 in
theorem ct_X10_read (l : Launch) (G : gz_G) (fu : Nat) (M : gz_M) (a0 : Nat) (a1 : Int32) (y : Int32 × gz_M) (hF : f_X10_read fu M a0 a1 = some y) : gz_ct l yX10_read cX10_read 4 (some .boolean) 6 129 0 0 G [.ref a0, .int a1] M (some (.int y.1)) y.2 := by
  refine gz_ct.of (by decide) (Nat.le_of_ble_eq_true rfl) (fun C hC hX => ?_)
  unfold f_X10_read at hF
  obtain ⟨-, hF⟩ := gz_gd_some hF
  show gz_go C 0 0 M [(0, .ref a0), (1, .int a1)] 0 []
  refine gz_aload_n 0 hC 0 dX10_read_0 rfl rfl ?_
  refine gz_getR 1 hC fl_X10_45 fk_10_12 dX10_read_1 hF (fun x1 hF => ?_)
  refine gz_iload_n 4 hC 1 dX10_read_4 rfl rfl ?_
  refine gz_aald 5 hC dX10_read_5 hF (fun x2 hF => ?_)
  refine gz_astore_n 6 hC [(2, .ref x2), (0, .ref a0), (1, .int a1)] dX10_read_6 rfl (by decide) rfl ?_
  refine gz_aload_n 7 hC 0 dX10_read_7 rfl rfl ?_
  refine gz_iconst 8 hC (0 : Int32) dX10_read_8 gz_k0 ?_
  refine gz_iconst 9 hC (0 : Int32) dX10_read_9 gz_k0 ?_
  refine gz_iast 10 hC dX10_read_10 hF (fun M3 hF => ?_)
  refine gz_aload_n 11 hC 0 dX10_read_11 rfl rfl ?_
  refine gz_iconst 12 hC (1 : Int32) dX10_read_12 gz_k1 ?_
  refine gz_iconst 13 hC (0 : Int32) dX10_read_13 gz_k0 ?_
  refine gz_iast 14 hC dX10_read_14 hF (fun M4 hF => ?_)
  refine gz_aload_n 15 hC 0 dX10_read_15 rfl rfl ?_
  refine gz_iconst 16 hC (2 : Int32) dX10_read_16 gz_k2 ?_
  refine gz_bipush 17 hC (50 : Int32) dX10_read_17 gz_b50 ?_
  refine gz_iast 19 hC dX10_read_19 hF (fun M5 hF => ?_)
  refine gz_aload_n 20 hC 0 dX10_read_20 rfl rfl ?_
  refine gz_iconst 21 hC (3 : Int32) dX10_read_21 gz_k3 ?_
  refine gz_iconst 22 hC (1 : Int32) dX10_read_22 gz_k1 ?_
  refine gz_iast 23 hC dX10_read_23 hF (fun M6 hF => ?_)
  refine gz_iconst 24 hC (0 : Int32) dX10_read_24 gz_k0 ?_
  refine gz_istore_n 25 hC [(3, .int (0 : Int32)), (2, .ref x2), (0, .ref a0), (1, .int a1)] dX10_read_25 rfl (by decide) rfl ?_
  refine gz_sub [2, 3, 1, 0] [(0, .ref a0), (1, .int a1), (2, .ref x2), (3, .int (0 : Int32))] rfl ?_
  refine w_X10_read_26 hC hX ?_ _ _ _ hF
  intro M11 hF
  refine gz_aload_n 51 hC 0 dX10_read_51 rfl rfl ?_
  refine gz_iconst 52 hC (0 : Int32) dX10_read_52 gz_k0 ?_
  refine gz_putI 53 hC fl_X10_139 fk_10_21 dX10_read_53 hF (fun M12 hF => ?_)
  refine gz_aload_n 56 hC 0 dX10_read_56 rfl rfl ?_
  refine gz_cvV (st := []) 57 hC hX [] yl_X10_look yv_X10_look q_1273 ⟨Nat.le_of_ble_eq_true rfl, Nat.le_of_ble_eq_true rfl⟩ ⟨_, rfl⟩ (fun r h => ct_X10_look _ _ fu M12 a0 r h) rfl rfl (Nat.le_of_ble_eq_true rfl) dX10_read_57 gz_00 hF (fun M13 hF => ?_)
  refine gz_aload_n 60 hC 0 dX10_read_60 rfl rfl ?_
  refine gz_iload_n 61 hC 1 dX10_read_61 rfl rfl ?_
  refine gz_cvM (st := []) 62 hC hX [.int a1] Value.int yl_X10_statement yv_X10_statement q_1286 ⟨Nat.le_of_ble_eq_true rfl, Nat.le_of_ble_eq_true rfl⟩ ⟨_, rfl⟩ (fun r h => ct_X10_statement _ _ fu M13 a0 a1 r h) rfl rfl (Nat.le_of_ble_eq_true rfl) dX10_read_62 gz_00 hF (fun x14 M15 hF => ?_)
  refine gz_if_ne 65 70 hC dX10_read_65 (by decide) hF (fun hF => ?_) (fun hF => ?_)
  · skip
    refine w_X10_read_70 hC hX ?_ _ _ hF
    intro M24 hF
    refine gz_iconst 104 hC (1 : Int32) dX10_read_104 gz_k1 ?_
    exact gz_zretM 105 hC hX dX10_read_105 hF
  · skip
    refine gz_iconst 68 hC (0 : Int32) dX10_read_68 gz_k0 ?_
    exact gz_zretM 69 hC hX dX10_read_69 hF

theorem dX10_valley_0 : decode cX10_valley 0 = .ok (.aload_n 0, 1) := by decide +kernel
theorem dX10_valley_1 : decode cX10_valley 1 = .ok (.getfield 70, 3) := by decide +kernel
theorem dX10_valley_4 : decode cX10_valley 4 = .ok (.iconst 4, 1) := by decide +kernel
theorem dX10_valley_5 : decode cX10_valley 5 = .ok (.if_icmp .ne 10, 3) := by decide +kernel
theorem dX10_valley_8 : decode cX10_valley 8 = .ok (.aload_n 0, 1) := by decide +kernel
theorem dX10_valley_9 : decode cX10_valley 9 = .ok (.bipush (-6), 2) := by decide +kernel
theorem dX10_valley_11 : decode cX10_valley 11 = .ok (.invokevirtual 97, 3) := by decide +kernel
theorem dX10_valley_14 : decode cX10_valley 14 = .ok (.ireturn, 1) := by decide +kernel
theorem dX10_valley_15 : decode cX10_valley 15 = .ok (.aload_n 0, 1) := by decide +kernel
theorem dX10_valley_16 : decode cX10_valley 16 = .ok (.aload_n 0, 1) := by decide +kernel
theorem dX10_valley_17 : decode cX10_valley 17 = .ok (.getfield 70, 3) := by decide +kernel
theorem dX10_valley_20 : decode cX10_valley 20 = .ok (.invokevirtual 215, 3) := by decide +kernel
theorem dX10_valley_23 : decode cX10_valley 23 = .ok (.istore_n 1, 1) := by decide +kernel
theorem dX10_valley_24 : decode cX10_valley 24 = .ok (.aload_n 0, 1) := by decide +kernel
theorem dX10_valley_25 : decode cX10_valley 25 = .ok (.iconst 0, 1) := by decide +kernel
theorem dX10_valley_26 : decode cX10_valley 26 = .ok (.putfield 136, 3) := by decide +kernel
theorem dX10_valley_29 : decode cX10_valley 29 = .ok (.iload_n 1, 1) := by decide +kernel
theorem dX10_valley_30 : decode cX10_valley 30 = .ok (.ifCond .ne 18, 3) := by decide +kernel
theorem dX10_valley_33 : decode cX10_valley 33 = .ok (.aload_n 0, 1) := by decide +kernel
theorem dX10_valley_34 : decode cX10_valley 34 = .ok (.bipush (-2), 2) := by decide +kernel
theorem dX10_valley_36 : decode cX10_valley 36 = .ok (.invokevirtual 97, 3) := by decide +kernel
theorem dX10_valley_39 : decode cX10_valley 39 = .ok (.pop, 1) := by decide +kernel
theorem dX10_valley_40 : decode cX10_valley 40 = .ok (.bipush (-20), 2) := by decide +kernel
theorem dX10_valley_42 : decode cX10_valley 42 = .ok (.aload_n 0, 1) := by decide +kernel
theorem dX10_valley_43 : decode cX10_valley 43 = .ok (.getfield 164, 3) := by decide +kernel
theorem dX10_valley_46 : decode cX10_valley 46 = .ok (.isub, 1) := by decide +kernel
theorem dX10_valley_47 : decode cX10_valley 47 = .ok (.ireturn, 1) := by decide +kernel
theorem dX10_valley_48 : decode cX10_valley 48 = .ok (.aload_n 0, 1) := by decide +kernel
theorem dX10_valley_49 : decode cX10_valley 49 = .ok (.dup, 1) := by decide +kernel
theorem dX10_valley_50 : decode cX10_valley 50 = .ok (.getfield 70, 3) := by decide +kernel
theorem dX10_valley_53 : decode cX10_valley 53 = .ok (.dup_x1, 1) := by decide +kernel
theorem dX10_valley_54 : decode cX10_valley 54 = .ok (.iconst 1, 1) := by decide +kernel
theorem dX10_valley_55 : decode cX10_valley 55 = .ok (.iadd, 1) := by decide +kernel
theorem dX10_valley_56 : decode cX10_valley 56 = .ok (.putfield 70, 3) := by decide +kernel
theorem dX10_valley_59 : decode cX10_valley 59 = .ok (.ireturn, 1) := by decide +kernel

def f_X10_valley (fu : Nat) (M : gz_M) (a0 : Nat) : Option (Int32 × gz_M) :=
  gz_gd M 10 a0 <|
  (gz_gI M 10 11 a0).bind fun x1 =>
  if x1 = (4 : Int32) then
    gz_b2 (f_X10_refuse fu M a0 (-6 : Int32)) fun x2 M3 =>
    some (x2, M3)
  else
    (gz_gI M 10 11 a0).bind fun x4 =>
    gz_b2 (f_X10_read fu M a0 x4) fun x5 M6 =>
    (gz_pI M6 10 9 a0 (0 : Int32)).bind fun M7 =>
    if x5 = 0 then
      gz_b2 (f_X10_refuse fu M7 a0 (-2 : Int32)) fun x8 M9 =>
      (gz_gI M9 10 25 a0).bind fun x10 =>
      some (((-20 : Int32) - x10), M9)
    else
      (gz_gI M7 10 11 a0).bind fun x11 =>
      (gz_pI M7 10 11 a0 (x11 + (1 : Int32))).bind fun M12 =>
      some (x11, M12)

set_option maxHeartbeats 4000000 in
theorem ct_X10_valley (l : Launch) (G : gz_G) (fu : Nat) (M : gz_M) (a0 : Nat) (y : Int32 × gz_M) (hF : f_X10_valley fu M a0 = some y) : gz_ct l yX10_valley cX10_valley 2 (some .int) 7 152 0 0 G [.ref a0] M (some (.int y.1)) y.2 := by
  refine gz_ct.of (by decide) (Nat.le_of_ble_eq_true rfl) (fun C hC hX => ?_)
  unfold f_X10_valley at hF
  obtain ⟨-, hF⟩ := gz_gd_some hF
  show gz_go C 0 0 M [(0, .ref a0)] 0 []
  refine gz_aload_n 0 hC 0 dX10_valley_0 rfl rfl ?_
  refine gz_getI 1 hC fl_X10_70 fk_10_11 dX10_valley_1 hF (fun x1 hF => ?_)
  refine gz_iconst 4 hC (4 : Int32) dX10_valley_4 gz_k4 ?_
  refine gz_icmp_ne 5 15 hC dX10_valley_5 (by decide) hF (fun hF => ?_) (fun hF => ?_)
  · skip
    refine gz_aload_n 15 hC 0 dX10_valley_15 rfl rfl ?_
    refine gz_aload_n 16 hC 0 dX10_valley_16 rfl rfl ?_
    refine gz_getI 17 hC fl_X10_70 fk_10_11 dX10_valley_17 hF (fun x4 hF => ?_)
    refine gz_cvM (st := []) 20 hC hX [.int x4] Value.int yl_X10_read yv_X10_read q_1269 ⟨Nat.le_of_ble_eq_true rfl, Nat.le_of_ble_eq_true rfl⟩ ⟨_, rfl⟩ (fun r h => ct_X10_read _ _ fu M a0 x4 r h) rfl rfl (Nat.le_of_ble_eq_true rfl) dX10_valley_20 gz_00 hF (fun x5 M6 hF => ?_)
    refine gz_istore_n 23 hC [(1, .int x5), (0, .ref a0)] dX10_valley_23 rfl (by decide) rfl ?_
    refine gz_aload_n 24 hC 1 dX10_valley_24 rfl rfl ?_
    refine gz_iconst 25 hC (0 : Int32) dX10_valley_25 gz_k0 ?_
    refine gz_putI 26 hC fl_X10_136 fk_10_9 dX10_valley_26 hF (fun M7 hF => ?_)
    refine gz_iload_n 29 hC 0 dX10_valley_29 rfl rfl ?_
    refine gz_if_ne 30 48 hC dX10_valley_30 (by decide) hF (fun hF => ?_) (fun hF => ?_)
    · skip
      refine gz_aload_n 48 hC 1 dX10_valley_48 rfl rfl ?_
      refine gz_dup 49 hC dX10_valley_49 rfl ?_
      refine gz_getI 50 hC fl_X10_70 fk_10_11 dX10_valley_50 hF (fun x11 hF => ?_)
      refine gz_dup_x1 53 hC dX10_valley_53 rfl rfl ?_
      refine gz_iconst 54 hC (1 : Int32) dX10_valley_54 gz_k1 ?_
      refine gz_iadd 55 hC dX10_valley_55 ?_
      refine gz_putI 56 hC fl_X10_70 fk_10_11 dX10_valley_56 hF (fun M12 hF => ?_)
      exact gz_iretM 59 hC hX dX10_valley_59 hF
    · skip
      refine gz_aload_n 33 hC 1 dX10_valley_33 rfl rfl ?_
      refine gz_bipush 34 hC (-2 : Int32) dX10_valley_34 gz_bm2 ?_
      refine gz_cvM (st := []) 36 hC hX [.int (-2 : Int32)] Value.int yl_X10_refuse yv_X10_refuse q_1175 ⟨Nat.le_of_ble_eq_true rfl, Nat.le_of_ble_eq_true rfl⟩ ⟨_, rfl⟩ (fun r h => ct_X10_refuse _ _ fu M7 a0 (-2 : Int32) r h) rfl rfl (Nat.le_of_ble_eq_true rfl) dX10_valley_36 gz_00 hF (fun x8 M9 hF => ?_)
      refine gz_pop 39 hC dX10_valley_39 rfl ?_
      refine gz_bipush 40 hC (-20 : Int32) dX10_valley_40 gz_bm20 ?_
      refine gz_aload_n 42 hC 1 dX10_valley_42 rfl rfl ?_
      refine gz_getI 43 hC fl_X10_164 fk_10_25 dX10_valley_43 hF (fun x10 hF => ?_)
      refine gz_isub 46 hC dX10_valley_46 ?_
      exact gz_iretM 47 hC hX dX10_valley_47 hF
  · skip
    refine gz_aload_n 8 hC 0 dX10_valley_8 rfl rfl ?_
    refine gz_bipush 9 hC (-6 : Int32) dX10_valley_9 gz_bm6 ?_
    refine gz_cvM (st := []) 11 hC hX [.int (-6 : Int32)] Value.int yl_X10_refuse yv_X10_refuse q_1175 ⟨Nat.le_of_ble_eq_true rfl, Nat.le_of_ble_eq_true rfl⟩ ⟨_, rfl⟩ (fun r h => ct_X10_refuse _ _ fu M a0 (-6 : Int32) r h) rfl rfl (Nat.le_of_ble_eq_true rfl) dX10_valley_11 gz_00 hF (fun x2 M3 hF => ?_)
    exact gz_iretM 14 hC hX dX10_valley_14 hF

theorem dX10_times_0 : decode cX10_times 0 = .ok (.iconst 0, 1) := by decide +kernel
theorem dX10_times_1 : decode cX10_times 1 = .ok (.istore_n 2, 1) := by decide +kernel
theorem dX10_times_2 : decode cX10_times 2 = .ok (.iconst 0, 1) := by decide +kernel
theorem dX10_times_3 : decode cX10_times 3 = .ok (.istore_n 3, 1) := by decide +kernel
theorem dX10_times_4 : decode cX10_times 4 = .ok (.iload_n 3, 1) := by decide +kernel
theorem dX10_times_5 : decode cX10_times 5 = .ok (.aload_n 0, 1) := by decide +kernel
theorem dX10_times_6 : decode cX10_times 6 = .ok (.iload_n 1, 1) := by decide +kernel
theorem dX10_times_7 : decode cX10_times 7 = .ok (.invokevirtual 81, 3) := by decide +kernel
theorem dX10_times_10 : decode cX10_times 10 = .ok (.if_icmp .ge 19, 3) := by decide +kernel
theorem dX10_times_13 : decode cX10_times 13 = .ok (.iload_n 2, 1) := by decide +kernel
theorem dX10_times_14 : decode cX10_times 14 = .ok (.aload_n 0, 1) := by decide +kernel
theorem dX10_times_15 : decode cX10_times 15 = .ok (.iload_n 1, 1) := by decide +kernel
theorem dX10_times_16 : decode cX10_times 16 = .ok (.iload_n 3, 1) := by decide +kernel
theorem dX10_times_17 : decode cX10_times 17 = .ok (.iconst 3, 1) := by decide +kernel
theorem dX10_times_18 : decode cX10_times 18 = .ok (.invokevirtual 114, 3) := by decide +kernel
theorem dX10_times_21 : decode cX10_times 21 = .ok (.iadd, 1) := by decide +kernel
theorem dX10_times_22 : decode cX10_times 22 = .ok (.istore_n 2, 1) := by decide +kernel
theorem dX10_times_23 : decode cX10_times 23 = .ok (.iinc 3 1, 3) := by decide +kernel
theorem dX10_times_26 : decode cX10_times 26 = .ok (.goto (-22), 3) := by decide +kernel
theorem dX10_times_29 : decode cX10_times 29 = .ok (.iload_n 2, 1) := by decide +kernel
theorem dX10_times_30 : decode cX10_times 30 = .ok (.ireturn, 1) := by decide +kernel
def lp_X10_times_4 (j29 : Int32 → Option (Int32)) (fu : Nat) (M : gz_M) (a0 : Nat) (a1 : Int32) : Nat → Int32 → Int32 → Option (Int32)
  | 0, _, _ => none
  | n4 + 1, x1, x2 =>
    (f_X10_feetOf fu M a0 a1).bind fun x3 =>
    if x3 ≤ x2 then
      j29 x1
    else
      (f_X10_of fu M a0 a1 x2 (3 : Int32)).bind fun x4 =>
      lp_X10_times_4 j29 fu M a0 a1 n4 (x1 + x4) (x2 + (1 : Int32))
def f_X10_times (fu : Nat) (M : gz_M) (a0 : Nat) (a1 : Int32) : Option (Int32) :=
  gz_gd M 10 a0 <|
  lp_X10_times_4 (fun (x5 : Int32) => some x5) fu M a0 a1 fu (0 : Int32) (0 : Int32)
set_option maxHeartbeats 4000000 in
theorem w_X10_times_4 {C : gz_C} {y : Int32} {fu : Nat} {M : gz_M} {a0 : Nat} {a1 : Int32} {j29 : Int32 → Option (Int32)} (hC : gz_ok C cX10_times RX10 4) (hX : gz_cx C 1 23 0 0 (some .int) (some (.int y)) M "times") (hj29 : ∀ (x5 : Int32), j29 x5 = some y → gz_go C 0 0 M [(2, .int x5)] 29 []) : ∀ (n : Nat) (x1 : Int32) (x2 : Int32), lp_X10_times_4 j29 fu M a0 a1 n x1 x2 = some y → gz_go C 0 0 M [(0, .ref a0), (1, .int a1), (2, .int x1), (3, .int x2)] 4 [] := by
  intro n
  induction n with
  | zero => intro x1 x2 hF; exact nomatch (show (none : Option (Int32)) = some y from hF)
  | succ n4 ih4 =>
    intro x1 x2 hF
    rw [lp_X10_times_4.eq_2] at hF
    refine gz_iload_n 4 hC 3 dX10_times_4 rfl rfl ?_
    refine gz_aload_n 5 hC 0 dX10_times_5 rfl rfl ?_
    refine gz_iload_n 6 hC 1 dX10_times_6 rfl rfl ?_
    refine gz_cvP (st := [.int x2]) 7 hC hX [.int a1] Value.int yl_X10_feetOf yv_X10_feetOf q_1221 ⟨Nat.le_of_ble_eq_true rfl, Nat.le_of_ble_eq_true rfl⟩ ⟨_, rfl⟩ (fun r h => ct_X10_feetOf _ _ fu M a0 a1 r h) rfl rfl (Nat.le_of_ble_eq_true rfl) dX10_times_7 gz_00 hF (fun x3 hF => ?_)
    refine gz_icmp_ge 10 29 hC dX10_times_10 (by decide) hF (fun hF => ?_) (fun hF => ?_)
    · skip
      refine gz_sub [2] [(2, .int x1)] rfl ?_
      exact hj29 _ hF
    · skip
      refine gz_iload_n 13 hC 2 dX10_times_13 rfl rfl ?_
      refine gz_aload_n 14 hC 0 dX10_times_14 rfl rfl ?_
      refine gz_iload_n 15 hC 1 dX10_times_15 rfl rfl ?_
      refine gz_iload_n 16 hC 3 dX10_times_16 rfl rfl ?_
      refine gz_iconst 17 hC (3 : Int32) dX10_times_17 gz_k3 ?_
      refine gz_cvP (st := [.int x1]) 18 hC hX [.int a1, .int x2, .int (3 : Int32)] Value.int yl_X10_of yv_X10_of q_1241 ⟨Nat.le_of_ble_eq_true rfl, Nat.le_of_ble_eq_true rfl⟩ ⟨_, rfl⟩ (fun r h => ct_X10_of _ _ fu M a0 a1 x2 (3 : Int32) r h) rfl rfl (Nat.le_of_ble_eq_true rfl) dX10_times_18 gz_00 hF (fun x4 hF => ?_)
      refine gz_iadd 21 hC dX10_times_21 ?_
      refine gz_istore_n 22 hC [(2, .int (x1 + x4)), (0, .ref a0), (1, .int a1), (3, .int x2)] dX10_times_22 rfl (by decide) rfl ?_
      refine gz_iinc 23 hC (x2 + (1 : Int32)) 3 [(3, .int (x2 + (1 : Int32))), (2, .int (x1 + x4)), (0, .ref a0), (1, .int a1)] dX10_times_23 rfl rfl (by decide) rfl ?_
      refine gz_goto 26 4 hC dX10_times_26 (by decide) ?_
      refine gz_sub [2, 3, 1, 0] [(0, .ref a0), (1, .int a1), (2, .int (x1 + x4)), (3, .int (x2 + (1 : Int32)))] rfl ?_
      exact ih4 _ _ hF
set_option maxHeartbeats 4000000 in
theorem ct_X10_times (l : Launch) (G : gz_G) (fu : Nat) (M : gz_M) (a0 : Nat) (a1 : Int32) (y : Int32) (hF : f_X10_times fu M a0 a1 = some y) : gz_ct l yX10_times cX10_times 4 (some .int) 1 23 0 0 G [.ref a0, .int a1] M (some (.int y)) M := by
  refine gz_ct.of (by decide) (Nat.le_of_ble_eq_true rfl) (fun C hC hX => ?_)
  unfold f_X10_times at hF
  obtain ⟨-, hF⟩ := gz_gd_some hF
  show gz_go C 0 0 M [(0, .ref a0), (1, .int a1)] 0 []
  refine gz_iconst 0 hC (0 : Int32) dX10_times_0 gz_k0 ?_
  refine gz_istore_n 1 hC [(2, .int (0 : Int32)), (0, .ref a0), (1, .int a1)] dX10_times_1 rfl (by decide) rfl ?_
  refine gz_iconst 2 hC (0 : Int32) dX10_times_2 gz_k0 ?_
  refine gz_istore_n 3 hC [(3, .int (0 : Int32)), (2, .int (0 : Int32)), (0, .ref a0), (1, .int a1)] dX10_times_3 rfl (by decide) rfl ?_
  refine gz_sub [2, 3, 1, 0] [(0, .ref a0), (1, .int a1), (2, .int (0 : Int32)), (3, .int (0 : Int32))] rfl ?_
  refine w_X10_times_4 hC hX ?_ _ _ _ hF
  intro x5 hF
  refine gz_iload_n 29 hC 0 dX10_times_29 rfl rfl ?_
  exact gz_iretP 30 hC hX dX10_times_30 hF

theorem dX10_valleyOf_0 : decode cX10_valleyOf 0 = .ok (.aload_n 0, 1) := by decide +kernel
theorem dX10_valleyOf_1 : decode cX10_valleyOf 1 = .ok (.iload_n 1, 1) := by decide +kernel
theorem dX10_valleyOf_2 : decode cX10_valleyOf 2 = .ok (.invokevirtual 77, 3) := by decide +kernel
theorem dX10_valleyOf_5 : decode cX10_valleyOf 5 = .ok (.ifCond .eq 15, 3) := by decide +kernel
theorem dX10_valleyOf_8 : decode cX10_valleyOf 8 = .ok (.iload_n 2, 1) := by decide +kernel
theorem dX10_valleyOf_9 : decode cX10_valleyOf 9 = .ok (.i2l, 1) := by decide +kernel
theorem dX10_valleyOf_10 : decode cX10_valleyOf 10 = .ok (.lconst 0, 1) := by decide +kernel
theorem dX10_valleyOf_11 : decode cX10_valleyOf 11 = .ok (.ldc2_w 158, 3) := by decide +kernel
theorem dX10_valleyOf_14 : decode cX10_valleyOf 14 = .ok (.invokestatic 73, 3) := by decide +kernel
theorem dX10_valleyOf_17 : decode cX10_valleyOf 17 = .ok (.ifCond .ne 10, 3) := by decide +kernel
theorem dX10_valleyOf_20 : decode cX10_valleyOf 20 = .ok (.aload_n 0, 1) := by decide +kernel
theorem dX10_valleyOf_21 : decode cX10_valleyOf 21 = .ok (.bipush (-2), 2) := by decide +kernel
theorem dX10_valleyOf_23 : decode cX10_valleyOf 23 = .ok (.invokevirtual 97, 3) := by decide +kernel
theorem dX10_valleyOf_26 : decode cX10_valleyOf 26 = .ok (.ireturn, 1) := by decide +kernel
theorem dX10_valleyOf_27 : decode cX10_valleyOf 27 = .ok (.iload_n 2, 1) := by decide +kernel
theorem dX10_valleyOf_28 : decode cX10_valleyOf 28 = .ok (.iconst 2, 1) := by decide +kernel
theorem dX10_valleyOf_29 : decode cX10_valleyOf 29 = .ok (.if_icmp .ne 11, 3) := by decide +kernel
theorem dX10_valleyOf_32 : decode cX10_valleyOf 32 = .ok (.aload_n 0, 1) := by decide +kernel
theorem dX10_valleyOf_33 : decode cX10_valleyOf 33 = .ok (.iload_n 1, 1) := by decide +kernel
theorem dX10_valleyOf_34 : decode cX10_valleyOf 34 = .ok (.invokevirtual 218, 3) := by decide +kernel
theorem dX10_valleyOf_37 : decode cX10_valleyOf 37 = .ok (.goto 22, 3) := by decide +kernel
theorem dX10_valleyOf_40 : decode cX10_valleyOf 40 = .ok (.aload_n 0, 1) := by decide +kernel
theorem dX10_valleyOf_41 : decode cX10_valleyOf 41 = .ok (.getfield 45, 3) := by decide +kernel
theorem dX10_valleyOf_44 : decode cX10_valleyOf 44 = .ok (.iload_n 1, 1) := by decide +kernel
theorem dX10_valleyOf_45 : decode cX10_valleyOf 45 = .ok (.aaload, 1) := by decide +kernel
theorem dX10_valleyOf_46 : decode cX10_valleyOf 46 = .ok (.iload_n 2, 1) := by decide +kernel
theorem dX10_valleyOf_47 : decode cX10_valleyOf 47 = .ok (.iconst 2, 1) := by decide +kernel
theorem dX10_valleyOf_48 : decode cX10_valleyOf 48 = .ok (.if_icmp .ge 7, 3) := by decide +kernel
theorem dX10_valleyOf_51 : decode cX10_valleyOf 51 = .ok (.iload_n 2, 1) := by decide +kernel
theorem dX10_valleyOf_52 : decode cX10_valleyOf 52 = .ok (.goto 6, 3) := by decide +kernel
theorem dX10_valleyOf_55 : decode cX10_valleyOf 55 = .ok (.iload_n 2, 1) := by decide +kernel
theorem dX10_valleyOf_56 : decode cX10_valleyOf 56 = .ok (.iconst 1, 1) := by decide +kernel
theorem dX10_valleyOf_57 : decode cX10_valleyOf 57 = .ok (.isub, 1) := by decide +kernel
theorem dX10_valleyOf_58 : decode cX10_valleyOf 58 = .ok (.iaload, 1) := by decide +kernel
theorem dX10_valleyOf_59 : decode cX10_valleyOf 59 = .ok (.ireturn, 1) := by decide +kernel

def f_X10_valleyOf (fu : Nat) (M : gz_M) (a0 : Nat) (a1 : Int32) (a2 : Int32) : Option (Int32 × gz_M) :=
  gz_gd M 10 a0 <|
  (f_X10_isValley fu M a0 a1).bind fun x1 =>
  gz_jn (gz_b2 (f_X10_refuse fu M a0 (-2 : Int32)) fun x9 M10 =>
    some (x9, M10)) fun j20 =>
  if x1 = 0 then
    j20
  else
    (f_X10_in fu M (a2).toInt64 (0 : Int64) (10 : Int64)).bind fun x2 =>
    if x2 = 0 then
      j20
    else
      gz_jn (fun (x8 : Int32) =>
      some (x8, M)) fun j59 =>
      if a2 = (2 : Int32) then
        (f_X10_times fu M a0 a1).bind fun x3 =>
        j59 x3
      else
        (gz_gR M 10 12 a0).bind fun x4 =>
        (gz_aR M x4 a1).bind fun x5 =>
        gz_jn (fun (x6 : Int32) =>
        (gz_aI M x5 x6).bind fun x7 =>
          j59 x7) fun j58 =>
        if (2 : Int32) ≤ a2 then
          j58 (a2 - (1 : Int32))
        else
          j58 a2

set_option maxHeartbeats 4000000 in
theorem ct_X10_valleyOf (l : Launch) (G : gz_G) (fu : Nat) (M : gz_M) (a0 : Nat) (a1 : Int32) (a2 : Int32) (y : Int32 × gz_M) (hF : f_X10_valleyOf fu M a0 a1 a2 = some y) : gz_ct l yX10_valleyOf cX10_valleyOf 3 (some .int) 2 46 0 0 G [.ref a0, .int a1, .int a2] M (some (.int y.1)) y.2 := by
  refine gz_ct.of (by decide) (Nat.le_of_ble_eq_true rfl) (fun C hC hX => ?_)
  unfold f_X10_valleyOf at hF
  obtain ⟨-, hF⟩ := gz_gd_some hF
  show gz_go C 0 0 M [(0, .ref a0), (1, .int a1), (2, .int a2)] 0 []
  refine gz_aload_n 0 hC 0 dX10_valleyOf_0 rfl rfl ?_
  refine gz_iload_n 1 hC 1 dX10_valleyOf_1 rfl rfl ?_
  refine gz_cvP (st := []) 2 hC hX [.int a1] Value.int yl_X10_isValley yv_X10_isValley q_1217 ⟨Nat.le_of_ble_eq_true rfl, Nat.le_of_ble_eq_true rfl⟩ ⟨_, rfl⟩ (fun r h => ct_X10_isValley _ _ fu M a0 a1 r h) rfl rfl (Nat.le_of_ble_eq_true rfl) dX10_valleyOf_2 gz_00 hF (fun x1 hF => ?_)
  refine gz_join (fun (j : Option (Int32 × gz_M)) => j = some y → gz_go C 0 0 M [(0, .ref a0)] 20 []) hF (fun hF => ?_) (fun j20 hj20 hF => ?_)
  · skip
    refine gz_aload_n 20 hC 0 dX10_valleyOf_20 rfl rfl ?_
    refine gz_bipush 21 hC (-2 : Int32) dX10_valleyOf_21 gz_bm2 ?_
    refine gz_cvM (st := []) 23 hC hX [.int (-2 : Int32)] Value.int yl_X10_refuse yv_X10_refuse q_1175 ⟨Nat.le_of_ble_eq_true rfl, Nat.le_of_ble_eq_true rfl⟩ ⟨_, rfl⟩ (fun r h => ct_X10_refuse _ _ fu M a0 (-2 : Int32) r h) rfl rfl (Nat.le_of_ble_eq_true rfl) dX10_valleyOf_23 gz_00 hF (fun x9 M10 hF => ?_)
    exact gz_iretM 26 hC hX dX10_valleyOf_26 hF
  refine gz_if_eq 5 20 hC dX10_valleyOf_5 (by decide) hF (fun hF => ?_) (fun hF => ?_)
  · skip
    refine gz_sub [0] [(0, .ref a0)] rfl ?_
    exact hj20 hF
  · skip
    refine gz_iload_n 8 hC 2 dX10_valleyOf_8 rfl rfl ?_
    refine gz_i2l 9 hC dX10_valleyOf_9 ?_
    refine gz_lconst 10 hC (0 : Int64) dX10_valleyOf_10 gz_l0 ?_
    refine gz_ldc2 11 hC dX10_valleyOf_11 q_1283 ?_
    refine gz_csP (st := []) 14 hC hX [.long (a2).toInt64, .long (0 : Int64), .long (10 : Int64)] Value.int yl_X10_in yv_X10_in q_1170 ⟨Nat.le_of_ble_eq_true rfl, Nat.le_of_ble_eq_true rfl⟩ (fun r h => ct_X10_in _ _ fu M (a2).toInt64 (0 : Int64) (10 : Int64) r h) rfl rfl (Nat.le_of_ble_eq_true rfl) dX10_valleyOf_14 gz_00 hF (fun x2 hF => ?_)
    refine gz_if_ne 17 27 hC dX10_valleyOf_17 (by decide) hF (fun hF => ?_) (fun hF => ?_)
    · skip
      refine gz_iload_n 27 hC 2 dX10_valleyOf_27 rfl rfl ?_
      refine gz_iconst 28 hC (2 : Int32) dX10_valleyOf_28 gz_k2 ?_
      refine gz_join (fun (j : Int32 → Option (Int32 × gz_M)) => ∀ (x8 : Int32), j x8 = some y → gz_go C 0 0 M [] 59 [.int x8]) hF (fun x8 hF => ?_) (fun j59 hj59 hF => ?_)
      · skip
        exact gz_iretM 59 hC hX dX10_valleyOf_59 hF
      refine gz_icmp_ne 29 40 hC dX10_valleyOf_29 (by decide) hF (fun hF => ?_) (fun hF => ?_)
      · skip
        refine gz_aload_n 40 hC 0 dX10_valleyOf_40 rfl rfl ?_
        refine gz_getR 41 hC fl_X10_45 fk_10_12 dX10_valleyOf_41 hF (fun x4 hF => ?_)
        refine gz_iload_n 44 hC 1 dX10_valleyOf_44 rfl rfl ?_
        refine gz_aald 45 hC dX10_valleyOf_45 hF (fun x5 hF => ?_)
        refine gz_iload_n 46 hC 2 dX10_valleyOf_46 rfl rfl ?_
        refine gz_iconst 47 hC (2 : Int32) dX10_valleyOf_47 gz_k2 ?_
        refine gz_join (fun (j : Int32 → Option (Int32 × gz_M)) => ∀ (x6 : Int32), j x6 = some y → gz_go C 0 0 M [] 58 [.int x6, .ref x5]) hF (fun x6 hF => ?_) (fun j58 hj58 hF => ?_)
        · skip
          refine gz_iald 58 hC dX10_valleyOf_58 hF (fun x7 hF => ?_)
          exact hj59 _ hF
        refine gz_icmp_ge 48 55 hC dX10_valleyOf_48 (by decide) hF (fun hF => ?_) (fun hF => ?_)
        · skip
          refine gz_iload_n 55 hC 2 dX10_valleyOf_55 rfl rfl ?_
          refine gz_iconst 56 hC (1 : Int32) dX10_valleyOf_56 gz_k1 ?_
          refine gz_isub 57 hC dX10_valleyOf_57 ?_
          refine gz_sub [] [] rfl ?_
          exact hj58 _ hF
        · skip
          refine gz_iload_n 51 hC 2 dX10_valleyOf_51 rfl rfl ?_
          refine gz_goto 52 58 hC dX10_valleyOf_52 (by decide) ?_
          refine gz_sub [] [] rfl ?_
          exact hj58 _ hF
      · skip
        refine gz_aload_n 32 hC 0 dX10_valleyOf_32 rfl rfl ?_
        refine gz_iload_n 33 hC 1 dX10_valleyOf_33 rfl rfl ?_
        refine gz_cvP (st := []) 34 hC hX [.int a1] Value.int yl_X10_times yv_X10_times q_1321 ⟨Nat.le_of_ble_eq_true rfl, Nat.le_of_ble_eq_true rfl⟩ ⟨_, rfl⟩ (fun r h => ct_X10_times _ _ fu M a0 a1 r h) rfl rfl (Nat.le_of_ble_eq_true rfl) dX10_valleyOf_34 gz_00 hF (fun x3 hF => ?_)
        refine gz_goto 37 59 hC dX10_valleyOf_37 (by decide) ?_
        refine gz_sub [] [] rfl ?_
        exact hj59 _ hF
    · skip
      refine gz_sub [0] [(0, .ref a0)] rfl ?_
      exact hj20 hF

theorem dX10_footOf_0 : decode cX10_footOf 0 = .ok (.aload_n 0, 1) := by decide +kernel
theorem dX10_footOf_1 : decode cX10_footOf 1 = .ok (.iload_n 1, 1) := by decide +kernel
theorem dX10_footOf_2 : decode cX10_footOf 2 = .ok (.iload_n 2, 1) := by decide +kernel
theorem dX10_footOf_3 : decode cX10_footOf 3 = .ok (.invokevirtual 125, 3) := by decide +kernel
theorem dX10_footOf_6 : decode cX10_footOf 6 = .ok (.ifCond .eq 25, 3) := by decide +kernel
theorem dX10_footOf_9 : decode cX10_footOf 9 = .ok (.iload_n 3, 1) := by decide +kernel
theorem dX10_footOf_10 : decode cX10_footOf 10 = .ok (.i2l, 1) := by decide +kernel
theorem dX10_footOf_11 : decode cX10_footOf 11 = .ok (.lconst 0, 1) := by decide +kernel
theorem dX10_footOf_12 : decode cX10_footOf 12 = .ok (.ldc2_w 93, 3) := by decide +kernel
theorem dX10_footOf_15 : decode cX10_footOf 15 = .ok (.invokestatic 73, 3) := by decide +kernel
theorem dX10_footOf_18 : decode cX10_footOf 18 = .ok (.ifCond .eq 13, 3) := by decide +kernel
theorem dX10_footOf_21 : decode cX10_footOf 21 = .ok (.aload_n 0, 1) := by decide +kernel
theorem dX10_footOf_22 : decode cX10_footOf 22 = .ok (.iload_n 1, 1) := by decide +kernel
theorem dX10_footOf_23 : decode cX10_footOf 23 = .ok (.iload_n 2, 1) := by decide +kernel
theorem dX10_footOf_24 : decode cX10_footOf 24 = .ok (.iload_n 3, 1) := by decide +kernel
theorem dX10_footOf_25 : decode cX10_footOf 25 = .ok (.invokevirtual 114, 3) := by decide +kernel
theorem dX10_footOf_28 : decode cX10_footOf 28 = .ok (.goto 9, 3) := by decide +kernel
theorem dX10_footOf_31 : decode cX10_footOf 31 = .ok (.aload_n 0, 1) := by decide +kernel
theorem dX10_footOf_32 : decode cX10_footOf 32 = .ok (.bipush (-2), 2) := by decide +kernel
theorem dX10_footOf_34 : decode cX10_footOf 34 = .ok (.invokevirtual 97, 3) := by decide +kernel
theorem dX10_footOf_37 : decode cX10_footOf 37 = .ok (.ireturn, 1) := by decide +kernel

def f_X10_footOf (fu : Nat) (M : gz_M) (a0 : Nat) (a1 : Int32) (a2 : Int32) (a3 : Int32) : Option (Int32 × gz_M) :=
  gz_gd M 10 a0 <|
  (f_X10_isFoot fu M a0 a1 a2).bind fun x1 =>
  gz_jn (fun (x6 : Int32) (M7 : gz_M) =>
  some (x6, M7)) fun j37 =>
  gz_jn (gz_b2 (f_X10_refuse fu M a0 (-2 : Int32)) fun x4 M5 =>
    j37 x4 M5) fun j31 =>
  if x1 = 0 then
    j31
  else
    (f_X10_in fu M (a3).toInt64 (0 : Int64) (4 : Int64)).bind fun x2 =>
    if x2 = 0 then
      j31
    else
      (f_X10_of fu M a0 a1 a2 a3).bind fun x3 =>
      j37 x3 M

set_option maxHeartbeats 4000000 in
theorem ct_X10_footOf (l : Launch) (G : gz_G) (fu : Nat) (M : gz_M) (a0 : Nat) (a1 : Int32) (a2 : Int32) (a3 : Int32) (y : Int32 × gz_M) (hF : f_X10_footOf fu M a0 a1 a2 a3 = some y) : gz_ct l yX10_footOf cX10_footOf 4 (some .int) 3 68 0 0 G [.ref a0, .int a1, .int a2, .int a3] M (some (.int y.1)) y.2 := by
  refine gz_ct.of (by decide) (Nat.le_of_ble_eq_true rfl) (fun C hC hX => ?_)
  unfold f_X10_footOf at hF
  obtain ⟨-, hF⟩ := gz_gd_some hF
  show gz_go C 0 0 M [(0, .ref a0), (1, .int a1), (2, .int a2), (3, .int a3)] 0 []
  refine gz_aload_n 0 hC 0 dX10_footOf_0 rfl rfl ?_
  refine gz_iload_n 1 hC 1 dX10_footOf_1 rfl rfl ?_
  refine gz_iload_n 2 hC 2 dX10_footOf_2 rfl rfl ?_
  refine gz_cvP (st := []) 3 hC hX [.int a1, .int a2] Value.int yl_X10_isFoot yv_X10_isFoot q_1213 ⟨Nat.le_of_ble_eq_true rfl, Nat.le_of_ble_eq_true rfl⟩ ⟨_, rfl⟩ (fun r h => ct_X10_isFoot _ _ fu M a0 a1 a2 r h) rfl rfl (Nat.le_of_ble_eq_true rfl) dX10_footOf_3 gz_00 hF (fun x1 hF => ?_)
  refine gz_join (fun (j : Int32 → gz_M → Option (Int32 × gz_M)) => ∀ (x6 : Int32) (M7 : gz_M), j x6 M7 = some y → gz_go C 0 0 M7 [] 37 [.int x6]) hF (fun x6 M7 hF => ?_) (fun j37 hj37 hF => ?_)
  · skip
    exact gz_iretM 37 hC hX dX10_footOf_37 hF
  refine gz_join (fun (j : Option (Int32 × gz_M)) => j = some y → gz_go C 0 0 M [(0, .ref a0)] 31 []) hF (fun hF => ?_) (fun j31 hj31 hF => ?_)
  · skip
    refine gz_aload_n 31 hC 0 dX10_footOf_31 rfl rfl ?_
    refine gz_bipush 32 hC (-2 : Int32) dX10_footOf_32 gz_bm2 ?_
    refine gz_cvM (st := []) 34 hC hX [.int (-2 : Int32)] Value.int yl_X10_refuse yv_X10_refuse q_1175 ⟨Nat.le_of_ble_eq_true rfl, Nat.le_of_ble_eq_true rfl⟩ ⟨_, rfl⟩ (fun r h => ct_X10_refuse _ _ fu M a0 (-2 : Int32) r h) rfl rfl (Nat.le_of_ble_eq_true rfl) dX10_footOf_34 gz_00 hF (fun x4 M5 hF => ?_)
    refine gz_sub [] [] rfl ?_
    exact hj37 _ _ hF
  refine gz_if_eq 6 31 hC dX10_footOf_6 (by decide) hF (fun hF => ?_) (fun hF => ?_)
  · skip
    refine gz_sub [0] [(0, .ref a0)] rfl ?_
    exact hj31 hF
  · skip
    refine gz_iload_n 9 hC 3 dX10_footOf_9 rfl rfl ?_
    refine gz_i2l 10 hC dX10_footOf_10 ?_
    refine gz_lconst 11 hC (0 : Int64) dX10_footOf_11 gz_l0 ?_
    refine gz_ldc2 12 hC dX10_footOf_12 q_1173 ?_
    refine gz_csP (st := []) 15 hC hX [.long (a3).toInt64, .long (0 : Int64), .long (4 : Int64)] Value.int yl_X10_in yv_X10_in q_1170 ⟨Nat.le_of_ble_eq_true rfl, Nat.le_of_ble_eq_true rfl⟩ (fun r h => ct_X10_in _ _ fu M (a3).toInt64 (0 : Int64) (4 : Int64) r h) rfl rfl (Nat.le_of_ble_eq_true rfl) dX10_footOf_15 gz_00 hF (fun x2 hF => ?_)
    refine gz_if_eq 18 31 hC dX10_footOf_18 (by decide) hF (fun hF => ?_) (fun hF => ?_)
    · skip
      refine gz_sub [0] [(0, .ref a0)] rfl ?_
      exact hj31 hF
    · skip
      refine gz_aload_n 21 hC 0 dX10_footOf_21 rfl rfl ?_
      refine gz_iload_n 22 hC 1 dX10_footOf_22 rfl rfl ?_
      refine gz_iload_n 23 hC 2 dX10_footOf_23 rfl rfl ?_
      refine gz_iload_n 24 hC 3 dX10_footOf_24 rfl rfl ?_
      refine gz_cvP (st := []) 25 hC hX [.int a1, .int a2, .int a3] Value.int yl_X10_of yv_X10_of q_1241 ⟨Nat.le_of_ble_eq_true rfl, Nat.le_of_ble_eq_true rfl⟩ ⟨_, rfl⟩ (fun r h => ct_X10_of _ _ fu M a0 a1 a2 a3 r h) rfl rfl (Nat.le_of_ble_eq_true rfl) dX10_footOf_25 gz_00 hF (fun x3 hF => ?_)
      refine gz_goto 28 37 hC dX10_footOf_28 (by decide) ?_
      refine gz_sub [] [] rfl ?_
      exact hj37 _ _ hF

theorem dX10_lastOf_0 : decode cX10_lastOf 0 = .ok (.aload_n 0, 1) := by decide +kernel
theorem dX10_lastOf_1 : decode cX10_lastOf 1 = .ok (.iload_n 1, 1) := by decide +kernel
theorem dX10_lastOf_2 : decode cX10_lastOf 2 = .ok (.iload_n 2, 1) := by decide +kernel
theorem dX10_lastOf_3 : decode cX10_lastOf 3 = .ok (.invokevirtual 220, 3) := by decide +kernel
theorem dX10_lastOf_6 : decode cX10_lastOf 6 = .ok (.ifCond .eq 25, 3) := by decide +kernel
theorem dX10_lastOf_9 : decode cX10_lastOf 9 = .ok (.iload_n 3, 1) := by decide +kernel
theorem dX10_lastOf_10 : decode cX10_lastOf 10 = .ok (.i2l, 1) := by decide +kernel
theorem dX10_lastOf_11 : decode cX10_lastOf 11 = .ok (.lconst 0, 1) := by decide +kernel
theorem dX10_lastOf_12 : decode cX10_lastOf 12 = .ok (.ldc2_w 223, 3) := by decide +kernel
theorem dX10_lastOf_15 : decode cX10_lastOf 15 = .ok (.invokestatic 73, 3) := by decide +kernel
theorem dX10_lastOf_18 : decode cX10_lastOf 18 = .ok (.ifCond .eq 13, 3) := by decide +kernel
theorem dX10_lastOf_21 : decode cX10_lastOf 21 = .ok (.aload_n 0, 1) := by decide +kernel
theorem dX10_lastOf_22 : decode cX10_lastOf 22 = .ok (.iload_n 1, 1) := by decide +kernel
theorem dX10_lastOf_23 : decode cX10_lastOf 23 = .ok (.iload_n 2, 1) := by decide +kernel
theorem dX10_lastOf_24 : decode cX10_lastOf 24 = .ok (.iload_n 3, 1) := by decide +kernel
theorem dX10_lastOf_25 : decode cX10_lastOf 25 = .ok (.invokevirtual 110, 3) := by decide +kernel
theorem dX10_lastOf_28 : decode cX10_lastOf 28 = .ok (.goto 9, 3) := by decide +kernel
theorem dX10_lastOf_31 : decode cX10_lastOf 31 = .ok (.aload_n 0, 1) := by decide +kernel
theorem dX10_lastOf_32 : decode cX10_lastOf 32 = .ok (.bipush (-2), 2) := by decide +kernel
theorem dX10_lastOf_34 : decode cX10_lastOf 34 = .ok (.invokevirtual 97, 3) := by decide +kernel
theorem dX10_lastOf_37 : decode cX10_lastOf 37 = .ok (.ireturn, 1) := by decide +kernel

def f_X10_lastOf (fu : Nat) (M : gz_M) (a0 : Nat) (a1 : Int32) (a2 : Int32) (a3 : Int32) : Option (Int32 × gz_M) :=
  gz_gd M 10 a0 <|
  (f_X10_isLast fu M a0 a1 a2).bind fun x1 =>
  gz_jn (fun (x6 : Int32) (M7 : gz_M) =>
  some (x6, M7)) fun j37 =>
  gz_jn (gz_b2 (f_X10_refuse fu M a0 (-2 : Int32)) fun x4 M5 =>
    j37 x4 M5) fun j31 =>
  if x1 = 0 then
    j31
  else
    (f_X10_in fu M (a3).toInt64 (0 : Int64) (3 : Int64)).bind fun x2 =>
    if x2 = 0 then
      j31
    else
      (f_X10_lastIs fu M a0 a1 a2 a3).bind fun x3 =>
      j37 x3 M

set_option maxHeartbeats 4000000 in
theorem ct_X10_lastOf (l : Launch) (G : gz_G) (fu : Nat) (M : gz_M) (a0 : Nat) (a1 : Int32) (a2 : Int32) (a3 : Int32) (y : Int32 × gz_M) (hF : f_X10_lastOf fu M a0 a1 a2 a3 = some y) : gz_ct l yX10_lastOf cX10_lastOf 4 (some .int) 3 68 0 0 G [.ref a0, .int a1, .int a2, .int a3] M (some (.int y.1)) y.2 := by
  refine gz_ct.of (by decide) (Nat.le_of_ble_eq_true rfl) (fun C hC hX => ?_)
  unfold f_X10_lastOf at hF
  obtain ⟨-, hF⟩ := gz_gd_some hF
  show gz_go C 0 0 M [(0, .ref a0), (1, .int a1), (2, .int a2), (3, .int a3)] 0 []
  refine gz_aload_n 0 hC 0 dX10_lastOf_0 rfl rfl ?_
  refine gz_iload_n 1 hC 1 dX10_lastOf_1 rfl rfl ?_
  refine gz_iload_n 2 hC 2 dX10_lastOf_2 rfl rfl ?_
  refine gz_cvP (st := []) 3 hC hX [.int a1, .int a2] Value.int yl_X10_isLast yv_X10_isLast q_1333 ⟨Nat.le_of_ble_eq_true rfl, Nat.le_of_ble_eq_true rfl⟩ ⟨_, rfl⟩ (fun r h => ct_X10_isLast _ _ fu M a0 a1 a2 r h) rfl rfl (Nat.le_of_ble_eq_true rfl) dX10_lastOf_3 gz_00 hF (fun x1 hF => ?_)
  refine gz_join (fun (j : Int32 → gz_M → Option (Int32 × gz_M)) => ∀ (x6 : Int32) (M7 : gz_M), j x6 M7 = some y → gz_go C 0 0 M7 [] 37 [.int x6]) hF (fun x6 M7 hF => ?_) (fun j37 hj37 hF => ?_)
  · skip
    exact gz_iretM 37 hC hX dX10_lastOf_37 hF
  refine gz_join (fun (j : Option (Int32 × gz_M)) => j = some y → gz_go C 0 0 M [(0, .ref a0)] 31 []) hF (fun hF => ?_) (fun j31 hj31 hF => ?_)
  · skip
    refine gz_aload_n 31 hC 0 dX10_lastOf_31 rfl rfl ?_
    refine gz_bipush 32 hC (-2 : Int32) dX10_lastOf_32 gz_bm2 ?_
    refine gz_cvM (st := []) 34 hC hX [.int (-2 : Int32)] Value.int yl_X10_refuse yv_X10_refuse q_1175 ⟨Nat.le_of_ble_eq_true rfl, Nat.le_of_ble_eq_true rfl⟩ ⟨_, rfl⟩ (fun r h => ct_X10_refuse _ _ fu M a0 (-2 : Int32) r h) rfl rfl (Nat.le_of_ble_eq_true rfl) dX10_lastOf_34 gz_00 hF (fun x4 M5 hF => ?_)
    refine gz_sub [] [] rfl ?_
    exact hj37 _ _ hF
  refine gz_if_eq 6 31 hC dX10_lastOf_6 (by decide) hF (fun hF => ?_) (fun hF => ?_)
  · skip
    refine gz_sub [0] [(0, .ref a0)] rfl ?_
    exact hj31 hF
  · skip
    refine gz_iload_n 9 hC 3 dX10_lastOf_9 rfl rfl ?_
    refine gz_i2l 10 hC dX10_lastOf_10 ?_
    refine gz_lconst 11 hC (0 : Int64) dX10_lastOf_11 gz_l0 ?_
    refine gz_ldc2 12 hC dX10_lastOf_12 q_1337 ?_
    refine gz_csP (st := []) 15 hC hX [.long (a3).toInt64, .long (0 : Int64), .long (3 : Int64)] Value.int yl_X10_in yv_X10_in q_1170 ⟨Nat.le_of_ble_eq_true rfl, Nat.le_of_ble_eq_true rfl⟩ (fun r h => ct_X10_in _ _ fu M (a3).toInt64 (0 : Int64) (3 : Int64) r h) rfl rfl (Nat.le_of_ble_eq_true rfl) dX10_lastOf_15 gz_00 hF (fun x2 hF => ?_)
    refine gz_if_eq 18 31 hC dX10_lastOf_18 (by decide) hF (fun hF => ?_) (fun hF => ?_)
    · skip
      refine gz_sub [0] [(0, .ref a0)] rfl ?_
      exact hj31 hF
    · skip
      refine gz_aload_n 21 hC 0 dX10_lastOf_21 rfl rfl ?_
      refine gz_iload_n 22 hC 1 dX10_lastOf_22 rfl rfl ?_
      refine gz_iload_n 23 hC 2 dX10_lastOf_23 rfl rfl ?_
      refine gz_iload_n 24 hC 3 dX10_lastOf_24 rfl rfl ?_
      refine gz_cvP (st := []) 25 hC hX [.int a1, .int a2, .int a3] Value.int yl_X10_lastIs yv_X10_lastIs q_1237 ⟨Nat.le_of_ble_eq_true rfl, Nat.le_of_ble_eq_true rfl⟩ ⟨_, rfl⟩ (fun r h => ct_X10_lastIs _ _ fu M a0 a1 a2 a3 r h) rfl rfl (Nat.le_of_ble_eq_true rfl) dX10_lastOf_25 gz_00 hF (fun x3 hF => ?_)
      refine gz_goto 28 37 hC dX10_lastOf_28 (by decide) ?_
      refine gz_sub [] [] rfl ?_
      exact hj37 _ _ hF

theorem dX10_feet_0 : decode cX10_feet 0 = .ok (.aload_n 0, 1) := by decide +kernel
theorem dX10_feet_1 : decode cX10_feet 1 = .ok (.iload_n 1, 1) := by decide +kernel
theorem dX10_feet_2 : decode cX10_feet 2 = .ok (.invokevirtual 77, 3) := by decide +kernel
theorem dX10_feet_5 : decode cX10_feet 5 = .ok (.ifCond .eq 15, 3) := by decide +kernel
theorem dX10_feet_8 : decode cX10_feet 8 = .ok (.iload_n 2, 1) := by decide +kernel
theorem dX10_feet_9 : decode cX10_feet 9 = .ok (.i2l, 1) := by decide +kernel
theorem dX10_feet_10 : decode cX10_feet 10 = .ok (.lconst 0, 1) := by decide +kernel
theorem dX10_feet_11 : decode cX10_feet 11 = .ok (.ldc2_w 91, 3) := by decide +kernel
theorem dX10_feet_14 : decode cX10_feet 14 = .ok (.invokestatic 73, 3) := by decide +kernel
theorem dX10_feet_17 : decode cX10_feet 17 = .ok (.ifCond .ne 10, 3) := by decide +kernel
theorem dX10_feet_20 : decode cX10_feet 20 = .ok (.aload_n 0, 1) := by decide +kernel
theorem dX10_feet_21 : decode cX10_feet 21 = .ok (.bipush (-2), 2) := by decide +kernel
theorem dX10_feet_23 : decode cX10_feet 23 = .ok (.invokevirtual 97, 3) := by decide +kernel
theorem dX10_feet_26 : decode cX10_feet 26 = .ok (.ireturn, 1) := by decide +kernel
theorem dX10_feet_27 : decode cX10_feet 27 = .ok (.aload_n 0, 1) := by decide +kernel
theorem dX10_feet_28 : decode cX10_feet 28 = .ok (.getfield 7, 3) := by decide +kernel
theorem dX10_feet_31 : decode cX10_feet 31 = .ok (.iload_n 2, 1) := by decide +kernel
theorem dX10_feet_32 : decode cX10_feet 32 = .ok (.iaload, 1) := by decide +kernel
theorem dX10_feet_33 : decode cX10_feet 33 = .ok (.iconst 2, 1) := by decide +kernel
theorem dX10_feet_34 : decode cX10_feet 34 = .ok (.if_icmp .ne 10, 3) := by decide +kernel
theorem dX10_feet_37 : decode cX10_feet 37 = .ok (.aload_n 0, 1) := by decide +kernel
theorem dX10_feet_38 : decode cX10_feet 38 = .ok (.bipush (-3), 2) := by decide +kernel
theorem dX10_feet_40 : decode cX10_feet 40 = .ok (.invokevirtual 97, 3) := by decide +kernel
theorem dX10_feet_43 : decode cX10_feet 43 = .ok (.ireturn, 1) := by decide +kernel
theorem dX10_feet_44 : decode cX10_feet 44 = .ok (.aload_n 0, 1) := by decide +kernel
theorem dX10_feet_45 : decode cX10_feet 45 = .ok (.getfield 7, 3) := by decide +kernel
theorem dX10_feet_48 : decode cX10_feet 48 = .ok (.iload_n 2, 1) := by decide +kernel
theorem dX10_feet_49 : decode cX10_feet 49 = .ok (.iaload, 1) := by decide +kernel
theorem dX10_feet_50 : decode cX10_feet 50 = .ok (.ifCond .ne 10, 3) := by decide +kernel
theorem dX10_feet_53 : decode cX10_feet 53 = .ok (.aload_n 0, 1) := by decide +kernel
theorem dX10_feet_54 : decode cX10_feet 54 = .ok (.bipush (-4), 2) := by decide +kernel
theorem dX10_feet_56 : decode cX10_feet 56 = .ok (.invokevirtual 97, 3) := by decide +kernel
theorem dX10_feet_59 : decode cX10_feet 59 = .ok (.ireturn, 1) := by decide +kernel
theorem dX10_feet_60 : decode cX10_feet 60 = .ok (.iconst 0, 1) := by decide +kernel
theorem dX10_feet_61 : decode cX10_feet 61 = .ok (.istore_n 3, 1) := by decide +kernel
theorem dX10_feet_62 : decode cX10_feet 62 = .ok (.iconst 0, 1) := by decide +kernel
theorem dX10_feet_63 : decode cX10_feet 63 = .ok (.istore 4, 2) := by decide +kernel
theorem dX10_feet_65 : decode cX10_feet 65 = .ok (.iload 4, 2) := by decide +kernel
theorem dX10_feet_67 : decode cX10_feet 67 = .ok (.iconst 4, 1) := by decide +kernel
theorem dX10_feet_68 : decode cX10_feet 68 = .ok (.iadd, 1) := by decide +kernel
theorem dX10_feet_69 : decode cX10_feet 69 = .ok (.aload_n 0, 1) := by decide +kernel
theorem dX10_feet_70 : decode cX10_feet 70 = .ok (.getfield 16, 3) := by decide +kernel
theorem dX10_feet_73 : decode cX10_feet 73 = .ok (.iload_n 2, 1) := by decide +kernel
theorem dX10_feet_74 : decode cX10_feet 74 = .ok (.iaload, 1) := by decide +kernel
theorem dX10_feet_75 : decode cX10_feet 75 = .ok (.if_icmp .gt 157, 3) := by decide +kernel
theorem dX10_feet_78 : decode cX10_feet 78 = .ok (.aload_n 0, 1) := by decide +kernel
theorem dX10_feet_79 : decode cX10_feet 79 = .ok (.iload_n 1, 1) := by decide +kernel
theorem dX10_feet_80 : decode cX10_feet 80 = .ok (.invokevirtual 81, 3) := by decide +kernel
theorem dX10_feet_83 : decode cX10_feet 83 = .ok (.bipush 12, 2) := by decide +kernel
theorem dX10_feet_85 : decode cX10_feet 85 = .ok (.if_icmp .ge 147, 3) := by decide +kernel
theorem dX10_feet_88 : decode cX10_feet 88 = .ok (.iconst 0, 1) := by decide +kernel
theorem dX10_feet_89 : decode cX10_feet 89 = .ok (.istore 5, 2) := by decide +kernel
theorem dX10_feet_91 : decode cX10_feet 91 = .ok (.iload 5, 2) := by decide +kernel
theorem dX10_feet_93 : decode cX10_feet 93 = .ok (.iconst 4, 1) := by decide +kernel
theorem dX10_feet_94 : decode cX10_feet 94 = .ok (.if_icmp .ge 55, 3) := by decide +kernel
theorem dX10_feet_97 : decode cX10_feet 97 = .ok (.aload_n 0, 1) := by decide +kernel
theorem dX10_feet_98 : decode cX10_feet 98 = .ok (.getfield 21, 3) := by decide +kernel
theorem dX10_feet_101 : decode cX10_feet 101 = .ok (.iload_n 2, 1) := by decide +kernel
theorem dX10_feet_102 : decode cX10_feet 102 = .ok (.aaload, 1) := by decide +kernel
theorem dX10_feet_103 : decode cX10_feet 103 = .ok (.iload 4, 2) := by decide +kernel
theorem dX10_feet_105 : decode cX10_feet 105 = .ok (.iload 5, 2) := by decide +kernel
theorem dX10_feet_107 : decode cX10_feet 107 = .ok (.iadd, 1) := by decide +kernel
theorem dX10_feet_108 : decode cX10_feet 108 = .ok (.laload, 1) := by decide +kernel
theorem dX10_feet_109 : decode cX10_feet 109 = .ok (.iload 5, 2) := by decide +kernel
theorem dX10_feet_111 : decode cX10_feet 111 = .ok (.iconst 3, 1) := by decide +kernel
theorem dX10_feet_112 : decode cX10_feet 112 = .ok (.if_icmp .ne 7, 3) := by decide +kernel
theorem dX10_feet_115 : decode cX10_feet 115 = .ok (.lconst 1, 1) := by decide +kernel
theorem dX10_feet_116 : decode cX10_feet 116 = .ok (.goto 4, 3) := by decide +kernel
theorem dX10_feet_119 : decode cX10_feet 119 = .ok (.lconst 0, 1) := by decide +kernel
theorem dX10_feet_120 : decode cX10_feet 120 = .ok (.iload 5, 2) := by decide +kernel
theorem dX10_feet_122 : decode cX10_feet 122 = .ok (.iconst 3, 1) := by decide +kernel
theorem dX10_feet_123 : decode cX10_feet 123 = .ok (.if_icmp .ne 9, 3) := by decide +kernel
theorem dX10_feet_126 : decode cX10_feet 126 = .ok (.ldc2_w 225, 3) := by decide +kernel
theorem dX10_feet_129 : decode cX10_feet 129 = .ok (.goto 6, 3) := by decide +kernel
theorem dX10_feet_132 : decode cX10_feet 132 = .ok (.ldc2_w 108, 3) := by decide +kernel
theorem dX10_feet_135 : decode cX10_feet 135 = .ok (.invokestatic 73, 3) := by decide +kernel
theorem dX10_feet_138 : decode cX10_feet 138 = .ok (.ifCond .ne 5, 3) := by decide +kernel
theorem dX10_feet_141 : decode cX10_feet 141 = .ok (.iload_n 3, 1) := by decide +kernel
theorem dX10_feet_142 : decode cX10_feet 142 = .ok (.ireturn, 1) := by decide +kernel
theorem dX10_feet_143 : decode cX10_feet 143 = .ok (.iinc 5 1, 3) := by decide +kernel
theorem dX10_feet_146 : decode cX10_feet 146 = .ok (.goto (-55), 3) := by decide +kernel
theorem dX10_feet_149 : decode cX10_feet 149 = .ok (.iconst 0, 1) := by decide +kernel
theorem dX10_feet_150 : decode cX10_feet 150 = .ok (.istore 5, 2) := by decide +kernel
theorem dX10_feet_152 : decode cX10_feet 152 = .ok (.iload 5, 2) := by decide +kernel
theorem dX10_feet_154 : decode cX10_feet 154 = .ok (.iconst 4, 1) := by decide +kernel
theorem dX10_feet_155 : decode cX10_feet 155 = .ok (.if_icmp .ge 39, 3) := by decide +kernel
theorem dX10_feet_158 : decode cX10_feet 158 = .ok (.aload_n 0, 1) := by decide +kernel
theorem dX10_feet_159 : decode cX10_feet 159 = .ok (.getfield 48, 3) := by decide +kernel
theorem dX10_feet_162 : decode cX10_feet 162 = .ok (.iload_n 1, 1) := by decide +kernel
theorem dX10_feet_163 : decode cX10_feet 163 = .ok (.aaload, 1) := by decide +kernel
theorem dX10_feet_164 : decode cX10_feet 164 = .ok (.iconst 5, 1) := by decide +kernel
theorem dX10_feet_165 : decode cX10_feet 165 = .ok (.aload_n 0, 1) := by decide +kernel
theorem dX10_feet_166 : decode cX10_feet 166 = .ok (.iload_n 1, 1) := by decide +kernel
theorem dX10_feet_167 : decode cX10_feet 167 = .ok (.invokevirtual 81, 3) := by decide +kernel
theorem dX10_feet_170 : decode cX10_feet 170 = .ok (.imul, 1) := by decide +kernel
theorem dX10_feet_171 : decode cX10_feet 171 = .ok (.iload 5, 2) := by decide +kernel
theorem dX10_feet_173 : decode cX10_feet 173 = .ok (.iadd, 1) := by decide +kernel
theorem dX10_feet_174 : decode cX10_feet 174 = .ok (.aload_n 0, 1) := by decide +kernel
theorem dX10_feet_175 : decode cX10_feet 175 = .ok (.getfield 21, 3) := by decide +kernel
theorem dX10_feet_178 : decode cX10_feet 178 = .ok (.iload_n 2, 1) := by decide +kernel
theorem dX10_feet_179 : decode cX10_feet 179 = .ok (.aaload, 1) := by decide +kernel
theorem dX10_feet_180 : decode cX10_feet 180 = .ok (.iload 4, 2) := by decide +kernel
theorem dX10_feet_182 : decode cX10_feet 182 = .ok (.iload 5, 2) := by decide +kernel
theorem dX10_feet_184 : decode cX10_feet 184 = .ok (.iadd, 1) := by decide +kernel
theorem dX10_feet_185 : decode cX10_feet 185 = .ok (.laload, 1) := by decide +kernel
theorem dX10_feet_186 : decode cX10_feet 186 = .ok (.l2i, 1) := by decide +kernel
theorem dX10_feet_187 : decode cX10_feet 187 = .ok (.iastore, 1) := by decide +kernel
theorem dX10_feet_188 : decode cX10_feet 188 = .ok (.iinc 5 1, 3) := by decide +kernel
theorem dX10_feet_191 : decode cX10_feet 191 = .ok (.goto (-39), 3) := by decide +kernel
theorem dX10_feet_194 : decode cX10_feet 194 = .ok (.aload_n 0, 1) := by decide +kernel
theorem dX10_feet_195 : decode cX10_feet 195 = .ok (.getfield 48, 3) := by decide +kernel
theorem dX10_feet_198 : decode cX10_feet 198 = .ok (.iload_n 1, 1) := by decide +kernel
theorem dX10_feet_199 : decode cX10_feet 199 = .ok (.aaload, 1) := by decide +kernel
theorem dX10_feet_200 : decode cX10_feet 200 = .ok (.iconst 5, 1) := by decide +kernel
theorem dX10_feet_201 : decode cX10_feet 201 = .ok (.aload_n 0, 1) := by decide +kernel
theorem dX10_feet_202 : decode cX10_feet 202 = .ok (.iload_n 1, 1) := by decide +kernel
theorem dX10_feet_203 : decode cX10_feet 203 = .ok (.invokevirtual 81, 3) := by decide +kernel
theorem dX10_feet_206 : decode cX10_feet 206 = .ok (.imul, 1) := by decide +kernel
theorem dX10_feet_207 : decode cX10_feet 207 = .ok (.iconst 4, 1) := by decide +kernel
theorem dX10_feet_208 : decode cX10_feet 208 = .ok (.iadd, 1) := by decide +kernel
theorem dX10_feet_209 : decode cX10_feet 209 = .ok (.iconst 0, 1) := by decide +kernel
theorem dX10_feet_210 : decode cX10_feet 210 = .ok (.iastore, 1) := by decide +kernel
theorem dX10_feet_211 : decode cX10_feet 211 = .ok (.aload_n 0, 1) := by decide +kernel
theorem dX10_feet_212 : decode cX10_feet 212 = .ok (.getfield 45, 3) := by decide +kernel
theorem dX10_feet_215 : decode cX10_feet 215 = .ok (.iload_n 1, 1) := by decide +kernel
theorem dX10_feet_216 : decode cX10_feet 216 = .ok (.aaload, 1) := by decide +kernel
theorem dX10_feet_217 : decode cX10_feet 217 = .ok (.iconst 0, 1) := by decide +kernel
theorem dX10_feet_218 : decode cX10_feet 218 = .ok (.dup2, 1) := by decide +kernel
theorem dX10_feet_219 : decode cX10_feet 219 = .ok (.iaload, 1) := by decide +kernel
theorem dX10_feet_220 : decode cX10_feet 220 = .ok (.iconst 1, 1) := by decide +kernel
theorem dX10_feet_221 : decode cX10_feet 221 = .ok (.iadd, 1) := by decide +kernel
theorem dX10_feet_222 : decode cX10_feet 222 = .ok (.iastore, 1) := by decide +kernel
theorem dX10_feet_223 : decode cX10_feet 223 = .ok (.iinc 3 1, 3) := by decide +kernel
theorem dX10_feet_226 : decode cX10_feet 226 = .ok (.iinc 4 4, 3) := by decide +kernel
theorem dX10_feet_229 : decode cX10_feet 229 = .ok (.goto (-164), 3) := by decide +kernel
theorem dX10_feet_232 : decode cX10_feet 232 = .ok (.iload_n 3, 1) := by decide +kernel
theorem dX10_feet_233 : decode cX10_feet 233 = .ok (.ireturn, 1) := by decide +kernel
def lp_X10_feet_91 (j149 : Option (Int32 × gz_M)) (fu : Nat) (M13 : gz_M) (a0 : Nat) (a2 : Int32) (x11 : Int32) (x12 : Int32) : Nat → Int32 → Option (Int32 × gz_M)
  | 0, _ => none
  | n91 + 1, x17 =>
    if (4 : Int32) ≤ x17 then
      j149
    else
      (gz_gR M13 10 3 a0).bind fun x18 =>
      (gz_aR M13 x18 a2).bind fun x19 =>
      (gz_aL M13 x19 (x12 + x17)).bind fun x20 =>
      gz_jn (fun (x21 : Int64) =>
      gz_jn (fun (x22 : Int64) =>
        (f_X10_in fu M13 x20 x21 x22).bind fun x23 =>
          if x23 = 0 then
            some (x11, M13)
          else
            lp_X10_feet_91 j149 fu M13 a0 a2 x11 x12 n91 (x17 + (1 : Int32))) fun j135 =>
        if x17 = (3 : Int32) then
          j135 (99 : Int64)
        else
          j135 (30 : Int64)) fun j120 =>
      if x17 = (3 : Int32) then
        j120 (1 : Int64)
      else
        j120 (0 : Int64)
def lp_X10_feet_152 (j194 : gz_M → Option (Int32 × gz_M)) (fu : Nat) (a0 : Nat) (a1 : Int32) (a2 : Int32) (x12 : Int32) : Nat → Int32 → gz_M → Option (Int32 × gz_M)
  | 0, _, _ => none
  | n152 + 1, x24, M25 =>
    if (4 : Int32) ≤ x24 then
      j194 M25
    else
      (gz_gR M25 10 13 a0).bind fun x26 =>
      (gz_aR M25 x26 a1).bind fun x27 =>
      (f_X10_feetOf fu M25 a0 a1).bind fun x28 =>
      (gz_gR M25 10 3 a0).bind fun x29 =>
      (gz_aR M25 x29 a2).bind fun x30 =>
      (gz_aL M25 x30 (x12 + x24)).bind fun x31 =>
      (gz_tI M25 x27 (((5 : Int32) * x28) + x24) (x31).toInt32).bind fun M32 =>
      lp_X10_feet_152 j194 fu a0 a1 a2 x12 n152 (x24 + (1 : Int32)) M32
def lp_X10_feet_65 (j232 : Int32 → gz_M → Option (Int32 × gz_M)) (fu : Nat) (a0 : Nat) (a1 : Int32) (a2 : Int32) : Nat → Int32 → Int32 → gz_M → Option (Int32 × gz_M)
  | 0, _, _, _ => none
  | n65 + 1, x11, x12, M13 =>
    (gz_gR M13 10 2 a0).bind fun x14 =>
    (gz_aI M13 x14 a2).bind fun x15 =>
    if x15 < (x12 + (4 : Int32)) then
      j232 x11 M13
    else
      (f_X10_feetOf fu M13 a0 a1).bind fun x16 =>
      if (12 : Int32) ≤ x16 then
        j232 x11 M13
      else
        lp_X10_feet_91 (lp_X10_feet_152 (fun (M33 : gz_M) => (gz_gR M33 10 13 a0).bind fun x34 =>
            (gz_aR M33 x34 a1).bind fun x35 =>
            (f_X10_feetOf fu M33 a0 a1).bind fun x36 =>
            (gz_tI M33 x35 (((5 : Int32) * x36) + (4 : Int32)) (0 : Int32)).bind fun M37 =>
            (gz_gR M37 10 12 a0).bind fun x38 =>
            (gz_aR M37 x38 a1).bind fun x39 =>
            (gz_aI M37 x39 (0 : Int32)).bind fun x40 =>
            (gz_tI M37 x39 (0 : Int32) (x40 + (1 : Int32))).bind fun M41 =>
            lp_X10_feet_65 j232 fu a0 a1 a2 n65 (x11 + (1 : Int32)) (x12 + (4 : Int32)) M41) fu a0 a1 a2 x12 fu (0 : Int32) M13) fu M13 a0 a2 x11 x12 fu (0 : Int32)
def f_X10_feet (fu : Nat) (M : gz_M) (a0 : Nat) (a1 : Int32) (a2 : Int32) : Option (Int32 × gz_M) :=
  gz_gd M 10 a0 <|
  (f_X10_isValley fu M a0 a1).bind fun x1 =>
  gz_jn (gz_b2 (f_X10_refuse fu M a0 (-2 : Int32)) fun x44 M45 =>
    some (x44, M45)) fun j20 =>
  if x1 = 0 then
    j20
  else
    (f_X10_in fu M (a2).toInt64 (0 : Int64) (7 : Int64)).bind fun x2 =>
    if x2 = 0 then
      j20
    else
      (gz_gR M 10 0 a0).bind fun x3 =>
      (gz_aI M x3 a2).bind fun x4 =>
      if x4 = (2 : Int32) then
        gz_b2 (f_X10_refuse fu M a0 (-3 : Int32)) fun x5 M6 =>
        some (x5, M6)
      else
        (gz_gR M 10 0 a0).bind fun x7 =>
        (gz_aI M x7 a2).bind fun x8 =>
        if x8 = 0 then
          gz_b2 (f_X10_refuse fu M a0 (-4 : Int32)) fun x9 M10 =>
          some (x9, M10)
        else
          lp_X10_feet_65 (fun (x42 : Int32) (M43 : gz_M) => some (x42, M43)) fu a0 a1 a2 fu (0 : Int32) (0 : Int32) M
set_option maxHeartbeats 4000000 in
theorem w_X10_feet_91 {C : gz_C} {y : Int32 × gz_M} {fu : Nat} {M13 : gz_M} {a0 : Nat} {a2 : Int32} {x11 : Int32} {x12 : Int32} {a1 : Int32} {j149 : Option (Int32 × gz_M)} (hC : gz_ok C cX10_feet RX10 6) (hX : gz_cx C 2 46 0 0 (some .int) (some (.int y.1)) y.2 "feet") (hj149 : j149 = some y → gz_go C 0 0 M13 [(0, .ref a0), (1, .int a1), (2, .int a2), (3, .int x11), (4, .int x12)] 149 []) : ∀ (n : Nat) (x17 : Int32), lp_X10_feet_91 j149 fu M13 a0 a2 x11 x12 n x17 = some y → gz_go C 0 0 M13 [(0, .ref a0), (1, .int a1), (2, .int a2), (3, .int x11), (4, .int x12), (5, .int x17)] 91 [] := by
  intro n
  induction n with
  | zero => intro x17 hF; exact nomatch (show (none : Option (Int32 × gz_M)) = some y from hF)
  | succ n91 ih91 =>
    intro x17 hF
    rw [lp_X10_feet_91.eq_2] at hF
    refine gz_iload 91 hC 5 dX10_feet_91 rfl ?_
    refine gz_iconst 93 hC (4 : Int32) dX10_feet_93 gz_k4 ?_
    refine gz_icmp_ge 94 149 hC dX10_feet_94 (by decide) hF (fun hF => ?_) (fun hF => ?_)
    · skip
      refine gz_sub [0, 1, 2, 3, 4] [(0, .ref a0), (1, .int a1), (2, .int a2), (3, .int x11), (4, .int x12)] rfl ?_
      exact hj149 hF
    · skip
      refine gz_aload_n 97 hC 0 dX10_feet_97 rfl rfl ?_
      refine gz_getR 98 hC fl_X10_21 fk_10_3 dX10_feet_98 hF (fun x18 hF => ?_)
      refine gz_iload_n 101 hC 2 dX10_feet_101 rfl rfl ?_
      refine gz_aald 102 hC dX10_feet_102 hF (fun x19 hF => ?_)
      refine gz_iload 103 hC 4 dX10_feet_103 rfl ?_
      refine gz_iload 105 hC 5 dX10_feet_105 rfl ?_
      refine gz_iadd 107 hC dX10_feet_107 ?_
      refine gz_lald 108 hC dX10_feet_108 hF (fun x20 hF => ?_)
      refine gz_iload 109 hC 5 dX10_feet_109 rfl ?_
      refine gz_iconst 111 hC (3 : Int32) dX10_feet_111 gz_k3 ?_
      refine gz_join (fun (j : Int64 → Option (Int32 × gz_M)) => ∀ (x21 : Int64), j x21 = some y → gz_go C 0 0 M13 [(0, .ref a0), (1, .int a1), (2, .int a2), (3, .int x11), (4, .int x12), (5, .int x17)] 120 [.long x21, .long x20]) hF (fun x21 hF => ?_) (fun j120 hj120 hF => ?_)
      · skip
        refine gz_iload 120 hC 5 dX10_feet_120 rfl ?_
        refine gz_iconst 122 hC (3 : Int32) dX10_feet_122 gz_k3 ?_
        refine gz_join (fun (j : Int64 → Option (Int32 × gz_M)) => ∀ (x22 : Int64), j x22 = some y → gz_go C 0 0 M13 [(0, .ref a0), (1, .int a1), (2, .int a2), (3, .int x11), (4, .int x12), (5, .int x17)] 135 [.long x22, .long x21, .long x20]) hF (fun x22 hF => ?_) (fun j135 hj135 hF => ?_)
        · skip
          refine gz_csP (st := []) 135 hC hX [.long x20, .long x21, .long x22] Value.int yl_X10_in yv_X10_in q_1170 ⟨Nat.le_of_ble_eq_true rfl, Nat.le_of_ble_eq_true rfl⟩ (fun r h => ct_X10_in _ _ fu M13 x20 x21 x22 r h) rfl rfl (Nat.le_of_ble_eq_true rfl) dX10_feet_135 gz_00 hF (fun x23 hF => ?_)
          refine gz_if_ne 138 143 hC dX10_feet_138 (by decide) hF (fun hF => ?_) (fun hF => ?_)
          · skip
            refine gz_iinc 143 hC (x17 + (1 : Int32)) 5 [(5, .int (x17 + (1 : Int32))), (0, .ref a0), (1, .int a1), (2, .int a2), (3, .int x11), (4, .int x12)] dX10_feet_143 rfl rfl (by decide) rfl ?_
            refine gz_goto 146 91 hC dX10_feet_146 (by decide) ?_
            refine gz_sub [1, 2, 3, 4, 5, 0] [(0, .ref a0), (1, .int a1), (2, .int a2), (3, .int x11), (4, .int x12), (5, .int (x17 + (1 : Int32)))] rfl ?_
            exact ih91 _ hF
          · skip
            refine gz_iload_n 141 hC 3 dX10_feet_141 rfl rfl ?_
            exact gz_iretM 142 hC hX dX10_feet_142 hF
        refine gz_icmp_ne 123 132 hC dX10_feet_123 (by decide) hF (fun hF => ?_) (fun hF => ?_)
        · skip
          refine gz_ldc2 132 hC dX10_feet_132 q_1204 ?_
          exact hj135 _ hF
        · skip
          refine gz_ldc2 126 hC dX10_feet_126 q_1342 ?_
          refine gz_goto 129 135 hC dX10_feet_129 (by decide) ?_
          exact hj135 _ hF
      refine gz_icmp_ne 112 119 hC dX10_feet_112 (by decide) hF (fun hF => ?_) (fun hF => ?_)
      · skip
        refine gz_lconst 119 hC (0 : Int64) dX10_feet_119 gz_l0 ?_
        exact hj120 _ hF
      · skip
        refine gz_lconst 115 hC (1 : Int64) dX10_feet_115 gz_l1 ?_
        refine gz_goto 116 120 hC dX10_feet_116 (by decide) ?_
        exact hj120 _ hF
set_option maxHeartbeats 4000000 in
theorem w_X10_feet_152 {C : gz_C} {y : Int32 × gz_M} {fu : Nat} {a0 : Nat} {a1 : Int32} {a2 : Int32} {x12 : Int32} {x11 : Int32} {j194 : gz_M → Option (Int32 × gz_M)} (hC : gz_ok C cX10_feet RX10 6) (hX : gz_cx C 2 46 0 0 (some .int) (some (.int y.1)) y.2 "feet") (hj194 : ∀ (M33 : gz_M), j194 M33 = some y → gz_go C 0 0 M33 [(0, .ref a0), (1, .int a1), (2, .int a2), (3, .int x11), (4, .int x12)] 194 []) : ∀ (n : Nat) (x24 : Int32) (M25 : gz_M), lp_X10_feet_152 j194 fu a0 a1 a2 x12 n x24 M25 = some y → gz_go C 0 0 M25 [(0, .ref a0), (1, .int a1), (2, .int a2), (3, .int x11), (4, .int x12), (5, .int x24)] 152 [] := by
  intro n
  induction n with
  | zero => intro x24 M25 hF; exact nomatch (show (none : Option (Int32 × gz_M)) = some y from hF)
  | succ n152 ih152 =>
    intro x24 M25 hF
    rw [lp_X10_feet_152.eq_2] at hF
    refine gz_iload 152 hC 5 dX10_feet_152 rfl ?_
    refine gz_iconst 154 hC (4 : Int32) dX10_feet_154 gz_k4 ?_
    refine gz_icmp_ge 155 194 hC dX10_feet_155 (by decide) hF (fun hF => ?_) (fun hF => ?_)
    · skip
      refine gz_sub [0, 1, 2, 3, 4] [(0, .ref a0), (1, .int a1), (2, .int a2), (3, .int x11), (4, .int x12)] rfl ?_
      exact hj194 _ hF
    · skip
      refine gz_aload_n 158 hC 0 dX10_feet_158 rfl rfl ?_
      refine gz_getR 159 hC fl_X10_48 fk_10_13 dX10_feet_159 hF (fun x26 hF => ?_)
      refine gz_iload_n 162 hC 1 dX10_feet_162 rfl rfl ?_
      refine gz_aald 163 hC dX10_feet_163 hF (fun x27 hF => ?_)
      refine gz_iconst 164 hC (5 : Int32) dX10_feet_164 gz_k5 ?_
      refine gz_aload_n 165 hC 0 dX10_feet_165 rfl rfl ?_
      refine gz_iload_n 166 hC 1 dX10_feet_166 rfl rfl ?_
      refine gz_cvP (st := [.int (5 : Int32), .ref x27]) 167 hC hX [.int a1] Value.int yl_X10_feetOf yv_X10_feetOf q_1221 ⟨Nat.le_of_ble_eq_true rfl, Nat.le_of_ble_eq_true rfl⟩ ⟨_, rfl⟩ (fun r h => ct_X10_feetOf _ _ fu M25 a0 a1 r h) rfl rfl (Nat.le_of_ble_eq_true rfl) dX10_feet_167 gz_00 hF (fun x28 hF => ?_)
      refine gz_imul 170 hC dX10_feet_170 ?_
      refine gz_iload 171 hC 5 dX10_feet_171 rfl ?_
      refine gz_iadd 173 hC dX10_feet_173 ?_
      refine gz_aload_n 174 hC 0 dX10_feet_174 rfl rfl ?_
      refine gz_getR 175 hC fl_X10_21 fk_10_3 dX10_feet_175 hF (fun x29 hF => ?_)
      refine gz_iload_n 178 hC 2 dX10_feet_178 rfl rfl ?_
      refine gz_aald 179 hC dX10_feet_179 hF (fun x30 hF => ?_)
      refine gz_iload 180 hC 4 dX10_feet_180 rfl ?_
      refine gz_iload 182 hC 5 dX10_feet_182 rfl ?_
      refine gz_iadd 184 hC dX10_feet_184 ?_
      refine gz_lald 185 hC dX10_feet_185 hF (fun x31 hF => ?_)
      refine gz_l2i 186 hC dX10_feet_186 ?_
      refine gz_iast 187 hC dX10_feet_187 hF (fun M32 hF => ?_)
      refine gz_iinc 188 hC (x24 + (1 : Int32)) 5 [(5, .int (x24 + (1 : Int32))), (0, .ref a0), (1, .int a1), (2, .int a2), (3, .int x11), (4, .int x12)] dX10_feet_188 rfl rfl (by decide) rfl ?_
      refine gz_goto 191 152 hC dX10_feet_191 (by decide) ?_
      refine gz_sub [1, 2, 3, 4, 5, 0] [(0, .ref a0), (1, .int a1), (2, .int a2), (3, .int x11), (4, .int x12), (5, .int (x24 + (1 : Int32)))] rfl ?_
      exact ih152 _ _ hF
set_option maxHeartbeats 4000000 in
theorem w_X10_feet_65 {C : gz_C} {y : Int32 × gz_M} {fu : Nat} {a0 : Nat} {a1 : Int32} {a2 : Int32} {j232 : Int32 → gz_M → Option (Int32 × gz_M)} (hC : gz_ok C cX10_feet RX10 6) (hX : gz_cx C 2 46 0 0 (some .int) (some (.int y.1)) y.2 "feet") (hj232 : ∀ (x42 : Int32) (M43 : gz_M), j232 x42 M43 = some y → gz_go C 0 0 M43 [(3, .int x42)] 232 []) : ∀ (n : Nat) (x11 : Int32) (x12 : Int32) (M13 : gz_M), lp_X10_feet_65 j232 fu a0 a1 a2 n x11 x12 M13 = some y → gz_go C 0 0 M13 [(0, .ref a0), (1, .int a1), (2, .int a2), (3, .int x11), (4, .int x12)] 65 [] := by
  intro n
  induction n with
  | zero => intro x11 x12 M13 hF; exact nomatch (show (none : Option (Int32 × gz_M)) = some y from hF)
  | succ n65 ih65 =>
    intro x11 x12 M13 hF
    rw [lp_X10_feet_65.eq_2] at hF
    refine gz_iload 65 hC 4 dX10_feet_65 rfl ?_
    refine gz_iconst 67 hC (4 : Int32) dX10_feet_67 gz_k4 ?_
    refine gz_iadd 68 hC dX10_feet_68 ?_
    refine gz_aload_n 69 hC 0 dX10_feet_69 rfl rfl ?_
    refine gz_getR 70 hC fl_X10_16 fk_10_2 dX10_feet_70 hF (fun x14 hF => ?_)
    refine gz_iload_n 73 hC 2 dX10_feet_73 rfl rfl ?_
    refine gz_iald 74 hC dX10_feet_74 hF (fun x15 hF => ?_)
    refine gz_icmp_gt 75 232 hC dX10_feet_75 (by decide) hF (fun hF => ?_) (fun hF => ?_)
    · skip
      refine gz_sub [3] [(3, .int x11)] rfl ?_
      exact hj232 _ _ hF
    · skip
      refine gz_aload_n 78 hC 0 dX10_feet_78 rfl rfl ?_
      refine gz_iload_n 79 hC 1 dX10_feet_79 rfl rfl ?_
      refine gz_cvP (st := []) 80 hC hX [.int a1] Value.int yl_X10_feetOf yv_X10_feetOf q_1221 ⟨Nat.le_of_ble_eq_true rfl, Nat.le_of_ble_eq_true rfl⟩ ⟨_, rfl⟩ (fun r h => ct_X10_feetOf _ _ fu M13 a0 a1 r h) rfl rfl (Nat.le_of_ble_eq_true rfl) dX10_feet_80 gz_00 hF (fun x16 hF => ?_)
      refine gz_bipush 83 hC (12 : Int32) dX10_feet_83 gz_b12 ?_
      refine gz_icmp_ge 85 232 hC dX10_feet_85 (by decide) hF (fun hF => ?_) (fun hF => ?_)
      · skip
        refine gz_sub [3] [(3, .int x11)] rfl ?_
        exact hj232 _ _ hF
      · skip
        refine gz_iconst 88 hC (0 : Int32) dX10_feet_88 gz_k0 ?_
        refine gz_istore 89 hC [(5, .int (0 : Int32)), (0, .ref a0), (1, .int a1), (2, .int a2), (3, .int x11), (4, .int x12)] dX10_feet_89 (by decide) rfl ?_
        refine gz_sub [1, 2, 3, 4, 5, 0] [(0, .ref a0), (1, .int a1), (2, .int a2), (3, .int x11), (4, .int x12), (5, .int (0 : Int32))] rfl ?_
        refine w_X10_feet_91 hC hX ?_ _ _ hF
        intro hF
        refine gz_iconst 149 hC (0 : Int32) dX10_feet_149 gz_k0 ?_
        refine gz_istore 150 hC [(5, .int (0 : Int32)), (0, .ref a0), (1, .int a1), (2, .int a2), (3, .int x11), (4, .int x12)] dX10_feet_150 (by decide) rfl ?_
        refine gz_sub [1, 2, 3, 4, 5, 0] [(0, .ref a0), (1, .int a1), (2, .int a2), (3, .int x11), (4, .int x12), (5, .int (0 : Int32))] rfl ?_
        refine w_X10_feet_152 hC hX ?_ _ _ _ hF
        intro M33 hF
        refine gz_aload_n 194 hC 0 dX10_feet_194 rfl rfl ?_
        refine gz_getR 195 hC fl_X10_48 fk_10_13 dX10_feet_195 hF (fun x34 hF => ?_)
        refine gz_iload_n 198 hC 1 dX10_feet_198 rfl rfl ?_
        refine gz_aald 199 hC dX10_feet_199 hF (fun x35 hF => ?_)
        refine gz_iconst 200 hC (5 : Int32) dX10_feet_200 gz_k5 ?_
        refine gz_aload_n 201 hC 0 dX10_feet_201 rfl rfl ?_
        refine gz_iload_n 202 hC 1 dX10_feet_202 rfl rfl ?_
        refine gz_cvP (st := [.int (5 : Int32), .ref x35]) 203 hC hX [.int a1] Value.int yl_X10_feetOf yv_X10_feetOf q_1221 ⟨Nat.le_of_ble_eq_true rfl, Nat.le_of_ble_eq_true rfl⟩ ⟨_, rfl⟩ (fun r h => ct_X10_feetOf _ _ fu M33 a0 a1 r h) rfl rfl (Nat.le_of_ble_eq_true rfl) dX10_feet_203 gz_00 hF (fun x36 hF => ?_)
        refine gz_imul 206 hC dX10_feet_206 ?_
        refine gz_iconst 207 hC (4 : Int32) dX10_feet_207 gz_k4 ?_
        refine gz_iadd 208 hC dX10_feet_208 ?_
        refine gz_iconst 209 hC (0 : Int32) dX10_feet_209 gz_k0 ?_
        refine gz_iast 210 hC dX10_feet_210 hF (fun M37 hF => ?_)
        refine gz_aload_n 211 hC 0 dX10_feet_211 rfl rfl ?_
        refine gz_getR 212 hC fl_X10_45 fk_10_12 dX10_feet_212 hF (fun x38 hF => ?_)
        refine gz_iload_n 215 hC 1 dX10_feet_215 rfl rfl ?_
        refine gz_aald 216 hC dX10_feet_216 hF (fun x39 hF => ?_)
        refine gz_iconst 217 hC (0 : Int32) dX10_feet_217 gz_k0 ?_
        refine gz_dup2 218 hC dX10_feet_218 rfl rfl ?_
        refine gz_iald 219 hC dX10_feet_219 hF (fun x40 hF => ?_)
        refine gz_iconst 220 hC (1 : Int32) dX10_feet_220 gz_k1 ?_
        refine gz_iadd 221 hC dX10_feet_221 ?_
        refine gz_iast 222 hC dX10_feet_222 hF (fun M41 hF => ?_)
        refine gz_iinc 223 hC (x11 + (1 : Int32)) 3 [(3, .int (x11 + (1 : Int32))), (0, .ref a0), (1, .int a1), (2, .int a2), (4, .int x12)] dX10_feet_223 rfl rfl (by decide) rfl ?_
        refine gz_iinc 226 hC (x12 + (4 : Int32)) 4 [(4, .int (x12 + (4 : Int32))), (3, .int (x11 + (1 : Int32))), (0, .ref a0), (1, .int a1), (2, .int a2)] dX10_feet_226 rfl rfl (by decide) rfl ?_
        refine gz_goto 229 65 hC dX10_feet_229 (by decide) ?_
        refine gz_sub [2, 3, 4, 1, 0] [(0, .ref a0), (1, .int a1), (2, .int a2), (3, .int (x11 + (1 : Int32))), (4, .int (x12 + (4 : Int32)))] rfl ?_
        exact ih65 _ _ _ hF
set_option maxHeartbeats 4000000 in
theorem ct_X10_feet (l : Launch) (G : gz_G) (fu : Nat) (M : gz_M) (a0 : Nat) (a1 : Int32) (a2 : Int32) (y : Int32 × gz_M) (hF : f_X10_feet fu M a0 a1 a2 = some y) : gz_ct l yX10_feet cX10_feet 6 (some .int) 2 46 0 0 G [.ref a0, .int a1, .int a2] M (some (.int y.1)) y.2 := by
  refine gz_ct.of (by decide) (Nat.le_of_ble_eq_true rfl) (fun C hC hX => ?_)
  unfold f_X10_feet at hF
  obtain ⟨-, hF⟩ := gz_gd_some hF
  show gz_go C 0 0 M [(0, .ref a0), (1, .int a1), (2, .int a2)] 0 []
  refine gz_aload_n 0 hC 0 dX10_feet_0 rfl rfl ?_
  refine gz_iload_n 1 hC 1 dX10_feet_1 rfl rfl ?_
  refine gz_cvP (st := []) 2 hC hX [.int a1] Value.int yl_X10_isValley yv_X10_isValley q_1217 ⟨Nat.le_of_ble_eq_true rfl, Nat.le_of_ble_eq_true rfl⟩ ⟨_, rfl⟩ (fun r h => ct_X10_isValley _ _ fu M a0 a1 r h) rfl rfl (Nat.le_of_ble_eq_true rfl) dX10_feet_2 gz_00 hF (fun x1 hF => ?_)
  refine gz_join (fun (j : Option (Int32 × gz_M)) => j = some y → gz_go C 0 0 M [(0, .ref a0)] 20 []) hF (fun hF => ?_) (fun j20 hj20 hF => ?_)
  · skip
    refine gz_aload_n 20 hC 0 dX10_feet_20 rfl rfl ?_
    refine gz_bipush 21 hC (-2 : Int32) dX10_feet_21 gz_bm2 ?_
    refine gz_cvM (st := []) 23 hC hX [.int (-2 : Int32)] Value.int yl_X10_refuse yv_X10_refuse q_1175 ⟨Nat.le_of_ble_eq_true rfl, Nat.le_of_ble_eq_true rfl⟩ ⟨_, rfl⟩ (fun r h => ct_X10_refuse _ _ fu M a0 (-2 : Int32) r h) rfl rfl (Nat.le_of_ble_eq_true rfl) dX10_feet_23 gz_00 hF (fun x44 M45 hF => ?_)
    exact gz_iretM 26 hC hX dX10_feet_26 hF
  refine gz_if_eq 5 20 hC dX10_feet_5 (by decide) hF (fun hF => ?_) (fun hF => ?_)
  · skip
    refine gz_sub [0] [(0, .ref a0)] rfl ?_
    exact hj20 hF
  · skip
    refine gz_iload_n 8 hC 2 dX10_feet_8 rfl rfl ?_
    refine gz_i2l 9 hC dX10_feet_9 ?_
    refine gz_lconst 10 hC (0 : Int64) dX10_feet_10 gz_l0 ?_
    refine gz_ldc2 11 hC dX10_feet_11 q_1169 ?_
    refine gz_csP (st := []) 14 hC hX [.long (a2).toInt64, .long (0 : Int64), .long (7 : Int64)] Value.int yl_X10_in yv_X10_in q_1170 ⟨Nat.le_of_ble_eq_true rfl, Nat.le_of_ble_eq_true rfl⟩ (fun r h => ct_X10_in _ _ fu M (a2).toInt64 (0 : Int64) (7 : Int64) r h) rfl rfl (Nat.le_of_ble_eq_true rfl) dX10_feet_14 gz_00 hF (fun x2 hF => ?_)
    refine gz_if_ne 17 27 hC dX10_feet_17 (by decide) hF (fun hF => ?_) (fun hF => ?_)
    · skip
      refine gz_aload_n 27 hC 0 dX10_feet_27 rfl rfl ?_
      refine gz_getR 28 hC fl_X10_7 fk_10_0 dX10_feet_28 hF (fun x3 hF => ?_)
      refine gz_iload_n 31 hC 2 dX10_feet_31 rfl rfl ?_
      refine gz_iald 32 hC dX10_feet_32 hF (fun x4 hF => ?_)
      refine gz_iconst 33 hC (2 : Int32) dX10_feet_33 gz_k2 ?_
      refine gz_icmp_ne 34 44 hC dX10_feet_34 (by decide) hF (fun hF => ?_) (fun hF => ?_)
      · skip
        refine gz_aload_n 44 hC 0 dX10_feet_44 rfl rfl ?_
        refine gz_getR 45 hC fl_X10_7 fk_10_0 dX10_feet_45 hF (fun x7 hF => ?_)
        refine gz_iload_n 48 hC 2 dX10_feet_48 rfl rfl ?_
        refine gz_iald 49 hC dX10_feet_49 hF (fun x8 hF => ?_)
        refine gz_if_ne 50 60 hC dX10_feet_50 (by decide) hF (fun hF => ?_) (fun hF => ?_)
        · skip
          refine gz_iconst 60 hC (0 : Int32) dX10_feet_60 gz_k0 ?_
          refine gz_istore_n 61 hC [(3, .int (0 : Int32)), (0, .ref a0), (1, .int a1), (2, .int a2)] dX10_feet_61 rfl (by decide) rfl ?_
          refine gz_iconst 62 hC (0 : Int32) dX10_feet_62 gz_k0 ?_
          refine gz_istore 63 hC [(4, .int (0 : Int32)), (3, .int (0 : Int32)), (0, .ref a0), (1, .int a1), (2, .int a2)] dX10_feet_63 (by decide) rfl ?_
          refine gz_sub [2, 3, 4, 1, 0] [(0, .ref a0), (1, .int a1), (2, .int a2), (3, .int (0 : Int32)), (4, .int (0 : Int32))] rfl ?_
          refine w_X10_feet_65 hC hX ?_ _ _ _ _ hF
          intro x42 M43 hF
          refine gz_iload_n 232 hC 0 dX10_feet_232 rfl rfl ?_
          exact gz_iretM 233 hC hX dX10_feet_233 hF
        · skip
          refine gz_aload_n 53 hC 0 dX10_feet_53 rfl rfl ?_
          refine gz_bipush 54 hC (-4 : Int32) dX10_feet_54 gz_bm4 ?_
          refine gz_cvM (st := []) 56 hC hX [.int (-4 : Int32)] Value.int yl_X10_refuse yv_X10_refuse q_1175 ⟨Nat.le_of_ble_eq_true rfl, Nat.le_of_ble_eq_true rfl⟩ ⟨_, rfl⟩ (fun r h => ct_X10_refuse _ _ fu M a0 (-4 : Int32) r h) rfl rfl (Nat.le_of_ble_eq_true rfl) dX10_feet_56 gz_00 hF (fun x9 M10 hF => ?_)
          exact gz_iretM 59 hC hX dX10_feet_59 hF
      · skip
        refine gz_aload_n 37 hC 0 dX10_feet_37 rfl rfl ?_
        refine gz_bipush 38 hC (-3 : Int32) dX10_feet_38 gz_bm3 ?_
        refine gz_cvM (st := []) 40 hC hX [.int (-3 : Int32)] Value.int yl_X10_refuse yv_X10_refuse q_1175 ⟨Nat.le_of_ble_eq_true rfl, Nat.le_of_ble_eq_true rfl⟩ ⟨_, rfl⟩ (fun r h => ct_X10_refuse _ _ fu M a0 (-3 : Int32) r h) rfl rfl (Nat.le_of_ble_eq_true rfl) dX10_feet_40 gz_00 hF (fun x5 M6 hF => ?_)
        exact gz_iretM 43 hC hX dX10_feet_43 hF
    · skip
      refine gz_sub [0] [(0, .ref a0)] rfl ?_
      exact hj20 hF

theorem dX10_alter_0 : decode cX10_alter 0 = .ok (.aload_n 0, 1) := by decide +kernel
theorem dX10_alter_1 : decode cX10_alter 1 = .ok (.iload_n 1, 1) := by decide +kernel
theorem dX10_alter_2 : decode cX10_alter 2 = .ok (.iload_n 2, 1) := by decide +kernel
theorem dX10_alter_3 : decode cX10_alter 3 = .ok (.invokevirtual 125, 3) := by decide +kernel
theorem dX10_alter_6 : decode cX10_alter 6 = .ok (.ifCond .eq 44, 3) := by decide +kernel
theorem dX10_alter_9 : decode cX10_alter 9 = .ok (.iload_n 3, 1) := by decide +kernel
theorem dX10_alter_10 : decode cX10_alter 10 = .ok (.i2l, 1) := by decide +kernel
theorem dX10_alter_11 : decode cX10_alter 11 = .ok (.lconst 0, 1) := by decide +kernel
theorem dX10_alter_12 : decode cX10_alter 12 = .ok (.lconst 1, 1) := by decide +kernel
theorem dX10_alter_13 : decode cX10_alter 13 = .ok (.invokestatic 73, 3) := by decide +kernel
theorem dX10_alter_16 : decode cX10_alter 16 = .ok (.ifCond .eq 34, 3) := by decide +kernel
theorem dX10_alter_19 : decode cX10_alter 19 = .ok (.iload 4, 2) := by decide +kernel
theorem dX10_alter_21 : decode cX10_alter 21 = .ok (.i2l, 1) := by decide +kernel
theorem dX10_alter_22 : decode cX10_alter 22 = .ok (.iload_n 3, 1) := by decide +kernel
theorem dX10_alter_23 : decode cX10_alter 23 = .ok (.ifCond .ne 7, 3) := by decide +kernel
theorem dX10_alter_26 : decode cX10_alter 26 = .ok (.lconst 1, 1) := by decide +kernel
theorem dX10_alter_27 : decode cX10_alter 27 = .ok (.goto 4, 3) := by decide +kernel
theorem dX10_alter_30 : decode cX10_alter 30 = .ok (.lconst 0, 1) := by decide +kernel
theorem dX10_alter_31 : decode cX10_alter 31 = .ok (.iload_n 3, 1) := by decide +kernel
theorem dX10_alter_32 : decode cX10_alter 32 = .ok (.ifCond .ne 9, 3) := by decide +kernel
theorem dX10_alter_35 : decode cX10_alter 35 = .ok (.ldc2_w 225, 3) := by decide +kernel
theorem dX10_alter_38 : decode cX10_alter 38 = .ok (.goto 6, 3) := by decide +kernel
theorem dX10_alter_41 : decode cX10_alter 41 = .ok (.ldc2_w 106, 3) := by decide +kernel
theorem dX10_alter_44 : decode cX10_alter 44 = .ok (.invokestatic 73, 3) := by decide +kernel
theorem dX10_alter_47 : decode cX10_alter 47 = .ok (.ifCond .ne 10, 3) := by decide +kernel
theorem dX10_alter_50 : decode cX10_alter 50 = .ok (.aload_n 0, 1) := by decide +kernel
theorem dX10_alter_51 : decode cX10_alter 51 = .ok (.bipush (-2), 2) := by decide +kernel
theorem dX10_alter_53 : decode cX10_alter 53 = .ok (.invokevirtual 97, 3) := by decide +kernel
theorem dX10_alter_56 : decode cX10_alter 56 = .ok (.ireturn, 1) := by decide +kernel
theorem dX10_alter_57 : decode cX10_alter 57 = .ok (.aload_n 0, 1) := by decide +kernel
theorem dX10_alter_58 : decode cX10_alter 58 = .ok (.iload_n 1, 1) := by decide +kernel
theorem dX10_alter_59 : decode cX10_alter 59 = .ok (.iload_n 2, 1) := by decide +kernel
theorem dX10_alter_60 : decode cX10_alter 60 = .ok (.iconst 3, 1) := by decide +kernel
theorem dX10_alter_61 : decode cX10_alter 61 = .ok (.iload_n 3, 1) := by decide +kernel
theorem dX10_alter_62 : decode cX10_alter 62 = .ok (.iadd, 1) := by decide +kernel
theorem dX10_alter_63 : decode cX10_alter 63 = .ok (.invokevirtual 114, 3) := by decide +kernel
theorem dX10_alter_66 : decode cX10_alter 66 = .ok (.istore 5, 2) := by decide +kernel
theorem dX10_alter_68 : decode cX10_alter 68 = .ok (.aload_n 0, 1) := by decide +kernel
theorem dX10_alter_69 : decode cX10_alter 69 = .ok (.getfield 48, 3) := by decide +kernel
theorem dX10_alter_72 : decode cX10_alter 72 = .ok (.iload_n 1, 1) := by decide +kernel
theorem dX10_alter_73 : decode cX10_alter 73 = .ok (.aaload, 1) := by decide +kernel
theorem dX10_alter_74 : decode cX10_alter 74 = .ok (.iconst 5, 1) := by decide +kernel
theorem dX10_alter_75 : decode cX10_alter 75 = .ok (.iload_n 2, 1) := by decide +kernel
theorem dX10_alter_76 : decode cX10_alter 76 = .ok (.imul, 1) := by decide +kernel
theorem dX10_alter_77 : decode cX10_alter 77 = .ok (.iconst 3, 1) := by decide +kernel
theorem dX10_alter_78 : decode cX10_alter 78 = .ok (.iadd, 1) := by decide +kernel
theorem dX10_alter_79 : decode cX10_alter 79 = .ok (.iload_n 3, 1) := by decide +kernel
theorem dX10_alter_80 : decode cX10_alter 80 = .ok (.iadd, 1) := by decide +kernel
theorem dX10_alter_81 : decode cX10_alter 81 = .ok (.iload 4, 2) := by decide +kernel
theorem dX10_alter_83 : decode cX10_alter 83 = .ok (.iastore, 1) := by decide +kernel
theorem dX10_alter_84 : decode cX10_alter 84 = .ok (.iload 5, 2) := by decide +kernel
theorem dX10_alter_86 : decode cX10_alter 86 = .ok (.ireturn, 1) := by decide +kernel

def f_X10_alter (fu : Nat) (M : gz_M) (a0 : Nat) (a1 : Int32) (a2 : Int32) (a3 : Int32) (a4 : Int32) : Option (Int32 × gz_M) :=
  gz_gd M 10 a0 <|
  (f_X10_isFoot fu M a0 a1 a2).bind fun x1 =>
  gz_jn (gz_b2 (f_X10_refuse fu M a0 (-2 : Int32)) fun x10 M11 =>
    some (x10, M11)) fun j50 =>
  if x1 = 0 then
    j50
  else
    (f_X10_in fu M (a3).toInt64 (0 : Int64) (1 : Int64)).bind fun x2 =>
    if x2 = 0 then
      j50
    else
      gz_jn (fun (x3 : Int64) =>
      gz_jn (fun (x4 : Int64) =>
        (f_X10_in fu M (a4).toInt64 x3 x4).bind fun x5 =>
          if x5 = 0 then
            j50
          else
            (f_X10_of fu M a0 a1 a2 ((3 : Int32) + a3)).bind fun x6 =>
            (gz_gR M 10 13 a0).bind fun x7 =>
            (gz_aR M x7 a1).bind fun x8 =>
            (gz_tI M x8 ((((5 : Int32) * a2) + (3 : Int32)) + a3) a4).bind fun M9 =>
            some (x6, M9)) fun j44 =>
        if a3 = 0 then
          j44 (99 : Int64)
        else
          j44 (9 : Int64)) fun j31 =>
      if a3 = 0 then
        j31 (1 : Int64)
      else
        j31 (0 : Int64)

set_option maxHeartbeats 4000000 in
theorem ct_X10_alter (l : Launch) (G : gz_G) (fu : Nat) (M : gz_M) (a0 : Nat) (a1 : Int32) (a2 : Int32) (a3 : Int32) (a4 : Int32) (y : Int32 × gz_M) (hF : f_X10_alter fu M a0 a1 a2 a3 a4 = some y) : gz_ct l yX10_alter cX10_alter 6 (some .int) 3 68 0 0 G [.ref a0, .int a1, .int a2, .int a3, .int a4] M (some (.int y.1)) y.2 := by
  refine gz_ct.of (by decide) (Nat.le_of_ble_eq_true rfl) (fun C hC hX => ?_)
  unfold f_X10_alter at hF
  obtain ⟨-, hF⟩ := gz_gd_some hF
  show gz_go C 0 0 M [(0, .ref a0), (1, .int a1), (2, .int a2), (3, .int a3), (4, .int a4)] 0 []
  refine gz_aload_n 0 hC 0 dX10_alter_0 rfl rfl ?_
  refine gz_iload_n 1 hC 1 dX10_alter_1 rfl rfl ?_
  refine gz_iload_n 2 hC 2 dX10_alter_2 rfl rfl ?_
  refine gz_cvP (st := []) 3 hC hX [.int a1, .int a2] Value.int yl_X10_isFoot yv_X10_isFoot q_1213 ⟨Nat.le_of_ble_eq_true rfl, Nat.le_of_ble_eq_true rfl⟩ ⟨_, rfl⟩ (fun r h => ct_X10_isFoot _ _ fu M a0 a1 a2 r h) rfl rfl (Nat.le_of_ble_eq_true rfl) dX10_alter_3 gz_00 hF (fun x1 hF => ?_)
  refine gz_join (fun (j : Option (Int32 × gz_M)) => j = some y → gz_go C 0 0 M [(0, .ref a0)] 50 []) hF (fun hF => ?_) (fun j50 hj50 hF => ?_)
  · skip
    refine gz_aload_n 50 hC 0 dX10_alter_50 rfl rfl ?_
    refine gz_bipush 51 hC (-2 : Int32) dX10_alter_51 gz_bm2 ?_
    refine gz_cvM (st := []) 53 hC hX [.int (-2 : Int32)] Value.int yl_X10_refuse yv_X10_refuse q_1175 ⟨Nat.le_of_ble_eq_true rfl, Nat.le_of_ble_eq_true rfl⟩ ⟨_, rfl⟩ (fun r h => ct_X10_refuse _ _ fu M a0 (-2 : Int32) r h) rfl rfl (Nat.le_of_ble_eq_true rfl) dX10_alter_53 gz_00 hF (fun x10 M11 hF => ?_)
    exact gz_iretM 56 hC hX dX10_alter_56 hF
  refine gz_if_eq 6 50 hC dX10_alter_6 (by decide) hF (fun hF => ?_) (fun hF => ?_)
  · skip
    refine gz_sub [0] [(0, .ref a0)] rfl ?_
    exact hj50 hF
  · skip
    refine gz_iload_n 9 hC 3 dX10_alter_9 rfl rfl ?_
    refine gz_i2l 10 hC dX10_alter_10 ?_
    refine gz_lconst 11 hC (0 : Int64) dX10_alter_11 gz_l0 ?_
    refine gz_lconst 12 hC (1 : Int64) dX10_alter_12 gz_l1 ?_
    refine gz_csP (st := []) 13 hC hX [.long (a3).toInt64, .long (0 : Int64), .long (1 : Int64)] Value.int yl_X10_in yv_X10_in q_1170 ⟨Nat.le_of_ble_eq_true rfl, Nat.le_of_ble_eq_true rfl⟩ (fun r h => ct_X10_in _ _ fu M (a3).toInt64 (0 : Int64) (1 : Int64) r h) rfl rfl (Nat.le_of_ble_eq_true rfl) dX10_alter_13 gz_00 hF (fun x2 hF => ?_)
    refine gz_if_eq 16 50 hC dX10_alter_16 (by decide) hF (fun hF => ?_) (fun hF => ?_)
    · skip
      refine gz_sub [0] [(0, .ref a0)] rfl ?_
      exact hj50 hF
    · skip
      refine gz_iload 19 hC 4 dX10_alter_19 rfl ?_
      refine gz_i2l 21 hC dX10_alter_21 ?_
      refine gz_iload_n 22 hC 3 dX10_alter_22 rfl rfl ?_
      refine gz_join (fun (j : Int64 → Option (Int32 × gz_M)) => ∀ (x3 : Int64), j x3 = some y → gz_go C 0 0 M [(0, .ref a0), (1, .int a1), (2, .int a2), (3, .int a3), (4, .int a4)] 31 [.long x3, .long (a4).toInt64]) hF (fun x3 hF => ?_) (fun j31 hj31 hF => ?_)
      · skip
        refine gz_iload_n 31 hC 3 dX10_alter_31 rfl rfl ?_
        refine gz_join (fun (j : Int64 → Option (Int32 × gz_M)) => ∀ (x4 : Int64), j x4 = some y → gz_go C 0 0 M [(0, .ref a0), (1, .int a1), (2, .int a2), (3, .int a3), (4, .int a4)] 44 [.long x4, .long x3, .long (a4).toInt64]) hF (fun x4 hF => ?_) (fun j44 hj44 hF => ?_)
        · skip
          refine gz_csP (st := []) 44 hC hX [.long (a4).toInt64, .long x3, .long x4] Value.int yl_X10_in yv_X10_in q_1170 ⟨Nat.le_of_ble_eq_true rfl, Nat.le_of_ble_eq_true rfl⟩ (fun r h => ct_X10_in _ _ fu M (a4).toInt64 x3 x4 r h) rfl rfl (Nat.le_of_ble_eq_true rfl) dX10_alter_44 gz_00 hF (fun x5 hF => ?_)
          refine gz_if_ne 47 57 hC dX10_alter_47 (by decide) hF (fun hF => ?_) (fun hF => ?_)
          · skip
            refine gz_aload_n 57 hC 0 dX10_alter_57 rfl rfl ?_
            refine gz_iload_n 58 hC 1 dX10_alter_58 rfl rfl ?_
            refine gz_iload_n 59 hC 2 dX10_alter_59 rfl rfl ?_
            refine gz_iconst 60 hC (3 : Int32) dX10_alter_60 gz_k3 ?_
            refine gz_iload_n 61 hC 3 dX10_alter_61 rfl rfl ?_
            refine gz_iadd 62 hC dX10_alter_62 ?_
            refine gz_cvP (st := []) 63 hC hX [.int a1, .int a2, .int ((3 : Int32) + a3)] Value.int yl_X10_of yv_X10_of q_1241 ⟨Nat.le_of_ble_eq_true rfl, Nat.le_of_ble_eq_true rfl⟩ ⟨_, rfl⟩ (fun r h => ct_X10_of _ _ fu M a0 a1 a2 ((3 : Int32) + a3) r h) rfl rfl (Nat.le_of_ble_eq_true rfl) dX10_alter_63 gz_00 hF (fun x6 hF => ?_)
            refine gz_istore 66 hC [(5, .int x6), (0, .ref a0), (1, .int a1), (2, .int a2), (3, .int a3), (4, .int a4)] dX10_alter_66 (by decide) rfl ?_
            refine gz_aload_n 68 hC 1 dX10_alter_68 rfl rfl ?_
            refine gz_getR 69 hC fl_X10_48 fk_10_13 dX10_alter_69 hF (fun x7 hF => ?_)
            refine gz_iload_n 72 hC 2 dX10_alter_72 rfl rfl ?_
            refine gz_aald 73 hC dX10_alter_73 hF (fun x8 hF => ?_)
            refine gz_iconst 74 hC (5 : Int32) dX10_alter_74 gz_k5 ?_
            refine gz_iload_n 75 hC 3 dX10_alter_75 rfl rfl ?_
            refine gz_imul 76 hC dX10_alter_76 ?_
            refine gz_iconst 77 hC (3 : Int32) dX10_alter_77 gz_k3 ?_
            refine gz_iadd 78 hC dX10_alter_78 ?_
            refine gz_iload_n 79 hC 4 dX10_alter_79 rfl rfl ?_
            refine gz_iadd 80 hC dX10_alter_80 ?_
            refine gz_iload 81 hC 5 dX10_alter_81 rfl ?_
            refine gz_iast 83 hC dX10_alter_83 hF (fun M9 hF => ?_)
            refine gz_iload 84 hC 0 dX10_alter_84 rfl ?_
            exact gz_iretM 86 hC hX dX10_alter_86 hF
          · skip
            refine gz_sub [0] [(0, .ref a0)] rfl ?_
            exact hj50 hF
        refine gz_if_ne 32 41 hC dX10_alter_32 (by decide) hF (fun hF => ?_) (fun hF => ?_)
        · skip
          refine gz_ldc2 41 hC dX10_alter_41 q_1203 ?_
          exact hj44 _ hF
        · skip
          refine gz_ldc2 35 hC dX10_alter_35 q_1342 ?_
          refine gz_goto 38 44 hC dX10_alter_38 (by decide) ?_
          exact hj44 _ hF
      refine gz_if_ne 23 30 hC dX10_alter_23 (by decide) hF (fun hF => ?_) (fun hF => ?_)
      · skip
        refine gz_lconst 30 hC (0 : Int64) dX10_alter_30 gz_l0 ?_
        exact hj31 _ hF
      · skip
        refine gz_lconst 26 hC (1 : Int64) dX10_alter_26 gz_l1 ?_
        refine gz_goto 27 31 hC dX10_alter_27 (by decide) ?_
        exact hj31 _ hF

theorem dX10_carve_0 : decode cX10_carve 0 = .ok (.aload_n 0, 1) := by decide +kernel
theorem dX10_carve_1 : decode cX10_carve 1 = .ok (.iload_n 1, 1) := by decide +kernel
theorem dX10_carve_2 : decode cX10_carve 2 = .ok (.iload_n 2, 1) := by decide +kernel
theorem dX10_carve_3 : decode cX10_carve 3 = .ok (.invokevirtual 220, 3) := by decide +kernel
theorem dX10_carve_6 : decode cX10_carve 6 = .ok (.ifCond .eq 39, 3) := by decide +kernel
theorem dX10_carve_9 : decode cX10_carve 9 = .ok (.iload_n 3, 1) := by decide +kernel
theorem dX10_carve_10 : decode cX10_carve 10 = .ok (.i2l, 1) := by decide +kernel
theorem dX10_carve_11 : decode cX10_carve 11 = .ok (.lconst 0, 1) := by decide +kernel
theorem dX10_carve_12 : decode cX10_carve 12 = .ok (.ldc2_w 223, 3) := by decide +kernel
theorem dX10_carve_15 : decode cX10_carve 15 = .ok (.invokestatic 73, 3) := by decide +kernel
theorem dX10_carve_18 : decode cX10_carve 18 = .ok (.ifCond .eq 27, 3) := by decide +kernel
theorem dX10_carve_21 : decode cX10_carve 21 = .ok (.iload 4, 2) := by decide +kernel
theorem dX10_carve_23 : decode cX10_carve 23 = .ok (.i2l, 1) := by decide +kernel
theorem dX10_carve_24 : decode cX10_carve 24 = .ok (.lconst 0, 1) := by decide +kernel
theorem dX10_carve_25 : decode cX10_carve 25 = .ok (.iload_n 3, 1) := by decide +kernel
theorem dX10_carve_26 : decode cX10_carve 26 = .ok (.iconst 3, 1) := by decide +kernel
theorem dX10_carve_27 : decode cX10_carve 27 = .ok (.if_icmp .ne 9, 3) := by decide +kernel
theorem dX10_carve_30 : decode cX10_carve 30 = .ok (.ldc2_w 225, 3) := by decide +kernel
theorem dX10_carve_33 : decode cX10_carve 33 = .ok (.goto 6, 3) := by decide +kernel
theorem dX10_carve_36 : decode cX10_carve 36 = .ok (.ldc2_w 95, 3) := by decide +kernel
theorem dX10_carve_39 : decode cX10_carve 39 = .ok (.invokestatic 73, 3) := by decide +kernel
theorem dX10_carve_42 : decode cX10_carve 42 = .ok (.ifCond .ne 10, 3) := by decide +kernel
theorem dX10_carve_45 : decode cX10_carve 45 = .ok (.aload_n 0, 1) := by decide +kernel
theorem dX10_carve_46 : decode cX10_carve 46 = .ok (.bipush (-2), 2) := by decide +kernel
theorem dX10_carve_48 : decode cX10_carve 48 = .ok (.invokevirtual 97, 3) := by decide +kernel
theorem dX10_carve_51 : decode cX10_carve 51 = .ok (.ireturn, 1) := by decide +kernel
theorem dX10_carve_52 : decode cX10_carve 52 = .ok (.aload_n 0, 1) := by decide +kernel
theorem dX10_carve_53 : decode cX10_carve 53 = .ok (.iload_n 1, 1) := by decide +kernel
theorem dX10_carve_54 : decode cX10_carve 54 = .ok (.iload_n 2, 1) := by decide +kernel
theorem dX10_carve_55 : decode cX10_carve 55 = .ok (.iload_n 3, 1) := by decide +kernel
theorem dX10_carve_56 : decode cX10_carve 56 = .ok (.invokevirtual 110, 3) := by decide +kernel
theorem dX10_carve_59 : decode cX10_carve 59 = .ok (.istore 5, 2) := by decide +kernel
theorem dX10_carve_61 : decode cX10_carve 61 = .ok (.aload_n 0, 1) := by decide +kernel
theorem dX10_carve_62 : decode cX10_carve 62 = .ok (.getfield 51, 3) := by decide +kernel
theorem dX10_carve_65 : decode cX10_carve 65 = .ok (.iload_n 1, 1) := by decide +kernel
theorem dX10_carve_66 : decode cX10_carve 66 = .ok (.aaload, 1) := by decide +kernel
theorem dX10_carve_67 : decode cX10_carve 67 = .ok (.iconst 4, 1) := by decide +kernel
theorem dX10_carve_68 : decode cX10_carve 68 = .ok (.iload_n 2, 1) := by decide +kernel
theorem dX10_carve_69 : decode cX10_carve 69 = .ok (.imul, 1) := by decide +kernel
theorem dX10_carve_70 : decode cX10_carve 70 = .ok (.iload_n 3, 1) := by decide +kernel
theorem dX10_carve_71 : decode cX10_carve 71 = .ok (.iadd, 1) := by decide +kernel
theorem dX10_carve_72 : decode cX10_carve 72 = .ok (.iload 4, 2) := by decide +kernel
theorem dX10_carve_74 : decode cX10_carve 74 = .ok (.iastore, 1) := by decide +kernel
theorem dX10_carve_75 : decode cX10_carve 75 = .ok (.iload 5, 2) := by decide +kernel
theorem dX10_carve_77 : decode cX10_carve 77 = .ok (.ireturn, 1) := by decide +kernel

def f_X10_carve (fu : Nat) (M : gz_M) (a0 : Nat) (a1 : Int32) (a2 : Int32) (a3 : Int32) (a4 : Int32) : Option (Int32 × gz_M) :=
  gz_gd M 10 a0 <|
  (f_X10_isLast fu M a0 a1 a2).bind fun x1 =>
  gz_jn (gz_b2 (f_X10_refuse fu M a0 (-2 : Int32)) fun x9 M10 =>
    some (x9, M10)) fun j45 =>
  if x1 = 0 then
    j45
  else
    (f_X10_in fu M (a3).toInt64 (0 : Int64) (3 : Int64)).bind fun x2 =>
    if x2 = 0 then
      j45
    else
      gz_jn (fun (x3 : Int64) =>
      (f_X10_in fu M (a4).toInt64 (0 : Int64) x3).bind fun x4 =>
        if x4 = 0 then
          j45
        else
          (f_X10_lastIs fu M a0 a1 a2 a3).bind fun x5 =>
          (gz_gR M 10 14 a0).bind fun x6 =>
          (gz_aR M x6 a1).bind fun x7 =>
          (gz_tI M x7 (((4 : Int32) * a2) + a3) a4).bind fun M8 =>
          some (x5, M8)) fun j39 =>
      if a3 = (3 : Int32) then
        j39 (99 : Int64)
      else
        j39 (40 : Int64)

set_option maxHeartbeats 4000000 in
theorem ct_X10_carve (l : Launch) (G : gz_G) (fu : Nat) (M : gz_M) (a0 : Nat) (a1 : Int32) (a2 : Int32) (a3 : Int32) (a4 : Int32) (y : Int32 × gz_M) (hF : f_X10_carve fu M a0 a1 a2 a3 a4 = some y) : gz_ct l yX10_carve cX10_carve 6 (some .int) 3 68 0 0 G [.ref a0, .int a1, .int a2, .int a3, .int a4] M (some (.int y.1)) y.2 := by
  refine gz_ct.of (by decide) (Nat.le_of_ble_eq_true rfl) (fun C hC hX => ?_)
  unfold f_X10_carve at hF
  obtain ⟨-, hF⟩ := gz_gd_some hF
  show gz_go C 0 0 M [(0, .ref a0), (1, .int a1), (2, .int a2), (3, .int a3), (4, .int a4)] 0 []
  refine gz_aload_n 0 hC 0 dX10_carve_0 rfl rfl ?_
  refine gz_iload_n 1 hC 1 dX10_carve_1 rfl rfl ?_
  refine gz_iload_n 2 hC 2 dX10_carve_2 rfl rfl ?_
  refine gz_cvP (st := []) 3 hC hX [.int a1, .int a2] Value.int yl_X10_isLast yv_X10_isLast q_1333 ⟨Nat.le_of_ble_eq_true rfl, Nat.le_of_ble_eq_true rfl⟩ ⟨_, rfl⟩ (fun r h => ct_X10_isLast _ _ fu M a0 a1 a2 r h) rfl rfl (Nat.le_of_ble_eq_true rfl) dX10_carve_3 gz_00 hF (fun x1 hF => ?_)
  refine gz_join (fun (j : Option (Int32 × gz_M)) => j = some y → gz_go C 0 0 M [(0, .ref a0)] 45 []) hF (fun hF => ?_) (fun j45 hj45 hF => ?_)
  · skip
    refine gz_aload_n 45 hC 0 dX10_carve_45 rfl rfl ?_
    refine gz_bipush 46 hC (-2 : Int32) dX10_carve_46 gz_bm2 ?_
    refine gz_cvM (st := []) 48 hC hX [.int (-2 : Int32)] Value.int yl_X10_refuse yv_X10_refuse q_1175 ⟨Nat.le_of_ble_eq_true rfl, Nat.le_of_ble_eq_true rfl⟩ ⟨_, rfl⟩ (fun r h => ct_X10_refuse _ _ fu M a0 (-2 : Int32) r h) rfl rfl (Nat.le_of_ble_eq_true rfl) dX10_carve_48 gz_00 hF (fun x9 M10 hF => ?_)
    exact gz_iretM 51 hC hX dX10_carve_51 hF
  refine gz_if_eq 6 45 hC dX10_carve_6 (by decide) hF (fun hF => ?_) (fun hF => ?_)
  · skip
    refine gz_sub [0] [(0, .ref a0)] rfl ?_
    exact hj45 hF
  · skip
    refine gz_iload_n 9 hC 3 dX10_carve_9 rfl rfl ?_
    refine gz_i2l 10 hC dX10_carve_10 ?_
    refine gz_lconst 11 hC (0 : Int64) dX10_carve_11 gz_l0 ?_
    refine gz_ldc2 12 hC dX10_carve_12 q_1337 ?_
    refine gz_csP (st := []) 15 hC hX [.long (a3).toInt64, .long (0 : Int64), .long (3 : Int64)] Value.int yl_X10_in yv_X10_in q_1170 ⟨Nat.le_of_ble_eq_true rfl, Nat.le_of_ble_eq_true rfl⟩ (fun r h => ct_X10_in _ _ fu M (a3).toInt64 (0 : Int64) (3 : Int64) r h) rfl rfl (Nat.le_of_ble_eq_true rfl) dX10_carve_15 gz_00 hF (fun x2 hF => ?_)
    refine gz_if_eq 18 45 hC dX10_carve_18 (by decide) hF (fun hF => ?_) (fun hF => ?_)
    · skip
      refine gz_sub [0] [(0, .ref a0)] rfl ?_
      exact hj45 hF
    · skip
      refine gz_iload 21 hC 4 dX10_carve_21 rfl ?_
      refine gz_i2l 23 hC dX10_carve_23 ?_
      refine gz_lconst 24 hC (0 : Int64) dX10_carve_24 gz_l0 ?_
      refine gz_iload_n 25 hC 3 dX10_carve_25 rfl rfl ?_
      refine gz_iconst 26 hC (3 : Int32) dX10_carve_26 gz_k3 ?_
      refine gz_join (fun (j : Int64 → Option (Int32 × gz_M)) => ∀ (x3 : Int64), j x3 = some y → gz_go C 0 0 M [(0, .ref a0), (1, .int a1), (2, .int a2), (3, .int a3), (4, .int a4)] 39 [.long x3, .long (0 : Int64), .long (a4).toInt64]) hF (fun x3 hF => ?_) (fun j39 hj39 hF => ?_)
      · skip
        refine gz_csP (st := []) 39 hC hX [.long (a4).toInt64, .long (0 : Int64), .long x3] Value.int yl_X10_in yv_X10_in q_1170 ⟨Nat.le_of_ble_eq_true rfl, Nat.le_of_ble_eq_true rfl⟩ (fun r h => ct_X10_in _ _ fu M (a4).toInt64 (0 : Int64) x3 r h) rfl rfl (Nat.le_of_ble_eq_true rfl) dX10_carve_39 gz_00 hF (fun x4 hF => ?_)
        refine gz_if_ne 42 52 hC dX10_carve_42 (by decide) hF (fun hF => ?_) (fun hF => ?_)
        · skip
          refine gz_aload_n 52 hC 0 dX10_carve_52 rfl rfl ?_
          refine gz_iload_n 53 hC 1 dX10_carve_53 rfl rfl ?_
          refine gz_iload_n 54 hC 2 dX10_carve_54 rfl rfl ?_
          refine gz_iload_n 55 hC 3 dX10_carve_55 rfl rfl ?_
          refine gz_cvP (st := []) 56 hC hX [.int a1, .int a2, .int a3] Value.int yl_X10_lastIs yv_X10_lastIs q_1237 ⟨Nat.le_of_ble_eq_true rfl, Nat.le_of_ble_eq_true rfl⟩ ⟨_, rfl⟩ (fun r h => ct_X10_lastIs _ _ fu M a0 a1 a2 a3 r h) rfl rfl (Nat.le_of_ble_eq_true rfl) dX10_carve_56 gz_00 hF (fun x5 hF => ?_)
          refine gz_istore 59 hC [(5, .int x5), (0, .ref a0), (1, .int a1), (2, .int a2), (3, .int a3), (4, .int a4)] dX10_carve_59 (by decide) rfl ?_
          refine gz_aload_n 61 hC 1 dX10_carve_61 rfl rfl ?_
          refine gz_getR 62 hC fl_X10_51 fk_10_14 dX10_carve_62 hF (fun x6 hF => ?_)
          refine gz_iload_n 65 hC 2 dX10_carve_65 rfl rfl ?_
          refine gz_aald 66 hC dX10_carve_66 hF (fun x7 hF => ?_)
          refine gz_iconst 67 hC (4 : Int32) dX10_carve_67 gz_k4 ?_
          refine gz_iload_n 68 hC 3 dX10_carve_68 rfl rfl ?_
          refine gz_imul 69 hC dX10_carve_69 ?_
          refine gz_iload_n 70 hC 4 dX10_carve_70 rfl rfl ?_
          refine gz_iadd 71 hC dX10_carve_71 ?_
          refine gz_iload 72 hC 5 dX10_carve_72 rfl ?_
          refine gz_iast 74 hC dX10_carve_74 hF (fun M8 hF => ?_)
          refine gz_iload 75 hC 0 dX10_carve_75 rfl ?_
          exact gz_iretM 77 hC hX dX10_carve_77 hF
        · skip
          refine gz_sub [0] [(0, .ref a0)] rfl ?_
          exact hj45 hF
      refine gz_icmp_ne 27 36 hC dX10_carve_27 (by decide) hF (fun hF => ?_) (fun hF => ?_)
      · skip
        refine gz_ldc2 36 hC dX10_carve_36 q_1174 ?_
        exact hj39 _ hF
      · skip
        refine gz_ldc2 30 hC dX10_carve_30 q_1342 ?_
        refine gz_goto 33 39 hC dX10_carve_33 (by decide) ?_
        exact hj39 _ hF
