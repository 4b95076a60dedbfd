theorem dX10_corner_0 : decode cX10_corner 0 = .ok (.aload_n 0, 1) := by decide +kernel
theorem dX10_corner_1 : decode cX10_corner 1 = .ok (.iload_n 1, 1) := by decide +kernel
theorem dX10_corner_2 : decode cX10_corner 2 = .ok (.invokevirtual 77, 3) := by decide +kernel
theorem dX10_corner_5 : decode cX10_corner 5 = .ok (.ifCond .eq 23, 3) := by decide +kernel
theorem dX10_corner_8 : decode cX10_corner 8 = .ok (.iload_n 2, 1) := by decide +kernel
theorem dX10_corner_9 : decode cX10_corner 9 = .ok (.i2l, 1) := by decide +kernel
theorem dX10_corner_10 : decode cX10_corner 10 = .ok (.lconst 0, 1) := by decide +kernel
theorem dX10_corner_11 : decode cX10_corner 11 = .ok (.ldc2_w 93, 3) := by decide +kernel
theorem dX10_corner_14 : decode cX10_corner 14 = .ok (.invokestatic 73, 3) := by decide +kernel
theorem dX10_corner_17 : decode cX10_corner 17 = .ok (.ifCond .eq 11, 3) := by decide +kernel
theorem dX10_corner_20 : decode cX10_corner 20 = .ok (.aload_n 0, 1) := by decide +kernel
theorem dX10_corner_21 : decode cX10_corner 21 = .ok (.iload_n 1, 1) := by decide +kernel
theorem dX10_corner_22 : decode cX10_corner 22 = .ok (.invokevirtual 81, 3) := by decide +kernel
theorem dX10_corner_25 : decode cX10_corner 25 = .ok (.ifCond .ne 10, 3) := by decide +kernel
theorem dX10_corner_28 : decode cX10_corner 28 = .ok (.aload_n 0, 1) := by decide +kernel
theorem dX10_corner_29 : decode cX10_corner 29 = .ok (.bipush (-2), 2) := by decide +kernel
theorem dX10_corner_31 : decode cX10_corner 31 = .ok (.invokevirtual 97, 3) := by decide +kernel
theorem dX10_corner_34 : decode cX10_corner 34 = .ok (.ireturn, 1) := by decide +kernel
theorem dX10_corner_35 : decode cX10_corner 35 = .ok (.aload_n 0, 1) := by decide +kernel
theorem dX10_corner_36 : decode cX10_corner 36 = .ok (.iload_n 1, 1) := by decide +kernel
theorem dX10_corner_37 : decode cX10_corner 37 = .ok (.iconst 1, 1) := by decide +kernel
theorem dX10_corner_38 : decode cX10_corner 38 = .ok (.aload_n 0, 1) := by decide +kernel
theorem dX10_corner_39 : decode cX10_corner 39 = .ok (.getfield 67, 3) := by decide +kernel
theorem dX10_corner_42 : decode cX10_corner 42 = .ok (.iconst 1, 1) := by decide +kernel
theorem dX10_corner_43 : decode cX10_corner 43 = .ok (.aaload, 1) := by decide +kernel
theorem dX10_corner_44 : decode cX10_corner 44 = .ok (.invokevirtual 268, 3) := by decide +kernel
theorem dX10_corner_47 : decode cX10_corner 47 = .ok (.istore_n 3, 1) := by decide +kernel
theorem dX10_corner_48 : decode cX10_corner 48 = .ok (.aload_n 0, 1) := by decide +kernel
theorem dX10_corner_49 : decode cX10_corner 49 = .ok (.iload_n 1, 1) := by decide +kernel
theorem dX10_corner_50 : decode cX10_corner 50 = .ok (.iconst 2, 1) := by decide +kernel
theorem dX10_corner_51 : decode cX10_corner 51 = .ok (.aload_n 0, 1) := by decide +kernel
theorem dX10_corner_52 : decode cX10_corner 52 = .ok (.getfield 67, 3) := by decide +kernel
theorem dX10_corner_55 : decode cX10_corner 55 = .ok (.iconst 2, 1) := by decide +kernel
theorem dX10_corner_56 : decode cX10_corner 56 = .ok (.aaload, 1) := by decide +kernel
theorem dX10_corner_57 : decode cX10_corner 57 = .ok (.invokevirtual 268, 3) := by decide +kernel
theorem dX10_corner_60 : decode cX10_corner 60 = .ok (.istore 4, 2) := by decide +kernel
theorem dX10_corner_62 : decode cX10_corner 62 = .ok (.aload_n 0, 1) := by decide +kernel
theorem dX10_corner_63 : decode cX10_corner 63 = .ok (.iload_n 1, 1) := by decide +kernel
theorem dX10_corner_64 : decode cX10_corner 64 = .ok (.iconst 0, 1) := by decide +kernel
theorem dX10_corner_65 : decode cX10_corner 65 = .ok (.aload_n 0, 1) := by decide +kernel
theorem dX10_corner_66 : decode cX10_corner 66 = .ok (.getfield 67, 3) := by decide +kernel
theorem dX10_corner_69 : decode cX10_corner 69 = .ok (.iconst 0, 1) := by decide +kernel
theorem dX10_corner_70 : decode cX10_corner 70 = .ok (.aaload, 1) := by decide +kernel
theorem dX10_corner_71 : decode cX10_corner 71 = .ok (.invokevirtual 268, 3) := by decide +kernel
theorem dX10_corner_74 : decode cX10_corner 74 = .ok (.iload_n 3, 1) := by decide +kernel
theorem dX10_corner_75 : decode cX10_corner 75 = .ok (.imul, 1) := by decide +kernel
theorem dX10_corner_76 : decode cX10_corner 76 = .ok (.iload 4, 2) := by decide +kernel
theorem dX10_corner_78 : decode cX10_corner 78 = .ok (.imul, 1) := by decide +kernel
theorem dX10_corner_79 : decode cX10_corner 79 = .ok (.istore 5, 2) := by decide +kernel
theorem dX10_corner_81 : decode cX10_corner 81 = .ok (.iconst (-1), 1) := by decide +kernel
theorem dX10_corner_82 : decode cX10_corner 82 = .ok (.istore 6, 2) := by decide +kernel
theorem dX10_corner_84 : decode cX10_corner 84 = .ok (.iconst 0, 1) := by decide +kernel
theorem dX10_corner_85 : decode cX10_corner 85 = .ok (.istore 7, 2) := by decide +kernel
theorem dX10_corner_87 : decode cX10_corner 87 = .ok (.iconst 0, 1) := by decide +kernel
theorem dX10_corner_88 : decode cX10_corner 88 = .ok (.istore 8, 2) := by decide +kernel
theorem dX10_corner_90 : decode cX10_corner 90 = .ok (.iload 8, 2) := by decide +kernel
theorem dX10_corner_92 : decode cX10_corner 92 = .ok (.iload 5, 2) := by decide +kernel
theorem dX10_corner_94 : decode cX10_corner 94 = .ok (.if_icmp .ge 164, 3) := by decide +kernel
theorem dX10_corner_97 : decode cX10_corner 97 = .ok (.iconst 0, 1) := by decide +kernel
theorem dX10_corner_98 : decode cX10_corner 98 = .ok (.istore 9, 2) := by decide +kernel
theorem dX10_corner_100 : decode cX10_corner 100 = .ok (.iconst 0, 1) := by decide +kernel
theorem dX10_corner_101 : decode cX10_corner 101 = .ok (.istore 10, 2) := by decide +kernel
theorem dX10_corner_103 : decode cX10_corner 103 = .ok (.iload 10, 2) := by decide +kernel
theorem dX10_corner_105 : decode cX10_corner 105 = .ok (.aload_n 0, 1) := by decide +kernel
theorem dX10_corner_106 : decode cX10_corner 106 = .ok (.iload_n 1, 1) := by decide +kernel
theorem dX10_corner_107 : decode cX10_corner 107 = .ok (.invokevirtual 81, 3) := by decide +kernel
theorem dX10_corner_110 : decode cX10_corner 110 = .ok (.if_icmp .ge 121, 3) := by decide +kernel
theorem dX10_corner_113 : decode cX10_corner 113 = .ok (.aload_n 0, 1) := by decide +kernel
theorem dX10_corner_114 : decode cX10_corner 114 = .ok (.iload_n 1, 1) := by decide +kernel
theorem dX10_corner_115 : decode cX10_corner 115 = .ok (.aload_n 0, 1) := by decide +kernel
theorem dX10_corner_116 : decode cX10_corner 116 = .ok (.getfield 67, 3) := by decide +kernel
theorem dX10_corner_119 : decode cX10_corner 119 = .ok (.iconst 0, 1) := by decide +kernel
theorem dX10_corner_120 : decode cX10_corner 120 = .ok (.aaload, 1) := by decide +kernel
theorem dX10_corner_121 : decode cX10_corner 121 = .ok (.iload 8, 2) := by decide +kernel
theorem dX10_corner_123 : decode cX10_corner 123 = .ok (.iload 4, 2) := by decide +kernel
theorem dX10_corner_125 : decode cX10_corner 125 = .ok (.idiv, 1) := by decide +kernel
theorem dX10_corner_126 : decode cX10_corner 126 = .ok (.iload_n 3, 1) := by decide +kernel
theorem dX10_corner_127 : decode cX10_corner 127 = .ok (.idiv, 1) := by decide +kernel
theorem dX10_corner_128 : decode cX10_corner 128 = .ok (.iaload, 1) := by decide +kernel
theorem dX10_corner_129 : decode cX10_corner 129 = .ok (.aload_n 0, 1) := by decide +kernel
theorem dX10_corner_130 : decode cX10_corner 130 = .ok (.getfield 67, 3) := by decide +kernel
theorem dX10_corner_133 : decode cX10_corner 133 = .ok (.iconst 1, 1) := by decide +kernel
theorem dX10_corner_134 : decode cX10_corner 134 = .ok (.aaload, 1) := by decide +kernel
theorem dX10_corner_135 : decode cX10_corner 135 = .ok (.iload 8, 2) := by decide +kernel
theorem dX10_corner_137 : decode cX10_corner 137 = .ok (.iload 4, 2) := by decide +kernel
theorem dX10_corner_139 : decode cX10_corner 139 = .ok (.idiv, 1) := by decide +kernel
theorem dX10_corner_140 : decode cX10_corner 140 = .ok (.iload_n 3, 1) := by decide +kernel
theorem dX10_corner_141 : decode cX10_corner 141 = .ok (.irem, 1) := by decide +kernel
theorem dX10_corner_142 : decode cX10_corner 142 = .ok (.iaload, 1) := by decide +kernel
theorem dX10_corner_143 : decode cX10_corner 143 = .ok (.aload_n 0, 1) := by decide +kernel
theorem dX10_corner_144 : decode cX10_corner 144 = .ok (.getfield 67, 3) := by decide +kernel
theorem dX10_corner_147 : decode cX10_corner 147 = .ok (.iconst 2, 1) := by decide +kernel
theorem dX10_corner_148 : decode cX10_corner 148 = .ok (.aaload, 1) := by decide +kernel
theorem dX10_corner_149 : decode cX10_corner 149 = .ok (.iload 8, 2) := by decide +kernel
theorem dX10_corner_151 : decode cX10_corner 151 = .ok (.iload 4, 2) := by decide +kernel
theorem dX10_corner_153 : decode cX10_corner 153 = .ok (.irem, 1) := by decide +kernel
theorem dX10_corner_154 : decode cX10_corner 154 = .ok (.iaload, 1) := by decide +kernel
theorem dX10_corner_155 : decode cX10_corner 155 = .ok (.aload_n 0, 1) := by decide +kernel
theorem dX10_corner_156 : decode cX10_corner 156 = .ok (.iload_n 1, 1) := by decide +kernel
theorem dX10_corner_157 : decode cX10_corner 157 = .ok (.iload 10, 2) := by decide +kernel
theorem dX10_corner_159 : decode cX10_corner 159 = .ok (.iconst 0, 1) := by decide +kernel
theorem dX10_corner_160 : decode cX10_corner 160 = .ok (.invokevirtual 114, 3) := by decide +kernel
theorem dX10_corner_163 : decode cX10_corner 163 = .ok (.aload_n 0, 1) := by decide +kernel
theorem dX10_corner_164 : decode cX10_corner 164 = .ok (.iload_n 1, 1) := by decide +kernel
theorem dX10_corner_165 : decode cX10_corner 165 = .ok (.iload 10, 2) := by decide +kernel
theorem dX10_corner_167 : decode cX10_corner 167 = .ok (.iconst 1, 1) := by decide +kernel
theorem dX10_corner_168 : decode cX10_corner 168 = .ok (.invokevirtual 114, 3) := by decide +kernel
theorem dX10_corner_171 : decode cX10_corner 171 = .ok (.aload_n 0, 1) := by decide +kernel
theorem dX10_corner_172 : decode cX10_corner 172 = .ok (.iload_n 1, 1) := by decide +kernel
theorem dX10_corner_173 : decode cX10_corner 173 = .ok (.iload 10, 2) := by decide +kernel
theorem dX10_corner_175 : decode cX10_corner 175 = .ok (.iconst 2, 1) := by decide +kernel
theorem dX10_corner_176 : decode cX10_corner 176 = .ok (.invokevirtual 114, 3) := by decide +kernel
theorem dX10_corner_179 : decode cX10_corner 179 = .ok (.aload_n 0, 1) := by decide +kernel
theorem dX10_corner_180 : decode cX10_corner 180 = .ok (.iload_n 1, 1) := by decide +kernel
theorem dX10_corner_181 : decode cX10_corner 181 = .ok (.iload 10, 2) := by decide +kernel
theorem dX10_corner_183 : decode cX10_corner 183 = .ok (.iconst 4, 1) := by decide +kernel
theorem dX10_corner_184 : decode cX10_corner 184 = .ok (.invokevirtual 114, 3) := by decide +kernel
theorem dX10_corner_187 : decode cX10_corner 187 = .ok (.invokevirtual 117, 3) := by decide +kernel
theorem dX10_corner_190 : decode cX10_corner 190 = .ok (.istore 11, 2) := by decide +kernel
theorem dX10_corner_192 : decode cX10_corner 192 = .ok (.iload 9, 2) := by decide +kernel
theorem dX10_corner_194 : decode cX10_corner 194 = .ok (.aload_n 0, 1) := by decide +kernel
theorem dX10_corner_195 : decode cX10_corner 195 = .ok (.iload_n 1, 1) := by decide +kernel
theorem dX10_corner_196 : decode cX10_corner 196 = .ok (.iload 10, 2) := by decide +kernel
theorem dX10_corner_198 : decode cX10_corner 198 = .ok (.iconst 3, 1) := by decide +kernel
theorem dX10_corner_199 : decode cX10_corner 199 = .ok (.invokevirtual 114, 3) := by decide +kernel
theorem dX10_corner_202 : decode cX10_corner 202 = .ok (.iload 11, 2) := by decide +kernel
theorem dX10_corner_204 : decode cX10_corner 204 = .ok (.iconst (-1), 1) := by decide +kernel
theorem dX10_corner_205 : decode cX10_corner 205 = .ok (.if_icmp .ne 14, 3) := by decide +kernel
theorem dX10_corner_208 : decode cX10_corner 208 = .ok (.aload_n 0, 1) := by decide +kernel
theorem dX10_corner_209 : decode cX10_corner 209 = .ok (.getfield 45, 3) := by decide +kernel
theorem dX10_corner_212 : decode cX10_corner 212 = .ok (.iload_n 1, 1) := by decide +kernel
theorem dX10_corner_213 : decode cX10_corner 213 = .ok (.aaload, 1) := by decide +kernel
theorem dX10_corner_214 : decode cX10_corner 214 = .ok (.iconst 2, 1) := by decide +kernel
theorem dX10_corner_215 : decode cX10_corner 215 = .ok (.iaload, 1) := by decide +kernel
theorem dX10_corner_216 : decode cX10_corner 216 = .ok (.goto 5, 3) := by decide +kernel
theorem dX10_corner_219 : decode cX10_corner 219 = .ok (.iload 11, 2) := by decide +kernel
theorem dX10_corner_221 : decode cX10_corner 221 = .ok (.imul, 1) := by decide +kernel
theorem dX10_corner_222 : decode cX10_corner 222 = .ok (.iadd, 1) := by decide +kernel
theorem dX10_corner_223 : decode cX10_corner 223 = .ok (.istore 9, 2) := by decide +kernel
theorem dX10_corner_225 : decode cX10_corner 225 = .ok (.iinc 10 1, 3) := by decide +kernel
theorem dX10_corner_228 : decode cX10_corner 228 = .ok (.goto (-125), 3) := by decide +kernel
theorem dX10_corner_231 : decode cX10_corner 231 = .ok (.iload 6, 2) := by decide +kernel
theorem dX10_corner_233 : decode cX10_corner 233 = .ok (.iconst (-1), 1) := by decide +kernel
theorem dX10_corner_234 : decode cX10_corner 234 = .ok (.if_icmp .eq 10, 3) := by decide +kernel
theorem dX10_corner_237 : decode cX10_corner 237 = .ok (.iload 9, 2) := by decide +kernel
theorem dX10_corner_239 : decode cX10_corner 239 = .ok (.iload 7, 2) := by decide +kernel
theorem dX10_corner_241 : decode cX10_corner 241 = .ok (.if_icmp .ge 11, 3) := by decide +kernel
theorem dX10_corner_244 : decode cX10_corner 244 = .ok (.iload 8, 2) := by decide +kernel
theorem dX10_corner_246 : decode cX10_corner 246 = .ok (.istore 6, 2) := by decide +kernel
theorem dX10_corner_248 : decode cX10_corner 248 = .ok (.iload 9, 2) := by decide +kernel
theorem dX10_corner_250 : decode cX10_corner 250 = .ok (.istore 7, 2) := by decide +kernel
theorem dX10_corner_252 : decode cX10_corner 252 = .ok (.iinc 8 1, 3) := by decide +kernel
theorem dX10_corner_255 : decode cX10_corner 255 = .ok (.goto (-165), 3) := by decide +kernel
theorem dX10_corner_258 : decode cX10_corner 258 = .ok (.iload_n 2, 1) := by decide +kernel
theorem dX10_corner_259 : decode cX10_corner 259 = .ok (.tableswitch 65 0 3 #[29, 32, 35, 50], 29) := by decide +kernel
theorem dX10_corner_288 : decode cX10_corner 288 = .ok (.iload 6, 2) := by decide +kernel
theorem dX10_corner_290 : decode cX10_corner 290 = .ok (.ireturn, 1) := by decide +kernel
theorem dX10_corner_291 : decode cX10_corner 291 = .ok (.iload 7, 2) := by decide +kernel
theorem dX10_corner_293 : decode cX10_corner 293 = .ok (.ireturn, 1) := by decide +kernel
theorem dX10_corner_294 : decode cX10_corner 294 = .ok (.aload_n 0, 1) := by decide +kernel
theorem dX10_corner_295 : decode cX10_corner 295 = .ok (.getfield 67, 3) := by decide +kernel
theorem dX10_corner_298 : decode cX10_corner 298 = .ok (.iconst 0, 1) := by decide +kernel
theorem dX10_corner_299 : decode cX10_corner 299 = .ok (.aaload, 1) := by decide +kernel
theorem dX10_corner_300 : decode cX10_corner 300 = .ok (.iload 6, 2) := by decide +kernel
theorem dX10_corner_302 : decode cX10_corner 302 = .ok (.iload 4, 2) := by decide +kernel
theorem dX10_corner_304 : decode cX10_corner 304 = .ok (.idiv, 1) := by decide +kernel
theorem dX10_corner_305 : decode cX10_corner 305 = .ok (.iload_n 3, 1) := by decide +kernel
theorem dX10_corner_306 : decode cX10_corner 306 = .ok (.idiv, 1) := by decide +kernel
theorem dX10_corner_307 : decode cX10_corner 307 = .ok (.iaload, 1) := by decide +kernel
theorem dX10_corner_308 : decode cX10_corner 308 = .ok (.ireturn, 1) := by decide +kernel
theorem dX10_corner_309 : decode cX10_corner 309 = .ok (.aload_n 0, 1) := by decide +kernel
theorem dX10_corner_310 : decode cX10_corner 310 = .ok (.getfield 67, 3) := by decide +kernel
theorem dX10_corner_313 : decode cX10_corner 313 = .ok (.iconst 1, 1) := by decide +kernel
theorem dX10_corner_314 : decode cX10_corner 314 = .ok (.aaload, 1) := by decide +kernel
theorem dX10_corner_315 : decode cX10_corner 315 = .ok (.iload 6, 2) := by decide +kernel
theorem dX10_corner_317 : decode cX10_corner 317 = .ok (.iload 4, 2) := by decide +kernel
theorem dX10_corner_319 : decode cX10_corner 319 = .ok (.idiv, 1) := by decide +kernel
theorem dX10_corner_320 : decode cX10_corner 320 = .ok (.iload_n 3, 1) := by decide +kernel
theorem dX10_corner_321 : decode cX10_corner 321 = .ok (.irem, 1) := by decide +kernel
theorem dX10_corner_322 : decode cX10_corner 322 = .ok (.iaload, 1) := by decide +kernel
theorem dX10_corner_323 : decode cX10_corner 323 = .ok (.ireturn, 1) := by decide +kernel
theorem dX10_corner_324 : decode cX10_corner 324 = .ok (.aload_n 0, 1) := by decide +kernel
theorem dX10_corner_325 : decode cX10_corner 325 = .ok (.getfield 67, 3) := by decide +kernel
theorem dX10_corner_328 : decode cX10_corner 328 = .ok (.iconst 2, 1) := by decide +kernel
theorem dX10_corner_329 : decode cX10_corner 329 = .ok (.aaload, 1) := by decide +kernel
theorem dX10_corner_330 : decode cX10_corner 330 = .ok (.iload 6, 2) := by decide +kernel
theorem dX10_corner_332 : decode cX10_corner 332 = .ok (.iload 4, 2) := by decide +kernel
theorem dX10_corner_334 : decode cX10_corner 334 = .ok (.irem, 1) := by decide +kernel
theorem dX10_corner_335 : decode cX10_corner 335 = .ok (.iaload, 1) := by decide +kernel
theorem dX10_corner_336 : decode cX10_corner 336 = .ok (.ireturn, 1) := by decide +kernel
def lp_X10_corner_103 (j231 : Int32 → Option (Int32 × gz_M)) (fu : Nat) (M15 : gz_M) (a0 : Nat) (a1 : Int32) (x6 : Int32) (x10 : Int32) (x18 : Int32) : Nat → Int32 → Int32 → Option (Int32 × gz_M)
  | 0, _, _ => none
  | n103 + 1, x19, x20 =>
    (f_X10_feetOf fu M15 a0 a1).bind fun x21 =>
    if x21 ≤ x20 then
      j231 x19
    else
      (gz_gR M15 10 29 a0).bind fun x22 =>
      (gz_aR M15 x22 (0 : Int32)).bind fun x23 =>
      gz_d x10 <|
      gz_d x6 <|
      (gz_aI M15 x23 ((x18 / x10) / x6)).bind fun x24 =>
      (gz_gR M15 10 29 a0).bind fun x25 =>
      (gz_aR M15 x25 (1 : Int32)).bind fun x26 =>
      gz_d x10 <|
      gz_d x6 <|
      (gz_aI M15 x26 ((x18 / x10) - (x18 / x10) / x6 * x6)).bind fun x27 =>
      (gz_gR M15 10 29 a0).bind fun x28 =>
      (gz_aR M15 x28 (2 : Int32)).bind fun x29 =>
      gz_d x10 <|
      (gz_aI M15 x29 (x18 - x18 / x10 * x10)).bind fun x30 =>
      (f_X10_of fu M15 a0 a1 x20 (0 : Int32)).bind fun x31 =>
      (f_X10_of fu M15 a0 a1 x20 (1 : Int32)).bind fun x32 =>
      (f_X10_of fu M15 a0 a1 x20 (2 : Int32)).bind fun x33 =>
      (f_X10_of fu M15 a0 a1 x20 (4 : Int32)).bind fun x34 =>
      (f_X10_badBy fu M15 a0 a1 x24 x27 x30 x31 x32 x33 x34).bind fun x35 =>
      (f_X10_of fu M15 a0 a1 x20 (3 : Int32)).bind fun x36 =>
      gz_jn (fun (x40 : Int32) =>
      lp_X10_corner_103 j231 fu M15 a0 a1 x6 x10 x18 n103 (x19 + (x36 * x40)) (x20 + (1 : Int32))) fun j221 =>
      if x35 = (-1 : Int32) then
        (gz_gR M15 10 12 a0).bind fun x37 =>
        (gz_aR M15 x37 a1).bind fun x38 =>
        (gz_aI M15 x38 (2 : Int32)).bind fun x39 =>
        j221 x39
      else
        j221 x35
def lp_X10_corner_90 (j258 : Int32 → Int32 → Option (Int32 × gz_M)) (fu : Nat) (M15 : gz_M) (a0 : Nat) (a1 : Int32) (x6 : Int32) (x10 : Int32) (x14 : Int32) : Nat → Int32 → Int32 → Int32 → Option (Int32 × gz_M)
  | 0, _, _, _ => none
  | n90 + 1, x16, x17, x18 =>
    if ((x14 * x6) * x10) ≤ x18 then
      j258 x16 x17
    else
      lp_X10_corner_103 (fun (x41 : Int32) => gz_jn (fun (x42 : Int32) (x43 : Int32) =>
        lp_X10_corner_90 j258 fu M15 a0 a1 x6 x10 x14 n90 x42 x43 (x18 + (1 : Int32))) fun j252 =>
        gz_jn (j252 x18 x41) fun j244 =>
        if x16 = (-1 : Int32) then
          j244
        else
          if x17 ≤ x41 then
            j252 x16 x17
          else
            j244) fu M15 a0 a1 x6 x10 x18 fu (0 : Int32) (0 : Int32)
def f_X10_corner (fu : Nat) (M : gz_M) (a0 : Nat) (a1 : Int32) (a2 : Int32) : Option (Int32 × gz_M) :=
  gz_gd M 10 a0 <|
  (f_X10_isValley fu M a0 a1).bind fun x1 =>
  gz_jn (gz_b2 (f_X10_refuse fu M a0 (-2 : Int32)) fun x55 M56 =>
    some (x55, M56)) fun j28 =>
  if x1 = 0 then
    j28
  else
    (f_X10_in fu M (a2).toInt64 (0 : Int64) (4 : Int64)).bind fun x2 =>
    if x2 = 0 then
      j28
    else
      (f_X10_feetOf fu M a0 a1).bind fun x3 =>
      if x3 = 0 then
        j28
      else
        (gz_gR M 10 29 a0).bind fun x4 =>
        (gz_aR M x4 (1 : Int32)).bind fun x5 =>
        gz_b2 (f_X10_measures fu M a0 a1 (1 : Int32) x5) fun x6 M7 =>
        (gz_gR M7 10 29 a0).bind fun x8 =>
        (gz_aR M7 x8 (2 : Int32)).bind fun x9 =>
        gz_b2 (f_X10_measures fu M7 a0 a1 (2 : Int32) x9) fun x10 M11 =>
        (gz_gR M11 10 29 a0).bind fun x12 =>
        (gz_aR M11 x12 (0 : Int32)).bind fun x13 =>
        gz_b2 (f_X10_measures fu M11 a0 a1 (0 : Int32) x13) fun x14 M15 =>
        lp_X10_corner_90 (fun (x44 : Int32) (x45 : Int32) => if a2 = (0 : Int32) then some (x44, M15) else if a2 = (1 : Int32) then some (x45, M15) else if a2 = (2 : Int32) then (gz_gR M15 10 29 a0).bind fun x52 =>
            (gz_aR M15 x52 (0 : Int32)).bind fun x53 =>
            gz_d x10 <|
            gz_d x6 <|
            (gz_aI M15 x53 ((x44 / x10) / x6)).bind fun x54 =>
            some (x54, M15) else if a2 = (3 : Int32) then (gz_gR M15 10 29 a0).bind fun x49 =>
            (gz_aR M15 x49 (1 : Int32)).bind fun x50 =>
            gz_d x10 <|
            gz_d x6 <|
            (gz_aI M15 x50 ((x44 / x10) - (x44 / x10) / x6 * x6)).bind fun x51 =>
            some (x51, M15) else (gz_gR M15 10 29 a0).bind fun x46 =>
          (gz_aR M15 x46 (2 : Int32)).bind fun x47 =>
          gz_d x10 <|
          (gz_aI M15 x47 (x44 - x44 / x10 * x10)).bind fun x48 =>
          some (x48, M15)) fu M15 a0 a1 x6 x10 x14 fu (-1 : Int32) (0 : Int32) (0 : Int32)
set_option maxHeartbeats 4000000 in
theorem w_X10_corner_103 {C : gz_C} {y : Int32 × gz_M} {fu : Nat} {M15 : gz_M} {a0 : Nat} {a1 : Int32} {x6 : Int32} {x10 : Int32} {x18 : Int32} {a2 : Int32} {x14 : Int32} {x16 : Int32} {x17 : Int32} {j231 : Int32 → Option (Int32 × gz_M)} (hC : gz_ok C cX10_corner RX10 12) (hX : gz_cx C 2 50 0 0 (some .int) (some (.int y.1)) y.2 "corner") (hj231 : ∀ (x41 : Int32), j231 x41 = some y → gz_go C 0 0 M15 [(0, .ref a0), (1, .int a1), (2, .int a2), (3, .int x6), (4, .int x10), (5, .int ((x14 * x6) * x10)), (6, .int x16), (7, .int x17), (8, .int x18), (9, .int x41)] 231 []) : ∀ (n : Nat) (x19 : Int32) (x20 : Int32), lp_X10_corner_103 j231 fu M15 a0 a1 x6 x10 x18 n x19 x20 = some y → gz_go C 0 0 M15 [(0, .ref a0), (1, .int a1), (2, .int a2), (3, .int x6), (4, .int x10), (5, .int ((x14 * x6) * x10)), (6, .int x16), (7, .int x17), (8, .int x18), (9, .int x19), (10, .int x20)] 103 [] := by
  intro n
  induction n with
  | zero => intro x19 x20 hF; exact nomatch (show (none : Option (Int32 × gz_M)) = some y from hF)
  | succ n103 ih103 =>
    intro x19 x20 hF
    rw [lp_X10_corner_103.eq_2] at hF
    refine gz_iload 103 hC 10 dX10_corner_103 rfl ?_
    refine gz_aload_n 105 hC 0 dX10_corner_105 rfl rfl ?_
    refine gz_iload_n 106 hC 1 dX10_corner_106 rfl rfl ?_
    refine gz_cvP (st := [.int x20]) 107 hC hX [.int a1] Value.int yl_X10_feetOf yv_X10_feetOf q_1221 ⟨Nat.le_of_ble_eq_true rfl, Nat.le_of_ble_eq_true rfl⟩ ⟨_, rfl⟩ (fun r h => ct_X10_feetOf _ _ fu M15 a0 a1 r h) rfl rfl (Nat.le_of_ble_eq_true rfl) dX10_corner_107 gz_00 hF (fun x21 hF => ?_)
    refine gz_icmp_ge 110 231 hC dX10_corner_110 (by decide) hF (fun hF => ?_) (fun hF => ?_)
    · skip
      refine gz_sub [0, 1, 2, 3, 4, 5, 6, 7, 8, 9] [(0, .ref a0), (1, .int a1), (2, .int a2), (3, .int x6), (4, .int x10), (5, .int ((x14 * x6) * x10)), (6, .int x16), (7, .int x17), (8, .int x18), (9, .int x19)] rfl ?_
      exact hj231 _ hF
    · skip
      refine gz_aload_n 113 hC 0 dX10_corner_113 rfl rfl ?_
      refine gz_iload_n 114 hC 1 dX10_corner_114 rfl rfl ?_
      refine gz_aload_n 115 hC 0 dX10_corner_115 rfl rfl ?_
      refine gz_getR 116 hC fl_X10_67 fk_10_29 dX10_corner_116 hF (fun x22 hF => ?_)
      refine gz_iconst 119 hC (0 : Int32) dX10_corner_119 gz_k0 ?_
      refine gz_aald 120 hC dX10_corner_120 hF (fun x23 hF => ?_)
      refine gz_iload 121 hC 8 dX10_corner_121 rfl ?_
      refine gz_iload 123 hC 4 dX10_corner_123 rfl ?_
      refine gz_idiv 125 hC dX10_corner_125 hF (fun hF => ?_)
      refine gz_iload_n 126 hC 3 dX10_corner_126 rfl rfl ?_
      refine gz_idiv 127 hC dX10_corner_127 hF (fun hF => ?_)
      refine gz_iald 128 hC dX10_corner_128 hF (fun x24 hF => ?_)
      refine gz_aload_n 129 hC 0 dX10_corner_129 rfl rfl ?_
      refine gz_getR 130 hC fl_X10_67 fk_10_29 dX10_corner_130 hF (fun x25 hF => ?_)
      refine gz_iconst 133 hC (1 : Int32) dX10_corner_133 gz_k1 ?_
      refine gz_aald 134 hC dX10_corner_134 hF (fun x26 hF => ?_)
      refine gz_iload 135 hC 8 dX10_corner_135 rfl ?_
      refine gz_iload 137 hC 4 dX10_corner_137 rfl ?_
      refine gz_idiv 139 hC dX10_corner_139 hF (fun hF => ?_)
      refine gz_iload_n 140 hC 3 dX10_corner_140 rfl rfl ?_
      refine gz_irem 141 hC dX10_corner_141 hF (fun hF => ?_)
      refine gz_iald 142 hC dX10_corner_142 hF (fun x27 hF => ?_)
      refine gz_aload_n 143 hC 0 dX10_corner_143 rfl rfl ?_
      refine gz_getR 144 hC fl_X10_67 fk_10_29 dX10_corner_144 hF (fun x28 hF => ?_)
      refine gz_iconst 147 hC (2 : Int32) dX10_corner_147 gz_k2 ?_
      refine gz_aald 148 hC dX10_corner_148 hF (fun x29 hF => ?_)
      refine gz_iload 149 hC 8 dX10_corner_149 rfl ?_
      refine gz_iload 151 hC 4 dX10_corner_151 rfl ?_
      refine gz_irem 153 hC dX10_corner_153 hF (fun hF => ?_)
      refine gz_iald 154 hC dX10_corner_154 hF (fun x30 hF => ?_)
      refine gz_aload_n 155 hC 0 dX10_corner_155 rfl rfl ?_
      refine gz_iload_n 156 hC 1 dX10_corner_156 rfl rfl ?_
      refine gz_iload 157 hC 10 dX10_corner_157 rfl ?_
      refine gz_iconst 159 hC (0 : Int32) dX10_corner_159 gz_k0 ?_
      refine gz_cvP (st := [.int x30, .int x27, .int x24, .int a1, .ref a0]) 160 hC hX [.int a1, .int x20, .int (0 : Int32)] Value.int yl_X10_of yv_X10_of q_1241 ⟨Nat.le_of_ble_eq_true rfl, Nat.le_of_ble_eq_true rfl⟩ ⟨_, rfl⟩ (fun r h => ct_X10_of _ _ fu M15 a0 a1 x20 (0 : Int32) r h) rfl rfl (Nat.le_of_ble_eq_true rfl) dX10_corner_160 gz_00 hF (fun x31 hF => ?_)
      refine gz_aload_n 163 hC 0 dX10_corner_163 rfl rfl ?_
      refine gz_iload_n 164 hC 1 dX10_corner_164 rfl rfl ?_
      refine gz_iload 165 hC 10 dX10_corner_165 rfl ?_
      refine gz_iconst 167 hC (1 : Int32) dX10_corner_167 gz_k1 ?_
      refine gz_cvP (st := [.int x31, .int x30, .int x27, .int x24, .int a1, .ref a0]) 168 hC hX [.int a1, .int x20, .int (1 : Int32)] Value.int yl_X10_of yv_X10_of q_1241 ⟨Nat.le_of_ble_eq_true rfl, Nat.le_of_ble_eq_true rfl⟩ ⟨_, rfl⟩ (fun r h => ct_X10_of _ _ fu M15 a0 a1 x20 (1 : Int32) r h) rfl rfl (Nat.le_of_ble_eq_true rfl) dX10_corner_168 gz_00 hF (fun x32 hF => ?_)
      refine gz_aload_n 171 hC 0 dX10_corner_171 rfl rfl ?_
      refine gz_iload_n 172 hC 1 dX10_corner_172 rfl rfl ?_
      refine gz_iload 173 hC 10 dX10_corner_173 rfl ?_
      refine gz_iconst 175 hC (2 : Int32) dX10_corner_175 gz_k2 ?_
      refine gz_cvP (st := [.int x32, .int x31, .int x30, .int x27, .int x24, .int a1, .ref a0]) 176 hC hX [.int a1, .int x20, .int (2 : Int32)] Value.int yl_X10_of yv_X10_of q_1241 ⟨Nat.le_of_ble_eq_true rfl, Nat.le_of_ble_eq_true rfl⟩ ⟨_, rfl⟩ (fun r h => ct_X10_of _ _ fu M15 a0 a1 x20 (2 : Int32) r h) rfl rfl (Nat.le_of_ble_eq_true rfl) dX10_corner_176 gz_00 hF (fun x33 hF => ?_)
      refine gz_aload_n 179 hC 0 dX10_corner_179 rfl rfl ?_
      refine gz_iload_n 180 hC 1 dX10_corner_180 rfl rfl ?_
      refine gz_iload 181 hC 10 dX10_corner_181 rfl ?_
      refine gz_iconst 183 hC (4 : Int32) dX10_corner_183 gz_k4 ?_
      refine gz_cvP (st := [.int x33, .int x32, .int x31, .int x30, .int x27, .int x24, .int a1, .ref a0]) 184 hC hX [.int a1, .int x20, .int (4 : Int32)] Value.int yl_X10_of yv_X10_of q_1241 ⟨Nat.le_of_ble_eq_true rfl, Nat.le_of_ble_eq_true rfl⟩ ⟨_, rfl⟩ (fun r h => ct_X10_of _ _ fu M15 a0 a1 x20 (4 : Int32) r h) rfl rfl (Nat.le_of_ble_eq_true rfl) dX10_corner_184 gz_00 hF (fun x34 hF => ?_)
      refine gz_cvP (st := []) 187 hC hX [.int a1, .int x24, .int x27, .int x30, .int x31, .int x32, .int x33, .int x34] Value.int yl_X10_badBy yv_X10_badBy q_1245 ⟨Nat.le_of_ble_eq_true rfl, Nat.le_of_ble_eq_true rfl⟩ ⟨_, rfl⟩ (fun r h => ct_X10_badBy _ _ fu M15 a0 a1 x24 x27 x30 x31 x32 x33 x34 r h) rfl rfl (Nat.le_of_ble_eq_true rfl) dX10_corner_187 gz_00 hF (fun x35 hF => ?_)
      refine gz_istore 190 hC [(11, .int x35), (0, .ref a0), (1, .int a1), (2, .int a2), (3, .int x6), (4, .int x10), (5, .int ((x14 * x6) * x10)), (6, .int x16), (7, .int x17), (8, .int x18), (9, .int x19), (10, .int x20)] dX10_corner_190 (by decide) rfl ?_
      refine gz_iload 192 hC 10 dX10_corner_192 rfl ?_
      refine gz_aload_n 194 hC 1 dX10_corner_194 rfl rfl ?_
      refine gz_iload_n 195 hC 2 dX10_corner_195 rfl rfl ?_
      refine gz_iload 196 hC 11 dX10_corner_196 rfl ?_
      refine gz_iconst 198 hC (3 : Int32) dX10_corner_198 gz_k3 ?_
      refine gz_cvP (st := [.int x19]) 199 hC hX [.int a1, .int x20, .int (3 : Int32)] Value.int yl_X10_of yv_X10_of q_1241 ⟨Nat.le_of_ble_eq_true rfl, Nat.le_of_ble_eq_true rfl⟩ ⟨_, rfl⟩ (fun r h => ct_X10_of _ _ fu M15 a0 a1 x20 (3 : Int32) r h) rfl rfl (Nat.le_of_ble_eq_true rfl) dX10_corner_199 gz_00 hF (fun x36 hF => ?_)
      refine gz_iload 202 hC 0 dX10_corner_202 rfl ?_
      refine gz_iconst 204 hC (-1 : Int32) dX10_corner_204 gz_km1 ?_
      refine gz_join (fun (j : Int32 → Option (Int32 × gz_M)) => ∀ (x40 : Int32), j x40 = some y → gz_go C 0 0 M15 [(0, .ref a0), (1, .int a1), (2, .int a2), (3, .int x6), (4, .int x10), (5, .int ((x14 * x6) * x10)), (6, .int x16), (7, .int x17), (8, .int x18), (10, .int x20)] 221 [.int x40, .int x36, .int x19]) hF (fun x40 hF => ?_) (fun j221 hj221 hF => ?_)
      · skip
        refine gz_imul 221 hC dX10_corner_221 ?_
        refine gz_iadd 222 hC dX10_corner_222 ?_
        refine gz_istore 223 hC [(9, .int (x19 + (x36 * x40))), (0, .ref a0), (1, .int a1), (2, .int a2), (3, .int x6), (4, .int x10), (5, .int ((x14 * x6) * x10)), (6, .int x16), (7, .int x17), (8, .int x18), (10, .int x20)] dX10_corner_223 (by decide) rfl ?_
        refine gz_iinc 225 hC (x20 + (1 : Int32)) 10 [(10, .int (x20 + (1 : Int32))), (9, .int (x19 + (x36 * x40))), (0, .ref a0), (1, .int a1), (2, .int a2), (3, .int x6), (4, .int x10), (5, .int ((x14 * x6) * x10)), (6, .int x16), (7, .int x17), (8, .int x18)] dX10_corner_225 rfl rfl (by decide) rfl ?_
        refine gz_goto 228 103 hC dX10_corner_228 (by decide) ?_
        refine gz_sub [2, 3, 4, 5, 6, 7, 8, 9, 10, 1, 0] [(0, .ref a0), (1, .int a1), (2, .int a2), (3, .int x6), (4, .int x10), (5, .int ((x14 * x6) * x10)), (6, .int x16), (7, .int x17), (8, .int x18), (9, .int (x19 + (x36 * x40))), (10, .int (x20 + (1 : Int32)))] rfl ?_
        exact ih103 _ _ hF
      refine gz_icmp_ne 205 219 hC dX10_corner_205 (by decide) hF (fun hF => ?_) (fun hF => ?_)
      · skip
        refine gz_iload 219 hC 0 dX10_corner_219 rfl ?_
        refine gz_sub [1, 2, 3, 4, 5, 6, 7, 8, 9, 11] [(0, .ref a0), (1, .int a1), (2, .int a2), (3, .int x6), (4, .int x10), (5, .int ((x14 * x6) * x10)), (6, .int x16), (7, .int x17), (8, .int x18), (10, .int x20)] rfl ?_
        exact hj221 _ hF
      · skip
        refine gz_aload_n 208 hC 1 dX10_corner_208 rfl rfl ?_
        refine gz_getR 209 hC fl_X10_45 fk_10_12 dX10_corner_209 hF (fun x37 hF => ?_)
        refine gz_iload_n 212 hC 2 dX10_corner_212 rfl rfl ?_
        refine gz_aald 213 hC dX10_corner_213 hF (fun x38 hF => ?_)
        refine gz_iconst 214 hC (2 : Int32) dX10_corner_214 gz_k2 ?_
        refine gz_iald 215 hC dX10_corner_215 hF (fun x39 hF => ?_)
        refine gz_goto 216 221 hC dX10_corner_216 (by decide) ?_
        refine gz_sub [1, 2, 3, 4, 5, 6, 7, 8, 9, 11] [(0, .ref a0), (1, .int a1), (2, .int a2), (3, .int x6), (4, .int x10), (5, .int ((x14 * x6) * x10)), (6, .int x16), (7, .int x17), (8, .int x18), (10, .int x20)] rfl ?_
        exact hj221 _ hF
set_option maxHeartbeats 4000000 in
theorem w_X10_corner_90 {C : gz_C} {y : Int32 × gz_M} {fu : Nat} {M15 : gz_M} {a0 : Nat} {a1 : Int32} {x6 : Int32} {x10 : Int32} {x14 : Int32} {a2 : Int32} {j258 : Int32 → Int32 → Option (Int32 × gz_M)} (hC : gz_ok C cX10_corner RX10 12) (hX : gz_cx C 2 50 0 0 (some .int) (some (.int y.1)) y.2 "corner") (hj258 : ∀ (x44 : Int32) (x45 : Int32), j258 x44 x45 = some y → gz_go C 0 0 M15 [(0, .ref a0), (2, .int a2), (3, .int x6), (4, .int x10), (6, .int x44), (7, .int x45)] 258 []) : ∀ (n : Nat) (x16 : Int32) (x17 : Int32) (x18 : Int32), lp_X10_corner_90 j258 fu M15 a0 a1 x6 x10 x14 n x16 x17 x18 = some y → gz_go C 0 0 M15 [(0, .ref a0), (1, .int a1), (2, .int a2), (3, .int x6), (4, .int x10), (5, .int ((x14 * x6) * x10)), (6, .int x16), (7, .int x17), (8, .int x18)] 90 [] := by
  intro n
  induction n with
  | zero => intro x16 x17 x18 hF; exact nomatch (show (none : Option (Int32 × gz_M)) = some y from hF)
  | succ n90 ih90 =>
    intro x16 x17 x18 hF
    rw [lp_X10_corner_90.eq_2] at hF
    refine gz_iload 90 hC 8 dX10_corner_90 rfl ?_
    refine gz_iload 92 hC 5 dX10_corner_92 rfl ?_
    refine gz_icmp_ge 94 258 hC dX10_corner_94 (by decide) hF (fun hF => ?_) (fun hF => ?_)
    · skip
      refine gz_sub [0, 2, 3, 4, 6, 7] [(0, .ref a0), (2, .int a2), (3, .int x6), (4, .int x10), (6, .int x16), (7, .int x17)] rfl ?_
      exact hj258 _ _ hF
    · skip
      refine gz_iconst 97 hC (0 : Int32) dX10_corner_97 gz_k0 ?_
      refine gz_istore 98 hC [(9, .int (0 : Int32)), (0, .ref a0), (1, .int a1), (2, .int a2), (3, .int x6), (4, .int x10), (5, .int ((x14 * x6) * x10)), (6, .int x16), (7, .int x17), (8, .int x18)] dX10_corner_98 (by decide) rfl ?_
      refine gz_iconst 100 hC (0 : Int32) dX10_corner_100 gz_k0 ?_
      refine gz_istore 101 hC [(10, .int (0 : Int32)), (9, .int (0 : Int32)), (0, .ref a0), (1, .int a1), (2, .int a2), (3, .int x6), (4, .int x10), (5, .int ((x14 * x6) * x10)), (6, .int x16), (7, .int x17), (8, .int x18)] dX10_corner_101 (by decide) rfl ?_
      refine gz_sub [2, 3, 4, 5, 6, 7, 8, 9, 10, 1, 0] [(0, .ref a0), (1, .int a1), (2, .int a2), (3, .int x6), (4, .int x10), (5, .int ((x14 * x6) * x10)), (6, .int x16), (7, .int x17), (8, .int x18), (9, .int (0 : Int32)), (10, .int (0 : Int32))] rfl ?_
      refine w_X10_corner_103 hC hX ?_ _ _ _ hF
      intro x41 hF
      refine gz_iload 231 hC 6 dX10_corner_231 rfl ?_
      refine gz_iconst 233 hC (-1 : Int32) dX10_corner_233 gz_km1 ?_
      refine gz_join (fun (j : Int32 → Int32 → Option (Int32 × gz_M)) => ∀ (x42 : Int32) (x43 : Int32), j x42 x43 = some y → gz_go C 0 0 M15 [(0, .ref a0), (1, .int a1), (2, .int a2), (3, .int x6), (4, .int x10), (5, .int ((x14 * x6) * x10)), (6, .int x42), (7, .int x43), (8, .int x18)] 252 []) hF (fun x42 x43 hF => ?_) (fun j252 hj252 hF => ?_)
      · skip
        refine gz_iinc 252 hC (x18 + (1 : Int32)) 8 [(8, .int (x18 + (1 : Int32))), (0, .ref a0), (1, .int a1), (2, .int a2), (3, .int x6), (4, .int x10), (5, .int ((x14 * x6) * x10)), (6, .int x42), (7, .int x43)] dX10_corner_252 rfl rfl (by decide) rfl ?_
        refine gz_goto 255 90 hC dX10_corner_255 (by decide) ?_
        refine gz_sub [1, 2, 3, 4, 5, 6, 7, 8, 0] [(0, .ref a0), (1, .int a1), (2, .int a2), (3, .int x6), (4, .int x10), (5, .int ((x14 * x6) * x10)), (6, .int x42), (7, .int x43), (8, .int (x18 + (1 : Int32)))] rfl ?_
        exact ih90 _ _ _ hF
      refine gz_join (fun (j : Option (Int32 × gz_M)) => j = some y → gz_go C 0 0 M15 [(0, .ref a0), (1, .int a1), (2, .int a2), (3, .int x6), (4, .int x10), (5, .int ((x14 * x6) * x10)), (8, .int x18), (9, .int x41)] 244 []) hF (fun hF => ?_) (fun j244 hj244 hF => ?_)
      · skip
        refine gz_iload 244 hC 6 dX10_corner_244 rfl ?_
        refine gz_istore 246 hC [(6, .int x18), (0, .ref a0), (1, .int a1), (2, .int a2), (3, .int x6), (4, .int x10), (5, .int ((x14 * x6) * x10)), (8, .int x18), (9, .int x41)] dX10_corner_246 (by decide) rfl ?_
        refine gz_iload 248 hC 8 dX10_corner_248 rfl ?_
        refine gz_istore 250 hC [(7, .int x41), (6, .int x18), (0, .ref a0), (1, .int a1), (2, .int a2), (3, .int x6), (4, .int x10), (5, .int ((x14 * x6) * x10)), (8, .int x18), (9, .int x41)] dX10_corner_250 (by decide) rfl ?_
        refine gz_sub [2, 3, 4, 5, 6, 7, 1, 0, 8] [(0, .ref a0), (1, .int a1), (2, .int a2), (3, .int x6), (4, .int x10), (5, .int ((x14 * x6) * x10)), (6, .int x18), (7, .int x41), (8, .int x18)] rfl ?_
        exact hj252 _ _ hF
      refine gz_icmp_eq 234 244 hC dX10_corner_234 (by decide) hF (fun hF => ?_) (fun hF => ?_)
      · skip
        refine gz_sub [0, 1, 2, 3, 4, 5, 8, 9] [(0, .ref a0), (1, .int a1), (2, .int a2), (3, .int x6), (4, .int x10), (5, .int ((x14 * x6) * x10)), (8, .int x18), (9, .int x41)] rfl ?_
        exact hj244 hF
      · skip
        refine gz_iload 237 hC 9 dX10_corner_237 rfl ?_
        refine gz_iload 239 hC 7 dX10_corner_239 rfl ?_
        refine gz_icmp_ge 241 252 hC dX10_corner_241 (by decide) hF (fun hF => ?_) (fun hF => ?_)
        · skip
          refine gz_sub [0, 1, 2, 3, 4, 5, 6, 7, 8] [(0, .ref a0), (1, .int a1), (2, .int a2), (3, .int x6), (4, .int x10), (5, .int ((x14 * x6) * x10)), (6, .int x16), (7, .int x17), (8, .int x18)] rfl ?_
          exact hj252 _ _ hF
        · skip
          refine gz_sub [0, 1, 2, 3, 4, 5, 8, 9] [(0, .ref a0), (1, .int a1), (2, .int a2), (3, .int x6), (4, .int x10), (5, .int ((x14 * x6) * x10)), (8, .int x18), (9, .int x41)] rfl ?_
          exact hj244 hF
set_option maxHeartbeats 4000000 in
theorem ct_X10_corner (l : Launch) (G : gz_G) (fu : Nat) (M : gz_M) (a0 : Nat) (a1 : Int32) (a2 : Int32) (y : Int32 × gz_M) (hF : f_X10_corner fu M a0 a1 a2 = some y) : gz_ct l yX10_corner cX10_corner 12 (some .int) 2 50 0 0 G [.ref a0, .int a1, .int a2] M (some (.int y.1)) y.2 := by
  refine gz_ct.of (by decide) (Nat.le_of_ble_eq_true rfl) (fun C hC hX => ?_)
  unfold f_X10_corner at hF
  obtain ⟨-, hF⟩ := gz_gd_some hF
  show gz_go C 0 0 M [(0, .ref a0), (1, .int a1), (2, .int a2)] 0 []
  refine gz_aload_n 0 hC 0 dX10_corner_0 rfl rfl ?_
  refine gz_iload_n 1 hC 1 dX10_corner_1 rfl rfl ?_
  refine gz_cvP (st := []) 2 hC hX [.int a1] Value.int yl_X10_isValley yv_X10_isValley q_1217 ⟨Nat.le_of_ble_eq_true rfl, Nat.le_of_ble_eq_true rfl⟩ ⟨_, rfl⟩ (fun r h => ct_X10_isValley _ _ fu M a0 a1 r h) rfl rfl (Nat.le_of_ble_eq_true rfl) dX10_corner_2 gz_00 hF (fun x1 hF => ?_)
  refine gz_join (fun (j : Option (Int32 × gz_M)) => j = some y → gz_go C 0 0 M [(0, .ref a0)] 28 []) hF (fun hF => ?_) (fun j28 hj28 hF => ?_)
  · skip
    refine gz_aload_n 28 hC 0 dX10_corner_28 rfl rfl ?_
    refine gz_bipush 29 hC (-2 : Int32) dX10_corner_29 gz_bm2 ?_
    refine gz_cvM (st := []) 31 hC hX [.int (-2 : Int32)] Value.int yl_X10_refuse yv_X10_refuse q_1175 ⟨Nat.le_of_ble_eq_true rfl, Nat.le_of_ble_eq_true rfl⟩ ⟨_, rfl⟩ (fun r h => ct_X10_refuse _ _ fu M a0 (-2 : Int32) r h) rfl rfl (Nat.le_of_ble_eq_true rfl) dX10_corner_31 gz_00 hF (fun x55 M56 hF => ?_)
    exact gz_iretM 34 hC hX dX10_corner_34 hF
  refine gz_if_eq 5 28 hC dX10_corner_5 (by decide) hF (fun hF => ?_) (fun hF => ?_)
  · skip
    refine gz_sub [0] [(0, .ref a0)] rfl ?_
    exact hj28 hF
  · skip
    refine gz_iload_n 8 hC 2 dX10_corner_8 rfl rfl ?_
    refine gz_i2l 9 hC dX10_corner_9 ?_
    refine gz_lconst 10 hC (0 : Int64) dX10_corner_10 gz_l0 ?_
    refine gz_ldc2 11 hC dX10_corner_11 q_1173 ?_
    refine gz_csP (st := []) 14 hC hX [.long (a2).toInt64, .long (0 : Int64), .long (4 : Int64)] Value.int yl_X10_in yv_X10_in q_1170 ⟨Nat.le_of_ble_eq_true rfl, Nat.le_of_ble_eq_true rfl⟩ (fun r h => ct_X10_in _ _ fu M (a2).toInt64 (0 : Int64) (4 : Int64) r h) rfl rfl (Nat.le_of_ble_eq_true rfl) dX10_corner_14 gz_00 hF (fun x2 hF => ?_)
    refine gz_if_eq 17 28 hC dX10_corner_17 (by decide) hF (fun hF => ?_) (fun hF => ?_)
    · skip
      refine gz_sub [0] [(0, .ref a0)] rfl ?_
      exact hj28 hF
    · skip
      refine gz_aload_n 20 hC 0 dX10_corner_20 rfl rfl ?_
      refine gz_iload_n 21 hC 1 dX10_corner_21 rfl rfl ?_
      refine gz_cvP (st := []) 22 hC hX [.int a1] Value.int yl_X10_feetOf yv_X10_feetOf q_1221 ⟨Nat.le_of_ble_eq_true rfl, Nat.le_of_ble_eq_true rfl⟩ ⟨_, rfl⟩ (fun r h => ct_X10_feetOf _ _ fu M a0 a1 r h) rfl rfl (Nat.le_of_ble_eq_true rfl) dX10_corner_22 gz_00 hF (fun x3 hF => ?_)
      refine gz_if_ne 25 35 hC dX10_corner_25 (by decide) hF (fun hF => ?_) (fun hF => ?_)
      · skip
        refine gz_aload_n 35 hC 0 dX10_corner_35 rfl rfl ?_
        refine gz_iload_n 36 hC 1 dX10_corner_36 rfl rfl ?_
        refine gz_iconst 37 hC (1 : Int32) dX10_corner_37 gz_k1 ?_
        refine gz_aload_n 38 hC 0 dX10_corner_38 rfl rfl ?_
        refine gz_getR 39 hC fl_X10_67 fk_10_29 dX10_corner_39 hF (fun x4 hF => ?_)
        refine gz_iconst 42 hC (1 : Int32) dX10_corner_42 gz_k1 ?_
        refine gz_aald 43 hC dX10_corner_43 hF (fun x5 hF => ?_)
        refine gz_cvM (st := []) 44 hC hX [.int a1, .int (1 : Int32), .ref x5] Value.int yl_X10_measures yv_X10_measures q_1468 ⟨Nat.le_of_ble_eq_true rfl, Nat.le_of_ble_eq_true rfl⟩ ⟨_, rfl⟩ (fun r h => ct_X10_measures _ _ fu M a0 a1 (1 : Int32) x5 r h) rfl rfl (Nat.le_of_ble_eq_true rfl) dX10_corner_44 gz_00 hF (fun x6 M7 hF => ?_)
        refine gz_istore_n 47 hC [(3, .int x6), (0, .ref a0), (1, .int a1), (2, .int a2)] dX10_corner_47 rfl (by decide) rfl ?_
        refine gz_aload_n 48 hC 1 dX10_corner_48 rfl rfl ?_
        refine gz_iload_n 49 hC 2 dX10_corner_49 rfl rfl ?_
        refine gz_iconst 50 hC (2 : Int32) dX10_corner_50 gz_k2 ?_
        refine gz_aload_n 51 hC 1 dX10_corner_51 rfl rfl ?_
        refine gz_getR 52 hC fl_X10_67 fk_10_29 dX10_corner_52 hF (fun x8 hF => ?_)
        refine gz_iconst 55 hC (2 : Int32) dX10_corner_55 gz_k2 ?_
        refine gz_aald 56 hC dX10_corner_56 hF (fun x9 hF => ?_)
        refine gz_cvM (st := []) 57 hC hX [.int a1, .int (2 : Int32), .ref x9] Value.int yl_X10_measures yv_X10_measures q_1468 ⟨Nat.le_of_ble_eq_true rfl, Nat.le_of_ble_eq_true rfl⟩ ⟨_, rfl⟩ (fun r h => ct_X10_measures _ _ fu M7 a0 a1 (2 : Int32) x9 r h) rfl rfl (Nat.le_of_ble_eq_true rfl) dX10_corner_57 gz_00 hF (fun x10 M11 hF => ?_)
        refine gz_istore 60 hC [(4, .int x10), (3, .int x6), (0, .ref a0), (1, .int a1), (2, .int a2)] dX10_corner_60 (by decide) rfl ?_
        refine gz_aload_n 62 hC 2 dX10_corner_62 rfl rfl ?_
        refine gz_iload_n 63 hC 3 dX10_corner_63 rfl rfl ?_
        refine gz_iconst 64 hC (0 : Int32) dX10_corner_64 gz_k0 ?_
        refine gz_aload_n 65 hC 2 dX10_corner_65 rfl rfl ?_
        refine gz_getR 66 hC fl_X10_67 fk_10_29 dX10_corner_66 hF (fun x12 hF => ?_)
        refine gz_iconst 69 hC (0 : Int32) dX10_corner_69 gz_k0 ?_
        refine gz_aald 70 hC dX10_corner_70 hF (fun x13 hF => ?_)
        refine gz_cvM (st := []) 71 hC hX [.int a1, .int (0 : Int32), .ref x13] Value.int yl_X10_measures yv_X10_measures q_1468 ⟨Nat.le_of_ble_eq_true rfl, Nat.le_of_ble_eq_true rfl⟩ ⟨_, rfl⟩ (fun r h => ct_X10_measures _ _ fu M11 a0 a1 (0 : Int32) x13 r h) rfl rfl (Nat.le_of_ble_eq_true rfl) dX10_corner_71 gz_00 hF (fun x14 M15 hF => ?_)
        refine gz_iload_n 74 hC 1 dX10_corner_74 rfl rfl ?_
        refine gz_imul 75 hC dX10_corner_75 ?_
        refine gz_iload 76 hC 0 dX10_corner_76 rfl ?_
        refine gz_imul 78 hC dX10_corner_78 ?_
        refine gz_istore 79 hC [(5, .int ((x14 * x6) * x10)), (4, .int x10), (3, .int x6), (0, .ref a0), (1, .int a1), (2, .int a2)] dX10_corner_79 (by decide) rfl ?_
        refine gz_iconst 81 hC (-1 : Int32) dX10_corner_81 gz_km1 ?_
        refine gz_istore 82 hC [(6, .int (-1 : Int32)), (5, .int ((x14 * x6) * x10)), (4, .int x10), (3, .int x6), (0, .ref a0), (1, .int a1), (2, .int a2)] dX10_corner_82 (by decide) rfl ?_
        refine gz_iconst 84 hC (0 : Int32) dX10_corner_84 gz_k0 ?_
        refine gz_istore 85 hC [(7, .int (0 : Int32)), (6, .int (-1 : Int32)), (5, .int ((x14 * x6) * x10)), (4, .int x10), (3, .int x6), (0, .ref a0), (1, .int a1), (2, .int a2)] dX10_corner_85 (by decide) rfl ?_
        refine gz_iconst 87 hC (0 : Int32) dX10_corner_87 gz_k0 ?_
        refine gz_istore 88 hC [(8, .int (0 : Int32)), (7, .int (0 : Int32)), (6, .int (-1 : Int32)), (5, .int ((x14 * x6) * x10)), (4, .int x10), (3, .int x6), (0, .ref a0), (1, .int a1), (2, .int a2)] dX10_corner_88 (by decide) rfl ?_
        refine gz_sub [6, 7, 8, 5, 4, 3, 2, 1, 0] [(0, .ref a0), (1, .int a1), (2, .int a2), (3, .int x6), (4, .int x10), (5, .int ((x14 * x6) * x10)), (6, .int (-1 : Int32)), (7, .int (0 : Int32)), (8, .int (0 : Int32))] rfl ?_
        refine w_X10_corner_90 hC hX ?_ _ _ _ _ hF
        intro x44 x45 hF
        refine gz_iload_n 258 hC 1 dX10_corner_258 rfl rfl ?_
        refine gz_cse hF (fun e0 hF => ?_) (fun e0 hF => ?_)
        · skip
          refine gz_tin 259 288 hC (off := 29) dX10_corner_259 e0 (by decide) (by decide) (by decide) ?_
          refine gz_iload 288 hC 4 dX10_corner_288 rfl ?_
          exact gz_iretM 290 hC hX dX10_corner_290 hF
        refine gz_cse hF (fun e1 hF => ?_) (fun e1 hF => ?_)
        · skip
          refine gz_tin 259 291 hC (off := 32) dX10_corner_259 e1 (by decide) (by decide) (by decide) ?_
          refine gz_iload 291 hC 5 dX10_corner_291 rfl ?_
          exact gz_iretM 293 hC hX dX10_corner_293 hF
        refine gz_cse hF (fun e2 hF => ?_) (fun e2 hF => ?_)
        · skip
          refine gz_tin 259 294 hC (off := 35) dX10_corner_259 e2 (by decide) (by decide) (by decide) ?_
          refine gz_aload_n 294 hC 0 dX10_corner_294 rfl rfl ?_
          refine gz_getR 295 hC fl_X10_67 fk_10_29 dX10_corner_295 hF (fun x52 hF => ?_)
          refine gz_iconst 298 hC (0 : Int32) dX10_corner_298 gz_k0 ?_
          refine gz_aald 299 hC dX10_corner_299 hF (fun x53 hF => ?_)
          refine gz_iload 300 hC 4 dX10_corner_300 rfl ?_
          refine gz_iload 302 hC 3 dX10_corner_302 rfl ?_
          refine gz_idiv 304 hC dX10_corner_304 hF (fun hF => ?_)
          refine gz_iload_n 305 hC 2 dX10_corner_305 rfl rfl ?_
          refine gz_idiv 306 hC dX10_corner_306 hF (fun hF => ?_)
          refine gz_iald 307 hC dX10_corner_307 hF (fun x54 hF => ?_)
          exact gz_iretM 308 hC hX dX10_corner_308 hF
        refine gz_cse hF (fun e3 hF => ?_) (fun e3 hF => ?_)
        · skip
          refine gz_tin 259 309 hC (off := 50) dX10_corner_259 e3 (by decide) (by decide) (by decide) ?_
          refine gz_aload_n 309 hC 0 dX10_corner_309 rfl rfl ?_
          refine gz_getR 310 hC fl_X10_67 fk_10_29 dX10_corner_310 hF (fun x49 hF => ?_)
          refine gz_iconst 313 hC (1 : Int32) dX10_corner_313 gz_k1 ?_
          refine gz_aald 314 hC dX10_corner_314 hF (fun x50 hF => ?_)
          refine gz_iload 315 hC 4 dX10_corner_315 rfl ?_
          refine gz_iload 317 hC 3 dX10_corner_317 rfl ?_
          refine gz_idiv 319 hC dX10_corner_319 hF (fun hF => ?_)
          refine gz_iload_n 320 hC 2 dX10_corner_320 rfl rfl ?_
          refine gz_irem 321 hC dX10_corner_321 hF (fun hF => ?_)
          refine gz_iald 322 hC dX10_corner_322 hF (fun x51 hF => ?_)
          exact gz_iretM 323 hC hX dX10_corner_323 hF
        refine gz_tout 259 324 hC dX10_corner_259 (by have h0 := lv_neT (a := 0) e0 (by decide); have h1 := lv_neT (a := 1) e1 (by decide); have h2 := lv_neT (a := 2) e2 (by decide); have h3 := lv_neT (a := 3) e3 (by decide); omega) (by decide) ?_
        refine gz_aload_n 324 hC 0 dX10_corner_324 rfl rfl ?_
        refine gz_getR 325 hC fl_X10_67 fk_10_29 dX10_corner_325 hF (fun x46 hF => ?_)
        refine gz_iconst 328 hC (2 : Int32) dX10_corner_328 gz_k2 ?_
        refine gz_aald 329 hC dX10_corner_329 hF (fun x47 hF => ?_)
        refine gz_iload 330 hC 4 dX10_corner_330 rfl ?_
        refine gz_iload 332 hC 3 dX10_corner_332 rfl ?_
        refine gz_irem 334 hC dX10_corner_334 hF (fun hF => ?_)
        refine gz_iald 335 hC dX10_corner_335 hF (fun x48 hF => ?_)
        exact gz_iretM 336 hC hX dX10_corner_336 hF
      · skip
        refine gz_sub [0] [(0, .ref a0)] rfl ?_
        exact hj28 hF

theorem dX10_keeps_0 : decode cX10_keeps 0 = .ok (.aload_n 0, 1) := by decide +kernel
theorem dX10_keeps_1 : decode cX10_keeps 1 = .ok (.iload_n 1, 1) := by decide +kernel
theorem dX10_keeps_2 : decode cX10_keeps 2 = .ok (.iload_n 2, 1) := by decide +kernel
theorem dX10_keeps_3 : decode cX10_keeps 3 = .ok (.invokevirtual 125, 3) := by decide +kernel
theorem dX10_keeps_6 : decode cX10_keeps 6 = .ok (.ifCond .eq 15, 3) := by decide +kernel
theorem dX10_keeps_9 : decode cX10_keeps 9 = .ok (.iload_n 3, 1) := by decide +kernel
theorem dX10_keeps_10 : decode cX10_keeps 10 = .ok (.i2l, 1) := by decide +kernel
theorem dX10_keeps_11 : decode cX10_keeps 11 = .ok (.lconst 1, 1) := by decide +kernel
theorem dX10_keeps_12 : decode cX10_keeps 12 = .ok (.ldc2_w 106, 3) := by decide +kernel
theorem dX10_keeps_15 : decode cX10_keeps 15 = .ok (.invokestatic 73, 3) := by decide +kernel
theorem dX10_keeps_18 : decode cX10_keeps 18 = .ok (.ifCond .ne 10, 3) := by decide +kernel
theorem dX10_keeps_21 : decode cX10_keeps 21 = .ok (.aload_n 0, 1) := by decide +kernel
theorem dX10_keeps_22 : decode cX10_keeps 22 = .ok (.bipush (-2), 2) := by decide +kernel
theorem dX10_keeps_24 : decode cX10_keeps 24 = .ok (.invokevirtual 97, 3) := by decide +kernel
theorem dX10_keeps_27 : decode cX10_keeps 27 = .ok (.ireturn, 1) := by decide +kernel
theorem dX10_keeps_28 : decode cX10_keeps 28 = .ok (.iconst 0, 1) := by decide +kernel
theorem dX10_keeps_29 : decode cX10_keeps 29 = .ok (.istore 4, 2) := by decide +kernel
theorem dX10_keeps_31 : decode cX10_keeps 31 = .ok (.iconst 0, 1) := by decide +kernel
theorem dX10_keeps_32 : decode cX10_keeps 32 = .ok (.istore 5, 2) := by decide +kernel
theorem dX10_keeps_34 : decode cX10_keeps 34 = .ok (.iload 5, 2) := by decide +kernel
theorem dX10_keeps_36 : decode cX10_keeps 36 = .ok (.aload_n 0, 1) := by decide +kernel
theorem dX10_keeps_37 : decode cX10_keeps 37 = .ok (.iload_n 1, 1) := by decide +kernel
theorem dX10_keeps_38 : decode cX10_keeps 38 = .ok (.invokevirtual 85, 3) := by decide +kernel
theorem dX10_keeps_41 : decode cX10_keeps 41 = .ok (.if_icmp .ge 132, 3) := by decide +kernel
theorem dX10_keeps_44 : decode cX10_keeps 44 = .ok (.iconst 1, 1) := by decide +kernel
theorem dX10_keeps_45 : decode cX10_keeps 45 = .ok (.istore 6, 2) := by decide +kernel
theorem dX10_keeps_47 : decode cX10_keeps 47 = .ok (.iconst 0, 1) := by decide +kernel
theorem dX10_keeps_48 : decode cX10_keeps 48 = .ok (.istore 7, 2) := by decide +kernel
theorem dX10_keeps_50 : decode cX10_keeps 50 = .ok (.iload 7, 2) := by decide +kernel
theorem dX10_keeps_52 : decode cX10_keeps 52 = .ok (.iload_n 3, 1) := by decide +kernel
theorem dX10_keeps_53 : decode cX10_keeps 53 = .ok (.if_icmp .gt 96, 3) := by decide +kernel
theorem dX10_keeps_56 : decode cX10_keeps 56 = .ok (.iload 6, 2) := by decide +kernel
theorem dX10_keeps_58 : decode cX10_keeps 58 = .ok (.aload_n 0, 1) := by decide +kernel
theorem dX10_keeps_59 : decode cX10_keeps 59 = .ok (.iload_n 1, 1) := by decide +kernel
theorem dX10_keeps_60 : decode cX10_keeps 60 = .ok (.aload_n 0, 1) := by decide +kernel
theorem dX10_keeps_61 : decode cX10_keeps 61 = .ok (.iload_n 1, 1) := by decide +kernel
theorem dX10_keeps_62 : decode cX10_keeps 62 = .ok (.iload 5, 2) := by decide +kernel
theorem dX10_keeps_64 : decode cX10_keeps 64 = .ok (.iconst 0, 1) := by decide +kernel
theorem dX10_keeps_65 : decode cX10_keeps 65 = .ok (.invokevirtual 110, 3) := by decide +kernel
theorem dX10_keeps_68 : decode cX10_keeps 68 = .ok (.aload_n 0, 1) := by decide +kernel
theorem dX10_keeps_69 : decode cX10_keeps 69 = .ok (.iload_n 1, 1) := by decide +kernel
theorem dX10_keeps_70 : decode cX10_keeps 70 = .ok (.iload 5, 2) := by decide +kernel
theorem dX10_keeps_72 : decode cX10_keeps 72 = .ok (.iconst 1, 1) := by decide +kernel
theorem dX10_keeps_73 : decode cX10_keeps 73 = .ok (.invokevirtual 110, 3) := by decide +kernel
theorem dX10_keeps_76 : decode cX10_keeps 76 = .ok (.aload_n 0, 1) := by decide +kernel
theorem dX10_keeps_77 : decode cX10_keeps 77 = .ok (.iload_n 1, 1) := by decide +kernel
theorem dX10_keeps_78 : decode cX10_keeps 78 = .ok (.iload 5, 2) := by decide +kernel
theorem dX10_keeps_80 : decode cX10_keeps 80 = .ok (.iconst 2, 1) := by decide +kernel
theorem dX10_keeps_81 : decode cX10_keeps 81 = .ok (.invokevirtual 110, 3) := by decide +kernel
theorem dX10_keeps_84 : decode cX10_keeps 84 = .ok (.iload 7, 2) := by decide +kernel
theorem dX10_keeps_86 : decode cX10_keeps 86 = .ok (.ifCond .ne 13, 3) := by decide +kernel
theorem dX10_keeps_89 : decode cX10_keeps 89 = .ok (.aload_n 0, 1) := by decide +kernel
theorem dX10_keeps_90 : decode cX10_keeps 90 = .ok (.iload_n 1, 1) := by decide +kernel
theorem dX10_keeps_91 : decode cX10_keeps 91 = .ok (.iload_n 2, 1) := by decide +kernel
theorem dX10_keeps_92 : decode cX10_keeps 92 = .ok (.iconst 0, 1) := by decide +kernel
theorem dX10_keeps_93 : decode cX10_keeps 93 = .ok (.invokevirtual 114, 3) := by decide +kernel
theorem dX10_keeps_96 : decode cX10_keeps 96 = .ok (.goto 11, 3) := by decide +kernel
theorem dX10_keeps_99 : decode cX10_keeps 99 = .ok (.aload_n 0, 1) := by decide +kernel
theorem dX10_keeps_100 : decode cX10_keeps 100 = .ok (.iload_n 1, 1) := by decide +kernel
theorem dX10_keeps_101 : decode cX10_keeps 101 = .ok (.iload_n 2, 1) := by decide +kernel
theorem dX10_keeps_102 : decode cX10_keeps 102 = .ok (.iload 7, 2) := by decide +kernel
theorem dX10_keeps_104 : decode cX10_keeps 104 = .ok (.invokevirtual 227, 3) := by decide +kernel
theorem dX10_keeps_107 : decode cX10_keeps 107 = .ok (.aload_n 0, 1) := by decide +kernel
theorem dX10_keeps_108 : decode cX10_keeps 108 = .ok (.iload_n 1, 1) := by decide +kernel
theorem dX10_keeps_109 : decode cX10_keeps 109 = .ok (.iload_n 2, 1) := by decide +kernel
theorem dX10_keeps_110 : decode cX10_keeps 110 = .ok (.iconst 1, 1) := by decide +kernel
theorem dX10_keeps_111 : decode cX10_keeps 111 = .ok (.invokevirtual 114, 3) := by decide +kernel
theorem dX10_keeps_114 : decode cX10_keeps 114 = .ok (.aload_n 0, 1) := by decide +kernel
theorem dX10_keeps_115 : decode cX10_keeps 115 = .ok (.iload_n 1, 1) := by decide +kernel
theorem dX10_keeps_116 : decode cX10_keeps 116 = .ok (.iload_n 2, 1) := by decide +kernel
theorem dX10_keeps_117 : decode cX10_keeps 117 = .ok (.iconst 2, 1) := by decide +kernel
theorem dX10_keeps_118 : decode cX10_keeps 118 = .ok (.invokevirtual 114, 3) := by decide +kernel
theorem dX10_keeps_121 : decode cX10_keeps 121 = .ok (.aload_n 0, 1) := by decide +kernel
theorem dX10_keeps_122 : decode cX10_keeps 122 = .ok (.iload_n 1, 1) := by decide +kernel
theorem dX10_keeps_123 : decode cX10_keeps 123 = .ok (.iload_n 2, 1) := by decide +kernel
theorem dX10_keeps_124 : decode cX10_keeps 124 = .ok (.iconst 4, 1) := by decide +kernel
theorem dX10_keeps_125 : decode cX10_keeps 125 = .ok (.invokevirtual 114, 3) := by decide +kernel
theorem dX10_keeps_128 : decode cX10_keeps 128 = .ok (.invokevirtual 117, 3) := by decide +kernel
theorem dX10_keeps_131 : decode cX10_keeps 131 = .ok (.iconst (-1), 1) := by decide +kernel
theorem dX10_keeps_132 : decode cX10_keeps 132 = .ok (.if_icmp .eq 7, 3) := by decide +kernel
theorem dX10_keeps_135 : decode cX10_keeps 135 = .ok (.iconst 1, 1) := by decide +kernel
theorem dX10_keeps_136 : decode cX10_keeps 136 = .ok (.goto 4, 3) := by decide +kernel
theorem dX10_keeps_139 : decode cX10_keeps 139 = .ok (.iconst 0, 1) := by decide +kernel
theorem dX10_keeps_140 : decode cX10_keeps 140 = .ok (.iand, 1) := by decide +kernel
theorem dX10_keeps_141 : decode cX10_keeps 141 = .ok (.istore 6, 2) := by decide +kernel
theorem dX10_keeps_143 : decode cX10_keeps 143 = .ok (.iinc 7 1, 3) := by decide +kernel
theorem dX10_keeps_146 : decode cX10_keeps 146 = .ok (.goto (-96), 3) := by decide +kernel
theorem dX10_keeps_149 : decode cX10_keeps 149 = .ok (.iload 4, 2) := by decide +kernel
theorem dX10_keeps_151 : decode cX10_keeps 151 = .ok (.iload 6, 2) := by decide +kernel
theorem dX10_keeps_153 : decode cX10_keeps 153 = .ok (.ifCond .eq 10, 3) := by decide +kernel
theorem dX10_keeps_156 : decode cX10_keeps 156 = .ok (.iconst 1, 1) := by decide +kernel
theorem dX10_keeps_157 : decode cX10_keeps 157 = .ok (.iload 5, 2) := by decide +kernel
theorem dX10_keeps_159 : decode cX10_keeps 159 = .ok (.ishl, 1) := by decide +kernel
theorem dX10_keeps_160 : decode cX10_keeps 160 = .ok (.goto 4, 3) := by decide +kernel
theorem dX10_keeps_163 : decode cX10_keeps 163 = .ok (.iconst 0, 1) := by decide +kernel
theorem dX10_keeps_164 : decode cX10_keeps 164 = .ok (.ior, 1) := by decide +kernel
theorem dX10_keeps_165 : decode cX10_keeps 165 = .ok (.istore 4, 2) := by decide +kernel
theorem dX10_keeps_167 : decode cX10_keeps 167 = .ok (.iinc 5 1, 3) := by decide +kernel
theorem dX10_keeps_170 : decode cX10_keeps 170 = .ok (.goto (-136), 3) := by decide +kernel
theorem dX10_keeps_173 : decode cX10_keeps 173 = .ok (.iload 4, 2) := by decide +kernel
theorem dX10_keeps_175 : decode cX10_keeps 175 = .ok (.ireturn, 1) := by decide +kernel
def lp_X10_keeps_50 (j149 : Int32 → Option (Int32 × gz_M)) (fu : Nat) (M : gz_M) (a0 : Nat) (a1 : Int32) (a2 : Int32) (a3 : Int32) (x4 : Int32) : Nat → Int32 → Int32 → Option (Int32 × gz_M)
  | 0, _, _ => none
  | n50 + 1, x6, x7 =>
    if a3 < x7 then
      j149 x6
    else
      (f_X10_lastIs fu M a0 a1 x4 (0 : Int32)).bind fun x8 =>
      (f_X10_lastIs fu M a0 a1 x4 (1 : Int32)).bind fun x9 =>
      (f_X10_lastIs fu M a0 a1 x4 (2 : Int32)).bind fun x10 =>
      gz_jn (fun (x13 : Int32) =>
      (f_X10_of fu M a0 a1 a2 (1 : Int32)).bind fun x14 =>
        (f_X10_of fu M a0 a1 a2 (2 : Int32)).bind fun x15 =>
        (f_X10_of fu M a0 a1 a2 (4 : Int32)).bind fun x16 =>
        (f_X10_badBy fu M a0 a1 x8 x9 x10 x13 x14 x15 x16).bind fun x17 =>
        gz_jn (fun (x18 : Int32) =>
        lp_X10_keeps_50 j149 fu M a0 a1 a2 a3 x4 n50 (x6 &&& x18) (x7 + (1 : Int32))) fun j140 =>
        if x17 = (-1 : Int32) then
          j140 (0 : Int32)
        else
          j140 (1 : Int32)) fun j107 =>
      if x7 = 0 then
        (f_X10_of fu M a0 a1 a2 (0 : Int32)).bind fun x11 =>
        j107 x11
      else
        (f_X10_grown fu M a0 a1 a2 x7).bind fun x12 =>
        j107 x12
def lp_X10_keeps_34 (j173 : Int32 → Option (Int32 × gz_M)) (fu : Nat) (M : gz_M) (a0 : Nat) (a1 : Int32) (a2 : Int32) (a3 : Int32) : Nat → Int32 → Int32 → Option (Int32 × gz_M)
  | 0, _, _ => none
  | n34 + 1, x3, x4 =>
    (f_X10_lastsOf fu M a0 a1).bind fun x5 =>
    if x5 ≤ x4 then
      j173 x3
    else
      lp_X10_keeps_50 (fun (x19 : Int32) => gz_jn (fun (x20 : Int32) =>
        lp_X10_keeps_34 j173 fu M a0 a1 a2 a3 n34 (x3 ||| x20) (x4 + (1 : Int32))) fun j164 =>
        if x19 = 0 then
          j164 (0 : Int32)
        else
          j164 ((1 : Int32) <<< (x4 &&& 31))) fu M a0 a1 a2 a3 x4 fu (1 : Int32) (0 : Int32)
def f_X10_keeps (fu : Nat) (M : gz_M) (a0 : Nat) (a1 : Int32) (a2 : Int32) (a3 : Int32) : Option (Int32 × gz_M) :=
  gz_gd M 10 a0 <|
  (f_X10_isFoot fu M a0 a1 a2).bind fun x1 =>
  gz_jn (gz_b2 (f_X10_refuse fu M a0 (-2 : Int32)) fun x22 M23 =>
    some (x22, M23)) fun j21 =>
  if x1 = 0 then
    j21
  else
    (f_X10_in fu M (a3).toInt64 (1 : Int64) (9 : Int64)).bind fun x2 =>
    if x2 = 0 then
      j21
    else
      lp_X10_keeps_34 (fun (x21 : Int32) => some (x21, M)) fu M a0 a1 a2 a3 fu (0 : Int32) (0 : Int32)
set_option maxHeartbeats 4000000 in
theorem w_X10_keeps_50 {C : gz_C} {y : Int32 × gz_M} {fu : Nat} {M : gz_M} {a0 : Nat} {a1 : Int32} {a2 : Int32} {a3 : Int32} {x4 : Int32} {x3 : Int32} {j149 : Int32 → Option (Int32 × gz_M)} (hC : gz_ok C cX10_keeps RX10 8) (hX : gz_cx C 3 76 0 0 (some .int) (some (.int y.1)) y.2 "keeps") (hj149 : ∀ (x19 : Int32), j149 x19 = some y → gz_go C 0 0 M [(0, .ref a0), (1, .int a1), (2, .int a2), (3, .int a3), (4, .int x3), (5, .int x4), (6, .int x19)] 149 []) : ∀ (n : Nat) (x6 : Int32) (x7 : Int32), lp_X10_keeps_50 j149 fu M a0 a1 a2 a3 x4 n x6 x7 = some y → gz_go C 0 0 M [(0, .ref a0), (1, .int a1), (2, .int a2), (3, .int a3), (4, .int x3), (5, .int x4), (6, .int x6), (7, .int x7)] 50 [] := by
  intro n
  induction n with
  | zero => intro x6 x7 hF; exact nomatch (show (none : Option (Int32 × gz_M)) = some y from hF)
  | succ n50 ih50 =>
    intro x6 x7 hF
    rw [lp_X10_keeps_50.eq_2] at hF
    refine gz_iload 50 hC 7 dX10_keeps_50 rfl ?_
    refine gz_iload_n 52 hC 3 dX10_keeps_52 rfl rfl ?_
    refine gz_icmp_gt 53 149 hC dX10_keeps_53 (by decide) hF (fun hF => ?_) (fun hF => ?_)
    · skip
      refine gz_sub [0, 1, 2, 3, 4, 5, 6] [(0, .ref a0), (1, .int a1), (2, .int a2), (3, .int a3), (4, .int x3), (5, .int x4), (6, .int x6)] rfl ?_
      exact hj149 _ hF
    · skip
      refine gz_iload 56 hC 6 dX10_keeps_56 rfl ?_
      refine gz_aload_n 58 hC 0 dX10_keeps_58 rfl rfl ?_
      refine gz_iload_n 59 hC 1 dX10_keeps_59 rfl rfl ?_
      refine gz_aload_n 60 hC 0 dX10_keeps_60 rfl rfl ?_
      refine gz_iload_n 61 hC 1 dX10_keeps_61 rfl rfl ?_
      refine gz_iload 62 hC 5 dX10_keeps_62 rfl ?_
      refine gz_iconst 64 hC (0 : Int32) dX10_keeps_64 gz_k0 ?_
      refine gz_cvP (st := [.int a1, .ref a0, .int x6]) 65 hC hX [.int a1, .int x4, .int (0 : Int32)] Value.int yl_X10_lastIs yv_X10_lastIs q_1237 ⟨Nat.le_of_ble_eq_true rfl, Nat.le_of_ble_eq_true rfl⟩ ⟨_, rfl⟩ (fun r h => ct_X10_lastIs _ _ fu M a0 a1 x4 (0 : Int32) r h) rfl rfl (Nat.le_of_ble_eq_true rfl) dX10_keeps_65 gz_00 hF (fun x8 hF => ?_)
      refine gz_aload_n 68 hC 0 dX10_keeps_68 rfl rfl ?_
      refine gz_iload_n 69 hC 1 dX10_keeps_69 rfl rfl ?_
      refine gz_iload 70 hC 5 dX10_keeps_70 rfl ?_
      refine gz_iconst 72 hC (1 : Int32) dX10_keeps_72 gz_k1 ?_
      refine gz_cvP (st := [.int x8, .int a1, .ref a0, .int x6]) 73 hC hX [.int a1, .int x4, .int (1 : Int32)] Value.int yl_X10_lastIs yv_X10_lastIs q_1237 ⟨Nat.le_of_ble_eq_true rfl, Nat.le_of_ble_eq_true rfl⟩ ⟨_, rfl⟩ (fun r h => ct_X10_lastIs _ _ fu M a0 a1 x4 (1 : Int32) r h) rfl rfl (Nat.le_of_ble_eq_true rfl) dX10_keeps_73 gz_00 hF (fun x9 hF => ?_)
      refine gz_aload_n 76 hC 0 dX10_keeps_76 rfl rfl ?_
      refine gz_iload_n 77 hC 1 dX10_keeps_77 rfl rfl ?_
      refine gz_iload 78 hC 5 dX10_keeps_78 rfl ?_
      refine gz_iconst 80 hC (2 : Int32) dX10_keeps_80 gz_k2 ?_
      refine gz_cvP (st := [.int x9, .int x8, .int a1, .ref a0, .int x6]) 81 hC hX [.int a1, .int x4, .int (2 : Int32)] Value.int yl_X10_lastIs yv_X10_lastIs q_1237 ⟨Nat.le_of_ble_eq_true rfl, Nat.le_of_ble_eq_true rfl⟩ ⟨_, rfl⟩ (fun r h => ct_X10_lastIs _ _ fu M a0 a1 x4 (2 : Int32) r h) rfl rfl (Nat.le_of_ble_eq_true rfl) dX10_keeps_81 gz_00 hF (fun x10 hF => ?_)
      refine gz_iload 84 hC 7 dX10_keeps_84 rfl ?_
      refine gz_join (fun (j : Int32 → Option (Int32 × gz_M)) => ∀ (x13 : Int32), j x13 = some y → gz_go C 0 0 M [(0, .ref a0), (1, .int a1), (2, .int a2), (3, .int a3), (4, .int x3), (5, .int x4), (7, .int x7)] 107 [.int x13, .int x10, .int x9, .int x8, .int a1, .ref a0, .int x6]) hF (fun x13 hF => ?_) (fun j107 hj107 hF => ?_)
      · skip
        refine gz_aload_n 107 hC 0 dX10_keeps_107 rfl rfl ?_
        refine gz_iload_n 108 hC 1 dX10_keeps_108 rfl rfl ?_
        refine gz_iload_n 109 hC 2 dX10_keeps_109 rfl rfl ?_
        refine gz_iconst 110 hC (1 : Int32) dX10_keeps_110 gz_k1 ?_
        refine gz_cvP (st := [.int x13, .int x10, .int x9, .int x8, .int a1, .ref a0, .int x6]) 111 hC hX [.int a1, .int a2, .int (1 : Int32)] Value.int yl_X10_of yv_X10_of q_1241 ⟨Nat.le_of_ble_eq_true rfl, Nat.le_of_ble_eq_true rfl⟩ ⟨_, rfl⟩ (fun r h => ct_X10_of _ _ fu M a0 a1 a2 (1 : Int32) r h) rfl rfl (Nat.le_of_ble_eq_true rfl) dX10_keeps_111 gz_00 hF (fun x14 hF => ?_)
        refine gz_aload_n 114 hC 0 dX10_keeps_114 rfl rfl ?_
        refine gz_iload_n 115 hC 1 dX10_keeps_115 rfl rfl ?_
        refine gz_iload_n 116 hC 2 dX10_keeps_116 rfl rfl ?_
        refine gz_iconst 117 hC (2 : Int32) dX10_keeps_117 gz_k2 ?_
        refine gz_cvP (st := [.int x14, .int x13, .int x10, .int x9, .int x8, .int a1, .ref a0, .int x6]) 118 hC hX [.int a1, .int a2, .int (2 : Int32)] Value.int yl_X10_of yv_X10_of q_1241 ⟨Nat.le_of_ble_eq_true rfl, Nat.le_of_ble_eq_true rfl⟩ ⟨_, rfl⟩ (fun r h => ct_X10_of _ _ fu M a0 a1 a2 (2 : Int32) r h) rfl rfl (Nat.le_of_ble_eq_true rfl) dX10_keeps_118 gz_00 hF (fun x15 hF => ?_)
        refine gz_aload_n 121 hC 0 dX10_keeps_121 rfl rfl ?_
        refine gz_iload_n 122 hC 1 dX10_keeps_122 rfl rfl ?_
        refine gz_iload_n 123 hC 2 dX10_keeps_123 rfl rfl ?_
        refine gz_iconst 124 hC (4 : Int32) dX10_keeps_124 gz_k4 ?_
        refine gz_cvPD (st := [.int x15, .int x14, .int x13, .int x10, .int x9, .int x8, .int a1, .ref a0, .int x6]) 125 hC hX [.int a1, .int a2, .int (4 : Int32)] Value.int yl_X10_of yv_X10_of q_1241 ⟨Nat.le_of_ble_eq_true rfl, Nat.le_of_ble_eq_true rfl⟩ ⟨_, rfl⟩ (fun r h => ct_X10_of _ _ fu M a0 a1 a2 (4 : Int32) r h) rfl rfl (Nat.le_of_ble_eq_true rfl) dX10_keeps_125 gz_00 hF (fun x16 hF => ?_)
        refine gz_cvP (st := [.int x6]) 128 hC hX [.int a1, .int x8, .int x9, .int x10, .int x13, .int x14, .int x15, .int x16] Value.int yl_X10_badBy yv_X10_badBy q_1245 ⟨Nat.le_of_ble_eq_true rfl, Nat.le_of_ble_eq_true rfl⟩ ⟨_, rfl⟩ (fun r h => ct_X10_badBy _ _ fu M a0 a1 x8 x9 x10 x13 x14 x15 x16 r h) rfl rfl (Nat.le_of_ble_eq_true rfl) dX10_keeps_128 gz_00 hF (fun x17 hF => ?_)
        refine gz_iconst 131 hC (-1 : Int32) dX10_keeps_131 gz_km1 ?_
        refine gz_join (fun (j : Int32 → Option (Int32 × gz_M)) => ∀ (x18 : Int32), j x18 = some y → gz_go C 0 0 M [(0, .ref a0), (1, .int a1), (2, .int a2), (3, .int a3), (4, .int x3), (5, .int x4), (7, .int x7)] 140 [.int x18, .int x6]) hF (fun x18 hF => ?_) (fun j140 hj140 hF => ?_)
        · skip
          refine gz_iand 140 hC dX10_keeps_140 ?_
          refine gz_istore 141 hC [(6, .int (x6 &&& x18)), (0, .ref a0), (1, .int a1), (2, .int a2), (3, .int a3), (4, .int x3), (5, .int x4), (7, .int x7)] dX10_keeps_141 (by decide) rfl ?_
          refine gz_iinc 143 hC (x7 + (1 : Int32)) 7 [(7, .int (x7 + (1 : Int32))), (6, .int (x6 &&& x18)), (0, .ref a0), (1, .int a1), (2, .int a2), (3, .int a3), (4, .int x3), (5, .int x4)] dX10_keeps_143 rfl rfl (by decide) rfl ?_
          refine gz_goto 146 50 hC dX10_keeps_146 (by decide) ?_
          refine gz_sub [2, 3, 4, 5, 6, 7, 1, 0] [(0, .ref a0), (1, .int a1), (2, .int a2), (3, .int a3), (4, .int x3), (5, .int x4), (6, .int (x6 &&& x18)), (7, .int (x7 + (1 : Int32)))] rfl ?_
          exact ih50 _ _ hF
        refine gz_icmp_eq 132 139 hC dX10_keeps_132 (by decide) hF (fun hF => ?_) (fun hF => ?_)
        · skip
          refine gz_iconst 139 hC (0 : Int32) dX10_keeps_139 gz_k0 ?_
          exact hj140 _ hF
        · skip
          refine gz_iconst 135 hC (1 : Int32) dX10_keeps_135 gz_k1 ?_
          refine gz_goto 136 140 hC dX10_keeps_136 (by decide) ?_
          exact hj140 _ hF
      refine gz_if_ne 86 99 hC dX10_keeps_86 (by decide) hF (fun hF => ?_) (fun hF => ?_)
      · skip
        refine gz_aload_n 99 hC 0 dX10_keeps_99 rfl rfl ?_
        refine gz_iload_n 100 hC 1 dX10_keeps_100 rfl rfl ?_
        refine gz_iload_n 101 hC 2 dX10_keeps_101 rfl rfl ?_
        refine gz_iload 102 hC 7 dX10_keeps_102 rfl ?_
        refine gz_cvP (st := [.int x10, .int x9, .int x8, .int a1, .ref a0, .int x6]) 104 hC hX [.int a1, .int a2, .int x7] Value.int yl_X10_grown yv_X10_grown q_1359 ⟨Nat.le_of_ble_eq_true rfl, Nat.le_of_ble_eq_true rfl⟩ ⟨_, rfl⟩ (fun r h => ct_X10_grown _ _ fu M a0 a1 a2 x7 r h) rfl rfl (Nat.le_of_ble_eq_true rfl) dX10_keeps_104 gz_00 hF (fun x12 hF => ?_)
        refine gz_sub [0, 1, 2, 3, 4, 5, 7] [(0, .ref a0), (1, .int a1), (2, .int a2), (3, .int a3), (4, .int x3), (5, .int x4), (7, .int x7)] rfl ?_
        exact hj107 _ hF
      · skip
        refine gz_aload_n 89 hC 0 dX10_keeps_89 rfl rfl ?_
        refine gz_iload_n 90 hC 1 dX10_keeps_90 rfl rfl ?_
        refine gz_iload_n 91 hC 2 dX10_keeps_91 rfl rfl ?_
        refine gz_iconst 92 hC (0 : Int32) dX10_keeps_92 gz_k0 ?_
        refine gz_cvP (st := [.int x10, .int x9, .int x8, .int a1, .ref a0, .int x6]) 93 hC hX [.int a1, .int a2, .int (0 : Int32)] Value.int yl_X10_of yv_X10_of q_1241 ⟨Nat.le_of_ble_eq_true rfl, Nat.le_of_ble_eq_true rfl⟩ ⟨_, rfl⟩ (fun r h => ct_X10_of _ _ fu M a0 a1 a2 (0 : Int32) r h) rfl rfl (Nat.le_of_ble_eq_true rfl) dX10_keeps_93 gz_00 hF (fun x11 hF => ?_)
        refine gz_goto 96 107 hC dX10_keeps_96 (by decide) ?_
        refine gz_sub [0, 1, 2, 3, 4, 5, 7] [(0, .ref a0), (1, .int a1), (2, .int a2), (3, .int a3), (4, .int x3), (5, .int x4), (7, .int x7)] rfl ?_
        exact hj107 _ hF
set_option maxHeartbeats 4000000 in
theorem w_X10_keeps_34 {C : gz_C} {y : Int32 × gz_M} {fu : Nat} {M : gz_M} {a0 : Nat} {a1 : Int32} {a2 : Int32} {a3 : Int32} {j173 : Int32 → Option (Int32 × gz_M)} (hC : gz_ok C cX10_keeps RX10 8) (hX : gz_cx C 3 76 0 0 (some .int) (some (.int y.1)) y.2 "keeps") (hj173 : ∀ (x21 : Int32), j173 x21 = some y → gz_go C 0 0 M [(4, .int x21)] 173 []) : ∀ (n : Nat) (x3 : Int32) (x4 : Int32), lp_X10_keeps_34 j173 fu M a0 a1 a2 a3 n x3 x4 = some y → gz_go C 0 0 M [(0, .ref a0), (1, .int a1), (2, .int a2), (3, .int a3), (4, .int x3), (5, .int x4)] 34 [] := by
  intro n
  induction n with
  | zero => intro x3 x4 hF; exact nomatch (show (none : Option (Int32 × gz_M)) = some y from hF)
  | succ n34 ih34 =>
    intro x3 x4 hF
    rw [lp_X10_keeps_34.eq_2] at hF
    refine gz_iload 34 hC 5 dX10_keeps_34 rfl ?_
    refine gz_aload_n 36 hC 0 dX10_keeps_36 rfl rfl ?_
    refine gz_iload_n 37 hC 1 dX10_keeps_37 rfl rfl ?_
    refine gz_cvP (st := [.int x4]) 38 hC hX [.int a1] Value.int yl_X10_lastsOf yv_X10_lastsOf q_1229 ⟨Nat.le_of_ble_eq_true rfl, Nat.le_of_ble_eq_true rfl⟩ ⟨_, rfl⟩ (fun r h => ct_X10_lastsOf _ _ fu M a0 a1 r h) rfl rfl (Nat.le_of_ble_eq_true rfl) dX10_keeps_38 gz_00 hF (fun x5 hF => ?_)
    refine gz_icmp_ge 41 173 hC dX10_keeps_41 (by decide) hF (fun hF => ?_) (fun hF => ?_)
    · skip
      refine gz_sub [4] [(4, .int x3)] rfl ?_
      exact hj173 _ hF
    · skip
      refine gz_iconst 44 hC (1 : Int32) dX10_keeps_44 gz_k1 ?_
      refine gz_istore 45 hC [(6, .int (1 : Int32)), (0, .ref a0), (1, .int a1), (2, .int a2), (3, .int a3), (4, .int x3), (5, .int x4)] dX10_keeps_45 (by decide) rfl ?_
      refine gz_iconst 47 hC (0 : Int32) dX10_keeps_47 gz_k0 ?_
      refine gz_istore 48 hC [(7, .int (0 : Int32)), (6, .int (1 : Int32)), (0, .ref a0), (1, .int a1), (2, .int a2), (3, .int a3), (4, .int x3), (5, .int x4)] dX10_keeps_48 (by decide) rfl ?_
      refine gz_sub [2, 3, 4, 5, 6, 7, 1, 0] [(0, .ref a0), (1, .int a1), (2, .int a2), (3, .int a3), (4, .int x3), (5, .int x4), (6, .int (1 : Int32)), (7, .int (0 : Int32))] rfl ?_
      refine w_X10_keeps_50 hC hX ?_ _ _ _ hF
      intro x19 hF
      refine gz_iload 149 hC 4 dX10_keeps_149 rfl ?_
      refine gz_iload 151 hC 6 dX10_keeps_151 rfl ?_
      refine gz_join (fun (j : Int32 → Option (Int32 × gz_M)) => ∀ (x20 : Int32), j x20 = some y → gz_go C 0 0 M [(0, .ref a0), (1, .int a1), (2, .int a2), (3, .int a3), (5, .int x4)] 164 [.int x20, .int x3]) hF (fun x20 hF => ?_) (fun j164 hj164 hF => ?_)
      · skip
        refine gz_ior 164 hC dX10_keeps_164 ?_
        refine gz_istore 165 hC [(4, .int (x3 ||| x20)), (0, .ref a0), (1, .int a1), (2, .int a2), (3, .int a3), (5, .int x4)] dX10_keeps_165 (by decide) rfl ?_
        refine gz_iinc 167 hC (x4 + (1 : Int32)) 5 [(5, .int (x4 + (1 : Int32))), (4, .int (x3 ||| x20)), (0, .ref a0), (1, .int a1), (2, .int a2), (3, .int a3)] dX10_keeps_167 rfl rfl (by decide) rfl ?_
        refine gz_goto 170 34 hC dX10_keeps_170 (by decide) ?_
        refine gz_sub [2, 3, 4, 5, 1, 0] [(0, .ref a0), (1, .int a1), (2, .int a2), (3, .int a3), (4, .int (x3 ||| x20)), (5, .int (x4 + (1 : Int32)))] rfl ?_
        exact ih34 _ _ hF
      refine gz_if_eq 153 163 hC dX10_keeps_153 (by decide) hF (fun hF => ?_) (fun hF => ?_)
      · skip
        refine gz_iconst 163 hC (0 : Int32) dX10_keeps_163 gz_k0 ?_
        refine gz_sub [0, 1, 2, 3, 5] [(0, .ref a0), (1, .int a1), (2, .int a2), (3, .int a3), (5, .int x4)] rfl ?_
        exact hj164 _ hF
      · skip
        refine gz_iconst 156 hC (1 : Int32) dX10_keeps_156 gz_k1 ?_
        refine gz_iload 157 hC 5 dX10_keeps_157 rfl ?_
        refine gz_ishl 159 hC dX10_keeps_159 ?_
        refine gz_goto 160 164 hC dX10_keeps_160 (by decide) ?_
        refine gz_sub [0, 1, 2, 3, 5] [(0, .ref a0), (1, .int a1), (2, .int a2), (3, .int a3), (5, .int x4)] rfl ?_
        exact hj164 _ hF
set_option maxHeartbeats 4000000 in
theorem ct_X10_keeps (l : Launch) (G : gz_G) (fu : Nat) (M : gz_M) (a0 : Nat) (a1 : Int32) (a2 : Int32) (a3 : Int32) (y : Int32 × gz_M) (hF : f_X10_keeps fu M a0 a1 a2 a3 = some y) : gz_ct l yX10_keeps cX10_keeps 8 (some .int) 3 76 0 0 G [.ref a0, .int a1, .int a2, .int a3] M (some (.int y.1)) y.2 := by
  refine gz_ct.of (by decide) (Nat.le_of_ble_eq_true rfl) (fun C hC hX => ?_)
  unfold f_X10_keeps at hF
  obtain ⟨-, hF⟩ := gz_gd_some hF
  show gz_go C 0 0 M [(0, .ref a0), (1, .int a1), (2, .int a2), (3, .int a3)] 0 []
  refine gz_aload_n 0 hC 0 dX10_keeps_0 rfl rfl ?_
  refine gz_iload_n 1 hC 1 dX10_keeps_1 rfl rfl ?_
  refine gz_iload_n 2 hC 2 dX10_keeps_2 rfl rfl ?_
  refine gz_cvP (st := []) 3 hC hX [.int a1, .int a2] Value.int yl_X10_isFoot yv_X10_isFoot q_1213 ⟨Nat.le_of_ble_eq_true rfl, Nat.le_of_ble_eq_true rfl⟩ ⟨_, rfl⟩ (fun r h => ct_X10_isFoot _ _ fu M a0 a1 a2 r h) rfl rfl (Nat.le_of_ble_eq_true rfl) dX10_keeps_3 gz_00 hF (fun x1 hF => ?_)
  refine gz_join (fun (j : Option (Int32 × gz_M)) => j = some y → gz_go C 0 0 M [(0, .ref a0)] 21 []) hF (fun hF => ?_) (fun j21 hj21 hF => ?_)
  · skip
    refine gz_aload_n 21 hC 0 dX10_keeps_21 rfl rfl ?_
    refine gz_bipush 22 hC (-2 : Int32) dX10_keeps_22 gz_bm2 ?_
    refine gz_cvM (st := []) 24 hC hX [.int (-2 : Int32)] Value.int yl_X10_refuse yv_X10_refuse q_1175 ⟨Nat.le_of_ble_eq_true rfl, Nat.le_of_ble_eq_true rfl⟩ ⟨_, rfl⟩ (fun r h => ct_X10_refuse _ _ fu M a0 (-2 : Int32) r h) rfl rfl (Nat.le_of_ble_eq_true rfl) dX10_keeps_24 gz_00 hF (fun x22 M23 hF => ?_)
    exact gz_iretM 27 hC hX dX10_keeps_27 hF
  refine gz_if_eq 6 21 hC dX10_keeps_6 (by decide) hF (fun hF => ?_) (fun hF => ?_)
  · skip
    refine gz_sub [0] [(0, .ref a0)] rfl ?_
    exact hj21 hF
  · skip
    refine gz_iload_n 9 hC 3 dX10_keeps_9 rfl rfl ?_
    refine gz_i2l 10 hC dX10_keeps_10 ?_
    refine gz_lconst 11 hC (1 : Int64) dX10_keeps_11 gz_l1 ?_
    refine gz_ldc2 12 hC dX10_keeps_12 q_1203 ?_
    refine gz_csP (st := []) 15 hC hX [.long (a3).toInt64, .long (1 : Int64), .long (9 : Int64)] Value.int yl_X10_in yv_X10_in q_1170 ⟨Nat.le_of_ble_eq_true rfl, Nat.le_of_ble_eq_true rfl⟩ (fun r h => ct_X10_in _ _ fu M (a3).toInt64 (1 : Int64) (9 : Int64) r h) rfl rfl (Nat.le_of_ble_eq_true rfl) dX10_keeps_15 gz_00 hF (fun x2 hF => ?_)
    refine gz_if_ne 18 28 hC dX10_keeps_18 (by decide) hF (fun hF => ?_) (fun hF => ?_)
    · skip
      refine gz_iconst 28 hC (0 : Int32) dX10_keeps_28 gz_k0 ?_
      refine gz_istore 29 hC [(4, .int (0 : Int32)), (0, .ref a0), (1, .int a1), (2, .int a2), (3, .int a3)] dX10_keeps_29 (by decide) rfl ?_
      refine gz_iconst 31 hC (0 : Int32) dX10_keeps_31 gz_k0 ?_
      refine gz_istore 32 hC [(5, .int (0 : Int32)), (4, .int (0 : Int32)), (0, .ref a0), (1, .int a1), (2, .int a2), (3, .int a3)] dX10_keeps_32 (by decide) rfl ?_
      refine gz_sub [2, 3, 4, 5, 1, 0] [(0, .ref a0), (1, .int a1), (2, .int a2), (3, .int a3), (4, .int (0 : Int32)), (5, .int (0 : Int32))] rfl ?_
      refine w_X10_keeps_34 hC hX ?_ _ _ _ hF
      intro x21 hF
      refine gz_iload 173 hC 0 dX10_keeps_173 rfl ?_
      exact gz_iretM 175 hC hX dX10_keeps_175 hF
    · skip
      refine gz_sub [0] [(0, .ref a0)] rfl ?_
      exact hj21 hF

theorem dX10_lentOf_0 : decode cX10_lentOf 0 = .ok (.iconst (-1), 1) := by decide +kernel
theorem dX10_lentOf_1 : decode cX10_lentOf 1 = .ok (.istore 6, 2) := by decide +kernel
theorem dX10_lentOf_3 : decode cX10_lentOf 3 = .ok (.iconst 0, 1) := by decide +kernel
theorem dX10_lentOf_4 : decode cX10_lentOf 4 = .ok (.istore 7, 2) := by decide +kernel
theorem dX10_lentOf_6 : decode cX10_lentOf 6 = .ok (.iload 7, 2) := by decide +kernel
theorem dX10_lentOf_8 : decode cX10_lentOf 8 = .ok (.aload_n 0, 1) := by decide +kernel
theorem dX10_lentOf_9 : decode cX10_lentOf 9 = .ok (.iload_n 1, 1) := by decide +kernel
theorem dX10_lentOf_10 : decode cX10_lentOf 10 = .ok (.invokevirtual 85, 3) := by decide +kernel
theorem dX10_lentOf_13 : decode cX10_lentOf 13 = .ok (.if_icmp .ge 61, 3) := by decide +kernel
theorem dX10_lentOf_16 : decode cX10_lentOf 16 = .ok (.iload_n 3, 1) := by decide +kernel
theorem dX10_lentOf_17 : decode cX10_lentOf 17 = .ok (.iload 7, 2) := by decide +kernel
theorem dX10_lentOf_19 : decode cX10_lentOf 19 = .ok (.ishr, 1) := by decide +kernel
theorem dX10_lentOf_20 : decode cX10_lentOf 20 = .ok (.iconst 1, 1) := by decide +kernel
theorem dX10_lentOf_21 : decode cX10_lentOf 21 = .ok (.iand, 1) := by decide +kernel
theorem dX10_lentOf_22 : decode cX10_lentOf 22 = .ok (.ifCond .eq 15, 3) := by decide +kernel
theorem dX10_lentOf_25 : decode cX10_lentOf 25 = .ok (.aload_n 0, 1) := by decide +kernel
theorem dX10_lentOf_26 : decode cX10_lentOf 26 = .ok (.iload_n 1, 1) := by decide +kernel
theorem dX10_lentOf_27 : decode cX10_lentOf 27 = .ok (.iload 7, 2) := by decide +kernel
theorem dX10_lentOf_29 : decode cX10_lentOf 29 = .ok (.iload_n 1, 1) := by decide +kernel
theorem dX10_lentOf_30 : decode cX10_lentOf 30 = .ok (.iload_n 2, 1) := by decide +kernel
theorem dX10_lentOf_31 : decode cX10_lentOf 31 = .ok (.invokevirtual 121, 3) := by decide +kernel
theorem dX10_lentOf_34 : decode cX10_lentOf 34 = .ok (.goto 4, 3) := by decide +kernel
theorem dX10_lentOf_37 : decode cX10_lentOf 37 = .ok (.iconst (-1), 1) := by decide +kernel
theorem dX10_lentOf_38 : decode cX10_lentOf 38 = .ok (.istore 8, 2) := by decide +kernel
theorem dX10_lentOf_40 : decode cX10_lentOf 40 = .ok (.iload 8, 2) := by decide +kernel
theorem dX10_lentOf_42 : decode cX10_lentOf 42 = .ok (.iconst (-1), 1) := by decide +kernel
theorem dX10_lentOf_43 : decode cX10_lentOf 43 = .ok (.if_icmp .eq 21, 3) := by decide +kernel
theorem dX10_lentOf_46 : decode cX10_lentOf 46 = .ok (.iload 6, 2) := by decide +kernel
theorem dX10_lentOf_48 : decode cX10_lentOf 48 = .ok (.iconst (-1), 1) := by decide +kernel
theorem dX10_lentOf_49 : decode cX10_lentOf 49 = .ok (.if_icmp .eq 10, 3) := by decide +kernel
theorem dX10_lentOf_52 : decode cX10_lentOf 52 = .ok (.iload 8, 2) := by decide +kernel
theorem dX10_lentOf_54 : decode cX10_lentOf 54 = .ok (.iload 6, 2) := by decide +kernel
theorem dX10_lentOf_56 : decode cX10_lentOf 56 = .ok (.if_icmp .ge 8, 3) := by decide +kernel
theorem dX10_lentOf_59 : decode cX10_lentOf 59 = .ok (.iload 8, 2) := by decide +kernel
theorem dX10_lentOf_61 : decode cX10_lentOf 61 = .ok (.goto 5, 3) := by decide +kernel
theorem dX10_lentOf_64 : decode cX10_lentOf 64 = .ok (.iload 6, 2) := by decide +kernel
theorem dX10_lentOf_66 : decode cX10_lentOf 66 = .ok (.istore 6, 2) := by decide +kernel
theorem dX10_lentOf_68 : decode cX10_lentOf 68 = .ok (.iinc 7 1, 3) := by decide +kernel
theorem dX10_lentOf_71 : decode cX10_lentOf 71 = .ok (.goto (-65), 3) := by decide +kernel
theorem dX10_lentOf_74 : decode cX10_lentOf 74 = .ok (.iconst 0, 1) := by decide +kernel
theorem dX10_lentOf_75 : decode cX10_lentOf 75 = .ok (.istore 7, 2) := by decide +kernel
theorem dX10_lentOf_77 : decode cX10_lentOf 77 = .ok (.iload 7, 2) := by decide +kernel
theorem dX10_lentOf_79 : decode cX10_lentOf 79 = .ok (.aload_n 0, 1) := by decide +kernel
theorem dX10_lentOf_80 : decode cX10_lentOf 80 = .ok (.iload 4, 2) := by decide +kernel
theorem dX10_lentOf_82 : decode cX10_lentOf 82 = .ok (.invokevirtual 85, 3) := by decide +kernel
theorem dX10_lentOf_85 : decode cX10_lentOf 85 = .ok (.if_icmp .ge 63, 3) := by decide +kernel
theorem dX10_lentOf_88 : decode cX10_lentOf 88 = .ok (.iload 5, 2) := by decide +kernel
theorem dX10_lentOf_90 : decode cX10_lentOf 90 = .ok (.iload 7, 2) := by decide +kernel
theorem dX10_lentOf_92 : decode cX10_lentOf 92 = .ok (.ishr, 1) := by decide +kernel
theorem dX10_lentOf_93 : decode cX10_lentOf 93 = .ok (.iconst 1, 1) := by decide +kernel
theorem dX10_lentOf_94 : decode cX10_lentOf 94 = .ok (.iand, 1) := by decide +kernel
theorem dX10_lentOf_95 : decode cX10_lentOf 95 = .ok (.ifCond .eq 16, 3) := by decide +kernel
theorem dX10_lentOf_98 : decode cX10_lentOf 98 = .ok (.aload_n 0, 1) := by decide +kernel
theorem dX10_lentOf_99 : decode cX10_lentOf 99 = .ok (.iload 4, 2) := by decide +kernel
theorem dX10_lentOf_101 : decode cX10_lentOf 101 = .ok (.iload 7, 2) := by decide +kernel
theorem dX10_lentOf_103 : decode cX10_lentOf 103 = .ok (.iload_n 1, 1) := by decide +kernel
theorem dX10_lentOf_104 : decode cX10_lentOf 104 = .ok (.iload_n 2, 1) := by decide +kernel
theorem dX10_lentOf_105 : decode cX10_lentOf 105 = .ok (.invokevirtual 121, 3) := by decide +kernel
theorem dX10_lentOf_108 : decode cX10_lentOf 108 = .ok (.goto 4, 3) := by decide +kernel
theorem dX10_lentOf_111 : decode cX10_lentOf 111 = .ok (.iconst (-1), 1) := by decide +kernel
theorem dX10_lentOf_112 : decode cX10_lentOf 112 = .ok (.istore 8, 2) := by decide +kernel
theorem dX10_lentOf_114 : decode cX10_lentOf 114 = .ok (.iload 8, 2) := by decide +kernel
theorem dX10_lentOf_116 : decode cX10_lentOf 116 = .ok (.iconst (-1), 1) := by decide +kernel
theorem dX10_lentOf_117 : decode cX10_lentOf 117 = .ok (.if_icmp .eq 21, 3) := by decide +kernel
theorem dX10_lentOf_120 : decode cX10_lentOf 120 = .ok (.iload 6, 2) := by decide +kernel
theorem dX10_lentOf_122 : decode cX10_lentOf 122 = .ok (.iconst (-1), 1) := by decide +kernel
theorem dX10_lentOf_123 : decode cX10_lentOf 123 = .ok (.if_icmp .eq 10, 3) := by decide +kernel
theorem dX10_lentOf_126 : decode cX10_lentOf 126 = .ok (.iload 8, 2) := by decide +kernel
theorem dX10_lentOf_128 : decode cX10_lentOf 128 = .ok (.iload 6, 2) := by decide +kernel
theorem dX10_lentOf_130 : decode cX10_lentOf 130 = .ok (.if_icmp .ge 8, 3) := by decide +kernel
theorem dX10_lentOf_133 : decode cX10_lentOf 133 = .ok (.iload 8, 2) := by decide +kernel
theorem dX10_lentOf_135 : decode cX10_lentOf 135 = .ok (.goto 5, 3) := by decide +kernel
theorem dX10_lentOf_138 : decode cX10_lentOf 138 = .ok (.iload 6, 2) := by decide +kernel
theorem dX10_lentOf_140 : decode cX10_lentOf 140 = .ok (.istore 6, 2) := by decide +kernel
theorem dX10_lentOf_142 : decode cX10_lentOf 142 = .ok (.iinc 7 1, 3) := by decide +kernel
theorem dX10_lentOf_145 : decode cX10_lentOf 145 = .ok (.goto (-68), 3) := by decide +kernel
theorem dX10_lentOf_148 : decode cX10_lentOf 148 = .ok (.iload 6, 2) := by decide +kernel
theorem dX10_lentOf_150 : decode cX10_lentOf 150 = .ok (.ireturn, 1) := by decide +kernel
def lp_X10_lentOf_6 (j74 : Int32 → Option (Int32)) (fu : Nat) (M : gz_M) (a0 : Nat) (a1 : Int32) (a2 : Int32) (a3 : Int32) : Nat → Int32 → Int32 → Option (Int32)
  | 0, _, _ => none
  | n6 + 1, x1, x2 =>
    (f_X10_lastsOf fu M a0 a1).bind fun x3 =>
    if x3 ≤ x2 then
      j74 x1
    else
      gz_jn (fun (x5 : Int32) =>
      gz_jn (fun (x6 : Int32) =>
        lp_X10_lentOf_6 j74 fu M a0 a1 a2 a3 n6 x6 (x2 + (1 : Int32))) fun j66 =>
        gz_jn (j66 x1) fun j64 =>
        if x5 = (-1 : Int32) then
          j64
        else
          gz_jn (j66 x5) fun j59 =>
          if x1 = (-1 : Int32) then
            j59
          else
            if x1 ≤ x5 then
              j64
            else
              j59) fun j38 =>
      if ((a3 >>> (x2 &&& 31)) &&& (1 : Int32)) = 0 then
        j38 (-1 : Int32)
      else
        (f_X10_badOf fu M a0 a1 x2 a1 a2).bind fun x4 =>
        j38 x4
def lp_X10_lentOf_77 (j148 : Int32 → Option (Int32)) (fu : Nat) (M : gz_M) (a0 : Nat) (a1 : Int32) (a2 : Int32) (a4 : Int32) (a5 : Int32) : Nat → Int32 → Int32 → Option (Int32)
  | 0, _, _ => none
  | n77 + 1, x8, x9 =>
    (f_X10_lastsOf fu M a0 a4).bind fun x10 =>
    if x10 ≤ x9 then
      j148 x8
    else
      gz_jn (fun (x12 : Int32) =>
      gz_jn (fun (x13 : Int32) =>
        lp_X10_lentOf_77 j148 fu M a0 a1 a2 a4 a5 n77 x13 (x9 + (1 : Int32))) fun j140 =>
        gz_jn (j140 x8) fun j138 =>
        if x12 = (-1 : Int32) then
          j138
        else
          gz_jn (j140 x12) fun j133 =>
          if x8 = (-1 : Int32) then
            j133
          else
            if x8 ≤ x12 then
              j138
            else
              j133) fun j112 =>
      if ((a5 >>> (x9 &&& 31)) &&& (1 : Int32)) = 0 then
        j112 (-1 : Int32)
      else
        (f_X10_badOf fu M a0 a4 x9 a1 a2).bind fun x11 =>
        j112 x11
def f_X10_lentOf (fu : Nat) (M : gz_M) (a0 : Nat) (a1 : Int32) (a2 : Int32) (a3 : Int32) (a4 : Int32) (a5 : Int32) : Option (Int32) :=
  gz_gd M 10 a0 <|
  lp_X10_lentOf_6 (fun (x7 : Int32) => lp_X10_lentOf_77 (fun (x14 : Int32) => some x14) fu M a0 a1 a2 a4 a5 fu x7 (0 : Int32)) fu M a0 a1 a2 a3 fu (-1 : Int32) (0 : Int32)
set_option maxHeartbeats 4000000 in
theorem w_X10_lentOf_6 {C : gz_C} {y : Int32} {fu : Nat} {M : gz_M} {a0 : Nat} {a1 : Int32} {a2 : Int32} {a3 : Int32} {a4 : Int32} {a5 : Int32} {j74 : Int32 → Option (Int32)} (hC : gz_ok C cX10_lentOf RX10 9) (hX : gz_cx C 2 56 0 0 (some .int) (some (.int y)) M "lentOf") (hj74 : ∀ (x7 : Int32), j74 x7 = some y → gz_go C 0 0 M [(0, .ref a0), (1, .int a1), (2, .int a2), (4, .int a4), (5, .int a5), (6, .int x7)] 74 []) : ∀ (n : Nat) (x1 : Int32) (x2 : Int32), lp_X10_lentOf_6 j74 fu M a0 a1 a2 a3 n x1 x2 = some y → gz_go C 0 0 M [(0, .ref a0), (1, .int a1), (2, .int a2), (3, .int a3), (4, .int a4), (5, .int a5), (6, .int x1), (7, .int x2)] 6 [] := by
  intro n
  induction n with
  | zero => intro x1 x2 hF; exact nomatch (show (none : Option (Int32)) = some y from hF)
  | succ n6 ih6 =>
    intro x1 x2 hF
    rw [lp_X10_lentOf_6.eq_2] at hF
    refine gz_iload 6 hC 7 dX10_lentOf_6 rfl ?_
    refine gz_aload_n 8 hC 0 dX10_lentOf_8 rfl rfl ?_
    refine gz_iload_n 9 hC 1 dX10_lentOf_9 rfl rfl ?_
    refine gz_cvP (st := [.int x2]) 10 hC hX [.int a1] Value.int yl_X10_lastsOf yv_X10_lastsOf q_1229 ⟨Nat.le_of_ble_eq_true rfl, Nat.le_of_ble_eq_true rfl⟩ ⟨_, rfl⟩ (fun r h => ct_X10_lastsOf _ _ fu M a0 a1 r h) rfl rfl (Nat.le_of_ble_eq_true rfl) dX10_lentOf_10 gz_00 hF (fun x3 hF => ?_)
    refine gz_icmp_ge 13 74 hC dX10_lentOf_13 (by decide) hF (fun hF => ?_) (fun hF => ?_)
    · skip
      refine gz_sub [0, 1, 2, 4, 5, 6] [(0, .ref a0), (1, .int a1), (2, .int a2), (4, .int a4), (5, .int a5), (6, .int x1)] rfl ?_
      exact hj74 _ hF
    · skip
      refine gz_iload_n 16 hC 3 dX10_lentOf_16 rfl rfl ?_
      refine gz_iload 17 hC 7 dX10_lentOf_17 rfl ?_
      refine gz_ishr 19 hC dX10_lentOf_19 ?_
      refine gz_iconst 20 hC (1 : Int32) dX10_lentOf_20 gz_k1 ?_
      refine gz_iand 21 hC dX10_lentOf_21 ?_
      refine gz_join (fun (j : Int32 → Option (Int32)) => ∀ (x5 : Int32), j x5 = some y → gz_go C 0 0 M [(0, .ref a0), (1, .int a1), (2, .int a2), (3, .int a3), (4, .int a4), (5, .int a5), (6, .int x1), (7, .int x2)] 38 [.int x5]) hF (fun x5 hF => ?_) (fun j38 hj38 hF => ?_)
      · skip
        refine gz_istore 38 hC [(8, .int x5), (0, .ref a0), (1, .int a1), (2, .int a2), (3, .int a3), (4, .int a4), (5, .int a5), (6, .int x1), (7, .int x2)] dX10_lentOf_38 (by decide) rfl ?_
        refine gz_iload 40 hC 0 dX10_lentOf_40 rfl ?_
        refine gz_iconst 42 hC (-1 : Int32) dX10_lentOf_42 gz_km1 ?_
        refine gz_join (fun (j : Int32 → Option (Int32)) => ∀ (x6 : Int32), j x6 = some y → gz_go C 0 0 M [(0, .ref a0), (1, .int a1), (2, .int a2), (3, .int a3), (4, .int a4), (5, .int a5), (7, .int x2)] 66 [.int x6]) hF (fun x6 hF => ?_) (fun j66 hj66 hF => ?_)
        · skip
          refine gz_istore 66 hC [(6, .int x6), (0, .ref a0), (1, .int a1), (2, .int a2), (3, .int a3), (4, .int a4), (5, .int a5), (7, .int x2)] dX10_lentOf_66 (by decide) rfl ?_
          refine gz_iinc 68 hC (x2 + (1 : Int32)) 7 [(7, .int (x2 + (1 : Int32))), (6, .int x6), (0, .ref a0), (1, .int a1), (2, .int a2), (3, .int a3), (4, .int a4), (5, .int a5)] dX10_lentOf_68 rfl rfl (by decide) rfl ?_
          refine gz_goto 71 6 hC dX10_lentOf_71 (by decide) ?_
          refine gz_sub [2, 3, 4, 5, 6, 7, 1, 0] [(0, .ref a0), (1, .int a1), (2, .int a2), (3, .int a3), (4, .int a4), (5, .int a5), (6, .int x6), (7, .int (x2 + (1 : Int32)))] rfl ?_
          exact ih6 _ _ hF
        refine gz_join (fun (j : Option (Int32)) => j = some y → gz_go C 0 0 M [(0, .ref a0), (1, .int a1), (2, .int a2), (3, .int a3), (4, .int a4), (5, .int a5), (6, .int x1), (7, .int x2)] 64 []) hF (fun hF => ?_) (fun j64 hj64 hF => ?_)
        · skip
          refine gz_iload 64 hC 6 dX10_lentOf_64 rfl ?_
          refine gz_sub [0, 1, 2, 3, 4, 5, 7] [(0, .ref a0), (1, .int a1), (2, .int a2), (3, .int a3), (4, .int a4), (5, .int a5), (7, .int x2)] rfl ?_
          exact hj66 _ hF
        refine gz_icmp_eq 43 64 hC dX10_lentOf_43 (by decide) hF (fun hF => ?_) (fun hF => ?_)
        · skip
          refine gz_sub [1, 2, 3, 4, 5, 6, 7, 8] [(0, .ref a0), (1, .int a1), (2, .int a2), (3, .int a3), (4, .int a4), (5, .int a5), (6, .int x1), (7, .int x2)] rfl ?_
          exact hj64 hF
        · skip
          refine gz_iload 46 hC 7 dX10_lentOf_46 rfl ?_
          refine gz_iconst 48 hC (-1 : Int32) dX10_lentOf_48 gz_km1 ?_
          refine gz_join (fun (j : Option (Int32)) => j = some y → gz_go C 0 0 M [(0, .ref a0), (1, .int a1), (2, .int a2), (3, .int a3), (4, .int a4), (5, .int a5), (7, .int x2), (8, .int x5)] 59 []) hF (fun hF => ?_) (fun j59 hj59 hF => ?_)
          · skip
            refine gz_iload 59 hC 7 dX10_lentOf_59 rfl ?_
            refine gz_goto 61 66 hC dX10_lentOf_61 (by decide) ?_
            refine gz_sub [0, 1, 2, 3, 4, 5, 6] [(0, .ref a0), (1, .int a1), (2, .int a2), (3, .int a3), (4, .int a4), (5, .int a5), (7, .int x2)] rfl ?_
            exact hj66 _ hF
          refine gz_icmp_eq 49 59 hC dX10_lentOf_49 (by decide) hF (fun hF => ?_) (fun hF => ?_)
          · skip
            refine gz_sub [1, 2, 3, 4, 5, 6, 8, 0] [(0, .ref a0), (1, .int a1), (2, .int a2), (3, .int a3), (4, .int a4), (5, .int a5), (7, .int x2), (8, .int x5)] rfl ?_
            exact hj59 hF
          · skip
            refine gz_iload 52 hC 0 dX10_lentOf_52 rfl ?_
            refine gz_iload 54 hC 7 dX10_lentOf_54 rfl ?_
            refine gz_icmp_ge 56 64 hC dX10_lentOf_56 (by decide) hF (fun hF => ?_) (fun hF => ?_)
            · skip
              refine gz_sub [1, 2, 3, 4, 5, 6, 7, 8] [(0, .ref a0), (1, .int a1), (2, .int a2), (3, .int a3), (4, .int a4), (5, .int a5), (6, .int x1), (7, .int x2)] rfl ?_
              exact hj64 hF
            · skip
              refine gz_sub [1, 2, 3, 4, 5, 6, 8, 0] [(0, .ref a0), (1, .int a1), (2, .int a2), (3, .int a3), (4, .int a4), (5, .int a5), (7, .int x2), (8, .int x5)] rfl ?_
              exact hj59 hF
      refine gz_if_eq 22 37 hC dX10_lentOf_22 (by decide) hF (fun hF => ?_) (fun hF => ?_)
      · skip
        refine gz_iconst 37 hC (-1 : Int32) dX10_lentOf_37 gz_km1 ?_
        exact hj38 _ hF
      · skip
        refine gz_aload_n 25 hC 0 dX10_lentOf_25 rfl rfl ?_
        refine gz_iload_n 26 hC 1 dX10_lentOf_26 rfl rfl ?_
        refine gz_iload 27 hC 7 dX10_lentOf_27 rfl ?_
        refine gz_iload_n 29 hC 1 dX10_lentOf_29 rfl rfl ?_
        refine gz_iload_n 30 hC 2 dX10_lentOf_30 rfl rfl ?_
        refine gz_cvP (st := []) 31 hC hX [.int a1, .int x2, .int a1, .int a2] Value.int yl_X10_badOf yv_X10_badOf q_1249 ⟨Nat.le_of_ble_eq_true rfl, Nat.le_of_ble_eq_true rfl⟩ ⟨_, rfl⟩ (fun r h => ct_X10_badOf _ _ fu M a0 a1 x2 a1 a2 r h) rfl rfl (Nat.le_of_ble_eq_true rfl) dX10_lentOf_31 gz_00 hF (fun x4 hF => ?_)
        refine gz_goto 34 38 hC dX10_lentOf_34 (by decide) ?_
        exact hj38 _ hF
set_option maxHeartbeats 4000000 in
theorem w_X10_lentOf_77 {C : gz_C} {y : Int32} {fu : Nat} {M : gz_M} {a0 : Nat} {a1 : Int32} {a2 : Int32} {a4 : Int32} {a5 : Int32} {j148 : Int32 → Option (Int32)} (hC : gz_ok C cX10_lentOf RX10 9) (hX : gz_cx C 2 56 0 0 (some .int) (some (.int y)) M "lentOf") (hj148 : ∀ (x14 : Int32), j148 x14 = some y → gz_go C 0 0 M [(6, .int x14)] 148 []) : ∀ (n : Nat) (x8 : Int32) (x9 : Int32), lp_X10_lentOf_77 j148 fu M a0 a1 a2 a4 a5 n x8 x9 = some y → gz_go C 0 0 M [(0, .ref a0), (1, .int a1), (2, .int a2), (4, .int a4), (5, .int a5), (6, .int x8), (7, .int x9)] 77 [] := by
  intro n
  induction n with
  | zero => intro x8 x9 hF; exact nomatch (show (none : Option (Int32)) = some y from hF)
  | succ n77 ih77 =>
    intro x8 x9 hF
    rw [lp_X10_lentOf_77.eq_2] at hF
    refine gz_iload 77 hC 6 dX10_lentOf_77 rfl ?_
    refine gz_aload_n 79 hC 0 dX10_lentOf_79 rfl rfl ?_
    refine gz_iload 80 hC 3 dX10_lentOf_80 rfl ?_
    refine gz_cvP (st := [.int x9]) 82 hC hX [.int a4] Value.int yl_X10_lastsOf yv_X10_lastsOf q_1229 ⟨Nat.le_of_ble_eq_true rfl, Nat.le_of_ble_eq_true rfl⟩ ⟨_, rfl⟩ (fun r h => ct_X10_lastsOf _ _ fu M a0 a4 r h) rfl rfl (Nat.le_of_ble_eq_true rfl) dX10_lentOf_82 gz_00 hF (fun x10 hF => ?_)
    refine gz_icmp_ge 85 148 hC dX10_lentOf_85 (by decide) hF (fun hF => ?_) (fun hF => ?_)
    · skip
      refine gz_sub [5] [(6, .int x8)] rfl ?_
      exact hj148 _ hF
    · skip
      refine gz_iload 88 hC 4 dX10_lentOf_88 rfl ?_
      refine gz_iload 90 hC 6 dX10_lentOf_90 rfl ?_
      refine gz_ishr 92 hC dX10_lentOf_92 ?_
      refine gz_iconst 93 hC (1 : Int32) dX10_lentOf_93 gz_k1 ?_
      refine gz_iand 94 hC dX10_lentOf_94 ?_
      refine gz_join (fun (j : Int32 → Option (Int32)) => ∀ (x12 : Int32), j x12 = some y → gz_go C 0 0 M [(0, .ref a0), (1, .int a1), (2, .int a2), (4, .int a4), (5, .int a5), (6, .int x8), (7, .int x9)] 112 [.int x12]) hF (fun x12 hF => ?_) (fun j112 hj112 hF => ?_)
      · skip
        refine gz_istore 112 hC [(8, .int x12), (0, .ref a0), (1, .int a1), (2, .int a2), (4, .int a4), (5, .int a5), (6, .int x8), (7, .int x9)] dX10_lentOf_112 (by decide) rfl ?_
        refine gz_iload 114 hC 0 dX10_lentOf_114 rfl ?_
        refine gz_iconst 116 hC (-1 : Int32) dX10_lentOf_116 gz_km1 ?_
        refine gz_join (fun (j : Int32 → Option (Int32)) => ∀ (x13 : Int32), j x13 = some y → gz_go C 0 0 M [(0, .ref a0), (1, .int a1), (2, .int a2), (4, .int a4), (5, .int a5), (7, .int x9)] 140 [.int x13]) hF (fun x13 hF => ?_) (fun j140 hj140 hF => ?_)
        · skip
          refine gz_istore 140 hC [(6, .int x13), (0, .ref a0), (1, .int a1), (2, .int a2), (4, .int a4), (5, .int a5), (7, .int x9)] dX10_lentOf_140 (by decide) rfl ?_
          refine gz_iinc 142 hC (x9 + (1 : Int32)) 6 [(7, .int (x9 + (1 : Int32))), (6, .int x13), (0, .ref a0), (1, .int a1), (2, .int a2), (4, .int a4), (5, .int a5)] dX10_lentOf_142 rfl rfl (by decide) rfl ?_
          refine gz_goto 145 77 hC dX10_lentOf_145 (by decide) ?_
          refine gz_sub [2, 3, 4, 5, 6, 1, 0] [(0, .ref a0), (1, .int a1), (2, .int a2), (4, .int a4), (5, .int a5), (6, .int x13), (7, .int (x9 + (1 : Int32)))] rfl ?_
          exact ih77 _ _ hF
        refine gz_join (fun (j : Option (Int32)) => j = some y → gz_go C 0 0 M [(0, .ref a0), (1, .int a1), (2, .int a2), (4, .int a4), (5, .int a5), (6, .int x8), (7, .int x9)] 138 []) hF (fun hF => ?_) (fun j138 hj138 hF => ?_)
        · skip
          refine gz_iload 138 hC 5 dX10_lentOf_138 rfl ?_
          refine gz_sub [0, 1, 2, 3, 4, 6] [(0, .ref a0), (1, .int a1), (2, .int a2), (4, .int a4), (5, .int a5), (7, .int x9)] rfl ?_
          exact hj140 _ hF
        refine gz_icmp_eq 117 138 hC dX10_lentOf_117 (by decide) hF (fun hF => ?_) (fun hF => ?_)
        · skip
          refine gz_sub [1, 2, 3, 4, 5, 6, 7] [(0, .ref a0), (1, .int a1), (2, .int a2), (4, .int a4), (5, .int a5), (6, .int x8), (7, .int x9)] rfl ?_
          exact hj138 hF
        · skip
          refine gz_iload 120 hC 6 dX10_lentOf_120 rfl ?_
          refine gz_iconst 122 hC (-1 : Int32) dX10_lentOf_122 gz_km1 ?_
          refine gz_join (fun (j : Option (Int32)) => j = some y → gz_go C 0 0 M [(0, .ref a0), (1, .int a1), (2, .int a2), (4, .int a4), (5, .int a5), (7, .int x9), (8, .int x12)] 133 []) hF (fun hF => ?_) (fun j133 hj133 hF => ?_)
          · skip
            refine gz_iload 133 hC 6 dX10_lentOf_133 rfl ?_
            refine gz_goto 135 140 hC dX10_lentOf_135 (by decide) ?_
            refine gz_sub [0, 1, 2, 3, 4, 5] [(0, .ref a0), (1, .int a1), (2, .int a2), (4, .int a4), (5, .int a5), (7, .int x9)] rfl ?_
            exact hj140 _ hF
          refine gz_icmp_eq 123 133 hC dX10_lentOf_123 (by decide) hF (fun hF => ?_) (fun hF => ?_)
          · skip
            refine gz_sub [1, 2, 3, 4, 5, 7, 0] [(0, .ref a0), (1, .int a1), (2, .int a2), (4, .int a4), (5, .int a5), (7, .int x9), (8, .int x12)] rfl ?_
            exact hj133 hF
          · skip
            refine gz_iload 126 hC 0 dX10_lentOf_126 rfl ?_
            refine gz_iload 128 hC 6 dX10_lentOf_128 rfl ?_
            refine gz_icmp_ge 130 138 hC dX10_lentOf_130 (by decide) hF (fun hF => ?_) (fun hF => ?_)
            · skip
              refine gz_sub [1, 2, 3, 4, 5, 6, 7] [(0, .ref a0), (1, .int a1), (2, .int a2), (4, .int a4), (5, .int a5), (6, .int x8), (7, .int x9)] rfl ?_
              exact hj138 hF
            · skip
              refine gz_sub [1, 2, 3, 4, 5, 7, 0] [(0, .ref a0), (1, .int a1), (2, .int a2), (4, .int a4), (5, .int a5), (7, .int x9), (8, .int x12)] rfl ?_
              exact hj133 hF
      refine gz_if_eq 95 111 hC dX10_lentOf_95 (by decide) hF (fun hF => ?_) (fun hF => ?_)
      · skip
        refine gz_iconst 111 hC (-1 : Int32) dX10_lentOf_111 gz_km1 ?_
        exact hj112 _ hF
      · skip
        refine gz_aload_n 98 hC 0 dX10_lentOf_98 rfl rfl ?_
        refine gz_iload 99 hC 3 dX10_lentOf_99 rfl ?_
        refine gz_iload 101 hC 6 dX10_lentOf_101 rfl ?_
        refine gz_iload_n 103 hC 1 dX10_lentOf_103 rfl rfl ?_
        refine gz_iload_n 104 hC 2 dX10_lentOf_104 rfl rfl ?_
        refine gz_cvP (st := []) 105 hC hX [.int a4, .int x9, .int a1, .int a2] Value.int yl_X10_badOf yv_X10_badOf q_1249 ⟨Nat.le_of_ble_eq_true rfl, Nat.le_of_ble_eq_true rfl⟩ ⟨_, rfl⟩ (fun r h => ct_X10_badOf _ _ fu M a0 a4 x9 a1 a2 r h) rfl rfl (Nat.le_of_ble_eq_true rfl) dX10_lentOf_105 gz_00 hF (fun x11 hF => ?_)
        refine gz_goto 108 112 hC dX10_lentOf_108 (by decide) ?_
        exact hj112 _ hF
set_option maxHeartbeats 4000000 in
theorem ct_X10_lentOf (l : Launch) (G : gz_G) (fu : Nat) (M : gz_M) (a0 : Nat) (a1 : Int32) (a2 : Int32) (a3 : Int32) (a4 : Int32) (a5 : Int32) (y : Int32) (hF : f_X10_lentOf fu M a0 a1 a2 a3 a4 a5 = some y) : gz_ct l yX10_lentOf cX10_lentOf 9 (some .int) 2 56 0 0 G [.ref a0, .int a1, .int a2, .int a3, .int a4, .int a5] M (some (.int y)) M := by
  refine gz_ct.of (by decide) (Nat.le_of_ble_eq_true rfl) (fun C hC hX => ?_)
  unfold f_X10_lentOf at hF
  obtain ⟨-, hF⟩ := gz_gd_some hF
  show gz_go C 0 0 M [(0, .ref a0), (1, .int a1), (2, .int a2), (3, .int a3), (4, .int a4), (5, .int a5)] 0 []
  refine gz_iconst 0 hC (-1 : Int32) dX10_lentOf_0 gz_km1 ?_
  refine gz_istore 1 hC [(6, .int (-1 : Int32)), (0, .ref a0), (1, .int a1), (2, .int a2), (3, .int a3), (4, .int a4), (5, .int a5)] dX10_lentOf_1 (by decide) rfl ?_
  refine gz_iconst 3 hC (0 : Int32) dX10_lentOf_3 gz_k0 ?_
  refine gz_istore 4 hC [(7, .int (0 : Int32)), (6, .int (-1 : Int32)), (0, .ref a0), (1, .int a1), (2, .int a2), (3, .int a3), (4, .int a4), (5, .int a5)] dX10_lentOf_4 (by decide) rfl ?_
  refine gz_sub [2, 3, 4, 5, 6, 7, 1, 0] [(0, .ref a0), (1, .int a1), (2, .int a2), (3, .int a3), (4, .int a4), (5, .int a5), (6, .int (-1 : Int32)), (7, .int (0 : Int32))] rfl ?_
  refine w_X10_lentOf_6 hC hX ?_ _ _ _ hF
  intro x7 hF
  refine gz_iconst 74 hC (0 : Int32) dX10_lentOf_74 gz_k0 ?_
  refine gz_istore 75 hC [(7, .int (0 : Int32)), (0, .ref a0), (1, .int a1), (2, .int a2), (4, .int a4), (5, .int a5), (6, .int x7)] dX10_lentOf_75 (by decide) rfl ?_
  refine gz_sub [1, 2, 3, 4, 5, 6, 0] [(0, .ref a0), (1, .int a1), (2, .int a2), (4, .int a4), (5, .int a5), (6, .int x7), (7, .int (0 : Int32))] rfl ?_
  refine w_X10_lentOf_77 hC hX ?_ _ _ _ hF
  intro x14 hF
  refine gz_iload 148 hC 0 dX10_lentOf_148 rfl ?_
  exact gz_iretP 150 hC hX dX10_lentOf_150 hF

theorem dX10_lentAll_0 : decode cX10_lentAll 0 = .ok (.aload_n 0, 1) := by decide +kernel
theorem dX10_lentAll_1 : decode cX10_lentAll 1 = .ok (.iload_n 1, 1) := by decide +kernel
theorem dX10_lentAll_2 : decode cX10_lentAll 2 = .ok (.iload_n 2, 1) := by decide +kernel
theorem dX10_lentAll_3 : decode cX10_lentAll 3 = .ok (.invokevirtual 233, 3) := by decide +kernel
theorem dX10_lentAll_6 : decode cX10_lentAll 6 = .ok (.istore 5, 2) := by decide +kernel
theorem dX10_lentAll_8 : decode cX10_lentAll 8 = .ok (.iconst 0, 1) := by decide +kernel
theorem dX10_lentAll_9 : decode cX10_lentAll 9 = .ok (.istore 6, 2) := by decide +kernel
theorem dX10_lentAll_11 : decode cX10_lentAll 11 = .ok (.iload 6, 2) := by decide +kernel
theorem dX10_lentAll_13 : decode cX10_lentAll 13 = .ok (.aload_n 0, 1) := by decide +kernel
theorem dX10_lentAll_14 : decode cX10_lentAll 14 = .ok (.iload_n 1, 1) := by decide +kernel
theorem dX10_lentAll_15 : decode cX10_lentAll 15 = .ok (.invokevirtual 81, 3) := by decide +kernel
theorem dX10_lentAll_18 : decode cX10_lentAll 18 = .ok (.if_icmp .ge 55, 3) := by decide +kernel
theorem dX10_lentAll_21 : decode cX10_lentAll 21 = .ok (.aload_n 0, 1) := by decide +kernel
theorem dX10_lentAll_22 : decode cX10_lentAll 22 = .ok (.iload_n 1, 1) := by decide +kernel
theorem dX10_lentAll_23 : decode cX10_lentAll 23 = .ok (.iload 6, 2) := by decide +kernel
theorem dX10_lentAll_25 : decode cX10_lentAll 25 = .ok (.iload_n 2, 1) := by decide +kernel
theorem dX10_lentAll_26 : decode cX10_lentAll 26 = .ok (.iload_n 3, 1) := by decide +kernel
theorem dX10_lentAll_27 : decode cX10_lentAll 27 = .ok (.iload 4, 2) := by decide +kernel
theorem dX10_lentAll_29 : decode cX10_lentAll 29 = .ok (.invokevirtual 278, 3) := by decide +kernel
theorem dX10_lentAll_32 : decode cX10_lentAll 32 = .ok (.istore 7, 2) := by decide +kernel
theorem dX10_lentAll_34 : decode cX10_lentAll 34 = .ok (.iload 5, 2) := by decide +kernel
theorem dX10_lentAll_36 : decode cX10_lentAll 36 = .ok (.aload_n 0, 1) := by decide +kernel
theorem dX10_lentAll_37 : decode cX10_lentAll 37 = .ok (.iload_n 1, 1) := by decide +kernel
theorem dX10_lentAll_38 : decode cX10_lentAll 38 = .ok (.iload 6, 2) := by decide +kernel
theorem dX10_lentAll_40 : decode cX10_lentAll 40 = .ok (.iconst 3, 1) := by decide +kernel
theorem dX10_lentAll_41 : decode cX10_lentAll 41 = .ok (.invokevirtual 114, 3) := by decide +kernel
theorem dX10_lentAll_44 : decode cX10_lentAll 44 = .ok (.iload 7, 2) := by decide +kernel
theorem dX10_lentAll_46 : decode cX10_lentAll 46 = .ok (.iconst (-1), 1) := by decide +kernel
theorem dX10_lentAll_47 : decode cX10_lentAll 47 = .ok (.if_icmp .ne 14, 3) := by decide +kernel
theorem dX10_lentAll_50 : decode cX10_lentAll 50 = .ok (.aload_n 0, 1) := by decide +kernel
theorem dX10_lentAll_51 : decode cX10_lentAll 51 = .ok (.getfield 45, 3) := by decide +kernel
theorem dX10_lentAll_54 : decode cX10_lentAll 54 = .ok (.iload_n 1, 1) := by decide +kernel
theorem dX10_lentAll_55 : decode cX10_lentAll 55 = .ok (.aaload, 1) := by decide +kernel
theorem dX10_lentAll_56 : decode cX10_lentAll 56 = .ok (.iconst 2, 1) := by decide +kernel
theorem dX10_lentAll_57 : decode cX10_lentAll 57 = .ok (.iaload, 1) := by decide +kernel
theorem dX10_lentAll_58 : decode cX10_lentAll 58 = .ok (.goto 5, 3) := by decide +kernel
theorem dX10_lentAll_61 : decode cX10_lentAll 61 = .ok (.iload 7, 2) := by decide +kernel
theorem dX10_lentAll_63 : decode cX10_lentAll 63 = .ok (.imul, 1) := by decide +kernel
theorem dX10_lentAll_64 : decode cX10_lentAll 64 = .ok (.iadd, 1) := by decide +kernel
theorem dX10_lentAll_65 : decode cX10_lentAll 65 = .ok (.istore 5, 2) := by decide +kernel
theorem dX10_lentAll_67 : decode cX10_lentAll 67 = .ok (.iinc 6 1, 3) := by decide +kernel
theorem dX10_lentAll_70 : decode cX10_lentAll 70 = .ok (.goto (-59), 3) := by decide +kernel
theorem dX10_lentAll_73 : decode cX10_lentAll 73 = .ok (.iload 5, 2) := by decide +kernel
theorem dX10_lentAll_75 : decode cX10_lentAll 75 = .ok (.ireturn, 1) := by decide +kernel
def lp_X10_lentAll_11 (j73 : Int32 → Option (Int32)) (fu : Nat) (M : gz_M) (a0 : Nat) (a1 : Int32) (a2 : Int32) (a3 : Int32) (a4 : Int32) : Nat → Int32 → Int32 → Option (Int32)
  | 0, _, _ => none
  | n11 + 1, x2, x3 =>
    (f_X10_feetOf fu M a0 a1).bind fun x4 =>
    if x4 ≤ x3 then
      j73 x2
    else
      (f_X10_lentOf fu M a0 a1 x3 a2 a3 a4).bind fun x5 =>
      (f_X10_of fu M a0 a1 x3 (3 : Int32)).bind fun x6 =>
      gz_jn (fun (x10 : Int32) =>
      lp_X10_lentAll_11 j73 fu M a0 a1 a2 a3 a4 n11 (x2 + (x6 * x10)) (x3 + (1 : Int32))) fun j63 =>
      if x5 = (-1 : Int32) then
        (gz_gR M 10 12 a0).bind fun x7 =>
        (gz_aR M x7 a1).bind fun x8 =>
        (gz_aI M x8 (2 : Int32)).bind fun x9 =>
        j63 x9
      else
        j63 x5
def f_X10_lentAll (fu : Nat) (M : gz_M) (a0 : Nat) (a1 : Int32) (a2 : Int32) (a3 : Int32) (a4 : Int32) : Option (Int32) :=
  gz_gd M 10 a0 <|
  (f_X10_pricesOf fu M a0 a1 a2).bind fun x1 =>
  lp_X10_lentAll_11 (fun (x11 : Int32) => some x11) fu M a0 a1 a2 a3 a4 fu x1 (0 : Int32)
set_option maxHeartbeats 4000000 in
theorem w_X10_lentAll_11 {C : gz_C} {y : Int32} {fu : Nat} {M : gz_M} {a0 : Nat} {a1 : Int32} {a2 : Int32} {a3 : Int32} {a4 : Int32} {j73 : Int32 → Option (Int32)} (hC : gz_ok C cX10_lentAll RX10 8) (hX : gz_cx C 3 84 0 0 (some .int) (some (.int y)) M "lentAll") (hj73 : ∀ (x11 : Int32), j73 x11 = some y → gz_go C 0 0 M [(5, .int x11)] 73 []) : ∀ (n : Nat) (x2 : Int32) (x3 : Int32), lp_X10_lentAll_11 j73 fu M a0 a1 a2 a3 a4 n x2 x3 = some y → gz_go C 0 0 M [(0, .ref a0), (1, .int a1), (2, .int a2), (3, .int a3), (4, .int a4), (5, .int x2), (6, .int x3)] 11 [] := by
  intro n
  induction n with
  | zero => intro x2 x3 hF; exact nomatch (show (none : Option (Int32)) = some y from hF)
  | succ n11 ih11 =>
    intro x2 x3 hF
    rw [lp_X10_lentAll_11.eq_2] at hF
    refine gz_iload 11 hC 6 dX10_lentAll_11 rfl ?_
    refine gz_aload_n 13 hC 0 dX10_lentAll_13 rfl rfl ?_
    refine gz_iload_n 14 hC 1 dX10_lentAll_14 rfl rfl ?_
    refine gz_cvP (st := [.int x3]) 15 hC hX [.int a1] Value.int yl_X10_feetOf yv_X10_feetOf q_1221 ⟨Nat.le_of_ble_eq_true rfl, Nat.le_of_ble_eq_true rfl⟩ ⟨_, rfl⟩ (fun r h => ct_X10_feetOf _ _ fu M a0 a1 r h) rfl rfl (Nat.le_of_ble_eq_true rfl) dX10_lentAll_15 gz_00 hF (fun x4 hF => ?_)
    refine gz_icmp_ge 18 73 hC dX10_lentAll_18 (by decide) hF (fun hF => ?_) (fun hF => ?_)
    · skip
      refine gz_sub [5] [(5, .int x2)] rfl ?_
      exact hj73 _ hF
    · skip
      refine gz_aload_n 21 hC 0 dX10_lentAll_21 rfl rfl ?_
      refine gz_iload_n 22 hC 1 dX10_lentAll_22 rfl rfl ?_
      refine gz_iload 23 hC 6 dX10_lentAll_23 rfl ?_
      refine gz_iload_n 25 hC 2 dX10_lentAll_25 rfl rfl ?_
      refine gz_iload_n 26 hC 3 dX10_lentAll_26 rfl rfl ?_
      refine gz_iload 27 hC 4 dX10_lentAll_27 rfl ?_
      refine gz_cvP (st := []) 29 hC hX [.int a1, .int x3, .int a2, .int a3, .int a4] Value.int yl_X10_lentOf yv_X10_lentOf q_1500 ⟨Nat.le_of_ble_eq_true rfl, Nat.le_of_ble_eq_true rfl⟩ ⟨_, rfl⟩ (fun r h => ct_X10_lentOf _ _ fu M a0 a1 x3 a2 a3 a4 r h) rfl rfl (Nat.le_of_ble_eq_true rfl) dX10_lentAll_29 gz_00 hF (fun x5 hF => ?_)
      refine gz_istore 32 hC [(7, .int x5), (0, .ref a0), (1, .int a1), (2, .int a2), (3, .int a3), (4, .int a4), (5, .int x2), (6, .int x3)] dX10_lentAll_32 (by decide) rfl ?_
      refine gz_iload 34 hC 6 dX10_lentAll_34 rfl ?_
      refine gz_aload_n 36 hC 1 dX10_lentAll_36 rfl rfl ?_
      refine gz_iload_n 37 hC 2 dX10_lentAll_37 rfl rfl ?_
      refine gz_iload 38 hC 7 dX10_lentAll_38 rfl ?_
      refine gz_iconst 40 hC (3 : Int32) dX10_lentAll_40 gz_k3 ?_
      refine gz_cvP (st := [.int x2]) 41 hC hX [.int a1, .int x3, .int (3 : Int32)] Value.int yl_X10_of yv_X10_of q_1241 ⟨Nat.le_of_ble_eq_true rfl, Nat.le_of_ble_eq_true rfl⟩ ⟨_, rfl⟩ (fun r h => ct_X10_of _ _ fu M a0 a1 x3 (3 : Int32) r h) rfl rfl (Nat.le_of_ble_eq_true rfl) dX10_lentAll_41 gz_00 hF (fun x6 hF => ?_)
      refine gz_iload 44 hC 0 dX10_lentAll_44 rfl ?_
      refine gz_iconst 46 hC (-1 : Int32) dX10_lentAll_46 gz_km1 ?_
      refine gz_join (fun (j : Int32 → Option (Int32)) => ∀ (x10 : Int32), j x10 = some y → gz_go C 0 0 M [(0, .ref a0), (1, .int a1), (2, .int a2), (3, .int a3), (4, .int a4), (6, .int x3)] 63 [.int x10, .int x6, .int x2]) hF (fun x10 hF => ?_) (fun j63 hj63 hF => ?_)
      · skip
        refine gz_imul 63 hC dX10_lentAll_63 ?_
        refine gz_iadd 64 hC dX10_lentAll_64 ?_
        refine gz_istore 65 hC [(5, .int (x2 + (x6 * x10))), (0, .ref a0), (1, .int a1), (2, .int a2), (3, .int a3), (4, .int a4), (6, .int x3)] dX10_lentAll_65 (by decide) rfl ?_
        refine gz_iinc 67 hC (x3 + (1 : Int32)) 6 [(6, .int (x3 + (1 : Int32))), (5, .int (x2 + (x6 * x10))), (0, .ref a0), (1, .int a1), (2, .int a2), (3, .int a3), (4, .int a4)] dX10_lentAll_67 rfl rfl (by decide) rfl ?_
        refine gz_goto 70 11 hC dX10_lentAll_70 (by decide) ?_
        refine gz_sub [2, 3, 4, 5, 6, 1, 0] [(0, .ref a0), (1, .int a1), (2, .int a2), (3, .int a3), (4, .int a4), (5, .int (x2 + (x6 * x10))), (6, .int (x3 + (1 : Int32)))] rfl ?_
        exact ih11 _ _ hF
      refine gz_icmp_ne 47 61 hC dX10_lentAll_47 (by decide) hF (fun hF => ?_) (fun hF => ?_)
      · skip
        refine gz_iload 61 hC 0 dX10_lentAll_61 rfl ?_
        refine gz_sub [1, 2, 3, 4, 5, 7] [(0, .ref a0), (1, .int a1), (2, .int a2), (3, .int a3), (4, .int a4), (6, .int x3)] rfl ?_
        exact hj63 _ hF
      · skip
        refine gz_aload_n 50 hC 1 dX10_lentAll_50 rfl rfl ?_
        refine gz_getR 51 hC fl_X10_45 fk_10_12 dX10_lentAll_51 hF (fun x7 hF => ?_)
        refine gz_iload_n 54 hC 2 dX10_lentAll_54 rfl rfl ?_
        refine gz_aald 55 hC dX10_lentAll_55 hF (fun x8 hF => ?_)
        refine gz_iconst 56 hC (2 : Int32) dX10_lentAll_56 gz_k2 ?_
        refine gz_iald 57 hC dX10_lentAll_57 hF (fun x9 hF => ?_)
        refine gz_goto 58 63 hC dX10_lentAll_58 (by decide) ?_
        refine gz_sub [1, 2, 3, 4, 5, 7] [(0, .ref a0), (1, .int a1), (2, .int a2), (3, .int a3), (4, .int a4), (6, .int x3)] rfl ?_
        exact hj63 _ hF
set_option maxHeartbeats 4000000 in
theorem ct_X10_lentAll (l : Launch) (G : gz_G) (fu : Nat) (M : gz_M) (a0 : Nat) (a1 : Int32) (a2 : Int32) (a3 : Int32) (a4 : Int32) (y : Int32) (hF : f_X10_lentAll fu M a0 a1 a2 a3 a4 = some y) : gz_ct l yX10_lentAll cX10_lentAll 8 (some .int) 3 84 0 0 G [.ref a0, .int a1, .int a2, .int a3, .int a4] M (some (.int y)) M := by
  refine gz_ct.of (by decide) (Nat.le_of_ble_eq_true rfl) (fun C hC hX => ?_)
  unfold f_X10_lentAll at hF
  obtain ⟨-, hF⟩ := gz_gd_some hF
  show gz_go C 0 0 M [(0, .ref a0), (1, .int a1), (2, .int a2), (3, .int a3), (4, .int a4)] 0 []
  refine gz_aload_n 0 hC 0 dX10_lentAll_0 rfl rfl ?_
  refine gz_iload_n 1 hC 1 dX10_lentAll_1 rfl rfl ?_
  refine gz_iload_n 2 hC 2 dX10_lentAll_2 rfl rfl ?_
  refine gz_cvP (st := []) 3 hC hX [.int a1, .int a2] Value.int yl_X10_pricesOf yv_X10_pricesOf q_1395 ⟨Nat.le_of_ble_eq_true rfl, Nat.le_of_ble_eq_true rfl⟩ ⟨_, rfl⟩ (fun r h => ct_X10_pricesOf _ _ fu M a0 a1 a2 r h) rfl rfl (Nat.le_of_ble_eq_true rfl) dX10_lentAll_3 gz_00 hF (fun x1 hF => ?_)
  refine gz_istore 6 hC [(5, .int x1), (0, .ref a0), (1, .int a1), (2, .int a2), (3, .int a3), (4, .int a4)] dX10_lentAll_6 (by decide) rfl ?_
  refine gz_iconst 8 hC (0 : Int32) dX10_lentAll_8 gz_k0 ?_
  refine gz_istore 9 hC [(6, .int (0 : Int32)), (5, .int x1), (0, .ref a0), (1, .int a1), (2, .int a2), (3, .int a3), (4, .int a4)] dX10_lentAll_9 (by decide) rfl ?_
  refine gz_sub [2, 3, 4, 5, 6, 1, 0] [(0, .ref a0), (1, .int a1), (2, .int a2), (3, .int a3), (4, .int a4), (5, .int x1), (6, .int (0 : Int32))] rfl ?_
  refine w_X10_lentAll_11 hC hX ?_ _ _ _ hF
  intro x11 hF
  refine gz_iload 73 hC 0 dX10_lentAll_73 rfl ?_
  exact gz_iretP 75 hC hX dX10_lentAll_75 hF

theorem dX10_lend_0 : decode cX10_lend 0 = .ok (.aload_n 0, 1) := by decide +kernel
theorem dX10_lend_1 : decode cX10_lend 1 = .ok (.iload_n 1, 1) := by decide +kernel
theorem dX10_lend_2 : decode cX10_lend 2 = .ok (.iload_n 3, 1) := by decide +kernel
theorem dX10_lend_3 : decode cX10_lend 3 = .ok (.invokevirtual 239, 3) := by decide +kernel
theorem dX10_lend_6 : decode cX10_lend 6 = .ok (.ifCond .eq 18, 3) := by decide +kernel
theorem dX10_lend_9 : decode cX10_lend 9 = .ok (.aload_n 0, 1) := by decide +kernel
theorem dX10_lend_10 : decode cX10_lend 10 = .ok (.iload_n 2, 1) := by decide +kernel
theorem dX10_lend_11 : decode cX10_lend 11 = .ok (.iload 4, 2) := by decide +kernel
theorem dX10_lend_13 : decode cX10_lend 13 = .ok (.invokevirtual 239, 3) := by decide +kernel
theorem dX10_lend_16 : decode cX10_lend 16 = .ok (.ifCond .eq 8, 3) := by decide +kernel
theorem dX10_lend_19 : decode cX10_lend 19 = .ok (.iload_n 1, 1) := by decide +kernel
theorem dX10_lend_20 : decode cX10_lend 20 = .ok (.iload_n 2, 1) := by decide +kernel
theorem dX10_lend_21 : decode cX10_lend 21 = .ok (.if_icmp .ne 10, 3) := by decide +kernel
theorem dX10_lend_24 : decode cX10_lend 24 = .ok (.aload_n 0, 1) := by decide +kernel
theorem dX10_lend_25 : decode cX10_lend 25 = .ok (.bipush (-2), 2) := by decide +kernel
theorem dX10_lend_27 : decode cX10_lend 27 = .ok (.invokevirtual 97, 3) := by decide +kernel
theorem dX10_lend_30 : decode cX10_lend 30 = .ok (.ireturn, 1) := by decide +kernel
theorem dX10_lend_31 : decode cX10_lend 31 = .ok (.aload_n 0, 1) := by decide +kernel
theorem dX10_lend_32 : decode cX10_lend 32 = .ok (.iload_n 1, 1) := by decide +kernel
theorem dX10_lend_33 : decode cX10_lend 33 = .ok (.iload_n 3, 1) := by decide +kernel
theorem dX10_lend_34 : decode cX10_lend 34 = .ok (.iload_n 2, 1) := by decide +kernel
theorem dX10_lend_35 : decode cX10_lend 35 = .ok (.iload 4, 2) := by decide +kernel
theorem dX10_lend_37 : decode cX10_lend 37 = .ok (.invokevirtual 282, 3) := by decide +kernel
theorem dX10_lend_40 : decode cX10_lend 40 = .ok (.aload_n 0, 1) := by decide +kernel
theorem dX10_lend_41 : decode cX10_lend 41 = .ok (.iload_n 2, 1) := by decide +kernel
theorem dX10_lend_42 : decode cX10_lend 42 = .ok (.iload 4, 2) := by decide +kernel
theorem dX10_lend_44 : decode cX10_lend 44 = .ok (.iload_n 1, 1) := by decide +kernel
theorem dX10_lend_45 : decode cX10_lend 45 = .ok (.iload_n 3, 1) := by decide +kernel
theorem dX10_lend_46 : decode cX10_lend 46 = .ok (.invokevirtual 282, 3) := by decide +kernel
theorem dX10_lend_49 : decode cX10_lend 49 = .ok (.iadd, 1) := by decide +kernel
theorem dX10_lend_50 : decode cX10_lend 50 = .ok (.ireturn, 1) := by decide +kernel

def f_X10_lend (fu : Nat) (M : gz_M) (a0 : Nat) (a1 : Int32) (a2 : Int32) (a3 : Int32) (a4 : Int32) : Option (Int32 × gz_M) :=
  gz_gd M 10 a0 <|
  (f_X10_isSet fu M a0 a1 a3).bind fun x1 =>
  gz_jn (gz_b2 (f_X10_refuse fu M a0 (-2 : Int32)) fun x5 M6 =>
    some (x5, M6)) fun j24 =>
  if x1 = 0 then
    j24
  else
    (f_X10_isSet fu M a0 a2 a4).bind fun x2 =>
    if x2 = 0 then
      j24
    else
      if a1 = a2 then
        j24
      else
        (f_X10_lentAll fu M a0 a1 a3 a2 a4).bind fun x3 =>
        (f_X10_lentAll fu M a0 a2 a4 a1 a3).bind fun x4 =>
        some ((x3 + x4), M)

set_option maxHeartbeats 4000000 in
theorem ct_X10_lend (l : Launch) (G : gz_G) (fu : Nat) (M : gz_M) (a0 : Nat) (a1 : Int32) (a2 : Int32) (a3 : Int32) (a4 : Int32) (y : Int32 × gz_M) (hF : f_X10_lend fu M a0 a1 a2 a3 a4 = some y) : gz_ct l yX10_lend cX10_lend 5 (some .int) 4 111 0 0 G [.ref a0, .int a1, .int a2, .int a3, .int a4] M (some (.int y.1)) y.2 := by
  refine gz_ct.of (by decide) (Nat.le_of_ble_eq_true rfl) (fun C hC hX => ?_)
  unfold f_X10_lend at hF
  obtain ⟨-, hF⟩ := gz_gd_some hF
  show gz_go C 0 0 M [(0, .ref a0), (1, .int a1), (2, .int a2), (3, .int a3), (4, .int a4)] 0 []
  refine gz_aload_n 0 hC 0 dX10_lend_0 rfl rfl ?_
  refine gz_iload_n 1 hC 1 dX10_lend_1 rfl rfl ?_
  refine gz_iload_n 2 hC 3 dX10_lend_2 rfl rfl ?_
  refine gz_cvP (st := []) 3 hC hX [.int a1, .int a3] Value.int yl_X10_isSet yv_X10_isSet q_1375 ⟨Nat.le_of_ble_eq_true rfl, Nat.le_of_ble_eq_true rfl⟩ ⟨_, rfl⟩ (fun r h => ct_X10_isSet _ _ fu M a0 a1 a3 r h) rfl rfl (Nat.le_of_ble_eq_true rfl) dX10_lend_3 gz_00 hF (fun x1 hF => ?_)
  refine gz_join (fun (j : Option (Int32 × gz_M)) => j = some y → gz_go C 0 0 M [(0, .ref a0)] 24 []) hF (fun hF => ?_) (fun j24 hj24 hF => ?_)
  · skip
    refine gz_aload_n 24 hC 0 dX10_lend_24 rfl rfl ?_
    refine gz_bipush 25 hC (-2 : Int32) dX10_lend_25 gz_bm2 ?_
    refine gz_cvM (st := []) 27 hC hX [.int (-2 : Int32)] Value.int yl_X10_refuse yv_X10_refuse q_1175 ⟨Nat.le_of_ble_eq_true rfl, Nat.le_of_ble_eq_true rfl⟩ ⟨_, rfl⟩ (fun r h => ct_X10_refuse _ _ fu M a0 (-2 : Int32) r h) rfl rfl (Nat.le_of_ble_eq_true rfl) dX10_lend_27 gz_00 hF (fun x5 M6 hF => ?_)
    exact gz_iretM 30 hC hX dX10_lend_30 hF
  refine gz_if_eq 6 24 hC dX10_lend_6 (by decide) hF (fun hF => ?_) (fun hF => ?_)
  · skip
    refine gz_sub [0] [(0, .ref a0)] rfl ?_
    exact hj24 hF
  · skip
    refine gz_aload_n 9 hC 0 dX10_lend_9 rfl rfl ?_
    refine gz_iload_n 10 hC 2 dX10_lend_10 rfl rfl ?_
    refine gz_iload 11 hC 4 dX10_lend_11 rfl ?_
    refine gz_cvP (st := []) 13 hC hX [.int a2, .int a4] Value.int yl_X10_isSet yv_X10_isSet q_1375 ⟨Nat.le_of_ble_eq_true rfl, Nat.le_of_ble_eq_true rfl⟩ ⟨_, rfl⟩ (fun r h => ct_X10_isSet _ _ fu M a0 a2 a4 r h) rfl rfl (Nat.le_of_ble_eq_true rfl) dX10_lend_13 gz_00 hF (fun x2 hF => ?_)
    refine gz_if_eq 16 24 hC dX10_lend_16 (by decide) hF (fun hF => ?_) (fun hF => ?_)
    · skip
      refine gz_sub [0] [(0, .ref a0)] rfl ?_
      exact hj24 hF
    · skip
      refine gz_iload_n 19 hC 1 dX10_lend_19 rfl rfl ?_
      refine gz_iload_n 20 hC 2 dX10_lend_20 rfl rfl ?_
      refine gz_icmp_ne 21 31 hC dX10_lend_21 (by decide) hF (fun hF => ?_) (fun hF => ?_)
      · skip
        refine gz_aload_n 31 hC 0 dX10_lend_31 rfl rfl ?_
        refine gz_iload_n 32 hC 1 dX10_lend_32 rfl rfl ?_
        refine gz_iload_n 33 hC 3 dX10_lend_33 rfl rfl ?_
        refine gz_iload_n 34 hC 2 dX10_lend_34 rfl rfl ?_
        refine gz_iload 35 hC 4 dX10_lend_35 rfl ?_
        refine gz_cvP (st := []) 37 hC hX [.int a1, .int a3, .int a2, .int a4] Value.int yl_X10_lentAll yv_X10_lentAll q_1496 ⟨Nat.le_of_ble_eq_true rfl, Nat.le_of_ble_eq_true rfl⟩ ⟨_, rfl⟩ (fun r h => ct_X10_lentAll _ _ fu M a0 a1 a3 a2 a4 r h) rfl rfl (Nat.le_of_ble_eq_true rfl) dX10_lend_37 gz_00 hF (fun x3 hF => ?_)
        refine gz_aload_n 40 hC 0 dX10_lend_40 rfl rfl ?_
        refine gz_iload_n 41 hC 2 dX10_lend_41 rfl rfl ?_
        refine gz_iload 42 hC 4 dX10_lend_42 rfl ?_
        refine gz_iload_n 44 hC 1 dX10_lend_44 rfl rfl ?_
        refine gz_iload_n 45 hC 3 dX10_lend_45 rfl rfl ?_
        refine gz_cvP (st := [.int x3]) 46 hC hX [.int a2, .int a4, .int a1, .int a3] Value.int yl_X10_lentAll yv_X10_lentAll q_1496 ⟨Nat.le_of_ble_eq_true rfl, Nat.le_of_ble_eq_true rfl⟩ ⟨_, rfl⟩ (fun r h => ct_X10_lentAll _ _ fu M a0 a2 a4 a1 a3 r h) rfl rfl (Nat.le_of_ble_eq_true rfl) dX10_lend_46 gz_00 hF (fun x4 hF => ?_)
        refine gz_iadd 49 hC dX10_lend_49 ?_
        exact gz_iretM 50 hC hX dX10_lend_50 hF
      · skip
        refine gz_sub [0] [(0, .ref a0)] rfl ?_
        exact hj24 hF

theorem dX10_doubt_0 : decode cX10_doubt 0 = .ok (.aload_n 0, 1) := by decide +kernel
theorem dX10_doubt_1 : decode cX10_doubt 1 = .ok (.iload_n 1, 1) := by decide +kernel
theorem dX10_doubt_2 : decode cX10_doubt 2 = .ok (.iload_n 2, 1) := by decide +kernel
theorem dX10_doubt_3 : decode cX10_doubt 3 = .ok (.bipush 10, 2) := by decide +kernel
theorem dX10_doubt_5 : decode cX10_doubt 5 = .ok (.invokevirtual 248, 3) := by decide +kernel
theorem dX10_doubt_8 : decode cX10_doubt 8 = .ok (.ifCond .ne 10, 3) := by decide +kernel
theorem dX10_doubt_11 : decode cX10_doubt 11 = .ok (.aload_n 0, 1) := by decide +kernel
theorem dX10_doubt_12 : decode cX10_doubt 12 = .ok (.bipush (-2), 2) := by decide +kernel
theorem dX10_doubt_14 : decode cX10_doubt 14 = .ok (.invokevirtual 97, 3) := by decide +kernel
theorem dX10_doubt_17 : decode cX10_doubt 17 = .ok (.ireturn, 1) := by decide +kernel
theorem dX10_doubt_18 : decode cX10_doubt 18 = .ok (.aload_n 0, 1) := by decide +kernel
theorem dX10_doubt_19 : decode cX10_doubt 19 = .ok (.iload_n 1, 1) := by decide +kernel
theorem dX10_doubt_20 : decode cX10_doubt 20 = .ok (.iload_n 2, 1) := by decide +kernel
theorem dX10_doubt_21 : decode cX10_doubt 21 = .ok (.iconst (-1), 1) := by decide +kernel
theorem dX10_doubt_22 : decode cX10_doubt 22 = .ok (.invokevirtual 252, 3) := by decide +kernel
theorem dX10_doubt_25 : decode cX10_doubt 25 = .ok (.istore_n 3, 1) := by decide +kernel
theorem dX10_doubt_26 : decode cX10_doubt 26 = .ok (.iconst 0, 1) := by decide +kernel
theorem dX10_doubt_27 : decode cX10_doubt 27 = .ok (.istore 4, 2) := by decide +kernel
theorem dX10_doubt_29 : decode cX10_doubt 29 = .ok (.iconst 0, 1) := by decide +kernel
theorem dX10_doubt_30 : decode cX10_doubt 30 = .ok (.istore 5, 2) := by decide +kernel
theorem dX10_doubt_32 : decode cX10_doubt 32 = .ok (.iload 5, 2) := by decide +kernel
theorem dX10_doubt_34 : decode cX10_doubt 34 = .ok (.aload_n 0, 1) := by decide +kernel
theorem dX10_doubt_35 : decode cX10_doubt 35 = .ok (.iload_n 1, 1) := by decide +kernel
theorem dX10_doubt_36 : decode cX10_doubt 36 = .ok (.invokevirtual 81, 3) := by decide +kernel
theorem dX10_doubt_39 : decode cX10_doubt 39 = .ok (.if_icmp .ge 51, 3) := by decide +kernel
theorem dX10_doubt_42 : decode cX10_doubt 42 = .ok (.aload_n 0, 1) := by decide +kernel
theorem dX10_doubt_43 : decode cX10_doubt 43 = .ok (.iload_n 1, 1) := by decide +kernel
theorem dX10_doubt_44 : decode cX10_doubt 44 = .ok (.iload 5, 2) := by decide +kernel
theorem dX10_doubt_46 : decode cX10_doubt 46 = .ok (.aload_n 0, 1) := by decide +kernel
theorem dX10_doubt_47 : decode cX10_doubt 47 = .ok (.iload_n 1, 1) := by decide +kernel
theorem dX10_doubt_48 : decode cX10_doubt 48 = .ok (.iload_n 2, 1) := by decide +kernel
theorem dX10_doubt_49 : decode cX10_doubt 49 = .ok (.iload 5, 2) := by decide +kernel
theorem dX10_doubt_51 : decode cX10_doubt 51 = .ok (.invokevirtual 252, 3) := by decide +kernel
theorem dX10_doubt_54 : decode cX10_doubt 54 = .ok (.invokevirtual 236, 3) := by decide +kernel
theorem dX10_doubt_57 : decode cX10_doubt 57 = .ok (.aload_n 0, 1) := by decide +kernel
theorem dX10_doubt_58 : decode cX10_doubt 58 = .ok (.iload_n 1, 1) := by decide +kernel
theorem dX10_doubt_59 : decode cX10_doubt 59 = .ok (.iload 5, 2) := by decide +kernel
theorem dX10_doubt_61 : decode cX10_doubt 61 = .ok (.iload_n 3, 1) := by decide +kernel
theorem dX10_doubt_62 : decode cX10_doubt 62 = .ok (.invokevirtual 236, 3) := by decide +kernel
theorem dX10_doubt_65 : decode cX10_doubt 65 = .ok (.isub, 1) := by decide +kernel
theorem dX10_doubt_66 : decode cX10_doubt 66 = .ok (.istore 6, 2) := by decide +kernel
theorem dX10_doubt_68 : decode cX10_doubt 68 = .ok (.iload 4, 2) := by decide +kernel
theorem dX10_doubt_70 : decode cX10_doubt 70 = .ok (.iload 6, 2) := by decide +kernel
theorem dX10_doubt_72 : decode cX10_doubt 72 = .ok (.ifCond .le 8, 3) := by decide +kernel
theorem dX10_doubt_75 : decode cX10_doubt 75 = .ok (.iload 6, 2) := by decide +kernel
theorem dX10_doubt_77 : decode cX10_doubt 77 = .ok (.goto 4, 3) := by decide +kernel
theorem dX10_doubt_80 : decode cX10_doubt 80 = .ok (.iconst 0, 1) := by decide +kernel
theorem dX10_doubt_81 : decode cX10_doubt 81 = .ok (.iadd, 1) := by decide +kernel
theorem dX10_doubt_82 : decode cX10_doubt 82 = .ok (.istore 4, 2) := by decide +kernel
theorem dX10_doubt_84 : decode cX10_doubt 84 = .ok (.iinc 5 1, 3) := by decide +kernel
theorem dX10_doubt_87 : decode cX10_doubt 87 = .ok (.goto (-55), 3) := by decide +kernel
theorem dX10_doubt_90 : decode cX10_doubt 90 = .ok (.iload 4, 2) := by decide +kernel
theorem dX10_doubt_92 : decode cX10_doubt 92 = .ok (.ireturn, 1) := by decide +kernel
def lp_X10_doubt_32 (j90 : Int32 → Option (Int32 × gz_M)) (fu : Nat) (M : gz_M) (a0 : Nat) (a1 : Int32) (a2 : Int32) (x4 : Int32) : Nat → Int32 → Int32 → Option (Int32 × gz_M)
  | 0, _, _ => none
  | n32 + 1, x5, x6 =>
    (f_X10_feetOf fu M a0 a1).bind fun x7 =>
    if x7 ≤ x6 then
      j90 x5
    else
      (f_X10_bestOf fu M a0 a1 a2 x6).bind fun x8 =>
      (f_X10_costOf fu M a0 a1 x6 x8).bind fun x9 =>
      (f_X10_costOf fu M a0 a1 x6 x4).bind fun x10 =>
      gz_jn (fun (x11 : Int32) =>
      lp_X10_doubt_32 j90 fu M a0 a1 a2 x4 n32 (x5 + x11) (x6 + (1 : Int32))) fun j81 =>
      if (x9 - x10) ≤ 0 then
        j81 (0 : Int32)
      else
        j81 (x9 - x10)
def f_X10_doubt (fu : Nat) (M : gz_M) (a0 : Nat) (a1 : Int32) (a2 : Int32) : Option (Int32 × gz_M) :=
  gz_gd M 10 a0 <|
  (f_X10_isMany fu M a0 a1 a2 (10 : Int32)).bind fun x1 =>
  if x1 = 0 then
    gz_b2 (f_X10_refuse fu M a0 (-2 : Int32)) fun x2 M3 =>
    some (x2, M3)
  else
    (f_X10_bestOf fu M a0 a1 a2 (-1 : Int32)).bind fun x4 =>
    lp_X10_doubt_32 (fun (x12 : Int32) => some (x12, M)) fu M a0 a1 a2 x4 fu (0 : Int32) (0 : Int32)
set_option maxHeartbeats 4000000 in
theorem w_X10_doubt_32 {C : gz_C} {y : Int32 × gz_M} {fu : Nat} {M : gz_M} {a0 : Nat} {a1 : Int32} {a2 : Int32} {x4 : Int32} {j90 : Int32 → Option (Int32 × gz_M)} (hC : gz_ok C cX10_doubt RX10 7) (hX : gz_cx C 6 159 0 0 (some .int) (some (.int y.1)) y.2 "doubt") (hj90 : ∀ (x12 : Int32), j90 x12 = some y → gz_go C 0 0 M [(4, .int x12)] 90 []) : ∀ (n : Nat) (x5 : Int32) (x6 : Int32), lp_X10_doubt_32 j90 fu M a0 a1 a2 x4 n x5 x6 = some y → gz_go C 0 0 M [(0, .ref a0), (1, .int a1), (2, .int a2), (3, .int x4), (4, .int x5), (5, .int x6)] 32 [] := by
  intro n
  induction n with
  | zero => intro x5 x6 hF; exact nomatch (show (none : Option (Int32 × gz_M)) = some y from hF)
  | succ n32 ih32 =>
    intro x5 x6 hF
    rw [lp_X10_doubt_32.eq_2] at hF
    refine gz_iload 32 hC 5 dX10_doubt_32 rfl ?_
    refine gz_aload_n 34 hC 0 dX10_doubt_34 rfl rfl ?_
    refine gz_iload_n 35 hC 1 dX10_doubt_35 rfl rfl ?_
    refine gz_cvP (st := [.int x6]) 36 hC hX [.int a1] Value.int yl_X10_feetOf yv_X10_feetOf q_1221 ⟨Nat.le_of_ble_eq_true rfl, Nat.le_of_ble_eq_true rfl⟩ ⟨_, rfl⟩ (fun r h => ct_X10_feetOf _ _ fu M a0 a1 r h) rfl rfl (Nat.le_of_ble_eq_true rfl) dX10_doubt_36 gz_00 hF (fun x7 hF => ?_)
    refine gz_icmp_ge 39 90 hC dX10_doubt_39 (by decide) hF (fun hF => ?_) (fun hF => ?_)
    · skip
      refine gz_sub [4] [(4, .int x5)] rfl ?_
      exact hj90 _ hF
    · skip
      refine gz_aload_n 42 hC 0 dX10_doubt_42 rfl rfl ?_
      refine gz_iload_n 43 hC 1 dX10_doubt_43 rfl rfl ?_
      refine gz_iload 44 hC 5 dX10_doubt_44 rfl ?_
      refine gz_aload_n 46 hC 0 dX10_doubt_46 rfl rfl ?_
      refine gz_iload_n 47 hC 1 dX10_doubt_47 rfl rfl ?_
      refine gz_iload_n 48 hC 2 dX10_doubt_48 rfl rfl ?_
      refine gz_iload 49 hC 5 dX10_doubt_49 rfl ?_
      refine gz_cvP (st := [.int x6, .int a1, .ref a0]) 51 hC hX [.int a1, .int a2, .int x6] Value.int yl_X10_bestOf yv_X10_bestOf q_1419 ⟨Nat.le_of_ble_eq_true rfl, Nat.le_of_ble_eq_true rfl⟩ ⟨_, rfl⟩ (fun r h => ct_X10_bestOf _ _ fu M a0 a1 a2 x6 r h) rfl rfl (Nat.le_of_ble_eq_true rfl) dX10_doubt_51 gz_00 hF (fun x8 hF => ?_)
      refine gz_cvP (st := []) 54 hC hX [.int a1, .int x6, .int x8] Value.int yl_X10_costOf yv_X10_costOf q_1399 ⟨Nat.le_of_ble_eq_true rfl, Nat.le_of_ble_eq_true rfl⟩ ⟨_, rfl⟩ (fun r h => ct_X10_costOf _ _ fu M a0 a1 x6 x8 r h) rfl rfl (Nat.le_of_ble_eq_true rfl) dX10_doubt_54 gz_00 hF (fun x9 hF => ?_)
      refine gz_aload_n 57 hC 0 dX10_doubt_57 rfl rfl ?_
      refine gz_iload_n 58 hC 1 dX10_doubt_58 rfl rfl ?_
      refine gz_iload 59 hC 5 dX10_doubt_59 rfl ?_
      refine gz_iload_n 61 hC 3 dX10_doubt_61 rfl rfl ?_
      refine gz_cvP (st := [.int x9]) 62 hC hX [.int a1, .int x6, .int x4] Value.int yl_X10_costOf yv_X10_costOf q_1399 ⟨Nat.le_of_ble_eq_true rfl, Nat.le_of_ble_eq_true rfl⟩ ⟨_, rfl⟩ (fun r h => ct_X10_costOf _ _ fu M a0 a1 x6 x4 r h) rfl rfl (Nat.le_of_ble_eq_true rfl) dX10_doubt_62 gz_00 hF (fun x10 hF => ?_)
      refine gz_isub 65 hC dX10_doubt_65 ?_
      refine gz_istore 66 hC [(6, .int (x9 - x10)), (0, .ref a0), (1, .int a1), (2, .int a2), (3, .int x4), (4, .int x5), (5, .int x6)] dX10_doubt_66 (by decide) rfl ?_
      refine gz_iload 68 hC 5 dX10_doubt_68 rfl ?_
      refine gz_iload 70 hC 0 dX10_doubt_70 rfl ?_
      refine gz_join (fun (j : Int32 → Option (Int32 × gz_M)) => ∀ (x11 : Int32), j x11 = some y → gz_go C 0 0 M [(0, .ref a0), (1, .int a1), (2, .int a2), (3, .int x4), (5, .int x6)] 81 [.int x11, .int x5]) hF (fun x11 hF => ?_) (fun j81 hj81 hF => ?_)
      · skip
        refine gz_iadd 81 hC dX10_doubt_81 ?_
        refine gz_istore 82 hC [(4, .int (x5 + x11)), (0, .ref a0), (1, .int a1), (2, .int a2), (3, .int x4), (5, .int x6)] dX10_doubt_82 (by decide) rfl ?_
        refine gz_iinc 84 hC (x6 + (1 : Int32)) 5 [(5, .int (x6 + (1 : Int32))), (4, .int (x5 + x11)), (0, .ref a0), (1, .int a1), (2, .int a2), (3, .int x4)] dX10_doubt_84 rfl rfl (by decide) rfl ?_
        refine gz_goto 87 32 hC dX10_doubt_87 (by decide) ?_
        refine gz_sub [2, 3, 4, 5, 1, 0] [(0, .ref a0), (1, .int a1), (2, .int a2), (3, .int x4), (4, .int (x5 + x11)), (5, .int (x6 + (1 : Int32)))] rfl ?_
        exact ih32 _ _ hF
      refine gz_if_le 72 80 hC dX10_doubt_72 (by decide) hF (fun hF => ?_) (fun hF => ?_)
      · skip
        refine gz_iconst 80 hC (0 : Int32) dX10_doubt_80 gz_k0 ?_
        refine gz_sub [1, 2, 3, 4, 6] [(0, .ref a0), (1, .int a1), (2, .int a2), (3, .int x4), (5, .int x6)] rfl ?_
        exact hj81 _ hF
      · skip
        refine gz_iload 75 hC 0 dX10_doubt_75 rfl ?_
        refine gz_goto 77 81 hC dX10_doubt_77 (by decide) ?_
        refine gz_sub [1, 2, 3, 4, 6] [(0, .ref a0), (1, .int a1), (2, .int a2), (3, .int x4), (5, .int x6)] rfl ?_
        exact hj81 _ hF
set_option maxHeartbeats 4000000 in
theorem ct_X10_doubt (l : Launch) (G : gz_G) (fu : Nat) (M : gz_M) (a0 : Nat) (a1 : Int32) (a2 : Int32) (y : Int32 × gz_M) (hF : f_X10_doubt fu M a0 a1 a2 = some y) : gz_ct l yX10_doubt cX10_doubt 7 (some .int) 6 159 0 0 G [.ref a0, .int a1, .int a2] M (some (.int y.1)) y.2 := by
  refine gz_ct.of (by decide) (Nat.le_of_ble_eq_true rfl) (fun C hC hX => ?_)
  unfold f_X10_doubt at hF
  obtain ⟨-, hF⟩ := gz_gd_some hF
  show gz_go C 0 0 M [(0, .ref a0), (1, .int a1), (2, .int a2)] 0 []
  refine gz_aload_n 0 hC 0 dX10_doubt_0 rfl rfl ?_
  refine gz_iload_n 1 hC 1 dX10_doubt_1 rfl rfl ?_
  refine gz_iload_n 2 hC 2 dX10_doubt_2 rfl rfl ?_
  refine gz_bipush 3 hC (10 : Int32) dX10_doubt_3 gz_b10 ?_
  refine gz_cvP (st := []) 5 hC hX [.int a1, .int a2, .int (10 : Int32)] Value.int yl_X10_isMany yv_X10_isMany q_1415 ⟨Nat.le_of_ble_eq_true rfl, Nat.le_of_ble_eq_true rfl⟩ ⟨_, rfl⟩ (fun r h => ct_X10_isMany _ _ fu M a0 a1 a2 (10 : Int32) r h) rfl rfl (Nat.le_of_ble_eq_true rfl) dX10_doubt_5 gz_00 hF (fun x1 hF => ?_)
  refine gz_if_ne 8 18 hC dX10_doubt_8 (by decide) hF (fun hF => ?_) (fun hF => ?_)
  · skip
    refine gz_aload_n 18 hC 0 dX10_doubt_18 rfl rfl ?_
    refine gz_iload_n 19 hC 1 dX10_doubt_19 rfl rfl ?_
    refine gz_iload_n 20 hC 2 dX10_doubt_20 rfl rfl ?_
    refine gz_iconst 21 hC (-1 : Int32) dX10_doubt_21 gz_km1 ?_
    refine gz_cvP (st := []) 22 hC hX [.int a1, .int a2, .int (-1 : Int32)] Value.int yl_X10_bestOf yv_X10_bestOf q_1419 ⟨Nat.le_of_ble_eq_true rfl, Nat.le_of_ble_eq_true rfl⟩ ⟨_, rfl⟩ (fun r h => ct_X10_bestOf _ _ fu M a0 a1 a2 (-1 : Int32) r h) rfl rfl (Nat.le_of_ble_eq_true rfl) dX10_doubt_22 gz_00 hF (fun x4 hF => ?_)
    refine gz_istore_n 25 hC [(3, .int x4), (0, .ref a0), (1, .int a1), (2, .int a2)] dX10_doubt_25 rfl (by decide) rfl ?_
    refine gz_iconst 26 hC (0 : Int32) dX10_doubt_26 gz_k0 ?_
    refine gz_istore 27 hC [(4, .int (0 : Int32)), (3, .int x4), (0, .ref a0), (1, .int a1), (2, .int a2)] dX10_doubt_27 (by decide) rfl ?_
    refine gz_iconst 29 hC (0 : Int32) dX10_doubt_29 gz_k0 ?_
    refine gz_istore 30 hC [(5, .int (0 : Int32)), (4, .int (0 : Int32)), (3, .int x4), (0, .ref a0), (1, .int a1), (2, .int a2)] dX10_doubt_30 (by decide) rfl ?_
    refine gz_sub [3, 4, 5, 2, 1, 0] [(0, .ref a0), (1, .int a1), (2, .int a2), (3, .int x4), (4, .int (0 : Int32)), (5, .int (0 : Int32))] rfl ?_
    refine w_X10_doubt_32 hC hX ?_ _ _ _ hF
    intro x12 hF
    refine gz_iload 90 hC 0 dX10_doubt_90 rfl ?_
    exact gz_iretM 92 hC hX dX10_doubt_92 hF
  · skip
    refine gz_aload_n 11 hC 0 dX10_doubt_11 rfl rfl ?_
    refine gz_bipush 12 hC (-2 : Int32) dX10_doubt_12 gz_bm2 ?_
    refine gz_cvM (st := []) 14 hC hX [.int (-2 : Int32)] Value.int yl_X10_refuse yv_X10_refuse q_1175 ⟨Nat.le_of_ble_eq_true rfl, Nat.le_of_ble_eq_true rfl⟩ ⟨_, rfl⟩ (fun r h => ct_X10_refuse _ _ fu M a0 (-2 : Int32) r h) rfl rfl (Nat.le_of_ble_eq_true rfl) dX10_doubt_14 gz_00 hF (fun x2 M3 hF => ?_)
    exact gz_iretM 17 hC hX dX10_doubt_17 hF

theorem dX10_idle_0 : decode cX10_idle 0 = .ok (.aload_n 0, 1) := by decide +kernel
theorem dX10_idle_1 : decode cX10_idle 1 = .ok (.iload_n 1, 1) := by decide +kernel
theorem dX10_idle_2 : decode cX10_idle 2 = .ok (.invokevirtual 77, 3) := by decide +kernel
theorem dX10_idle_5 : decode cX10_idle 5 = .ok (.ifCond .ne 10, 3) := by decide +kernel
theorem dX10_idle_8 : decode cX10_idle 8 = .ok (.aload_n 0, 1) := by decide +kernel
theorem dX10_idle_9 : decode cX10_idle 9 = .ok (.bipush (-2), 2) := by decide +kernel
theorem dX10_idle_11 : decode cX10_idle 11 = .ok (.invokevirtual 97, 3) := by decide +kernel
theorem dX10_idle_14 : decode cX10_idle 14 = .ok (.ireturn, 1) := by decide +kernel
theorem dX10_idle_15 : decode cX10_idle 15 = .ok (.iconst 0, 1) := by decide +kernel
theorem dX10_idle_16 : decode cX10_idle 16 = .ok (.istore_n 2, 1) := by decide +kernel
theorem dX10_idle_17 : decode cX10_idle 17 = .ok (.iconst 0, 1) := by decide +kernel
theorem dX10_idle_18 : decode cX10_idle 18 = .ok (.istore_n 3, 1) := by decide +kernel
theorem dX10_idle_19 : decode cX10_idle 19 = .ok (.iload_n 3, 1) := by decide +kernel
theorem dX10_idle_20 : decode cX10_idle 20 = .ok (.bipush 10, 2) := by decide +kernel
theorem dX10_idle_22 : decode cX10_idle 22 = .ok (.if_icmp .gt 19, 3) := by decide +kernel
theorem dX10_idle_25 : decode cX10_idle 25 = .ok (.iload_n 2, 1) := by decide +kernel
theorem dX10_idle_26 : decode cX10_idle 26 = .ok (.aload_n 0, 1) := by decide +kernel
theorem dX10_idle_27 : decode cX10_idle 27 = .ok (.iload_n 1, 1) := by decide +kernel
theorem dX10_idle_28 : decode cX10_idle 28 = .ok (.iload_n 3, 1) := by decide +kernel
theorem dX10_idle_29 : decode cX10_idle 29 = .ok (.iconst (-1), 1) := by decide +kernel
theorem dX10_idle_30 : decode cX10_idle 30 = .ok (.invokevirtual 252, 3) := by decide +kernel
theorem dX10_idle_33 : decode cX10_idle 33 = .ok (.ior, 1) := by decide +kernel
theorem dX10_idle_34 : decode cX10_idle 34 = .ok (.istore_n 2, 1) := by decide +kernel
theorem dX10_idle_35 : decode cX10_idle 35 = .ok (.iinc 3 1, 3) := by decide +kernel
theorem dX10_idle_38 : decode cX10_idle 38 = .ok (.goto (-19), 3) := by decide +kernel
theorem dX10_idle_41 : decode cX10_idle 41 = .ok (.iconst 0, 1) := by decide +kernel
theorem dX10_idle_42 : decode cX10_idle 42 = .ok (.istore_n 3, 1) := by decide +kernel
theorem dX10_idle_43 : decode cX10_idle 43 = .ok (.iload_n 3, 1) := by decide +kernel
theorem dX10_idle_44 : decode cX10_idle 44 = .ok (.aload_n 0, 1) := by decide +kernel
theorem dX10_idle_45 : decode cX10_idle 45 = .ok (.iload_n 1, 1) := by decide +kernel
theorem dX10_idle_46 : decode cX10_idle 46 = .ok (.invokevirtual 85, 3) := by decide +kernel
theorem dX10_idle_49 : decode cX10_idle 49 = .ok (.if_icmp .ge 19, 3) := by decide +kernel
theorem dX10_idle_52 : decode cX10_idle 52 = .ok (.iload_n 2, 1) := by decide +kernel
theorem dX10_idle_53 : decode cX10_idle 53 = .ok (.iload_n 3, 1) := by decide +kernel
theorem dX10_idle_54 : decode cX10_idle 54 = .ok (.ishr, 1) := by decide +kernel
theorem dX10_idle_55 : decode cX10_idle 55 = .ok (.iconst 1, 1) := by decide +kernel
theorem dX10_idle_56 : decode cX10_idle 56 = .ok (.iand, 1) := by decide +kernel
theorem dX10_idle_57 : decode cX10_idle 57 = .ok (.ifCond .ne 5, 3) := by decide +kernel
theorem dX10_idle_60 : decode cX10_idle 60 = .ok (.iload_n 3, 1) := by decide +kernel
theorem dX10_idle_61 : decode cX10_idle 61 = .ok (.ireturn, 1) := by decide +kernel
theorem dX10_idle_62 : decode cX10_idle 62 = .ok (.iinc 3 1, 3) := by decide +kernel
theorem dX10_idle_65 : decode cX10_idle 65 = .ok (.goto (-22), 3) := by decide +kernel
theorem dX10_idle_68 : decode cX10_idle 68 = .ok (.iconst (-1), 1) := by decide +kernel
theorem dX10_idle_69 : decode cX10_idle 69 = .ok (.ireturn, 1) := by decide +kernel
def lp_X10_idle_19 (j41 : Int32 → Option (Int32 × gz_M)) (fu : Nat) (M : gz_M) (a0 : Nat) (a1 : Int32) : Nat → Int32 → Int32 → Option (Int32 × gz_M)
  | 0, _, _ => none
  | n19 + 1, x4, x5 =>
    if (10 : Int32) < x5 then
      j41 x4
    else
      (f_X10_bestOf fu M a0 a1 x5 (-1 : Int32)).bind fun x6 =>
      lp_X10_idle_19 j41 fu M a0 a1 n19 (x4 ||| x6) (x5 + (1 : Int32))
def lp_X10_idle_43 (j68 : Option (Int32 × gz_M)) (fu : Nat) (M : gz_M) (a0 : Nat) (a1 : Int32) (x7 : Int32) : Nat → Int32 → Option (Int32 × gz_M)
  | 0, _ => none
  | n43 + 1, x8 =>
    (f_X10_lastsOf fu M a0 a1).bind fun x9 =>
    if x9 ≤ x8 then
      j68
    else
      if ((x7 >>> (x8 &&& 31)) &&& (1 : Int32)) = 0 then
        some (x8, M)
      else
        lp_X10_idle_43 j68 fu M a0 a1 x7 n43 (x8 + (1 : Int32))
def f_X10_idle (fu : Nat) (M : gz_M) (a0 : Nat) (a1 : Int32) : Option (Int32 × gz_M) :=
  gz_gd M 10 a0 <|
  (f_X10_isValley fu M a0 a1).bind fun x1 =>
  if x1 = 0 then
    gz_b2 (f_X10_refuse fu M a0 (-2 : Int32)) fun x2 M3 =>
    some (x2, M3)
  else
    lp_X10_idle_19 (fun (x7 : Int32) => lp_X10_idle_43 (some ((-1 : Int32), M)) fu M a0 a1 x7 fu (0 : Int32)) fu M a0 a1 fu (0 : Int32) (0 : Int32)
set_option maxHeartbeats 4000000 in
theorem w_X10_idle_19 {C : gz_C} {y : Int32 × gz_M} {fu : Nat} {M : gz_M} {a0 : Nat} {a1 : Int32} {j41 : Int32 → Option (Int32 × gz_M)} (hC : gz_ok C cX10_idle RX10 4) (hX : gz_cx C 6 159 0 0 (some .int) (some (.int y.1)) y.2 "idle") (hj41 : ∀ (x7 : Int32), j41 x7 = some y → gz_go C 0 0 M [(0, .ref a0), (1, .int a1), (2, .int x7)] 41 []) : ∀ (n : Nat) (x4 : Int32) (x5 : Int32), lp_X10_idle_19 j41 fu M a0 a1 n x4 x5 = some y → gz_go C 0 0 M [(0, .ref a0), (1, .int a1), (2, .int x4), (3, .int x5)] 19 [] := by
  intro n
  induction n with
  | zero => intro x4 x5 hF; exact nomatch (show (none : Option (Int32 × gz_M)) = some y from hF)
  | succ n19 ih19 =>
    intro x4 x5 hF
    rw [lp_X10_idle_19.eq_2] at hF
    refine gz_iload_n 19 hC 3 dX10_idle_19 rfl rfl ?_
    refine gz_bipush 20 hC (10 : Int32) dX10_idle_20 gz_b10 ?_
    refine gz_icmp_gt 22 41 hC dX10_idle_22 (by decide) hF (fun hF => ?_) (fun hF => ?_)
    · skip
      refine gz_sub [0, 1, 2] [(0, .ref a0), (1, .int a1), (2, .int x4)] rfl ?_
      exact hj41 _ hF
    · skip
      refine gz_iload_n 25 hC 2 dX10_idle_25 rfl rfl ?_
      refine gz_aload_n 26 hC 0 dX10_idle_26 rfl rfl ?_
      refine gz_iload_n 27 hC 1 dX10_idle_27 rfl rfl ?_
      refine gz_iload_n 28 hC 3 dX10_idle_28 rfl rfl ?_
      refine gz_iconst 29 hC (-1 : Int32) dX10_idle_29 gz_km1 ?_
      refine gz_cvP (st := [.int x4]) 30 hC hX [.int a1, .int x5, .int (-1 : Int32)] Value.int yl_X10_bestOf yv_X10_bestOf q_1419 ⟨Nat.le_of_ble_eq_true rfl, Nat.le_of_ble_eq_true rfl⟩ ⟨_, rfl⟩ (fun r h => ct_X10_bestOf _ _ fu M a0 a1 x5 (-1 : Int32) r h) rfl rfl (Nat.le_of_ble_eq_true rfl) dX10_idle_30 gz_00 hF (fun x6 hF => ?_)
      refine gz_ior 33 hC dX10_idle_33 ?_
      refine gz_istore_n 34 hC [(2, .int (x4 ||| x6)), (0, .ref a0), (1, .int a1), (3, .int x5)] dX10_idle_34 rfl (by decide) rfl ?_
      refine gz_iinc 35 hC (x5 + (1 : Int32)) 3 [(3, .int (x5 + (1 : Int32))), (2, .int (x4 ||| x6)), (0, .ref a0), (1, .int a1)] dX10_idle_35 rfl rfl (by decide) rfl ?_
      refine gz_goto 38 19 hC dX10_idle_38 (by decide) ?_
      refine gz_sub [2, 3, 1, 0] [(0, .ref a0), (1, .int a1), (2, .int (x4 ||| x6)), (3, .int (x5 + (1 : Int32)))] rfl ?_
      exact ih19 _ _ hF
set_option maxHeartbeats 4000000 in
theorem w_X10_idle_43 {C : gz_C} {y : Int32 × gz_M} {fu : Nat} {M : gz_M} {a0 : Nat} {a1 : Int32} {x7 : Int32} {j68 : Option (Int32 × gz_M)} (hC : gz_ok C cX10_idle RX10 4) (hX : gz_cx C 6 159 0 0 (some .int) (some (.int y.1)) y.2 "idle") (hj68 : j68 = some y → gz_go C 0 0 M [] 68 []) : ∀ (n : Nat) (x8 : Int32), lp_X10_idle_43 j68 fu M a0 a1 x7 n x8 = some y → gz_go C 0 0 M [(0, .ref a0), (1, .int a1), (2, .int x7), (3, .int x8)] 43 [] := by
  intro n
  induction n with
  | zero => intro x8 hF; exact nomatch (show (none : Option (Int32 × gz_M)) = some y from hF)
  | succ n43 ih43 =>
    intro x8 hF
    rw [lp_X10_idle_43.eq_2] at hF
    refine gz_iload_n 43 hC 3 dX10_idle_43 rfl rfl ?_
    refine gz_aload_n 44 hC 0 dX10_idle_44 rfl rfl ?_
    refine gz_iload_n 45 hC 1 dX10_idle_45 rfl rfl ?_
    refine gz_cvP (st := [.int x8]) 46 hC hX [.int a1] Value.int yl_X10_lastsOf yv_X10_lastsOf q_1229 ⟨Nat.le_of_ble_eq_true rfl, Nat.le_of_ble_eq_true rfl⟩ ⟨_, rfl⟩ (fun r h => ct_X10_lastsOf _ _ fu M a0 a1 r h) rfl rfl (Nat.le_of_ble_eq_true rfl) dX10_idle_46 gz_00 hF (fun x9 hF => ?_)
    refine gz_icmp_ge 49 68 hC dX10_idle_49 (by decide) hF (fun hF => ?_) (fun hF => ?_)
    · skip
      refine gz_sub [] [] rfl ?_
      exact hj68 hF
    · skip
      refine gz_iload_n 52 hC 2 dX10_idle_52 rfl rfl ?_
      refine gz_iload_n 53 hC 3 dX10_idle_53 rfl rfl ?_
      refine gz_ishr 54 hC dX10_idle_54 ?_
      refine gz_iconst 55 hC (1 : Int32) dX10_idle_55 gz_k1 ?_
      refine gz_iand 56 hC dX10_idle_56 ?_
      refine gz_if_ne 57 62 hC dX10_idle_57 (by decide) hF (fun hF => ?_) (fun hF => ?_)
      · skip
        refine gz_iinc 62 hC (x8 + (1 : Int32)) 3 [(3, .int (x8 + (1 : Int32))), (0, .ref a0), (1, .int a1), (2, .int x7)] dX10_idle_62 rfl rfl (by decide) rfl ?_
        refine gz_goto 65 43 hC dX10_idle_65 (by decide) ?_
        refine gz_sub [1, 2, 3, 0] [(0, .ref a0), (1, .int a1), (2, .int x7), (3, .int (x8 + (1 : Int32)))] rfl ?_
        exact ih43 _ hF
      · skip
        refine gz_iload_n 60 hC 3 dX10_idle_60 rfl rfl ?_
        exact gz_iretM 61 hC hX dX10_idle_61 hF
set_option maxHeartbeats 4000000 in
theorem ct_X10_idle (l : Launch) (G : gz_G) (fu : Nat) (M : gz_M) (a0 : Nat) (a1 : Int32) (y : Int32 × gz_M) (hF : f_X10_idle fu M a0 a1 = some y) : gz_ct l yX10_idle cX10_idle 4 (some .int) 6 159 0 0 G [.ref a0, .int a1] M (some (.int y.1)) y.2 := by
  refine gz_ct.of (by decide) (Nat.le_of_ble_eq_true rfl) (fun C hC hX => ?_)
  unfold f_X10_idle at hF
  obtain ⟨-, hF⟩ := gz_gd_some hF
  show gz_go C 0 0 M [(0, .ref a0), (1, .int a1)] 0 []
  refine gz_aload_n 0 hC 0 dX10_idle_0 rfl rfl ?_
  refine gz_iload_n 1 hC 1 dX10_idle_1 rfl rfl ?_
  refine gz_cvP (st := []) 2 hC hX [.int a1] Value.int yl_X10_isValley yv_X10_isValley q_1217 ⟨Nat.le_of_ble_eq_true rfl, Nat.le_of_ble_eq_true rfl⟩ ⟨_, rfl⟩ (fun r h => ct_X10_isValley _ _ fu M a0 a1 r h) rfl rfl (Nat.le_of_ble_eq_true rfl) dX10_idle_2 gz_00 hF (fun x1 hF => ?_)
  refine gz_if_ne 5 15 hC dX10_idle_5 (by decide) hF (fun hF => ?_) (fun hF => ?_)
  · skip
    refine gz_iconst 15 hC (0 : Int32) dX10_idle_15 gz_k0 ?_
    refine gz_istore_n 16 hC [(2, .int (0 : Int32)), (0, .ref a0), (1, .int a1)] dX10_idle_16 rfl (by decide) rfl ?_
    refine gz_iconst 17 hC (0 : Int32) dX10_idle_17 gz_k0 ?_
    refine gz_istore_n 18 hC [(3, .int (0 : Int32)), (2, .int (0 : Int32)), (0, .ref a0), (1, .int a1)] dX10_idle_18 rfl (by decide) rfl ?_
    refine gz_sub [2, 3, 1, 0] [(0, .ref a0), (1, .int a1), (2, .int (0 : Int32)), (3, .int (0 : Int32))] rfl ?_
    refine w_X10_idle_19 hC hX ?_ _ _ _ hF
    intro x7 hF
    refine gz_iconst 41 hC (0 : Int32) dX10_idle_41 gz_k0 ?_
    refine gz_istore_n 42 hC [(3, .int (0 : Int32)), (0, .ref a0), (1, .int a1), (2, .int x7)] dX10_idle_42 rfl (by decide) rfl ?_
    refine gz_sub [1, 2, 3, 0] [(0, .ref a0), (1, .int a1), (2, .int x7), (3, .int (0 : Int32))] rfl ?_
    refine w_X10_idle_43 hC hX ?_ _ _ hF
    intro hF
    refine gz_iconst 68 hC (-1 : Int32) dX10_idle_68 gz_km1 ?_
    exact gz_iretM 69 hC hX dX10_idle_69 hF
  · skip
    refine gz_aload_n 8 hC 0 dX10_idle_8 rfl rfl ?_
    refine gz_bipush 9 hC (-2 : Int32) dX10_idle_9 gz_bm2 ?_
    refine gz_cvM (st := []) 11 hC hX [.int (-2 : Int32)] Value.int yl_X10_refuse yv_X10_refuse q_1175 ⟨Nat.le_of_ble_eq_true rfl, Nat.le_of_ble_eq_true rfl⟩ ⟨_, rfl⟩ (fun r h => ct_X10_refuse _ _ fu M a0 (-2 : Int32) r h) rfl rfl (Nat.le_of_ble_eq_true rfl) dX10_idle_11 gz_00 hF (fun x2 M3 hF => ?_)
    exact gz_iretM 14 hC hX dX10_idle_14 hF

theorem dX10_over_0 : decode cX10_over 0 = .ok (.iconst 0, 1) := by decide +kernel
theorem dX10_over_1 : decode cX10_over 1 = .ok (.istore_n 2, 1) := by decide +kernel
theorem dX10_over_2 : decode cX10_over 2 = .ok (.iload_n 2, 1) := by decide +kernel
theorem dX10_over_3 : decode cX10_over 3 = .ok (.aload_n 0, 1) := by decide +kernel
theorem dX10_over_4 : decode cX10_over 4 = .ok (.arraylength, 1) := by decide +kernel
theorem dX10_over_5 : decode cX10_over 5 = .ok (.if_icmp .ge 15, 3) := by decide +kernel
theorem dX10_over_8 : decode cX10_over 8 = .ok (.aload_n 1, 1) := by decide +kernel
theorem dX10_over_9 : decode cX10_over 9 = .ok (.iload_n 2, 1) := by decide +kernel
theorem dX10_over_10 : decode cX10_over 10 = .ok (.aload_n 0, 1) := by decide +kernel
theorem dX10_over_11 : decode cX10_over 11 = .ok (.iload_n 2, 1) := by decide +kernel
theorem dX10_over_12 : decode cX10_over 12 = .ok (.iaload, 1) := by decide +kernel
theorem dX10_over_13 : decode cX10_over 13 = .ok (.iastore, 1) := by decide +kernel
theorem dX10_over_14 : decode cX10_over 14 = .ok (.iinc 2 1, 3) := by decide +kernel
theorem dX10_over_17 : decode cX10_over 17 = .ok (.goto (-15), 3) := by decide +kernel
theorem dX10_over_20 : decode cX10_over 20 = .ok (.return_, 1) := by decide +kernel
def lp_X10_over_2 (j20 : gz_M → Option (gz_M)) (a0 : Nat) (a1 : Nat) : Nat → Int32 → gz_M → Option (gz_M)
  | 0, _, _ => none
  | n2 + 1, x1, M2 =>
    (gz_ln M2 a0).bind fun x3 =>
    if x3 ≤ x1 then
      j20 M2
    else
      (gz_aI M2 a0 x1).bind fun x4 =>
      (gz_tI M2 a1 x1 x4).bind fun M5 =>
      lp_X10_over_2 j20 a0 a1 n2 (x1 + (1 : Int32)) M5
def f_X10_over (fu : Nat) (M : gz_M) (a0 : Nat) (a1 : Nat) : Option (gz_M) :=
  lp_X10_over_2 (fun (M6 : gz_M) => some M6) a0 a1 fu (0 : Int32) M
set_option maxHeartbeats 4000000 in
theorem w_X10_over_2 {C : gz_C} {y : gz_M} {a0 : Nat} {a1 : Nat} {j20 : gz_M → Option (gz_M)} (hC : gz_ok C cX10_over RX10 3) (hX : gz_cx C 0 0 0 0 none none y "over") (hj20 : ∀ (M6 : gz_M), j20 M6 = some y → gz_go C 0 0 M6 [] 20 []) : ∀ (n : Nat) (x1 : Int32) (M2 : gz_M), lp_X10_over_2 j20 a0 a1 n x1 M2 = some y → gz_go C 0 0 M2 [(0, .ref a0), (1, .ref a1), (2, .int x1)] 2 [] := by
  intro n
  induction n with
  | zero => intro x1 M2 hF; exact nomatch (show (none : Option (gz_M)) = some y from hF)
  | succ n2 ih2 =>
    intro x1 M2 hF
    rw [lp_X10_over_2.eq_2] at hF
    refine gz_iload_n 2 hC 2 dX10_over_2 rfl rfl ?_
    refine gz_aload_n 3 hC 0 dX10_over_3 rfl rfl ?_
    refine gz_alen 4 hC dX10_over_4 hF (fun x3 hF => ?_)
    refine gz_icmp_ge 5 20 hC dX10_over_5 (by decide) hF (fun hF => ?_) (fun hF => ?_)
    · skip
      refine gz_sub [] [] rfl ?_
      exact hj20 _ hF
    · skip
      refine gz_aload_n 8 hC 1 dX10_over_8 rfl rfl ?_
      refine gz_iload_n 9 hC 2 dX10_over_9 rfl rfl ?_
      refine gz_aload_n 10 hC 0 dX10_over_10 rfl rfl ?_
      refine gz_iload_n 11 hC 2 dX10_over_11 rfl rfl ?_
      refine gz_iald 12 hC dX10_over_12 hF (fun x4 hF => ?_)
      refine gz_iast 13 hC dX10_over_13 hF (fun M5 hF => ?_)
      refine gz_iinc 14 hC (x1 + (1 : Int32)) 2 [(2, .int (x1 + (1 : Int32))), (0, .ref a0), (1, .ref a1)] dX10_over_14 rfl rfl (by decide) rfl ?_
      refine gz_goto 17 2 hC dX10_over_17 (by decide) ?_
      refine gz_sub [1, 2, 0] [(0, .ref a0), (1, .ref a1), (2, .int (x1 + (1 : Int32)))] rfl ?_
      exact ih2 _ _ hF
set_option maxHeartbeats 4000000 in
theorem ct_X10_over (l : Launch) (G : gz_G) (fu : Nat) (M : gz_M) (a0 : Nat) (a1 : Nat) (y : gz_M) (hF : f_X10_over fu M a0 a1 = some y) : gz_ct l yX10_over cX10_over 3 none 0 0 0 0 G [.ref a0, .ref a1] M none y := by
  refine gz_ct.of (by decide) (Nat.le_of_ble_eq_true rfl) (fun C hC hX => ?_)
  unfold f_X10_over at hF
  show gz_go C 0 0 M [(0, .ref a0), (1, .ref a1)] 0 []
  refine gz_iconst 0 hC (0 : Int32) dX10_over_0 gz_k0 ?_
  refine gz_istore_n 1 hC [(2, .int (0 : Int32)), (0, .ref a0), (1, .ref a1)] dX10_over_1 rfl (by decide) rfl ?_
  refine gz_sub [1, 2, 0] [(0, .ref a0), (1, .ref a1), (2, .int (0 : Int32))] rfl ?_
  refine w_X10_over_2 hC hX ?_ _ _ _ hF
  intro M6 hF
  exact gz_vretM 20 hC hX dX10_over_20 hF

theorem dX10_begin_0 : decode cX10_begin 0 = .ok (.aload_n 0, 1) := by decide +kernel
theorem dX10_begin_1 : decode cX10_begin 1 = .ok (.iload_n 1, 1) := by decide +kernel
theorem dX10_begin_2 : decode cX10_begin 2 = .ok (.iload_n 2, 1) := by decide +kernel
theorem dX10_begin_3 : decode cX10_begin 3 = .ok (.bipush 10, 2) := by decide +kernel
theorem dX10_begin_5 : decode cX10_begin 5 = .ok (.invokevirtual 248, 3) := by decide +kernel
theorem dX10_begin_8 : decode cX10_begin 8 = .ok (.ifCond .ne 10, 3) := by decide +kernel
theorem dX10_begin_11 : decode cX10_begin 11 = .ok (.aload_n 0, 1) := by decide +kernel
theorem dX10_begin_12 : decode cX10_begin 12 = .ok (.bipush (-2), 2) := by decide +kernel
theorem dX10_begin_14 : decode cX10_begin 14 = .ok (.invokevirtual 97, 3) := by decide +kernel
theorem dX10_begin_17 : decode cX10_begin 17 = .ok (.ireturn, 1) := by decide +kernel
theorem dX10_begin_18 : decode cX10_begin 18 = .ok (.aload_n 0, 1) := by decide +kernel
theorem dX10_begin_19 : decode cX10_begin 19 = .ok (.getfield 45, 3) := by decide +kernel
theorem dX10_begin_22 : decode cX10_begin 22 = .ok (.iload_n 1, 1) := by decide +kernel
theorem dX10_begin_23 : decode cX10_begin 23 = .ok (.aaload, 1) := by decide +kernel
theorem dX10_begin_24 : decode cX10_begin 24 = .ok (.aload_n 0, 1) := by decide +kernel
theorem dX10_begin_25 : decode cX10_begin 25 = .ok (.getfield 45, 3) := by decide +kernel
theorem dX10_begin_28 : decode cX10_begin 28 = .ok (.iconst 4, 1) := by decide +kernel
theorem dX10_begin_29 : decode cX10_begin 29 = .ok (.aaload, 1) := by decide +kernel
theorem dX10_begin_30 : decode cX10_begin 30 = .ok (.invokestatic 285, 3) := by decide +kernel
theorem dX10_begin_33 : decode cX10_begin 33 = .ok (.aload_n 0, 1) := by decide +kernel
theorem dX10_begin_34 : decode cX10_begin 34 = .ok (.getfield 48, 3) := by decide +kernel
theorem dX10_begin_37 : decode cX10_begin 37 = .ok (.iload_n 1, 1) := by decide +kernel
theorem dX10_begin_38 : decode cX10_begin 38 = .ok (.aaload, 1) := by decide +kernel
theorem dX10_begin_39 : decode cX10_begin 39 = .ok (.aload_n 0, 1) := by decide +kernel
theorem dX10_begin_40 : decode cX10_begin 40 = .ok (.getfield 48, 3) := by decide +kernel
theorem dX10_begin_43 : decode cX10_begin 43 = .ok (.iconst 4, 1) := by decide +kernel
theorem dX10_begin_44 : decode cX10_begin 44 = .ok (.aaload, 1) := by decide +kernel
theorem dX10_begin_45 : decode cX10_begin 45 = .ok (.invokestatic 285, 3) := by decide +kernel
theorem dX10_begin_48 : decode cX10_begin 48 = .ok (.aload_n 0, 1) := by decide +kernel
theorem dX10_begin_49 : decode cX10_begin 49 = .ok (.getfield 51, 3) := by decide +kernel
theorem dX10_begin_52 : decode cX10_begin 52 = .ok (.iload_n 1, 1) := by decide +kernel
theorem dX10_begin_53 : decode cX10_begin 53 = .ok (.aaload, 1) := by decide +kernel
theorem dX10_begin_54 : decode cX10_begin 54 = .ok (.aload_n 0, 1) := by decide +kernel
theorem dX10_begin_55 : decode cX10_begin 55 = .ok (.getfield 51, 3) := by decide +kernel
theorem dX10_begin_58 : decode cX10_begin 58 = .ok (.iconst 4, 1) := by decide +kernel
theorem dX10_begin_59 : decode cX10_begin 59 = .ok (.aaload, 1) := by decide +kernel
theorem dX10_begin_60 : decode cX10_begin 60 = .ok (.invokestatic 285, 3) := by decide +kernel
theorem dX10_begin_63 : decode cX10_begin 63 = .ok (.aload_n 0, 1) := by decide +kernel
theorem dX10_begin_64 : decode cX10_begin 64 = .ok (.iload_n 1, 1) := by decide +kernel
theorem dX10_begin_65 : decode cX10_begin 65 = .ok (.putfield 54, 3) := by decide +kernel
theorem dX10_begin_68 : decode cX10_begin 68 = .ok (.aload_n 0, 1) := by decide +kernel
theorem dX10_begin_69 : decode cX10_begin 69 = .ok (.iload_n 2, 1) := by decide +kernel
theorem dX10_begin_70 : decode cX10_begin 70 = .ok (.putfield 288, 3) := by decide +kernel
theorem dX10_begin_73 : decode cX10_begin 73 = .ok (.aload_n 0, 1) := by decide +kernel
theorem dX10_begin_74 : decode cX10_begin 74 = .ok (.iconst 0, 1) := by decide +kernel
theorem dX10_begin_75 : decode cX10_begin 75 = .ok (.putfield 291, 3) := by decide +kernel
theorem dX10_begin_78 : decode cX10_begin 78 = .ok (.aload_n 0, 1) := by decide +kernel
theorem dX10_begin_79 : decode cX10_begin 79 = .ok (.iconst (-1), 1) := by decide +kernel
theorem dX10_begin_80 : decode cX10_begin 80 = .ok (.putfield 58, 3) := by decide +kernel
theorem dX10_begin_83 : decode cX10_begin 83 = .ok (.aload_n 0, 1) := by decide +kernel
theorem dX10_begin_84 : decode cX10_begin 84 = .ok (.iconst 0, 1) := by decide +kernel
theorem dX10_begin_85 : decode cX10_begin 85 = .ok (.putfield 294, 3) := by decide +kernel
theorem dX10_begin_88 : decode cX10_begin 88 = .ok (.aload_n 0, 1) := by decide +kernel
theorem dX10_begin_89 : decode cX10_begin 89 = .ok (.iload_n 1, 1) := by decide +kernel
theorem dX10_begin_90 : decode cX10_begin 90 = .ok (.invokevirtual 88, 3) := by decide +kernel
theorem dX10_begin_93 : decode cX10_begin 93 = .ok (.iconst 1, 1) := by decide +kernel
theorem dX10_begin_94 : decode cX10_begin 94 = .ok (.iadd, 1) := by decide +kernel
theorem dX10_begin_95 : decode cX10_begin 95 = .ok (.ireturn, 1) := by decide +kernel

def f_X10_begin (fu : Nat) (M : gz_M) (a0 : Nat) (a1 : Int32) (a2 : Int32) : Option (Int32 × gz_M) :=
  gz_gd M 10 a0 <|
  (f_X10_isMany fu M a0 a1 a2 (10 : Int32)).bind fun x1 =>
  if x1 = 0 then
    gz_b2 (f_X10_refuse fu M a0 (-2 : Int32)) fun x2 M3 =>
    some (x2, M3)
  else
    (gz_gR M 10 12 a0).bind fun x4 =>
    (gz_aR M x4 a1).bind fun x5 =>
    (gz_gR M 10 12 a0).bind fun x6 =>
    (gz_aR M x6 (4 : Int32)).bind fun x7 =>
    (f_X10_over fu M x5 x7).bind fun M8 =>
    (gz_gR M8 10 13 a0).bind fun x9 =>
    (gz_aR M8 x9 a1).bind fun x10 =>
    (gz_gR M8 10 13 a0).bind fun x11 =>
    (gz_aR M8 x11 (4 : Int32)).bind fun x12 =>
    (f_X10_over fu M8 x10 x12).bind fun M13 =>
    (gz_gR M13 10 14 a0).bind fun x14 =>
    (gz_aR M13 x14 a1).bind fun x15 =>
    (gz_gR M13 10 14 a0).bind fun x16 =>
    (gz_aR M13 x16 (4 : Int32)).bind fun x17 =>
    (f_X10_over fu M13 x15 x17).bind fun M18 =>
    (gz_pI M18 10 15 a0 a1).bind fun M19 =>
    (gz_pI M19 10 16 a0 a2).bind fun M20 =>
    (gz_pI M20 10 17 a0 (0 : Int32)).bind fun M21 =>
    (gz_pI M21 10 18 a0 (-1 : Int32)).bind fun M22 =>
    (gz_pI M22 10 19 a0 (0 : Int32)).bind fun M23 =>
    (f_X10_all fu M23 a0 a1).bind fun x24 =>
    some ((x24 + (1 : Int32)), M23)

set_option maxHeartbeats 4000000 in
theorem ct_X10_begin (l : Launch) (G : gz_G) (fu : Nat) (M : gz_M) (a0 : Nat) (a1 : Int32) (a2 : Int32) (y : Int32 × gz_M) (hF : f_X10_begin fu M a0 a1 a2 = some y) : gz_ct l yX10_begin cX10_begin 3 (some .int) 3 69 0 0 G [.ref a0, .int a1, .int a2] M (some (.int y.1)) y.2 := by
  refine gz_ct.of (by decide) (Nat.le_of_ble_eq_true rfl) (fun C hC hX => ?_)
  unfold f_X10_begin at hF
  obtain ⟨-, hF⟩ := gz_gd_some hF
  show gz_go C 0 0 M [(0, .ref a0), (1, .int a1), (2, .int a2)] 0 []
  refine gz_aload_n 0 hC 0 dX10_begin_0 rfl rfl ?_
  refine gz_iload_n 1 hC 1 dX10_begin_1 rfl rfl ?_
  refine gz_iload_n 2 hC 2 dX10_begin_2 rfl rfl ?_
  refine gz_bipush 3 hC (10 : Int32) dX10_begin_3 gz_b10 ?_
  refine gz_cvP (st := []) 5 hC hX [.int a1, .int a2, .int (10 : Int32)] Value.int yl_X10_isMany yv_X10_isMany q_1415 ⟨Nat.le_of_ble_eq_true rfl, Nat.le_of_ble_eq_true rfl⟩ ⟨_, rfl⟩ (fun r h => ct_X10_isMany _ _ fu M a0 a1 a2 (10 : Int32) r h) rfl rfl (Nat.le_of_ble_eq_true rfl) dX10_begin_5 gz_00 hF (fun x1 hF => ?_)
  refine gz_if_ne 8 18 hC dX10_begin_8 (by decide) hF (fun hF => ?_) (fun hF => ?_)
  · skip
    refine gz_aload_n 18 hC 0 dX10_begin_18 rfl rfl ?_
    refine gz_getR 19 hC fl_X10_45 fk_10_12 dX10_begin_19 hF (fun x4 hF => ?_)
    refine gz_iload_n 22 hC 1 dX10_begin_22 rfl rfl ?_
    refine gz_aald 23 hC dX10_begin_23 hF (fun x5 hF => ?_)
    refine gz_aload_n 24 hC 0 dX10_begin_24 rfl rfl ?_
    refine gz_getR 25 hC fl_X10_45 fk_10_12 dX10_begin_25 hF (fun x6 hF => ?_)
    refine gz_iconst 28 hC (4 : Int32) dX10_begin_28 gz_k4 ?_
    refine gz_aald 29 hC dX10_begin_29 hF (fun x7 hF => ?_)
    refine gz_csV (st := []) 30 hC hX [.ref x5, .ref x7] yl_X10_over yv_X10_over q_1516 ⟨Nat.le_of_ble_eq_true rfl, Nat.le_of_ble_eq_true rfl⟩ (fun r h => ct_X10_over _ _ fu M x5 x7 r h) rfl rfl (Nat.le_of_ble_eq_true rfl) dX10_begin_30 gz_00 hF (fun M8 hF => ?_)
    refine gz_aload_n 33 hC 0 dX10_begin_33 rfl rfl ?_
    refine gz_getR 34 hC fl_X10_48 fk_10_13 dX10_begin_34 hF (fun x9 hF => ?_)
    refine gz_iload_n 37 hC 1 dX10_begin_37 rfl rfl ?_
    refine gz_aald 38 hC dX10_begin_38 hF (fun x10 hF => ?_)
    refine gz_aload_n 39 hC 0 dX10_begin_39 rfl rfl ?_
    refine gz_getR 40 hC fl_X10_48 fk_10_13 dX10_begin_40 hF (fun x11 hF => ?_)
    refine gz_iconst 43 hC (4 : Int32) dX10_begin_43 gz_k4 ?_
    refine gz_aald 44 hC dX10_begin_44 hF (fun x12 hF => ?_)
    refine gz_csV (st := []) 45 hC hX [.ref x10, .ref x12] yl_X10_over yv_X10_over q_1516 ⟨Nat.le_of_ble_eq_true rfl, Nat.le_of_ble_eq_true rfl⟩ (fun r h => ct_X10_over _ _ fu M8 x10 x12 r h) rfl rfl (Nat.le_of_ble_eq_true rfl) dX10_begin_45 gz_00 hF (fun M13 hF => ?_)
    refine gz_aload_n 48 hC 0 dX10_begin_48 rfl rfl ?_
    refine gz_getR 49 hC fl_X10_51 fk_10_14 dX10_begin_49 hF (fun x14 hF => ?_)
    refine gz_iload_n 52 hC 1 dX10_begin_52 rfl rfl ?_
    refine gz_aald 53 hC dX10_begin_53 hF (fun x15 hF => ?_)
    refine gz_aload_n 54 hC 0 dX10_begin_54 rfl rfl ?_
    refine gz_getR 55 hC fl_X10_51 fk_10_14 dX10_begin_55 hF (fun x16 hF => ?_)
    refine gz_iconst 58 hC (4 : Int32) dX10_begin_58 gz_k4 ?_
    refine gz_aald 59 hC dX10_begin_59 hF (fun x17 hF => ?_)
    refine gz_csV (st := []) 60 hC hX [.ref x15, .ref x17] yl_X10_over yv_X10_over q_1516 ⟨Nat.le_of_ble_eq_true rfl, Nat.le_of_ble_eq_true rfl⟩ (fun r h => ct_X10_over _ _ fu M13 x15 x17 r h) rfl rfl (Nat.le_of_ble_eq_true rfl) dX10_begin_60 gz_00 hF (fun M18 hF => ?_)
    refine gz_aload_n 63 hC 0 dX10_begin_63 rfl rfl ?_
    refine gz_iload_n 64 hC 1 dX10_begin_64 rfl rfl ?_
    refine gz_putI 65 hC fl_X10_54 fk_10_15 dX10_begin_65 hF (fun M19 hF => ?_)
    refine gz_aload_n 68 hC 0 dX10_begin_68 rfl rfl ?_
    refine gz_iload_n 69 hC 2 dX10_begin_69 rfl rfl ?_
    refine gz_putI 70 hC fl_X10_288 fk_10_16 dX10_begin_70 hF (fun M20 hF => ?_)
    refine gz_aload_n 73 hC 0 dX10_begin_73 rfl rfl ?_
    refine gz_iconst 74 hC (0 : Int32) dX10_begin_74 gz_k0 ?_
    refine gz_putI 75 hC fl_X10_291 fk_10_17 dX10_begin_75 hF (fun M21 hF => ?_)
    refine gz_aload_n 78 hC 0 dX10_begin_78 rfl rfl ?_
    refine gz_iconst 79 hC (-1 : Int32) dX10_begin_79 gz_km1 ?_
    refine gz_putI 80 hC fl_X10_58 fk_10_18 dX10_begin_80 hF (fun M22 hF => ?_)
    refine gz_aload_n 83 hC 0 dX10_begin_83 rfl rfl ?_
    refine gz_iconst 84 hC (0 : Int32) dX10_begin_84 gz_k0 ?_
    refine gz_putI 85 hC fl_X10_294 fk_10_19 dX10_begin_85 hF (fun M23 hF => ?_)
    refine gz_aload_n 88 hC 0 dX10_begin_88 rfl rfl ?_
    refine gz_iload_n 89 hC 1 dX10_begin_89 rfl rfl ?_
    refine gz_cvP (st := []) 90 hC hX [.int a1] Value.int yl_X10_all yv_X10_all q_1379 ⟨Nat.le_of_ble_eq_true rfl, Nat.le_of_ble_eq_true rfl⟩ ⟨_, rfl⟩ (fun r h => ct_X10_all _ _ fu M23 a0 a1 r h) rfl rfl (Nat.le_of_ble_eq_true rfl) dX10_begin_90 gz_00 hF (fun x24 hF => ?_)
    refine gz_iconst 93 hC (1 : Int32) dX10_begin_93 gz_k1 ?_
    refine gz_iadd 94 hC dX10_begin_94 ?_
    exact gz_iretM 95 hC hX dX10_begin_95 hF
  · skip
    refine gz_aload_n 11 hC 0 dX10_begin_11 rfl rfl ?_
    refine gz_bipush 12 hC (-2 : Int32) dX10_begin_12 gz_bm2 ?_
    refine gz_cvM (st := []) 14 hC hX [.int (-2 : Int32)] Value.int yl_X10_refuse yv_X10_refuse q_1175 ⟨Nat.le_of_ble_eq_true rfl, Nat.le_of_ble_eq_true rfl⟩ ⟨_, rfl⟩ (fun r h => ct_X10_refuse _ _ fu M a0 (-2 : Int32) r h) rfl rfl (Nat.le_of_ble_eq_true rfl) dX10_begin_14 gz_00 hF (fun x2 M3 hF => ?_)
    exact gz_iretM 17 hC hX dX10_begin_17 hF

theorem dX10_isDone_0 : decode cX10_isDone 0 = .ok (.aload_n 0, 1) := by decide +kernel
theorem dX10_isDone_1 : decode cX10_isDone 1 = .ok (.getfield 291, 3) := by decide +kernel
theorem dX10_isDone_4 : decode cX10_isDone 4 = .ok (.aload_n 0, 1) := by decide +kernel
theorem dX10_isDone_5 : decode cX10_isDone 5 = .ok (.iconst 4, 1) := by decide +kernel
theorem dX10_isDone_6 : decode cX10_isDone 6 = .ok (.invokevirtual 88, 3) := by decide +kernel
theorem dX10_isDone_9 : decode cX10_isDone 9 = .ok (.if_icmp .le 7, 3) := by decide +kernel
theorem dX10_isDone_12 : decode cX10_isDone 12 = .ok (.iconst 1, 1) := by decide +kernel
theorem dX10_isDone_13 : decode cX10_isDone 13 = .ok (.goto 4, 3) := by decide +kernel
theorem dX10_isDone_16 : decode cX10_isDone 16 = .ok (.iconst 0, 1) := by decide +kernel
theorem dX10_isDone_17 : decode cX10_isDone 17 = .ok (.ireturn, 1) := by decide +kernel

def f_X10_isDone (fu : Nat) (M : gz_M) (a0 : Nat) : Option (Int32) :=
  gz_gd M 10 a0 <|
  (gz_gI M 10 17 a0).bind fun x1 =>
  (f_X10_all fu M a0 (4 : Int32)).bind fun x2 =>
  gz_jn (fun (x3 : Int32) =>
  gz_z x3 (some x3)) fun j17 =>
  if x1 ≤ x2 then
    j17 (0 : Int32)
  else
    j17 (1 : Int32)

set_option maxHeartbeats 4000000 in
theorem ct_X10_isDone (l : Launch) (G : gz_G) (fu : Nat) (M : gz_M) (a0 : Nat) (y : Int32) (hF : f_X10_isDone fu M a0 = some y) : gz_ct l yX10_isDone cX10_isDone 1 (some .boolean) 2 42 0 0 G [.ref a0] M (some (.int y)) M := by
  refine gz_ct.of (by decide) (Nat.le_of_ble_eq_true rfl) (fun C hC hX => ?_)
  unfold f_X10_isDone at hF
  obtain ⟨-, hF⟩ := gz_gd_some hF
  show gz_go C 0 0 M [(0, .ref a0)] 0 []
  refine gz_aload_n 0 hC 0 dX10_isDone_0 rfl rfl ?_
  refine gz_getI 1 hC fl_X10_291 fk_10_17 dX10_isDone_1 hF (fun x1 hF => ?_)
  refine gz_aload_n 4 hC 0 dX10_isDone_4 rfl rfl ?_
  refine gz_iconst 5 hC (4 : Int32) dX10_isDone_5 gz_k4 ?_
  refine gz_cvP (st := [.int x1]) 6 hC hX [.int (4 : Int32)] Value.int yl_X10_all yv_X10_all q_1379 ⟨Nat.le_of_ble_eq_true rfl, Nat.le_of_ble_eq_true rfl⟩ ⟨_, rfl⟩ (fun r h => ct_X10_all _ _ fu M a0 (4 : Int32) r h) rfl rfl (Nat.le_of_ble_eq_true rfl) dX10_isDone_6 gz_00 hF (fun x2 hF => ?_)
  refine gz_join (fun (j : Int32 → Option (Int32)) => ∀ (x3 : Int32), j x3 = some y → gz_go C 0 0 M [] 17 [.int x3]) hF (fun x3 hF => ?_) (fun j17 hj17 hF => ?_)
  · skip
    exact gz_zretP 17 hC hX dX10_isDone_17 hF
  refine gz_icmp_le 9 16 hC dX10_isDone_9 (by decide) hF (fun hF => ?_) (fun hF => ?_)
  · skip
    refine gz_iconst 16 hC (0 : Int32) dX10_isDone_16 gz_k0 ?_
    refine gz_sub [] [] rfl ?_
    exact hj17 _ hF
  · skip
    refine gz_iconst 12 hC (1 : Int32) dX10_isDone_12 gz_k1 ?_
    refine gz_goto 13 17 hC dX10_isDone_13 (by decide) ?_
    refine gz_sub [] [] rfl ?_
    exact hj17 _ hF

theorem dX10_step_0 : decode cX10_step 0 = .ok (.iload_n 1, 1) := by decide +kernel
theorem dX10_step_1 : decode cX10_step 1 = .ok (.i2l, 1) := by decide +kernel
theorem dX10_step_2 : decode cX10_step 2 = .ok (.lconst 1, 1) := by decide +kernel
theorem dX10_step_3 : decode cX10_step 3 = .ok (.ldc2_w 297, 3) := by decide +kernel
theorem dX10_step_6 : decode cX10_step 6 = .ok (.invokestatic 73, 3) := by decide +kernel
theorem dX10_step_9 : decode cX10_step 9 = .ok (.ifCond .ne 10, 3) := by decide +kernel
theorem dX10_step_12 : decode cX10_step 12 = .ok (.aload_n 0, 1) := by decide +kernel
theorem dX10_step_13 : decode cX10_step 13 = .ok (.bipush (-2), 2) := by decide +kernel
theorem dX10_step_15 : decode cX10_step 15 = .ok (.invokevirtual 97, 3) := by decide +kernel
theorem dX10_step_18 : decode cX10_step 18 = .ok (.ireturn, 1) := by decide +kernel
theorem dX10_step_19 : decode cX10_step 19 = .ok (.aload_n 0, 1) := by decide +kernel
theorem dX10_step_20 : decode cX10_step 20 = .ok (.getfield 54, 3) := by decide +kernel
theorem dX10_step_23 : decode cX10_step 23 = .ok (.iconst (-1), 1) := by decide +kernel
theorem dX10_step_24 : decode cX10_step 24 = .ok (.if_icmp .eq 10, 3) := by decide +kernel
theorem dX10_step_27 : decode cX10_step 27 = .ok (.aload_n 0, 1) := by decide +kernel
theorem dX10_step_28 : decode cX10_step 28 = .ok (.invokevirtual 299, 3) := by decide +kernel
theorem dX10_step_31 : decode cX10_step 31 = .ok (.ifCond .eq 10, 3) := by decide +kernel
theorem dX10_step_34 : decode cX10_step 34 = .ok (.aload_n 0, 1) := by decide +kernel
theorem dX10_step_35 : decode cX10_step 35 = .ok (.bipush (-5), 2) := by decide +kernel
theorem dX10_step_37 : decode cX10_step 37 = .ok (.invokevirtual 97, 3) := by decide +kernel
theorem dX10_step_40 : decode cX10_step 40 = .ok (.ireturn, 1) := by decide +kernel
theorem dX10_step_41 : decode cX10_step 41 = .ok (.iconst 0, 1) := by decide +kernel
theorem dX10_step_42 : decode cX10_step 42 = .ok (.istore_n 2, 1) := by decide +kernel
theorem dX10_step_43 : decode cX10_step 43 = .ok (.iload_n 2, 1) := by decide +kernel
theorem dX10_step_44 : decode cX10_step 44 = .ok (.iload_n 1, 1) := by decide +kernel
theorem dX10_step_45 : decode cX10_step 45 = .ok (.if_icmp .ge 80, 3) := by decide +kernel
theorem dX10_step_48 : decode cX10_step 48 = .ok (.aload_n 0, 1) := by decide +kernel
theorem dX10_step_49 : decode cX10_step 49 = .ok (.invokevirtual 299, 3) := by decide +kernel
theorem dX10_step_52 : decode cX10_step 52 = .ok (.ifCond .ne 73, 3) := by decide +kernel
theorem dX10_step_55 : decode cX10_step 55 = .ok (.aload_n 0, 1) := by decide +kernel
theorem dX10_step_56 : decode cX10_step 56 = .ok (.getfield 291, 3) := by decide +kernel
theorem dX10_step_59 : decode cX10_step 59 = .ok (.invokestatic 245, 3) := by decide +kernel
theorem dX10_step_62 : decode cX10_step 62 = .ok (.aload_n 0, 1) := by decide +kernel
theorem dX10_step_63 : decode cX10_step 63 = .ok (.getfield 288, 3) := by decide +kernel
theorem dX10_step_66 : decode cX10_step 66 = .ok (.if_icmp .gt 43, 3) := by decide +kernel
theorem dX10_step_69 : decode cX10_step 69 = .ok (.aload_n 0, 1) := by decide +kernel
theorem dX10_step_70 : decode cX10_step 70 = .ok (.iconst 4, 1) := by decide +kernel
theorem dX10_step_71 : decode cX10_step 71 = .ok (.aload_n 0, 1) := by decide +kernel
theorem dX10_step_72 : decode cX10_step 72 = .ok (.getfield 291, 3) := by decide +kernel
theorem dX10_step_75 : decode cX10_step 75 = .ok (.iconst (-1), 1) := by decide +kernel
theorem dX10_step_76 : decode cX10_step 76 = .ok (.invokevirtual 242, 3) := by decide +kernel
theorem dX10_step_79 : decode cX10_step 79 = .ok (.istore_n 3, 1) := by decide +kernel
theorem dX10_step_80 : decode cX10_step 80 = .ok (.aload_n 0, 1) := by decide +kernel
theorem dX10_step_81 : decode cX10_step 81 = .ok (.getfield 58, 3) := by decide +kernel
theorem dX10_step_84 : decode cX10_step 84 = .ok (.iconst (-1), 1) := by decide +kernel
theorem dX10_step_85 : decode cX10_step 85 = .ok (.if_icmp .eq 11, 3) := by decide +kernel
theorem dX10_step_88 : decode cX10_step 88 = .ok (.iload_n 3, 1) := by decide +kernel
theorem dX10_step_89 : decode cX10_step 89 = .ok (.aload_n 0, 1) := by decide +kernel
theorem dX10_step_90 : decode cX10_step 90 = .ok (.getfield 294, 3) := by decide +kernel
theorem dX10_step_93 : decode cX10_step 93 = .ok (.if_icmp .ge 16, 3) := by decide +kernel
theorem dX10_step_96 : decode cX10_step 96 = .ok (.aload_n 0, 1) := by decide +kernel
theorem dX10_step_97 : decode cX10_step 97 = .ok (.aload_n 0, 1) := by decide +kernel
theorem dX10_step_98 : decode cX10_step 98 = .ok (.getfield 291, 3) := by decide +kernel
theorem dX10_step_101 : decode cX10_step 101 = .ok (.putfield 58, 3) := by decide +kernel
theorem dX10_step_104 : decode cX10_step 104 = .ok (.aload_n 0, 1) := by decide +kernel
theorem dX10_step_105 : decode cX10_step 105 = .ok (.iload_n 3, 1) := by decide +kernel
theorem dX10_step_106 : decode cX10_step 106 = .ok (.putfield 294, 3) := by decide +kernel
theorem dX10_step_109 : decode cX10_step 109 = .ok (.aload_n 0, 1) := by decide +kernel
theorem dX10_step_110 : decode cX10_step 110 = .ok (.dup, 1) := by decide +kernel
theorem dX10_step_111 : decode cX10_step 111 = .ok (.getfield 291, 3) := by decide +kernel
theorem dX10_step_114 : decode cX10_step 114 = .ok (.iconst 1, 1) := by decide +kernel
theorem dX10_step_115 : decode cX10_step 115 = .ok (.iadd, 1) := by decide +kernel
theorem dX10_step_116 : decode cX10_step 116 = .ok (.putfield 291, 3) := by decide +kernel
theorem dX10_step_119 : decode cX10_step 119 = .ok (.iinc 2 1, 3) := by decide +kernel
theorem dX10_step_122 : decode cX10_step 122 = .ok (.goto (-79), 3) := by decide +kernel
theorem dX10_step_125 : decode cX10_step 125 = .ok (.aload_n 0, 1) := by decide +kernel
theorem dX10_step_126 : decode cX10_step 126 = .ok (.getfield 58, 3) := by decide +kernel
theorem dX10_step_129 : decode cX10_step 129 = .ok (.iconst (-1), 1) := by decide +kernel
theorem dX10_step_130 : decode cX10_step 130 = .ok (.if_icmp .ne 7, 3) := by decide +kernel
theorem dX10_step_133 : decode cX10_step 133 = .ok (.iconst (-1), 1) := by decide +kernel
theorem dX10_step_134 : decode cX10_step 134 = .ok (.goto 7, 3) := by decide +kernel
theorem dX10_step_137 : decode cX10_step 137 = .ok (.aload_n 0, 1) := by decide +kernel
theorem dX10_step_138 : decode cX10_step 138 = .ok (.getfield 294, 3) := by decide +kernel
theorem dX10_step_141 : decode cX10_step 141 = .ok (.ireturn, 1) := by decide +kernel
def lp_X10_step_43 (j125 : gz_M → Option (Int32 × gz_M)) (fu : Nat) (a0 : Nat) (a1 : Int32) : Nat → Int32 → gz_M → Option (Int32 × gz_M)
  | 0, _, _ => none
  | n43 + 1, x6, M7 =>
    if a1 ≤ x6 then
      j125 M7
    else
      (f_X10_isDone fu M7 a0).bind fun x8 =>
      if x8 = 0 then
        (gz_gI M7 10 17 a0).bind fun x9 =>
        (f_X10_bits fu M7 x9).bind fun x10 =>
        (gz_gI M7 10 16 a0).bind fun x11 =>
        gz_jn (fun (M19 : gz_M) =>
        (gz_gI M19 10 17 a0).bind fun x20 =>
          (gz_pI M19 10 17 a0 (x20 + (1 : Int32))).bind fun M21 =>
          lp_X10_step_43 j125 fu a0 a1 n43 (x6 + (1 : Int32)) M21) fun j109 =>
        if x11 < x10 then
          j109 M7
        else
          (gz_gI M7 10 17 a0).bind fun x12 =>
          (f_X10_totalOf fu M7 a0 (4 : Int32) x12 (-1 : Int32)).bind fun x13 =>
          (gz_gI M7 10 18 a0).bind fun x14 =>
          gz_jn ((gz_gI M7 10 17 a0).bind fun x16 =>
            (gz_pI M7 10 18 a0 x16).bind fun M17 =>
            (gz_pI M17 10 19 a0 x13).bind fun M18 =>
            j109 M18) fun j96 =>
          if x14 = (-1 : Int32) then
            j96
          else
            (gz_gI M7 10 19 a0).bind fun x15 =>
            if x15 ≤ x13 then
              j109 M7
            else
              j96
      else
        j125 M7
def f_X10_step (fu : Nat) (M : gz_M) (a0 : Nat) (a1 : Int32) : Option (Int32 × gz_M) :=
  gz_gd M 10 a0 <|
  (f_X10_in fu M (a1).toInt64 (1 : Int64) (999 : Int64)).bind fun x1 =>
  if x1 = 0 then
    gz_b2 (f_X10_refuse fu M a0 (-2 : Int32)) fun x2 M3 =>
    some (x2, M3)
  else
    (gz_gI M 10 15 a0).bind fun x4 =>
    gz_jn (gz_b2 (f_X10_refuse fu M a0 (-5 : Int32)) fun x26 M27 =>
      some (x26, M27)) fun j34 =>
    if x4 = (-1 : Int32) then
      j34
    else
      (f_X10_isDone fu M a0).bind fun x5 =>
      if x5 = 0 then
        lp_X10_step_43 (fun (M22 : gz_M) => (gz_gI M22 10 18 a0).bind fun x23 =>
          gz_jn (fun (x25 : Int32) =>
          some (x25, M22)) fun j141 =>
          if x23 = (-1 : Int32) then
            j141 (-1 : Int32)
          else
            (gz_gI M22 10 19 a0).bind fun x24 =>
            j141 x24) fu a0 a1 fu (0 : Int32) M
      else
        j34
set_option maxHeartbeats 4000000 in
theorem w_X10_step_43 {C : gz_C} {y : Int32 × gz_M} {fu : Nat} {a0 : Nat} {a1 : Int32} {j125 : gz_M → Option (Int32 × gz_M)} (hC : gz_ok C cX10_step RX10 4) (hX : gz_cx C 5 132 0 0 (some .int) (some (.int y.1)) y.2 "step") (hj125 : ∀ (M22 : gz_M), j125 M22 = some y → gz_go C 0 0 M22 [(0, .ref a0)] 125 []) : ∀ (n : Nat) (x6 : Int32) (M7 : gz_M), lp_X10_step_43 j125 fu a0 a1 n x6 M7 = some y → gz_go C 0 0 M7 [(0, .ref a0), (1, .int a1), (2, .int x6)] 43 [] := by
  intro n
  induction n with
  | zero => intro x6 M7 hF; exact nomatch (show (none : Option (Int32 × gz_M)) = some y from hF)
  | succ n43 ih43 =>
    intro x6 M7 hF
    rw [lp_X10_step_43.eq_2] at hF
    refine gz_iload_n 43 hC 2 dX10_step_43 rfl rfl ?_
    refine gz_iload_n 44 hC 1 dX10_step_44 rfl rfl ?_
    refine gz_icmp_ge 45 125 hC dX10_step_45 (by decide) hF (fun hF => ?_) (fun hF => ?_)
    · skip
      refine gz_sub [0] [(0, .ref a0)] rfl ?_
      exact hj125 _ hF
    · skip
      refine gz_aload_n 48 hC 0 dX10_step_48 rfl rfl ?_
      refine gz_cvP (st := []) 49 hC hX [] Value.int yl_X10_isDone yv_X10_isDone q_1524 ⟨Nat.le_of_ble_eq_true rfl, Nat.le_of_ble_eq_true rfl⟩ ⟨_, rfl⟩ (fun r h => ct_X10_isDone _ _ fu M7 a0 r h) rfl rfl (Nat.le_of_ble_eq_true rfl) dX10_step_49 gz_00 hF (fun x8 hF => ?_)
      refine gz_if_ne 52 125 hC dX10_step_52 (by decide) hF (fun hF => ?_) (fun hF => ?_)
      · skip
        refine gz_sub [0] [(0, .ref a0)] rfl ?_
        exact hj125 _ hF
      · skip
        refine gz_aload_n 55 hC 0 dX10_step_55 rfl rfl ?_
        refine gz_getI 56 hC fl_X10_291 fk_10_17 dX10_step_56 hF (fun x9 hF => ?_)
        refine gz_csP (st := []) 59 hC hX [.int x9] Value.int yl_X10_bits yv_X10_bits q_1423 ⟨Nat.le_of_ble_eq_true rfl, Nat.le_of_ble_eq_true rfl⟩ (fun r h => ct_X10_bits _ _ fu M7 x9 r h) rfl rfl (Nat.le_of_ble_eq_true rfl) dX10_step_59 gz_00 hF (fun x10 hF => ?_)
        refine gz_aload_n 62 hC 0 dX10_step_62 rfl rfl ?_
        refine gz_getI 63 hC fl_X10_288 fk_10_16 dX10_step_63 hF (fun x11 hF => ?_)
        refine gz_join (fun (j : gz_M → Option (Int32 × gz_M)) => ∀ (M19 : gz_M), j M19 = some y → gz_go C 0 0 M19 [(0, .ref a0), (1, .int a1), (2, .int x6)] 109 []) hF (fun M19 hF => ?_) (fun j109 hj109 hF => ?_)
        · skip
          refine gz_aload_n 109 hC 0 dX10_step_109 rfl rfl ?_
          refine gz_dup 110 hC dX10_step_110 rfl ?_
          refine gz_getI 111 hC fl_X10_291 fk_10_17 dX10_step_111 hF (fun x20 hF => ?_)
          refine gz_iconst 114 hC (1 : Int32) dX10_step_114 gz_k1 ?_
          refine gz_iadd 115 hC dX10_step_115 ?_
          refine gz_putI 116 hC fl_X10_291 fk_10_17 dX10_step_116 hF (fun M21 hF => ?_)
          refine gz_iinc 119 hC (x6 + (1 : Int32)) 2 [(2, .int (x6 + (1 : Int32))), (0, .ref a0), (1, .int a1)] dX10_step_119 rfl rfl (by decide) rfl ?_
          refine gz_goto 122 43 hC dX10_step_122 (by decide) ?_
          refine gz_sub [1, 2, 0] [(0, .ref a0), (1, .int a1), (2, .int (x6 + (1 : Int32)))] rfl ?_
          exact ih43 _ _ hF
        refine gz_icmp_gt 66 109 hC dX10_step_66 (by decide) hF (fun hF => ?_) (fun hF => ?_)
        · skip
          exact hj109 _ hF
        · skip
          refine gz_aload_n 69 hC 0 dX10_step_69 rfl rfl ?_
          refine gz_iconst 70 hC (4 : Int32) dX10_step_70 gz_k4 ?_
          refine gz_aload_n 71 hC 0 dX10_step_71 rfl rfl ?_
          refine gz_getI 72 hC fl_X10_291 fk_10_17 dX10_step_72 hF (fun x12 hF => ?_)
          refine gz_iconst 75 hC (-1 : Int32) dX10_step_75 gz_km1 ?_
          refine gz_cvP (st := []) 76 hC hX [.int (4 : Int32), .int x12, .int (-1 : Int32)] Value.int yl_X10_totalOf yv_X10_totalOf q_1391 ⟨Nat.le_of_ble_eq_true rfl, Nat.le_of_ble_eq_true rfl⟩ ⟨_, rfl⟩ (fun r h => ct_X10_totalOf _ _ fu M7 a0 (4 : Int32) x12 (-1 : Int32) r h) rfl rfl (Nat.le_of_ble_eq_true rfl) dX10_step_76 gz_00 hF (fun x13 hF => ?_)
          refine gz_istore_n 79 hC [(3, .int x13), (0, .ref a0), (1, .int a1), (2, .int x6)] dX10_step_79 rfl (by decide) rfl ?_
          refine gz_aload_n 80 hC 1 dX10_step_80 rfl rfl ?_
          refine gz_getI 81 hC fl_X10_58 fk_10_18 dX10_step_81 hF (fun x14 hF => ?_)
          refine gz_iconst 84 hC (-1 : Int32) dX10_step_84 gz_km1 ?_
          refine gz_join (fun (j : Option (Int32 × gz_M)) => j = some y → gz_go C 0 0 M7 [(0, .ref a0), (1, .int a1), (2, .int x6), (3, .int x13)] 96 []) hF (fun hF => ?_) (fun j96 hj96 hF => ?_)
          · skip
            refine gz_aload_n 96 hC 0 dX10_step_96 rfl rfl ?_
            refine gz_aload_n 97 hC 0 dX10_step_97 rfl rfl ?_
            refine gz_getI 98 hC fl_X10_291 fk_10_17 dX10_step_98 hF (fun x16 hF => ?_)
            refine gz_putI 101 hC fl_X10_58 fk_10_18 dX10_step_101 hF (fun M17 hF => ?_)
            refine gz_aload_n 104 hC 0 dX10_step_104 rfl rfl ?_
            refine gz_iload_n 105 hC 3 dX10_step_105 rfl rfl ?_
            refine gz_putI 106 hC fl_X10_294 fk_10_19 dX10_step_106 hF (fun M18 hF => ?_)
            refine gz_sub [0, 1, 2] [(0, .ref a0), (1, .int a1), (2, .int x6)] rfl ?_
            exact hj109 _ hF
          refine gz_icmp_eq 85 96 hC dX10_step_85 (by decide) hF (fun hF => ?_) (fun hF => ?_)
          · skip
            refine gz_sub [1, 2, 3, 0] [(0, .ref a0), (1, .int a1), (2, .int x6), (3, .int x13)] rfl ?_
            exact hj96 hF
          · skip
            refine gz_iload_n 88 hC 0 dX10_step_88 rfl rfl ?_
            refine gz_aload_n 89 hC 1 dX10_step_89 rfl rfl ?_
            refine gz_getI 90 hC fl_X10_294 fk_10_19 dX10_step_90 hF (fun x15 hF => ?_)
            refine gz_icmp_ge 93 109 hC dX10_step_93 (by decide) hF (fun hF => ?_) (fun hF => ?_)
            · skip
              refine gz_sub [1, 2, 3] [(0, .ref a0), (1, .int a1), (2, .int x6)] rfl ?_
              exact hj109 _ hF
            · skip
              refine gz_sub [1, 2, 3, 0] [(0, .ref a0), (1, .int a1), (2, .int x6), (3, .int x13)] rfl ?_
              exact hj96 hF
set_option maxHeartbeats 4000000 in
theorem ct_X10_step (l : Launch) (G : gz_G) (fu : Nat) (M : gz_M) (a0 : Nat) (a1 : Int32) (y : Int32 × gz_M) (hF : f_X10_step fu M a0 a1 = some y) : gz_ct l yX10_step cX10_step 4 (some .int) 5 132 0 0 G [.ref a0, .int a1] M (some (.int y.1)) y.2 := by
  refine gz_ct.of (by decide) (Nat.le_of_ble_eq_true rfl) (fun C hC hX => ?_)
  unfold f_X10_step at hF
  obtain ⟨-, hF⟩ := gz_gd_some hF
  show gz_go C 0 0 M [(0, .ref a0), (1, .int a1)] 0 []
  refine gz_iload_n 0 hC 1 dX10_step_0 rfl rfl ?_
  refine gz_i2l 1 hC dX10_step_1 ?_
  refine gz_lconst 2 hC (1 : Int64) dX10_step_2 gz_l1 ?_
  refine gz_ldc2 3 hC dX10_step_3 q_1523 ?_
  refine gz_csP (st := []) 6 hC hX [.long (a1).toInt64, .long (1 : Int64), .long (999 : Int64)] Value.int yl_X10_in yv_X10_in q_1170 ⟨Nat.le_of_ble_eq_true rfl, Nat.le_of_ble_eq_true rfl⟩ (fun r h => ct_X10_in _ _ fu M (a1).toInt64 (1 : Int64) (999 : Int64) r h) rfl rfl (Nat.le_of_ble_eq_true rfl) dX10_step_6 gz_00 hF (fun x1 hF => ?_)
  refine gz_if_ne 9 19 hC dX10_step_9 (by decide) hF (fun hF => ?_) (fun hF => ?_)
  · skip
    refine gz_aload_n 19 hC 0 dX10_step_19 rfl rfl ?_
    refine gz_getI 20 hC fl_X10_54 fk_10_15 dX10_step_20 hF (fun x4 hF => ?_)
    refine gz_iconst 23 hC (-1 : Int32) dX10_step_23 gz_km1 ?_
    refine gz_join (fun (j : Option (Int32 × gz_M)) => j = some y → gz_go C 0 0 M [(0, .ref a0)] 34 []) hF (fun hF => ?_) (fun j34 hj34 hF => ?_)
    · skip
      refine gz_aload_n 34 hC 0 dX10_step_34 rfl rfl ?_
      refine gz_bipush 35 hC (-5 : Int32) dX10_step_35 gz_bm5 ?_
      refine gz_cvM (st := []) 37 hC hX [.int (-5 : Int32)] Value.int yl_X10_refuse yv_X10_refuse q_1175 ⟨Nat.le_of_ble_eq_true rfl, Nat.le_of_ble_eq_true rfl⟩ ⟨_, rfl⟩ (fun r h => ct_X10_refuse _ _ fu M a0 (-5 : Int32) r h) rfl rfl (Nat.le_of_ble_eq_true rfl) dX10_step_37 gz_00 hF (fun x26 M27 hF => ?_)
      exact gz_iretM 40 hC hX dX10_step_40 hF
    refine gz_icmp_eq 24 34 hC dX10_step_24 (by decide) hF (fun hF => ?_) (fun hF => ?_)
    · skip
      refine gz_sub [0] [(0, .ref a0)] rfl ?_
      exact hj34 hF
    · skip
      refine gz_aload_n 27 hC 0 dX10_step_27 rfl rfl ?_
      refine gz_cvP (st := []) 28 hC hX [] Value.int yl_X10_isDone yv_X10_isDone q_1524 ⟨Nat.le_of_ble_eq_true rfl, Nat.le_of_ble_eq_true rfl⟩ ⟨_, rfl⟩ (fun r h => ct_X10_isDone _ _ fu M a0 r h) rfl rfl (Nat.le_of_ble_eq_true rfl) dX10_step_28 gz_00 hF (fun x5 hF => ?_)
      refine gz_if_eq 31 41 hC dX10_step_31 (by decide) hF (fun hF => ?_) (fun hF => ?_)
      · skip
        refine gz_iconst 41 hC (0 : Int32) dX10_step_41 gz_k0 ?_
        refine gz_istore_n 42 hC [(2, .int (0 : Int32)), (0, .ref a0), (1, .int a1)] dX10_step_42 rfl (by decide) rfl ?_
        refine gz_sub [1, 2, 0] [(0, .ref a0), (1, .int a1), (2, .int (0 : Int32))] rfl ?_
        refine w_X10_step_43 hC hX ?_ _ _ _ hF
        intro M22 hF
        refine gz_aload_n 125 hC 0 dX10_step_125 rfl rfl ?_
        refine gz_getI 126 hC fl_X10_58 fk_10_18 dX10_step_126 hF (fun x23 hF => ?_)
        refine gz_iconst 129 hC (-1 : Int32) dX10_step_129 gz_km1 ?_
        refine gz_join (fun (j : Int32 → Option (Int32 × gz_M)) => ∀ (x25 : Int32), j x25 = some y → gz_go C 0 0 M22 [] 141 [.int x25]) hF (fun x25 hF => ?_) (fun j141 hj141 hF => ?_)
        · skip
          exact gz_iretM 141 hC hX dX10_step_141 hF
        refine gz_icmp_ne 130 137 hC dX10_step_130 (by decide) hF (fun hF => ?_) (fun hF => ?_)
        · skip
          refine gz_aload_n 137 hC 0 dX10_step_137 rfl rfl ?_
          refine gz_getI 138 hC fl_X10_294 fk_10_19 dX10_step_138 hF (fun x24 hF => ?_)
          refine gz_sub [] [] rfl ?_
          exact hj141 _ hF
        · skip
          refine gz_iconst 133 hC (-1 : Int32) dX10_step_133 gz_km1 ?_
          refine gz_goto 134 141 hC dX10_step_134 (by decide) ?_
          refine gz_sub [] [] rfl ?_
          exact hj141 _ hF
      · skip
        refine gz_sub [0] [(0, .ref a0)] rfl ?_
        exact hj34 hF
  · skip
    refine gz_aload_n 12 hC 0 dX10_step_12 rfl rfl ?_
    refine gz_bipush 13 hC (-2 : Int32) dX10_step_13 gz_bm2 ?_
    refine gz_cvM (st := []) 15 hC hX [.int (-2 : Int32)] Value.int yl_X10_refuse yv_X10_refuse q_1175 ⟨Nat.le_of_ble_eq_true rfl, Nat.le_of_ble_eq_true rfl⟩ ⟨_, rfl⟩ (fun r h => ct_X10_refuse _ _ fu M a0 (-2 : Int32) r h) rfl rfl (Nat.le_of_ble_eq_true rfl) dX10_step_15 gz_00 hF (fun x2 M3 hF => ?_)
    exact gz_iretM 18 hC hX dX10_step_18 hF
