theorem dX10_tried_0 : decode cX10_tried 0 = .ok (.aload_n 0, 1) := by decide +kernel
theorem dX10_tried_1 : decode cX10_tried 1 = .ok (.getfield 31, 3) := by decide +kernel
theorem dX10_tried_4 : decode cX10_tried 4 = .ok (.iload_n 3, 1) := by decide +kernel
theorem dX10_tried_5 : decode cX10_tried 5 = .ok (.iaload, 1) := by decide +kernel
theorem dX10_tried_6 : decode cX10_tried 6 = .ok (.istore 4, 2) := by decide +kernel
theorem dX10_tried_8 : decode cX10_tried 8 = .ok (.aload_n 0, 1) := by decide +kernel
theorem dX10_tried_9 : decode cX10_tried 9 = .ok (.getfield 34, 3) := by decide +kernel
theorem dX10_tried_12 : decode cX10_tried 12 = .ok (.iload_n 3, 1) := by decide +kernel
theorem dX10_tried_13 : decode cX10_tried 13 = .ok (.iaload, 1) := by decide +kernel
theorem dX10_tried_14 : decode cX10_tried 14 = .ok (.istore 5, 2) := by decide +kernel
theorem dX10_tried_16 : decode cX10_tried 16 = .ok (.aload_n 0, 1) := by decide +kernel
theorem dX10_tried_17 : decode cX10_tried 17 = .ok (.iload_n 1, 1) := by decide +kernel
theorem dX10_tried_18 : decode cX10_tried 18 = .ok (.iload 4, 2) := by decide +kernel
theorem dX10_tried_20 : decode cX10_tried 20 = .ok (.iconst 0, 1) := by decide +kernel
theorem dX10_tried_21 : decode cX10_tried 21 = .ok (.invokevirtual 110, 3) := by decide +kernel
theorem dX10_tried_24 : decode cX10_tried 24 = .ok (.istore 6, 2) := by decide +kernel
theorem dX10_tried_26 : decode cX10_tried 26 = .ok (.aload_n 0, 1) := by decide +kernel
theorem dX10_tried_27 : decode cX10_tried 27 = .ok (.iload_n 1, 1) := by decide +kernel
theorem dX10_tried_28 : decode cX10_tried 28 = .ok (.iload 4, 2) := by decide +kernel
theorem dX10_tried_30 : decode cX10_tried 30 = .ok (.iconst 1, 1) := by decide +kernel
theorem dX10_tried_31 : decode cX10_tried 31 = .ok (.invokevirtual 110, 3) := by decide +kernel
theorem dX10_tried_34 : decode cX10_tried 34 = .ok (.istore 7, 2) := by decide +kernel
theorem dX10_tried_36 : decode cX10_tried 36 = .ok (.aload_n 0, 1) := by decide +kernel
theorem dX10_tried_37 : decode cX10_tried 37 = .ok (.iload_n 1, 1) := by decide +kernel
theorem dX10_tried_38 : decode cX10_tried 38 = .ok (.iload 4, 2) := by decide +kernel
theorem dX10_tried_40 : decode cX10_tried 40 = .ok (.iconst 2, 1) := by decide +kernel
theorem dX10_tried_41 : decode cX10_tried 41 = .ok (.invokevirtual 110, 3) := by decide +kernel
theorem dX10_tried_44 : decode cX10_tried 44 = .ok (.istore 8, 2) := by decide +kernel
theorem dX10_tried_46 : decode cX10_tried 46 = .ok (.aload_n 0, 1) := by decide +kernel
theorem dX10_tried_47 : decode cX10_tried 47 = .ok (.getfield 28, 3) := by decide +kernel
theorem dX10_tried_50 : decode cX10_tried 50 = .ok (.iload_n 3, 1) := by decide +kernel
theorem dX10_tried_51 : decode cX10_tried 51 = .ok (.iaload, 1) := by decide +kernel
theorem dX10_tried_52 : decode cX10_tried 52 = .ok (.tableswitch 233 2 5 #[32, 100, 112, 172], 32) := by decide +kernel
theorem dX10_tried_84 : decode cX10_tried 84 = .ok (.aload_n 0, 1) := by decide +kernel
theorem dX10_tried_85 : decode cX10_tried 85 = .ok (.iload_n 1, 1) := by decide +kernel
theorem dX10_tried_86 : decode cX10_tried 86 = .ok (.iload 6, 2) := by decide +kernel
theorem dX10_tried_88 : decode cX10_tried 88 = .ok (.iload 5, 2) := by decide +kernel
theorem dX10_tried_90 : decode cX10_tried 90 = .ok (.iadd, 1) := by decide +kernel
theorem dX10_tried_91 : decode cX10_tried 91 = .ok (.iload 7, 2) := by decide +kernel
theorem dX10_tried_93 : decode cX10_tried 93 = .ok (.iload 5, 2) := by decide +kernel
theorem dX10_tried_95 : decode cX10_tried 95 = .ok (.iadd, 1) := by decide +kernel
theorem dX10_tried_96 : decode cX10_tried 96 = .ok (.iload 8, 2) := by decide +kernel
theorem dX10_tried_98 : decode cX10_tried 98 = .ok (.iload 5, 2) := by decide +kernel
theorem dX10_tried_100 : decode cX10_tried 100 = .ok (.iadd, 1) := by decide +kernel
theorem dX10_tried_101 : decode cX10_tried 101 = .ok (.aload_n 0, 1) := by decide +kernel
theorem dX10_tried_102 : decode cX10_tried 102 = .ok (.iload_n 1, 1) := by decide +kernel
theorem dX10_tried_103 : decode cX10_tried 103 = .ok (.iload_n 2, 1) := by decide +kernel
theorem dX10_tried_104 : decode cX10_tried 104 = .ok (.iconst 0, 1) := by decide +kernel
theorem dX10_tried_105 : decode cX10_tried 105 = .ok (.invokevirtual 114, 3) := by decide +kernel
theorem dX10_tried_108 : decode cX10_tried 108 = .ok (.aload_n 0, 1) := by decide +kernel
theorem dX10_tried_109 : decode cX10_tried 109 = .ok (.iload_n 1, 1) := by decide +kernel
theorem dX10_tried_110 : decode cX10_tried 110 = .ok (.iload_n 2, 1) := by decide +kernel
theorem dX10_tried_111 : decode cX10_tried 111 = .ok (.iconst 1, 1) := by decide +kernel
theorem dX10_tried_112 : decode cX10_tried 112 = .ok (.invokevirtual 114, 3) := by decide +kernel
theorem dX10_tried_115 : decode cX10_tried 115 = .ok (.aload_n 0, 1) := by decide +kernel
theorem dX10_tried_116 : decode cX10_tried 116 = .ok (.iload_n 1, 1) := by decide +kernel
theorem dX10_tried_117 : decode cX10_tried 117 = .ok (.iload_n 2, 1) := by decide +kernel
theorem dX10_tried_118 : decode cX10_tried 118 = .ok (.iconst 2, 1) := by decide +kernel
theorem dX10_tried_119 : decode cX10_tried 119 = .ok (.invokevirtual 114, 3) := by decide +kernel
theorem dX10_tried_122 : decode cX10_tried 122 = .ok (.aload_n 0, 1) := by decide +kernel
theorem dX10_tried_123 : decode cX10_tried 123 = .ok (.iload_n 1, 1) := by decide +kernel
theorem dX10_tried_124 : decode cX10_tried 124 = .ok (.iload_n 2, 1) := by decide +kernel
theorem dX10_tried_125 : decode cX10_tried 125 = .ok (.iconst 4, 1) := by decide +kernel
theorem dX10_tried_126 : decode cX10_tried 126 = .ok (.invokevirtual 114, 3) := by decide +kernel
theorem dX10_tried_129 : decode cX10_tried 129 = .ok (.invokevirtual 117, 3) := by decide +kernel
theorem dX10_tried_132 : decode cX10_tried 132 = .ok (.istore 9, 2) := by decide +kernel
theorem dX10_tried_134 : decode cX10_tried 134 = .ok (.iload 9, 2) := by decide +kernel
theorem dX10_tried_136 : decode cX10_tried 136 = .ok (.iconst (-1), 1) := by decide +kernel
theorem dX10_tried_137 : decode cX10_tried 137 = .ok (.if_icmp .ne 7, 3) := by decide +kernel
theorem dX10_tried_140 : decode cX10_tried 140 = .ok (.iconst (-1), 1) := by decide +kernel
theorem dX10_tried_141 : decode cX10_tried 141 = .ok (.goto 10, 3) := by decide +kernel
theorem dX10_tried_144 : decode cX10_tried 144 = .ok (.iload 9, 2) := by decide +kernel
theorem dX10_tried_146 : decode cX10_tried 146 = .ok (.iload 5, 2) := by decide +kernel
theorem dX10_tried_148 : decode cX10_tried 148 = .ok (.iconst 2, 1) := by decide +kernel
theorem dX10_tried_149 : decode cX10_tried 149 = .ok (.idiv, 1) := by decide +kernel
theorem dX10_tried_150 : decode cX10_tried 150 = .ok (.iadd, 1) := by decide +kernel
theorem dX10_tried_151 : decode cX10_tried 151 = .ok (.ireturn, 1) := by decide +kernel
theorem dX10_tried_152 : decode cX10_tried 152 = .ok (.iload_n 2, 1) := by decide +kernel
theorem dX10_tried_153 : decode cX10_tried 153 = .ok (.iload 5, 2) := by decide +kernel
theorem dX10_tried_155 : decode cX10_tried 155 = .ok (.if_icmp .ne 7, 3) := by decide +kernel
theorem dX10_tried_158 : decode cX10_tried 158 = .ok (.iconst 0, 1) := by decide +kernel
theorem dX10_tried_159 : decode cX10_tried 159 = .ok (.goto 4, 3) := by decide +kernel
theorem dX10_tried_162 : decode cX10_tried 162 = .ok (.iconst (-1), 1) := by decide +kernel
theorem dX10_tried_163 : decode cX10_tried 163 = .ok (.ireturn, 1) := by decide +kernel
theorem dX10_tried_164 : decode cX10_tried 164 = .ok (.aload_n 0, 1) := by decide +kernel
theorem dX10_tried_165 : decode cX10_tried 165 = .ok (.iload_n 1, 1) := by decide +kernel
theorem dX10_tried_166 : decode cX10_tried 166 = .ok (.iload 4, 2) := by decide +kernel
theorem dX10_tried_168 : decode cX10_tried 168 = .ok (.iload_n 1, 1) := by decide +kernel
theorem dX10_tried_169 : decode cX10_tried 169 = .ok (.iload_n 2, 1) := by decide +kernel
theorem dX10_tried_170 : decode cX10_tried 170 = .ok (.invokevirtual 121, 3) := by decide +kernel
theorem dX10_tried_173 : decode cX10_tried 173 = .ok (.istore 10, 2) := by decide +kernel
theorem dX10_tried_175 : decode cX10_tried 175 = .ok (.iload 5, 2) := by decide +kernel
theorem dX10_tried_177 : decode cX10_tried 177 = .ok (.iconst 2, 1) := by decide +kernel
theorem dX10_tried_178 : decode cX10_tried 178 = .ok (.irem, 1) := by decide +kernel
theorem dX10_tried_179 : decode cX10_tried 179 = .ok (.iconst 1, 1) := by decide +kernel
theorem dX10_tried_180 : decode cX10_tried 180 = .ok (.if_icmp .ne 21, 3) := by decide +kernel
theorem dX10_tried_183 : decode cX10_tried 183 = .ok (.iload 6, 2) := by decide +kernel
theorem dX10_tried_185 : decode cX10_tried 185 = .ok (.aload_n 0, 1) := by decide +kernel
theorem dX10_tried_186 : decode cX10_tried 186 = .ok (.iload_n 1, 1) := by decide +kernel
theorem dX10_tried_187 : decode cX10_tried 187 = .ok (.iload_n 2, 1) := by decide +kernel
theorem dX10_tried_188 : decode cX10_tried 188 = .ok (.iconst 0, 1) := by decide +kernel
theorem dX10_tried_189 : decode cX10_tried 189 = .ok (.invokevirtual 114, 3) := by decide +kernel
theorem dX10_tried_192 : decode cX10_tried 192 = .ok (.isub, 1) := by decide +kernel
theorem dX10_tried_193 : decode cX10_tried 193 = .ok (.iconst 1, 1) := by decide +kernel
theorem dX10_tried_194 : decode cX10_tried 194 = .ok (.if_icmp .le 7, 3) := by decide +kernel
theorem dX10_tried_197 : decode cX10_tried 197 = .ok (.iconst 1, 1) := by decide +kernel
theorem dX10_tried_198 : decode cX10_tried 198 = .ok (.goto 4, 3) := by decide +kernel
theorem dX10_tried_201 : decode cX10_tried 201 = .ok (.iconst 0, 1) := by decide +kernel
theorem dX10_tried_202 : decode cX10_tried 202 = .ok (.istore 11, 2) := by decide +kernel
theorem dX10_tried_204 : decode cX10_tried 204 = .ok (.iload 10, 2) := by decide +kernel
theorem dX10_tried_206 : decode cX10_tried 206 = .ok (.iconst (-1), 1) := by decide +kernel
theorem dX10_tried_207 : decode cX10_tried 207 = .ok (.if_icmp .eq 8, 3) := by decide +kernel
theorem dX10_tried_210 : decode cX10_tried 210 = .ok (.iload 11, 2) := by decide +kernel
theorem dX10_tried_212 : decode cX10_tried 212 = .ok (.ifCond .eq 7, 3) := by decide +kernel
theorem dX10_tried_215 : decode cX10_tried 215 = .ok (.iconst (-1), 1) := by decide +kernel
theorem dX10_tried_216 : decode cX10_tried 216 = .ok (.goto 7, 3) := by decide +kernel
theorem dX10_tried_219 : decode cX10_tried 219 = .ok (.iconst 2, 1) := by decide +kernel
theorem dX10_tried_220 : decode cX10_tried 220 = .ok (.iload 10, 2) := by decide +kernel
theorem dX10_tried_222 : decode cX10_tried 222 = .ok (.imul, 1) := by decide +kernel
theorem dX10_tried_223 : decode cX10_tried 223 = .ok (.ireturn, 1) := by decide +kernel
theorem dX10_tried_224 : decode cX10_tried 224 = .ok (.aload_n 0, 1) := by decide +kernel
theorem dX10_tried_225 : decode cX10_tried 225 = .ok (.getfield 45, 3) := by decide +kernel
theorem dX10_tried_228 : decode cX10_tried 228 = .ok (.iload_n 1, 1) := by decide +kernel
theorem dX10_tried_229 : decode cX10_tried 229 = .ok (.aaload, 1) := by decide +kernel
theorem dX10_tried_230 : decode cX10_tried 230 = .ok (.iconst 3, 1) := by decide +kernel
theorem dX10_tried_231 : decode cX10_tried 231 = .ok (.iaload, 1) := by decide +kernel
theorem dX10_tried_232 : decode cX10_tried 232 = .ok (.iload 5, 2) := by decide +kernel
theorem dX10_tried_234 : decode cX10_tried 234 = .ok (.imul, 1) := by decide +kernel
theorem dX10_tried_235 : decode cX10_tried 235 = .ok (.istore 12, 2) := by decide +kernel
theorem dX10_tried_237 : decode cX10_tried 237 = .ok (.aload_n 0, 1) := by decide +kernel
theorem dX10_tried_238 : decode cX10_tried 238 = .ok (.iload_n 1, 1) := by decide +kernel
theorem dX10_tried_239 : decode cX10_tried 239 = .ok (.iload 6, 2) := by decide +kernel
theorem dX10_tried_241 : decode cX10_tried 241 = .ok (.iload 7, 2) := by decide +kernel
theorem dX10_tried_243 : decode cX10_tried 243 = .ok (.iload 8, 2) := by decide +kernel
theorem dX10_tried_245 : decode cX10_tried 245 = .ok (.aload_n 0, 1) := by decide +kernel
theorem dX10_tried_246 : decode cX10_tried 246 = .ok (.iload_n 1, 1) := by decide +kernel
theorem dX10_tried_247 : decode cX10_tried 247 = .ok (.iload_n 2, 1) := by decide +kernel
theorem dX10_tried_248 : decode cX10_tried 248 = .ok (.iconst 0, 1) := by decide +kernel
theorem dX10_tried_249 : decode cX10_tried 249 = .ok (.invokevirtual 114, 3) := by decide +kernel
theorem dX10_tried_252 : decode cX10_tried 252 = .ok (.iload 12, 2) := by decide +kernel
theorem dX10_tried_254 : decode cX10_tried 254 = .ok (.iadd, 1) := by decide +kernel
theorem dX10_tried_255 : decode cX10_tried 255 = .ok (.aload_n 0, 1) := by decide +kernel
theorem dX10_tried_256 : decode cX10_tried 256 = .ok (.iload_n 1, 1) := by decide +kernel
theorem dX10_tried_257 : decode cX10_tried 257 = .ok (.iload_n 2, 1) := by decide +kernel
theorem dX10_tried_258 : decode cX10_tried 258 = .ok (.iconst 1, 1) := by decide +kernel
theorem dX10_tried_259 : decode cX10_tried 259 = .ok (.invokevirtual 114, 3) := by decide +kernel
theorem dX10_tried_262 : decode cX10_tried 262 = .ok (.iload 12, 2) := by decide +kernel
theorem dX10_tried_264 : decode cX10_tried 264 = .ok (.iconst 2, 1) := by decide +kernel
theorem dX10_tried_265 : decode cX10_tried 265 = .ok (.idiv, 1) := by decide +kernel
theorem dX10_tried_266 : decode cX10_tried 266 = .ok (.iadd, 1) := by decide +kernel
theorem dX10_tried_267 : decode cX10_tried 267 = .ok (.aload_n 0, 1) := by decide +kernel
theorem dX10_tried_268 : decode cX10_tried 268 = .ok (.iload_n 1, 1) := by decide +kernel
theorem dX10_tried_269 : decode cX10_tried 269 = .ok (.iload_n 2, 1) := by decide +kernel
theorem dX10_tried_270 : decode cX10_tried 270 = .ok (.iconst 2, 1) := by decide +kernel
theorem dX10_tried_271 : decode cX10_tried 271 = .ok (.invokevirtual 114, 3) := by decide +kernel
theorem dX10_tried_274 : decode cX10_tried 274 = .ok (.aload_n 0, 1) := by decide +kernel
theorem dX10_tried_275 : decode cX10_tried 275 = .ok (.iload_n 1, 1) := by decide +kernel
theorem dX10_tried_276 : decode cX10_tried 276 = .ok (.iload_n 2, 1) := by decide +kernel
theorem dX10_tried_277 : decode cX10_tried 277 = .ok (.iconst 4, 1) := by decide +kernel
theorem dX10_tried_278 : decode cX10_tried 278 = .ok (.invokevirtual 114, 3) := by decide +kernel
theorem dX10_tried_281 : decode cX10_tried 281 = .ok (.invokevirtual 117, 3) := by decide +kernel
theorem dX10_tried_284 : decode cX10_tried 284 = .ok (.ireturn, 1) := by decide +kernel
theorem dX10_tried_285 : decode cX10_tried 285 = .ok (.aload_n 0, 1) := by decide +kernel
theorem dX10_tried_286 : decode cX10_tried 286 = .ok (.iload_n 1, 1) := by decide +kernel
theorem dX10_tried_287 : decode cX10_tried 287 = .ok (.iload 4, 2) := by decide +kernel
theorem dX10_tried_289 : decode cX10_tried 289 = .ok (.iload_n 1, 1) := by decide +kernel
theorem dX10_tried_290 : decode cX10_tried 290 = .ok (.iload_n 2, 1) := by decide +kernel
theorem dX10_tried_291 : decode cX10_tried 291 = .ok (.invokevirtual 121, 3) := by decide +kernel
theorem dX10_tried_294 : decode cX10_tried 294 = .ok (.ireturn, 1) := by decide +kernel

def f_X10_tried (fu : Nat) (M : gz_M) (a0 : Nat) (a1 : Int32) (a2 : Int32) (a3 : Int32) : Option (Int32) :=
  gz_gd M 10 a0 <|
  (gz_gR M 10 6 a0).bind fun x1 =>
  (gz_aI M x1 a3).bind fun x2 =>
  (gz_gR M 10 7 a0).bind fun x3 =>
  (gz_aI M x3 a3).bind fun x4 =>
  (f_X10_lastIs fu M a0 a1 x2 (0 : Int32)).bind fun x5 =>
  (f_X10_lastIs fu M a0 a1 x2 (1 : Int32)).bind fun x6 =>
  (f_X10_lastIs fu M a0 a1 x2 (2 : Int32)).bind fun x7 =>
  (gz_gR M 10 5 a0).bind fun x8 =>
  (gz_aI M x8 a3).bind fun x9 =>
  if x9 = (2 : Int32) then (f_X10_of fu M a0 a1 a2 (0 : Int32)).bind fun x24 =>
    (f_X10_of fu M a0 a1 a2 (1 : Int32)).bind fun x25 =>
    (f_X10_of fu M a0 a1 a2 (2 : Int32)).bind fun x26 =>
    (f_X10_of fu M a0 a1 a2 (4 : Int32)).bind fun x27 =>
    (f_X10_badBy fu M a0 a1 (x5 + x4) (x6 + x4) (x7 + x4) x24 x25 x26 x27).bind fun x28 =>
    gz_jn (fun (x29 : Int32) =>
    some x29) fun j151 =>
    if x28 = (-1 : Int32) then
      j151 (-1 : Int32)
    else
      j151 (x28 + (x4 / (2 : Int32))) else if x9 = (3 : Int32) then gz_jn (fun (x23 : Int32) =>
    some x23) fun j163 =>
    if a2 = x4 then
      j163 (0 : Int32)
    else
      j163 (-1 : Int32) else if x9 = (4 : Int32) then (f_X10_badOf fu M a0 a1 x2 a1 a2).bind fun x19 =>
    gz_jn (fun (x21 : Int32) =>
    gz_jn (fun (x22 : Int32) =>
      some x22) fun j223 =>
      gz_jn (j223 (-1 : Int32)) fun j215 =>
      if x19 = (-1 : Int32) then
        j215
      else
        if x21 = 0 then
          j223 ((2 : Int32) * x19)
        else
          j215) fun j202 =>
    gz_jn (j202 (0 : Int32)) fun j201 =>
    if (x4 - x4 / (2 : Int32) * (2 : Int32)) = (1 : Int32) then
      (f_X10_of fu M a0 a1 a2 (0 : Int32)).bind fun x20 =>
      if (x5 - x20) ≤ (1 : Int32) then
        j201
      else
        j202 (1 : Int32)
    else
      j201 else if x9 = (5 : Int32) then (gz_gR M 10 12 a0).bind fun x11 =>
    (gz_aR M x11 a1).bind fun x12 =>
    (gz_aI M x12 (3 : Int32)).bind fun x13 =>
    (f_X10_of fu M a0 a1 a2 (0 : Int32)).bind fun x14 =>
    (f_X10_of fu M a0 a1 a2 (1 : Int32)).bind fun x15 =>
    (f_X10_of fu M a0 a1 a2 (2 : Int32)).bind fun x16 =>
    (f_X10_of fu M a0 a1 a2 (4 : Int32)).bind fun x17 =>
    (f_X10_badBy fu M a0 a1 x5 x6 x7 (x14 + (x13 * x4)) (x15 + ((x13 * x4) / (2 : Int32))) x16 x17).bind fun x18 =>
    some x18 else (f_X10_badOf fu M a0 a1 x2 a1 a2).bind fun x10 =>
  some x10

set_option maxHeartbeats 4000000 in
theorem ct_X10_tried (l : Launch) (G : gz_G) (fu : Nat) (M : gz_M) (a0 : Nat) (a1 : Int32) (a2 : Int32) (a3 : Int32) (y : Int32) (hF : f_X10_tried fu M a0 a1 a2 a3 = some y) : gz_ct l yX10_tried cX10_tried 13 (some .int) 2 56 0 0 G [.ref a0, .int a1, .int a2, .int a3] M (some (.int y)) M := by
  refine gz_ct.of (by decide) (Nat.le_of_ble_eq_true rfl) (fun C hC hX => ?_)
  unfold f_X10_tried at hF
  obtain ⟨-, hF⟩ := gz_gd_some hF
  show gz_go C 0 0 M [(0, .ref a0), (1, .int a1), (2, .int a2), (3, .int a3)] 0 []
  refine gz_aload_n 0 hC 0 dX10_tried_0 rfl rfl ?_
  refine gz_getR 1 hC fl_X10_31 fk_10_6 dX10_tried_1 hF (fun x1 hF => ?_)
  refine gz_iload_n 4 hC 3 dX10_tried_4 rfl rfl ?_
  refine gz_iald 5 hC dX10_tried_5 hF (fun x2 hF => ?_)
  refine gz_istore 6 hC [(4, .int x2), (0, .ref a0), (1, .int a1), (2, .int a2), (3, .int a3)] dX10_tried_6 (by decide) rfl ?_
  refine gz_aload_n 8 hC 1 dX10_tried_8 rfl rfl ?_
  refine gz_getR 9 hC fl_X10_34 fk_10_7 dX10_tried_9 hF (fun x3 hF => ?_)
  refine gz_iload_n 12 hC 4 dX10_tried_12 rfl rfl ?_
  refine gz_iald 13 hC dX10_tried_13 hF (fun x4 hF => ?_)
  refine gz_istore 14 hC [(5, .int x4), (4, .int x2), (0, .ref a0), (1, .int a1), (2, .int a2), (3, .int a3)] dX10_tried_14 (by decide) rfl ?_
  refine gz_aload_n 16 hC 2 dX10_tried_16 rfl rfl ?_
  refine gz_iload_n 17 hC 3 dX10_tried_17 rfl rfl ?_
  refine gz_iload 18 hC 1 dX10_tried_18 rfl ?_
  refine gz_iconst 20 hC (0 : Int32) dX10_tried_20 gz_k0 ?_
  refine gz_cvP (st := []) 21 hC hX [.int a1, .int x2, .int (0 : Int32)] Value.int yl_X10_lastIs yv_X10_lastIs q_1237 ⟨Nat.le_of_ble_eq_true rfl, Nat.le_of_ble_eq_true rfl⟩ ⟨_, rfl⟩ (fun r h => ct_X10_lastIs _ _ fu M a0 a1 x2 (0 : Int32) r h) rfl rfl (Nat.le_of_ble_eq_true rfl) dX10_tried_21 gz_00 hF (fun x5 hF => ?_)
  refine gz_istore 24 hC [(6, .int x5), (5, .int x4), (4, .int x2), (0, .ref a0), (1, .int a1), (2, .int a2), (3, .int a3)] dX10_tried_24 (by decide) rfl ?_
  refine gz_aload_n 26 hC 3 dX10_tried_26 rfl rfl ?_
  refine gz_iload_n 27 hC 4 dX10_tried_27 rfl rfl ?_
  refine gz_iload 28 hC 2 dX10_tried_28 rfl ?_
  refine gz_iconst 30 hC (1 : Int32) dX10_tried_30 gz_k1 ?_
  refine gz_cvP (st := []) 31 hC hX [.int a1, .int x2, .int (1 : Int32)] Value.int yl_X10_lastIs yv_X10_lastIs q_1237 ⟨Nat.le_of_ble_eq_true rfl, Nat.le_of_ble_eq_true rfl⟩ ⟨_, rfl⟩ (fun r h => ct_X10_lastIs _ _ fu M a0 a1 x2 (1 : Int32) r h) rfl rfl (Nat.le_of_ble_eq_true rfl) dX10_tried_31 gz_00 hF (fun x6 hF => ?_)
  refine gz_istore 34 hC [(7, .int x6), (6, .int x5), (5, .int x4), (4, .int x2), (0, .ref a0), (1, .int a1), (2, .int a2), (3, .int a3)] dX10_tried_34 (by decide) rfl ?_
  refine gz_aload_n 36 hC 4 dX10_tried_36 rfl rfl ?_
  refine gz_iload_n 37 hC 5 dX10_tried_37 rfl rfl ?_
  refine gz_iload 38 hC 3 dX10_tried_38 rfl ?_
  refine gz_iconst 40 hC (2 : Int32) dX10_tried_40 gz_k2 ?_
  refine gz_cvP (st := []) 41 hC hX [.int a1, .int x2, .int (2 : Int32)] Value.int yl_X10_lastIs yv_X10_lastIs q_1237 ⟨Nat.le_of_ble_eq_true rfl, Nat.le_of_ble_eq_true rfl⟩ ⟨_, rfl⟩ (fun r h => ct_X10_lastIs _ _ fu M a0 a1 x2 (2 : Int32) r h) rfl rfl (Nat.le_of_ble_eq_true rfl) dX10_tried_41 gz_00 hF (fun x7 hF => ?_)
  refine gz_istore 44 hC [(8, .int x7), (7, .int x6), (6, .int x5), (5, .int x4), (4, .int x2), (0, .ref a0), (1, .int a1), (2, .int a2), (3, .int a3)] dX10_tried_44 (by decide) rfl ?_
  refine gz_aload_n 46 hC 5 dX10_tried_46 rfl rfl ?_
  refine gz_getR 47 hC fl_X10_28 fk_10_5 dX10_tried_47 hF (fun x8 hF => ?_)
  refine gz_iload_n 50 hC 8 dX10_tried_50 rfl rfl ?_
  refine gz_iald 51 hC dX10_tried_51 hF (fun x9 hF => ?_)
  refine gz_cse hF (fun e0 hF => ?_) (fun e0 hF => ?_)
  · skip
    refine gz_tin 52 84 hC (off := 32) dX10_tried_52 e0 (by decide) (by decide) (by decide) ?_
    refine gz_aload_n 84 hC 5 dX10_tried_84 rfl rfl ?_
    refine gz_iload_n 85 hC 6 dX10_tried_85 rfl rfl ?_
    refine gz_iload 86 hC 2 dX10_tried_86 rfl ?_
    refine gz_iload 88 hC 3 dX10_tried_88 rfl ?_
    refine gz_iadd 90 hC dX10_tried_90 ?_
    refine gz_iload 91 hC 1 dX10_tried_91 rfl ?_
    refine gz_iload 93 hC 3 dX10_tried_93 rfl ?_
    refine gz_iadd 95 hC dX10_tried_95 ?_
    refine gz_iload 96 hC 0 dX10_tried_96 rfl ?_
    refine gz_iload 98 hC 3 dX10_tried_98 rfl ?_
    refine gz_iadd 100 hC dX10_tried_100 ?_
    refine gz_aload_n 101 hC 5 dX10_tried_101 rfl rfl ?_
    refine gz_iload_n 102 hC 6 dX10_tried_102 rfl rfl ?_
    refine gz_iload_n 103 hC 7 dX10_tried_103 rfl rfl ?_
    refine gz_iconst 104 hC (0 : Int32) dX10_tried_104 gz_k0 ?_
    refine gz_cvP (st := [.int (x7 + x4), .int (x6 + x4), .int (x5 + x4), .int a1, .ref a0]) 105 hC hX [.int a1, .int a2, .int (0 : Int32)] Value.int yl_X10_of yv_X10_of q_1241 ⟨Nat.le_of_ble_eq_true rfl, Nat.le_of_ble_eq_true rfl⟩ ⟨_, rfl⟩ (fun r h => ct_X10_of _ _ fu M a0 a1 a2 (0 : Int32) r h) rfl rfl (Nat.le_of_ble_eq_true rfl) dX10_tried_105 gz_00 hF (fun x24 hF => ?_)
    refine gz_aload_n 108 hC 5 dX10_tried_108 rfl rfl ?_
    refine gz_iload_n 109 hC 6 dX10_tried_109 rfl rfl ?_
    refine gz_iload_n 110 hC 7 dX10_tried_110 rfl rfl ?_
    refine gz_iconst 111 hC (1 : Int32) dX10_tried_111 gz_k1 ?_
    refine gz_cvP (st := [.int x24, .int (x7 + x4), .int (x6 + x4), .int (x5 + x4), .int a1, .ref a0]) 112 hC hX [.int a1, .int a2, .int (1 : Int32)] Value.int yl_X10_of yv_X10_of q_1241 ⟨Nat.le_of_ble_eq_true rfl, Nat.le_of_ble_eq_true rfl⟩ ⟨_, rfl⟩ (fun r h => ct_X10_of _ _ fu M a0 a1 a2 (1 : Int32) r h) rfl rfl (Nat.le_of_ble_eq_true rfl) dX10_tried_112 gz_00 hF (fun x25 hF => ?_)
    refine gz_aload_n 115 hC 5 dX10_tried_115 rfl rfl ?_
    refine gz_iload_n 116 hC 6 dX10_tried_116 rfl rfl ?_
    refine gz_iload_n 117 hC 7 dX10_tried_117 rfl rfl ?_
    refine gz_iconst 118 hC (2 : Int32) dX10_tried_118 gz_k2 ?_
    refine gz_cvP (st := [.int x25, .int x24, .int (x7 + x4), .int (x6 + x4), .int (x5 + x4), .int a1, .ref a0]) 119 hC hX [.int a1, .int a2, .int (2 : Int32)] Value.int yl_X10_of yv_X10_of q_1241 ⟨Nat.le_of_ble_eq_true rfl, Nat.le_of_ble_eq_true rfl⟩ ⟨_, rfl⟩ (fun r h => ct_X10_of _ _ fu M a0 a1 a2 (2 : Int32) r h) rfl rfl (Nat.le_of_ble_eq_true rfl) dX10_tried_119 gz_00 hF (fun x26 hF => ?_)
    refine gz_aload_n 122 hC 5 dX10_tried_122 rfl rfl ?_
    refine gz_iload_n 123 hC 6 dX10_tried_123 rfl rfl ?_
    refine gz_iload_n 124 hC 7 dX10_tried_124 rfl rfl ?_
    refine gz_iconst 125 hC (4 : Int32) dX10_tried_125 gz_k4 ?_
    refine gz_cvP (st := [.int x26, .int x25, .int x24, .int (x7 + x4), .int (x6 + x4), .int (x5 + x4), .int a1, .ref a0]) 126 hC hX [.int a1, .int a2, .int (4 : Int32)] Value.int yl_X10_of yv_X10_of q_1241 ⟨Nat.le_of_ble_eq_true rfl, Nat.le_of_ble_eq_true rfl⟩ ⟨_, rfl⟩ (fun r h => ct_X10_of _ _ fu M a0 a1 a2 (4 : Int32) r h) rfl rfl (Nat.le_of_ble_eq_true rfl) dX10_tried_126 gz_00 hF (fun x27 hF => ?_)
    refine gz_cvP (st := []) 129 hC hX [.int a1, .int (x5 + x4), .int (x6 + x4), .int (x7 + x4), .int x24, .int x25, .int x26, .int x27] Value.int yl_X10_badBy yv_X10_badBy q_1245 ⟨Nat.le_of_ble_eq_true rfl, Nat.le_of_ble_eq_true rfl⟩ ⟨_, rfl⟩ (fun r h => ct_X10_badBy _ _ fu M a0 a1 (x5 + x4) (x6 + x4) (x7 + x4) x24 x25 x26 x27 r h) rfl rfl (Nat.le_of_ble_eq_true rfl) dX10_tried_129 gz_00 hF (fun x28 hF => ?_)
    refine gz_istore 132 hC [(9, .int x28), (8, .int x7), (7, .int x6), (6, .int x5), (5, .int x4), (4, .int x2), (0, .ref a0), (1, .int a1), (2, .int a2), (3, .int a3)] dX10_tried_132 (by decide) rfl ?_
    refine gz_iload 134 hC 0 dX10_tried_134 rfl ?_
    refine gz_iconst 136 hC (-1 : Int32) dX10_tried_136 gz_km1 ?_
    refine gz_join (fun (j : Int32 → Option (Int32)) => ∀ (x29 : Int32), j x29 = some y → gz_go C 0 0 M [] 151 [.int x29]) hF (fun x29 hF => ?_) (fun j151 hj151 hF => ?_)
    · skip
      exact gz_iretP 151 hC hX dX10_tried_151 hF
    refine gz_icmp_ne 137 144 hC dX10_tried_137 (by decide) hF (fun hF => ?_) (fun hF => ?_)
    · skip
      refine gz_iload 144 hC 0 dX10_tried_144 rfl ?_
      refine gz_iload 146 hC 4 dX10_tried_146 rfl ?_
      refine gz_iconst 148 hC (2 : Int32) dX10_tried_148 gz_k2 ?_
      refine gz_idivC 149 hC (by decide) dX10_tried_149 ?_
      refine gz_iadd 150 hC dX10_tried_150 ?_
      refine gz_sub [] [] rfl ?_
      exact hj151 _ hF
    · skip
      refine gz_iconst 140 hC (-1 : Int32) dX10_tried_140 gz_km1 ?_
      refine gz_goto 141 151 hC dX10_tried_141 (by decide) ?_
      refine gz_sub [] [] rfl ?_
      exact hj151 _ hF
  refine gz_cse hF (fun e1 hF => ?_) (fun e1 hF => ?_)
  · skip
    refine gz_tin 52 152 hC (off := 100) dX10_tried_52 e1 (by decide) (by decide) (by decide) ?_
    refine gz_iload_n 152 hC 7 dX10_tried_152 rfl rfl ?_
    refine gz_iload 153 hC 3 dX10_tried_153 rfl ?_
    refine gz_join (fun (j : Int32 → Option (Int32)) => ∀ (x23 : Int32), j x23 = some y → gz_go C 0 0 M [] 163 [.int x23]) hF (fun x23 hF => ?_) (fun j163 hj163 hF => ?_)
    · skip
      exact gz_iretP 163 hC hX dX10_tried_163 hF
    refine gz_icmp_ne 155 162 hC dX10_tried_155 (by decide) hF (fun hF => ?_) (fun hF => ?_)
    · skip
      refine gz_iconst 162 hC (-1 : Int32) dX10_tried_162 gz_km1 ?_
      refine gz_sub [] [] rfl ?_
      exact hj163 _ hF
    · skip
      refine gz_iconst 158 hC (0 : Int32) dX10_tried_158 gz_k0 ?_
      refine gz_goto 159 163 hC dX10_tried_159 (by decide) ?_
      refine gz_sub [] [] rfl ?_
      exact hj163 _ hF
  refine gz_cse hF (fun e2 hF => ?_) (fun e2 hF => ?_)
  · skip
    refine gz_tin 52 164 hC (off := 112) dX10_tried_52 e2 (by decide) (by decide) (by decide) ?_
    refine gz_aload_n 164 hC 5 dX10_tried_164 rfl rfl ?_
    refine gz_iload_n 165 hC 6 dX10_tried_165 rfl rfl ?_
    refine gz_iload 166 hC 4 dX10_tried_166 rfl ?_
    refine gz_iload_n 168 hC 6 dX10_tried_168 rfl rfl ?_
    refine gz_iload_n 169 hC 7 dX10_tried_169 rfl rfl ?_
    refine gz_cvP (st := []) 170 hC hX [.int a1, .int x2, .int a1, .int a2] Value.int yl_X10_badOf yv_X10_badOf q_1249 ⟨Nat.le_of_ble_eq_true rfl, Nat.le_of_ble_eq_true rfl⟩ ⟨_, rfl⟩ (fun r h => ct_X10_badOf _ _ fu M a0 a1 x2 a1 a2 r h) rfl rfl (Nat.le_of_ble_eq_true rfl) dX10_tried_170 gz_00 hF (fun x19 hF => ?_)
    refine gz_istore 173 hC [(10, .int x19), (8, .int x7), (7, .int x6), (6, .int x5), (5, .int x4), (4, .int x2), (0, .ref a0), (1, .int a1), (2, .int a2), (3, .int a3)] dX10_tried_173 (by decide) rfl ?_
    refine gz_iload 175 hC 4 dX10_tried_175 rfl ?_
    refine gz_iconst 177 hC (2 : Int32) dX10_tried_177 gz_k2 ?_
    refine gz_iremC 178 hC (by decide) dX10_tried_178 ?_
    refine gz_iconst 179 hC (1 : Int32) dX10_tried_179 gz_k1 ?_
    refine gz_join (fun (j : Int32 → Option (Int32)) => ∀ (x21 : Int32), j x21 = some y → gz_go C 0 0 M [(10, .int x19)] 202 [.int x21]) hF (fun x21 hF => ?_) (fun j202 hj202 hF => ?_)
    · skip
      refine gz_istore 202 hC [(11, .int x21), (10, .int x19)] dX10_tried_202 (by decide) rfl ?_
      refine gz_iload 204 hC 1 dX10_tried_204 rfl ?_
      refine gz_iconst 206 hC (-1 : Int32) dX10_tried_206 gz_km1 ?_
      refine gz_join (fun (j : Int32 → Option (Int32)) => ∀ (x22 : Int32), j x22 = some y → gz_go C 0 0 M [] 223 [.int x22]) hF (fun x22 hF => ?_) (fun j223 hj223 hF => ?_)
      · skip
        exact gz_iretP 223 hC hX dX10_tried_223 hF
      refine gz_join (fun (j : Option (Int32)) => j = some y → gz_go C 0 0 M [] 215 []) hF (fun hF => ?_) (fun j215 hj215 hF => ?_)
      · skip
        refine gz_iconst 215 hC (-1 : Int32) dX10_tried_215 gz_km1 ?_
        refine gz_goto 216 223 hC dX10_tried_216 (by decide) ?_
        exact hj223 _ hF
      refine gz_icmp_eq 207 215 hC dX10_tried_207 (by decide) hF (fun hF => ?_) (fun hF => ?_)
      · skip
        refine gz_sub [] [] rfl ?_
        exact hj215 hF
      · skip
        refine gz_iload 210 hC 0 dX10_tried_210 rfl ?_
        refine gz_if_eq 212 219 hC dX10_tried_212 (by decide) hF (fun hF => ?_) (fun hF => ?_)
        · skip
          refine gz_iconst 219 hC (2 : Int32) dX10_tried_219 gz_k2 ?_
          refine gz_iload 220 hC 1 dX10_tried_220 rfl ?_
          refine gz_imul 222 hC dX10_tried_222 ?_
          refine gz_sub [] [] rfl ?_
          exact hj223 _ hF
        · skip
          refine gz_sub [] [] rfl ?_
          exact hj215 hF
    refine gz_join (fun (j : Option (Int32)) => j = some y → gz_go C 0 0 M [(10, .int x19)] 201 []) hF (fun hF => ?_) (fun j201 hj201 hF => ?_)
    · skip
      refine gz_iconst 201 hC (0 : Int32) dX10_tried_201 gz_k0 ?_
      exact hj202 _ hF
    refine gz_icmp_ne 180 201 hC dX10_tried_180 (by decide) hF (fun hF => ?_) (fun hF => ?_)
    · skip
      refine gz_sub [0] [(10, .int x19)] rfl ?_
      exact hj201 hF
    · skip
      refine gz_iload 183 hC 3 dX10_tried_183 rfl ?_
      refine gz_aload_n 185 hC 6 dX10_tried_185 rfl rfl ?_
      refine gz_iload_n 186 hC 7 dX10_tried_186 rfl rfl ?_
      refine gz_iload_n 187 hC 8 dX10_tried_187 rfl rfl ?_
      refine gz_iconst 188 hC (0 : Int32) dX10_tried_188 gz_k0 ?_
      refine gz_cvP (st := [.int x5]) 189 hC hX [.int a1, .int a2, .int (0 : Int32)] Value.int yl_X10_of yv_X10_of q_1241 ⟨Nat.le_of_ble_eq_true rfl, Nat.le_of_ble_eq_true rfl⟩ ⟨_, rfl⟩ (fun r h => ct_X10_of _ _ fu M a0 a1 a2 (0 : Int32) r h) rfl rfl (Nat.le_of_ble_eq_true rfl) dX10_tried_189 gz_00 hF (fun x20 hF => ?_)
      refine gz_isub 192 hC dX10_tried_192 ?_
      refine gz_iconst 193 hC (1 : Int32) dX10_tried_193 gz_k1 ?_
      refine gz_icmp_le 194 201 hC dX10_tried_194 (by decide) hF (fun hF => ?_) (fun hF => ?_)
      · skip
        refine gz_sub [0] [(10, .int x19)] rfl ?_
        exact hj201 hF
      · skip
        refine gz_iconst 197 hC (1 : Int32) dX10_tried_197 gz_k1 ?_
        refine gz_goto 198 202 hC dX10_tried_198 (by decide) ?_
        refine gz_sub [0] [(10, .int x19)] rfl ?_
        exact hj202 _ hF
  refine gz_cse hF (fun e3 hF => ?_) (fun e3 hF => ?_)
  · skip
    refine gz_tin 52 224 hC (off := 172) dX10_tried_52 e3 (by decide) (by decide) (by decide) ?_
    refine gz_aload_n 224 hC 5 dX10_tried_224 rfl rfl ?_
    refine gz_getR 225 hC fl_X10_45 fk_10_12 dX10_tried_225 hF (fun x11 hF => ?_)
    refine gz_iload_n 228 hC 6 dX10_tried_228 rfl rfl ?_
    refine gz_aald 229 hC dX10_tried_229 hF (fun x12 hF => ?_)
    refine gz_iconst 230 hC (3 : Int32) dX10_tried_230 gz_k3 ?_
    refine gz_iald 231 hC dX10_tried_231 hF (fun x13 hF => ?_)
    refine gz_iload 232 hC 3 dX10_tried_232 rfl ?_
    refine gz_imul 234 hC dX10_tried_234 ?_
    refine gz_istore 235 hC [(12, .int (x13 * x4)), (8, .int x7), (7, .int x6), (6, .int x5), (5, .int x4), (4, .int x2), (0, .ref a0), (1, .int a1), (2, .int a2), (3, .int a3)] dX10_tried_235 (by decide) rfl ?_
    refine gz_aload_n 237 hC 6 dX10_tried_237 rfl rfl ?_
    refine gz_iload_n 238 hC 7 dX10_tried_238 rfl rfl ?_
    refine gz_iload 239 hC 3 dX10_tried_239 rfl ?_
    refine gz_iload 241 hC 2 dX10_tried_241 rfl ?_
    refine gz_iload 243 hC 1 dX10_tried_243 rfl ?_
    refine gz_aload_n 245 hC 6 dX10_tried_245 rfl rfl ?_
    refine gz_iload_n 246 hC 7 dX10_tried_246 rfl rfl ?_
    refine gz_iload_n 247 hC 8 dX10_tried_247 rfl rfl ?_
    refine gz_iconst 248 hC (0 : Int32) dX10_tried_248 gz_k0 ?_
    refine gz_cvP (st := [.int x7, .int x6, .int x5, .int a1, .ref a0]) 249 hC hX [.int a1, .int a2, .int (0 : Int32)] Value.int yl_X10_of yv_X10_of q_1241 ⟨Nat.le_of_ble_eq_true rfl, Nat.le_of_ble_eq_true rfl⟩ ⟨_, rfl⟩ (fun r h => ct_X10_of _ _ fu M a0 a1 a2 (0 : Int32) r h) rfl rfl (Nat.le_of_ble_eq_true rfl) dX10_tried_249 gz_00 hF (fun x14 hF => ?_)
    refine gz_iload 252 hC 0 dX10_tried_252 rfl ?_
    refine gz_iadd 254 hC dX10_tried_254 ?_
    refine gz_aload_n 255 hC 6 dX10_tried_255 rfl rfl ?_
    refine gz_iload_n 256 hC 7 dX10_tried_256 rfl rfl ?_
    refine gz_iload_n 257 hC 8 dX10_tried_257 rfl rfl ?_
    refine gz_iconst 258 hC (1 : Int32) dX10_tried_258 gz_k1 ?_
    refine gz_cvP (st := [.int (x14 + (x13 * x4)), .int x7, .int x6, .int x5, .int a1, .ref a0]) 259 hC hX [.int a1, .int a2, .int (1 : Int32)] Value.int yl_X10_of yv_X10_of q_1241 ⟨Nat.le_of_ble_eq_true rfl, Nat.le_of_ble_eq_true rfl⟩ ⟨_, rfl⟩ (fun r h => ct_X10_of _ _ fu M a0 a1 a2 (1 : Int32) r h) rfl rfl (Nat.le_of_ble_eq_true rfl) dX10_tried_259 gz_00 hF (fun x15 hF => ?_)
    refine gz_iload 262 hC 0 dX10_tried_262 rfl ?_
    refine gz_iconst 264 hC (2 : Int32) dX10_tried_264 gz_k2 ?_
    refine gz_idivC 265 hC (by decide) dX10_tried_265 ?_
    refine gz_iadd 266 hC dX10_tried_266 ?_
    refine gz_aload_n 267 hC 6 dX10_tried_267 rfl rfl ?_
    refine gz_iload_n 268 hC 7 dX10_tried_268 rfl rfl ?_
    refine gz_iload_n 269 hC 8 dX10_tried_269 rfl rfl ?_
    refine gz_iconst 270 hC (2 : Int32) dX10_tried_270 gz_k2 ?_
    refine gz_cvP (st := [.int (x15 + ((x13 * x4) / (2 : Int32))), .int (x14 + (x13 * x4)), .int x7, .int x6, .int x5, .int a1, .ref a0]) 271 hC hX [.int a1, .int a2, .int (2 : Int32)] Value.int yl_X10_of yv_X10_of q_1241 ⟨Nat.le_of_ble_eq_true rfl, Nat.le_of_ble_eq_true rfl⟩ ⟨_, rfl⟩ (fun r h => ct_X10_of _ _ fu M a0 a1 a2 (2 : Int32) r h) rfl rfl (Nat.le_of_ble_eq_true rfl) dX10_tried_271 gz_00 hF (fun x16 hF => ?_)
    refine gz_aload_n 274 hC 6 dX10_tried_274 rfl rfl ?_
    refine gz_iload_n 275 hC 7 dX10_tried_275 rfl rfl ?_
    refine gz_iload_n 276 hC 8 dX10_tried_276 rfl rfl ?_
    refine gz_iconst 277 hC (4 : Int32) dX10_tried_277 gz_k4 ?_
    refine gz_cvP (st := [.int x16, .int (x15 + ((x13 * x4) / (2 : Int32))), .int (x14 + (x13 * x4)), .int x7, .int x6, .int x5, .int a1, .ref a0]) 278 hC hX [.int a1, .int a2, .int (4 : Int32)] Value.int yl_X10_of yv_X10_of q_1241 ⟨Nat.le_of_ble_eq_true rfl, Nat.le_of_ble_eq_true rfl⟩ ⟨_, rfl⟩ (fun r h => ct_X10_of _ _ fu M a0 a1 a2 (4 : Int32) r h) rfl rfl (Nat.le_of_ble_eq_true rfl) dX10_tried_278 gz_00 hF (fun x17 hF => ?_)
    refine gz_cvP (st := []) 281 hC hX [.int a1, .int x5, .int x6, .int x7, .int (x14 + (x13 * x4)), .int (x15 + ((x13 * x4) / (2 : Int32))), .int x16, .int x17] Value.int yl_X10_badBy yv_X10_badBy q_1245 ⟨Nat.le_of_ble_eq_true rfl, Nat.le_of_ble_eq_true rfl⟩ ⟨_, rfl⟩ (fun r h => ct_X10_badBy _ _ fu M a0 a1 x5 x6 x7 (x14 + (x13 * x4)) (x15 + ((x13 * x4) / (2 : Int32))) x16 x17 r h) rfl rfl (Nat.le_of_ble_eq_true rfl) dX10_tried_281 gz_00 hF (fun x18 hF => ?_)
    exact gz_iretP 284 hC hX dX10_tried_284 hF
  refine gz_tout 52 285 hC dX10_tried_52 (by have h0 := lv_neT (a := 2) e0 (by decide); have h1 := lv_neT (a := 3) e1 (by decide); have h2 := lv_neT (a := 4) e2 (by decide); have h3 := lv_neT (a := 5) e3 (by decide); omega) (by decide) ?_
  refine gz_aload_n 285 hC 5 dX10_tried_285 rfl rfl ?_
  refine gz_iload_n 286 hC 6 dX10_tried_286 rfl rfl ?_
  refine gz_iload 287 hC 4 dX10_tried_287 rfl ?_
  refine gz_iload_n 289 hC 6 dX10_tried_289 rfl rfl ?_
  refine gz_iload_n 290 hC 7 dX10_tried_290 rfl rfl ?_
  refine gz_cvP (st := []) 291 hC hX [.int a1, .int x2, .int a1, .int a2] Value.int yl_X10_badOf yv_X10_badOf q_1249 ⟨Nat.le_of_ble_eq_true rfl, Nat.le_of_ble_eq_true rfl⟩ ⟨_, rfl⟩ (fun r h => ct_X10_badOf _ _ fu M a0 a1 x2 a1 a2 r h) rfl rfl (Nat.le_of_ble_eq_true rfl) dX10_tried_291 gz_00 hF (fun x10 hF => ?_)
  exact gz_iretP 294 hC hX dX10_tried_294 hF

theorem dX10_noTool_0 : decode cX10_noTool 0 = .ok (.aload_n 0, 1) := by decide +kernel
theorem dX10_noTool_1 : decode cX10_noTool 1 = .ok (.getfield 7, 3) := by decide +kernel
theorem dX10_noTool_4 : decode cX10_noTool 4 = .ok (.iload_n 2, 1) := by decide +kernel
theorem dX10_noTool_5 : decode cX10_noTool 5 = .ok (.iaload, 1) := by decide +kernel
theorem dX10_noTool_6 : decode cX10_noTool 6 = .ok (.iconst 1, 1) := by decide +kernel
theorem dX10_noTool_7 : decode cX10_noTool 7 = .ok (.if_icmp .ne 10, 3) := by decide +kernel
theorem dX10_noTool_10 : decode cX10_noTool 10 = .ok (.aload_n 0, 1) := by decide +kernel
theorem dX10_noTool_11 : decode cX10_noTool 11 = .ok (.bipush (-3), 2) := by decide +kernel
theorem dX10_noTool_13 : decode cX10_noTool 13 = .ok (.invokevirtual 97, 3) := by decide +kernel
theorem dX10_noTool_16 : decode cX10_noTool 16 = .ok (.ireturn, 1) := by decide +kernel
theorem dX10_noTool_17 : decode cX10_noTool 17 = .ok (.aload_n 0, 1) := by decide +kernel
theorem dX10_noTool_18 : decode cX10_noTool 18 = .ok (.getfield 7, 3) := by decide +kernel
theorem dX10_noTool_21 : decode cX10_noTool 21 = .ok (.iload_n 2, 1) := by decide +kernel
theorem dX10_noTool_22 : decode cX10_noTool 22 = .ok (.iaload, 1) := by decide +kernel
theorem dX10_noTool_23 : decode cX10_noTool 23 = .ok (.ifCond .ne 10, 3) := by decide +kernel
theorem dX10_noTool_26 : decode cX10_noTool 26 = .ok (.aload_n 0, 1) := by decide +kernel
theorem dX10_noTool_27 : decode cX10_noTool 27 = .ok (.bipush (-4), 2) := by decide +kernel
theorem dX10_noTool_29 : decode cX10_noTool 29 = .ok (.invokevirtual 97, 3) := by decide +kernel
theorem dX10_noTool_32 : decode cX10_noTool 32 = .ok (.ireturn, 1) := by decide +kernel
theorem dX10_noTool_33 : decode cX10_noTool 33 = .ok (.aload_n 0, 1) := by decide +kernel
theorem dX10_noTool_34 : decode cX10_noTool 34 = .ok (.getfield 31, 3) := by decide +kernel
theorem dX10_noTool_37 : decode cX10_noTool 37 = .ok (.iload_n 2, 1) := by decide +kernel
theorem dX10_noTool_38 : decode cX10_noTool 38 = .ok (.iaload, 1) := by decide +kernel
theorem dX10_noTool_39 : decode cX10_noTool 39 = .ok (.aload_n 0, 1) := by decide +kernel
theorem dX10_noTool_40 : decode cX10_noTool 40 = .ok (.iload_n 1, 1) := by decide +kernel
theorem dX10_noTool_41 : decode cX10_noTool 41 = .ok (.invokevirtual 85, 3) := by decide +kernel
theorem dX10_noTool_44 : decode cX10_noTool 44 = .ok (.if_icmp .lt 12, 3) := by decide +kernel
theorem dX10_noTool_47 : decode cX10_noTool 47 = .ok (.aload_n 0, 1) := by decide +kernel
theorem dX10_noTool_48 : decode cX10_noTool 48 = .ok (.bipush (-5), 2) := by decide +kernel
theorem dX10_noTool_50 : decode cX10_noTool 50 = .ok (.invokevirtual 97, 3) := by decide +kernel
theorem dX10_noTool_53 : decode cX10_noTool 53 = .ok (.goto 4, 3) := by decide +kernel
theorem dX10_noTool_56 : decode cX10_noTool 56 = .ok (.iconst 0, 1) := by decide +kernel
theorem dX10_noTool_57 : decode cX10_noTool 57 = .ok (.ireturn, 1) := by decide +kernel

def f_X10_noTool (fu : Nat) (M : gz_M) (a0 : Nat) (a1 : Int32) (a2 : Int32) : Option (Int32 × gz_M) :=
  gz_gd M 10 a0 <|
  (gz_gR M 10 0 a0).bind fun x1 =>
  (gz_aI M x1 a2).bind fun x2 =>
  if x2 = (1 : Int32) then
    gz_b2 (f_X10_refuse fu M a0 (-3 : Int32)) fun x3 M4 =>
    some (x3, M4)
  else
    (gz_gR M 10 0 a0).bind fun x5 =>
    (gz_aI M x5 a2).bind fun x6 =>
    if x6 = 0 then
      gz_b2 (f_X10_refuse fu M a0 (-4 : Int32)) fun x7 M8 =>
      some (x7, M8)
    else
      (gz_gR M 10 6 a0).bind fun x9 =>
      (gz_aI M x9 a2).bind fun x10 =>
      (f_X10_lastsOf fu M a0 a1).bind fun x11 =>
      gz_jn (fun (x14 : Int32) (M15 : gz_M) =>
      some (x14, M15)) fun j57 =>
      if x10 < x11 then
        j57 (0 : Int32) M
      else
        gz_b2 (f_X10_refuse fu M a0 (-5 : Int32)) fun x12 M13 =>
        j57 x12 M13

set_option maxHeartbeats 4000000 in
theorem ct_X10_noTool (l : Launch) (G : gz_G) (fu : Nat) (M : gz_M) (a0 : Nat) (a1 : Int32) (a2 : Int32) (y : Int32 × gz_M) (hF : f_X10_noTool fu M a0 a1 a2 = some y) : gz_ct l yX10_noTool cX10_noTool 3 (some .int) 1 21 0 0 G [.ref a0, .int a1, .int a2] M (some (.int y.1)) y.2 := by
  refine gz_ct.of (by decide) (Nat.le_of_ble_eq_true rfl) (fun C hC hX => ?_)
  unfold f_X10_noTool at hF
  obtain ⟨-, hF⟩ := gz_gd_some hF
  show gz_go C 0 0 M [(0, .ref a0), (1, .int a1), (2, .int a2)] 0 []
  refine gz_aload_n 0 hC 0 dX10_noTool_0 rfl rfl ?_
  refine gz_getR 1 hC fl_X10_7 fk_10_0 dX10_noTool_1 hF (fun x1 hF => ?_)
  refine gz_iload_n 4 hC 2 dX10_noTool_4 rfl rfl ?_
  refine gz_iald 5 hC dX10_noTool_5 hF (fun x2 hF => ?_)
  refine gz_iconst 6 hC (1 : Int32) dX10_noTool_6 gz_k1 ?_
  refine gz_icmp_ne 7 17 hC dX10_noTool_7 (by decide) hF (fun hF => ?_) (fun hF => ?_)
  · skip
    refine gz_aload_n 17 hC 0 dX10_noTool_17 rfl rfl ?_
    refine gz_getR 18 hC fl_X10_7 fk_10_0 dX10_noTool_18 hF (fun x5 hF => ?_)
    refine gz_iload_n 21 hC 2 dX10_noTool_21 rfl rfl ?_
    refine gz_iald 22 hC dX10_noTool_22 hF (fun x6 hF => ?_)
    refine gz_if_ne 23 33 hC dX10_noTool_23 (by decide) hF (fun hF => ?_) (fun hF => ?_)
    · skip
      refine gz_aload_n 33 hC 0 dX10_noTool_33 rfl rfl ?_
      refine gz_getR 34 hC fl_X10_31 fk_10_6 dX10_noTool_34 hF (fun x9 hF => ?_)
      refine gz_iload_n 37 hC 2 dX10_noTool_37 rfl rfl ?_
      refine gz_iald 38 hC dX10_noTool_38 hF (fun x10 hF => ?_)
      refine gz_aload_n 39 hC 0 dX10_noTool_39 rfl rfl ?_
      refine gz_iload_n 40 hC 1 dX10_noTool_40 rfl rfl ?_
      refine gz_cvP (st := [.int x10]) 41 hC hX [.int a1] Value.int yl_X10_lastsOf yv_X10_lastsOf q_1229 ⟨Nat.le_of_ble_eq_true rfl, Nat.le_of_ble_eq_true rfl⟩ ⟨_, rfl⟩ (fun r h => ct_X10_lastsOf _ _ fu M a0 a1 r h) rfl rfl (Nat.le_of_ble_eq_true rfl) dX10_noTool_41 gz_00 hF (fun x11 hF => ?_)
      refine gz_join (fun (j : Int32 → gz_M → Option (Int32 × gz_M)) => ∀ (x14 : Int32) (M15 : gz_M), j x14 M15 = some y → gz_go C 0 0 M15 [] 57 [.int x14]) hF (fun x14 M15 hF => ?_) (fun j57 hj57 hF => ?_)
      · skip
        exact gz_iretM 57 hC hX dX10_noTool_57 hF
      refine gz_icmp_lt 44 56 hC dX10_noTool_44 (by decide) hF (fun hF => ?_) (fun hF => ?_)
      · skip
        refine gz_iconst 56 hC (0 : Int32) dX10_noTool_56 gz_k0 ?_
        refine gz_sub [] [] rfl ?_
        exact hj57 _ _ hF
      · skip
        refine gz_aload_n 47 hC 0 dX10_noTool_47 rfl rfl ?_
        refine gz_bipush 48 hC (-5 : Int32) dX10_noTool_48 gz_bm5 ?_
        refine gz_cvM (st := []) 50 hC hX [.int (-5 : Int32)] Value.int yl_X10_refuse yv_X10_refuse q_1175 ⟨Nat.le_of_ble_eq_true rfl, Nat.le_of_ble_eq_true rfl⟩ ⟨_, rfl⟩ (fun r h => ct_X10_refuse _ _ fu M a0 (-5 : Int32) r h) rfl rfl (Nat.le_of_ble_eq_true rfl) dX10_noTool_50 gz_00 hF (fun x12 M13 hF => ?_)
        refine gz_goto 53 57 hC dX10_noTool_53 (by decide) ?_
        refine gz_sub [] [] rfl ?_
        exact hj57 _ _ hF
    · skip
      refine gz_aload_n 26 hC 0 dX10_noTool_26 rfl rfl ?_
      refine gz_bipush 27 hC (-4 : Int32) dX10_noTool_27 gz_bm4 ?_
      refine gz_cvM (st := []) 29 hC hX [.int (-4 : Int32)] Value.int yl_X10_refuse yv_X10_refuse q_1175 ⟨Nat.le_of_ble_eq_true rfl, Nat.le_of_ble_eq_true rfl⟩ ⟨_, rfl⟩ (fun r h => ct_X10_refuse _ _ fu M a0 (-4 : Int32) r h) rfl rfl (Nat.le_of_ble_eq_true rfl) dX10_noTool_29 gz_00 hF (fun x7 M8 hF => ?_)
      exact gz_iretM 32 hC hX dX10_noTool_32 hF
  · skip
    refine gz_aload_n 10 hC 0 dX10_noTool_10 rfl rfl ?_
    refine gz_bipush 11 hC (-3 : Int32) dX10_noTool_11 gz_bm3 ?_
    refine gz_cvM (st := []) 13 hC hX [.int (-3 : Int32)] Value.int yl_X10_refuse yv_X10_refuse q_1175 ⟨Nat.le_of_ble_eq_true rfl, Nat.le_of_ble_eq_true rfl⟩ ⟨_, rfl⟩ (fun r h => ct_X10_refuse _ _ fu M a0 (-3 : Int32) r h) rfl rfl (Nat.le_of_ble_eq_true rfl) dX10_noTool_13 gz_00 hF (fun x3 M4 hF => ?_)
    exact gz_iretM 16 hC hX dX10_noTool_16 hF

theorem dX10_tries_0 : decode cX10_tries 0 = .ok (.aload_n 0, 1) := by decide +kernel
theorem dX10_tries_1 : decode cX10_tries 1 = .ok (.iload_n 1, 1) := by decide +kernel
theorem dX10_tries_2 : decode cX10_tries 2 = .ok (.iload_n 2, 1) := by decide +kernel
theorem dX10_tries_3 : decode cX10_tries 3 = .ok (.invokevirtual 125, 3) := by decide +kernel
theorem dX10_tries_6 : decode cX10_tries 6 = .ok (.ifCond .eq 15, 3) := by decide +kernel
theorem dX10_tries_9 : decode cX10_tries 9 = .ok (.iload_n 3, 1) := by decide +kernel
theorem dX10_tries_10 : decode cX10_tries 10 = .ok (.i2l, 1) := by decide +kernel
theorem dX10_tries_11 : decode cX10_tries 11 = .ok (.lconst 0, 1) := by decide +kernel
theorem dX10_tries_12 : decode cX10_tries 12 = .ok (.ldc2_w 91, 3) := by decide +kernel
theorem dX10_tries_15 : decode cX10_tries 15 = .ok (.invokestatic 73, 3) := by decide +kernel
theorem dX10_tries_18 : decode cX10_tries 18 = .ok (.ifCond .ne 10, 3) := by decide +kernel
theorem dX10_tries_21 : decode cX10_tries 21 = .ok (.aload_n 0, 1) := by decide +kernel
theorem dX10_tries_22 : decode cX10_tries 22 = .ok (.bipush (-2), 2) := by decide +kernel
theorem dX10_tries_24 : decode cX10_tries 24 = .ok (.invokevirtual 97, 3) := by decide +kernel
theorem dX10_tries_27 : decode cX10_tries 27 = .ok (.ireturn, 1) := by decide +kernel
theorem dX10_tries_28 : decode cX10_tries 28 = .ok (.aload_n 0, 1) := by decide +kernel
theorem dX10_tries_29 : decode cX10_tries 29 = .ok (.iload_n 1, 1) := by decide +kernel
theorem dX10_tries_30 : decode cX10_tries 30 = .ok (.iload_n 3, 1) := by decide +kernel
theorem dX10_tries_31 : decode cX10_tries 31 = .ok (.invokevirtual 129, 3) := by decide +kernel
theorem dX10_tries_34 : decode cX10_tries 34 = .ok (.istore 4, 2) := by decide +kernel
theorem dX10_tries_36 : decode cX10_tries 36 = .ok (.iload 4, 2) := by decide +kernel
theorem dX10_tries_38 : decode cX10_tries 38 = .ok (.ifCond .eq 8, 3) := by decide +kernel
theorem dX10_tries_41 : decode cX10_tries 41 = .ok (.iload 4, 2) := by decide +kernel
theorem dX10_tries_43 : decode cX10_tries 43 = .ok (.goto 10, 3) := by decide +kernel
theorem dX10_tries_46 : decode cX10_tries 46 = .ok (.aload_n 0, 1) := by decide +kernel
theorem dX10_tries_47 : decode cX10_tries 47 = .ok (.iload_n 1, 1) := by decide +kernel
theorem dX10_tries_48 : decode cX10_tries 48 = .ok (.iload_n 2, 1) := by decide +kernel
theorem dX10_tries_49 : decode cX10_tries 49 = .ok (.iload_n 3, 1) := by decide +kernel
theorem dX10_tries_50 : decode cX10_tries 50 = .ok (.invokevirtual 133, 3) := by decide +kernel
theorem dX10_tries_53 : decode cX10_tries 53 = .ok (.ireturn, 1) := by decide +kernel

def f_X10_tries (fu : Nat) (M : gz_M) (a0 : Nat) (a1 : Int32) (a2 : Int32) (a3 : Int32) : Option (Int32 × gz_M) :=
  gz_gd M 10 a0 <|
  (f_X10_isFoot fu M a0 a1 a2).bind fun x1 =>
  gz_jn (gz_b2 (f_X10_refuse fu M a0 (-2 : Int32)) fun x7 M8 =>
    some (x7, M8)) fun j21 =>
  if x1 = 0 then
    j21
  else
    (f_X10_in fu M (a3).toInt64 (0 : Int64) (7 : Int64)).bind fun x2 =>
    if x2 = 0 then
      j21
    else
      gz_b2 (f_X10_noTool fu M a0 a1 a3) fun x3 M4 =>
      gz_jn (fun (x6 : Int32) =>
      some (x6, M4)) fun j53 =>
      if x3 = 0 then
        (f_X10_tried fu M4 a0 a1 a2 a3).bind fun x5 =>
        j53 x5
      else
        j53 x3

set_option maxHeartbeats 4000000 in
theorem ct_X10_tries (l : Launch) (G : gz_G) (fu : Nat) (M : gz_M) (a0 : Nat) (a1 : Int32) (a2 : Int32) (a3 : Int32) (y : Int32 × gz_M) (hF : f_X10_tries fu M a0 a1 a2 a3 = some y) : gz_ct l yX10_tries cX10_tries 5 (some .int) 3 88 0 0 G [.ref a0, .int a1, .int a2, .int a3] M (some (.int y.1)) y.2 := by
  refine gz_ct.of (by decide) (Nat.le_of_ble_eq_true rfl) (fun C hC hX => ?_)
  unfold f_X10_tries at hF
  obtain ⟨-, hF⟩ := gz_gd_some hF
  show gz_go C 0 0 M [(0, .ref a0), (1, .int a1), (2, .int a2), (3, .int a3)] 0 []
  refine gz_aload_n 0 hC 0 dX10_tries_0 rfl rfl ?_
  refine gz_iload_n 1 hC 1 dX10_tries_1 rfl rfl ?_
  refine gz_iload_n 2 hC 2 dX10_tries_2 rfl rfl ?_
  refine gz_cvP (st := []) 3 hC hX [.int a1, .int a2] Value.int yl_X10_isFoot yv_X10_isFoot q_1213 ⟨Nat.le_of_ble_eq_true rfl, Nat.le_of_ble_eq_true rfl⟩ ⟨_, rfl⟩ (fun r h => ct_X10_isFoot _ _ fu M a0 a1 a2 r h) rfl rfl (Nat.le_of_ble_eq_true rfl) dX10_tries_3 gz_00 hF (fun x1 hF => ?_)
  refine gz_join (fun (j : Option (Int32 × gz_M)) => j = some y → gz_go C 0 0 M [(0, .ref a0)] 21 []) hF (fun hF => ?_) (fun j21 hj21 hF => ?_)
  · skip
    refine gz_aload_n 21 hC 0 dX10_tries_21 rfl rfl ?_
    refine gz_bipush 22 hC (-2 : Int32) dX10_tries_22 gz_bm2 ?_
    refine gz_cvM (st := []) 24 hC hX [.int (-2 : Int32)] Value.int yl_X10_refuse yv_X10_refuse q_1175 ⟨Nat.le_of_ble_eq_true rfl, Nat.le_of_ble_eq_true rfl⟩ ⟨_, rfl⟩ (fun r h => ct_X10_refuse _ _ fu M a0 (-2 : Int32) r h) rfl rfl (Nat.le_of_ble_eq_true rfl) dX10_tries_24 gz_00 hF (fun x7 M8 hF => ?_)
    exact gz_iretM 27 hC hX dX10_tries_27 hF
  refine gz_if_eq 6 21 hC dX10_tries_6 (by decide) hF (fun hF => ?_) (fun hF => ?_)
  · skip
    refine gz_sub [0] [(0, .ref a0)] rfl ?_
    exact hj21 hF
  · skip
    refine gz_iload_n 9 hC 3 dX10_tries_9 rfl rfl ?_
    refine gz_i2l 10 hC dX10_tries_10 ?_
    refine gz_lconst 11 hC (0 : Int64) dX10_tries_11 gz_l0 ?_
    refine gz_ldc2 12 hC dX10_tries_12 q_1169 ?_
    refine gz_csP (st := []) 15 hC hX [.long (a3).toInt64, .long (0 : Int64), .long (7 : Int64)] Value.int yl_X10_in yv_X10_in q_1170 ⟨Nat.le_of_ble_eq_true rfl, Nat.le_of_ble_eq_true rfl⟩ (fun r h => ct_X10_in _ _ fu M (a3).toInt64 (0 : Int64) (7 : Int64) r h) rfl rfl (Nat.le_of_ble_eq_true rfl) dX10_tries_15 gz_00 hF (fun x2 hF => ?_)
    refine gz_if_ne 18 28 hC dX10_tries_18 (by decide) hF (fun hF => ?_) (fun hF => ?_)
    · skip
      refine gz_aload_n 28 hC 0 dX10_tries_28 rfl rfl ?_
      refine gz_iload_n 29 hC 1 dX10_tries_29 rfl rfl ?_
      refine gz_iload_n 30 hC 3 dX10_tries_30 rfl rfl ?_
      refine gz_cvM (st := []) 31 hC hX [.int a1, .int a3] Value.int yl_X10_noTool yv_X10_noTool q_1225 ⟨Nat.le_of_ble_eq_true rfl, Nat.le_of_ble_eq_true rfl⟩ ⟨_, rfl⟩ (fun r h => ct_X10_noTool _ _ fu M a0 a1 a3 r h) rfl rfl (Nat.le_of_ble_eq_true rfl) dX10_tries_31 gz_00 hF (fun x3 M4 hF => ?_)
      refine gz_istore 34 hC [(4, .int x3), (0, .ref a0), (1, .int a1), (2, .int a2), (3, .int a3)] dX10_tries_34 (by decide) rfl ?_
      refine gz_iload 36 hC 0 dX10_tries_36 rfl ?_
      refine gz_join (fun (j : Int32 → Option (Int32 × gz_M)) => ∀ (x6 : Int32), j x6 = some y → gz_go C 0 0 M4 [] 53 [.int x6]) hF (fun x6 hF => ?_) (fun j53 hj53 hF => ?_)
      · skip
        exact gz_iretM 53 hC hX dX10_tries_53 hF
      refine gz_if_eq 38 46 hC dX10_tries_38 (by decide) hF (fun hF => ?_) (fun hF => ?_)
      · skip
        refine gz_aload_n 46 hC 1 dX10_tries_46 rfl rfl ?_
        refine gz_iload_n 47 hC 2 dX10_tries_47 rfl rfl ?_
        refine gz_iload_n 48 hC 3 dX10_tries_48 rfl rfl ?_
        refine gz_iload_n 49 hC 4 dX10_tries_49 rfl rfl ?_
        refine gz_cvP (st := []) 50 hC hX [.int a1, .int a2, .int a3] Value.int yl_X10_tried yv_X10_tried q_1233 ⟨Nat.le_of_ble_eq_true rfl, Nat.le_of_ble_eq_true rfl⟩ ⟨_, rfl⟩ (fun r h => ct_X10_tried _ _ fu M4 a0 a1 a2 a3 r h) rfl rfl (Nat.le_of_ble_eq_true rfl) dX10_tries_50 gz_00 hF (fun x5 hF => ?_)
        refine gz_sub [] [] rfl ?_
        exact hj53 _ hF
      · skip
        refine gz_iload 41 hC 0 dX10_tries_41 rfl ?_
        refine gz_goto 43 53 hC dX10_tries_43 (by decide) ?_
        refine gz_sub [] [] rfl ?_
        exact hj53 _ hF
    · skip
      refine gz_sub [0] [(0, .ref a0)] rfl ?_
      exact hj21 hF

theorem dX10_shoes_0 : decode cX10_shoes 0 = .ok (.aload_n 0, 1) := by decide +kernel
theorem dX10_shoes_1 : decode cX10_shoes 1 = .ok (.iload_n 1, 1) := by decide +kernel
theorem dX10_shoes_2 : decode cX10_shoes 2 = .ok (.invokevirtual 77, 3) := by decide +kernel
theorem dX10_shoes_5 : decode cX10_shoes 5 = .ok (.ifCond .eq 15, 3) := by decide +kernel
theorem dX10_shoes_8 : decode cX10_shoes 8 = .ok (.iload_n 2, 1) := by decide +kernel
theorem dX10_shoes_9 : decode cX10_shoes 9 = .ok (.i2l, 1) := by decide +kernel
theorem dX10_shoes_10 : decode cX10_shoes 10 = .ok (.lconst 0, 1) := by decide +kernel
theorem dX10_shoes_11 : decode cX10_shoes 11 = .ok (.ldc2_w 91, 3) := by decide +kernel
theorem dX10_shoes_14 : decode cX10_shoes 14 = .ok (.invokestatic 73, 3) := by decide +kernel
theorem dX10_shoes_17 : decode cX10_shoes 17 = .ok (.ifCond .ne 10, 3) := by decide +kernel
theorem dX10_shoes_20 : decode cX10_shoes 20 = .ok (.aload_n 0, 1) := by decide +kernel
theorem dX10_shoes_21 : decode cX10_shoes 21 = .ok (.bipush (-2), 2) := by decide +kernel
theorem dX10_shoes_23 : decode cX10_shoes 23 = .ok (.invokevirtual 97, 3) := by decide +kernel
theorem dX10_shoes_26 : decode cX10_shoes 26 = .ok (.ireturn, 1) := by decide +kernel
theorem dX10_shoes_27 : decode cX10_shoes 27 = .ok (.aload_n 0, 1) := by decide +kernel
theorem dX10_shoes_28 : decode cX10_shoes 28 = .ok (.iload_n 1, 1) := by decide +kernel
theorem dX10_shoes_29 : decode cX10_shoes 29 = .ok (.iload_n 2, 1) := by decide +kernel
theorem dX10_shoes_30 : decode cX10_shoes 30 = .ok (.invokevirtual 129, 3) := by decide +kernel
theorem dX10_shoes_33 : decode cX10_shoes 33 = .ok (.istore_n 3, 1) := by decide +kernel
theorem dX10_shoes_34 : decode cX10_shoes 34 = .ok (.iload_n 3, 1) := by decide +kernel
theorem dX10_shoes_35 : decode cX10_shoes 35 = .ok (.ifCond .eq 5, 3) := by decide +kernel
theorem dX10_shoes_38 : decode cX10_shoes 38 = .ok (.iload_n 3, 1) := by decide +kernel
theorem dX10_shoes_39 : decode cX10_shoes 39 = .ok (.ireturn, 1) := by decide +kernel
theorem dX10_shoes_40 : decode cX10_shoes 40 = .ok (.iconst 0, 1) := by decide +kernel
theorem dX10_shoes_41 : decode cX10_shoes 41 = .ok (.istore 4, 2) := by decide +kernel
theorem dX10_shoes_43 : decode cX10_shoes 43 = .ok (.iconst 0, 1) := by decide +kernel
theorem dX10_shoes_44 : decode cX10_shoes 44 = .ok (.istore 5, 2) := by decide +kernel
theorem dX10_shoes_46 : decode cX10_shoes 46 = .ok (.iload 5, 2) := by decide +kernel
theorem dX10_shoes_48 : decode cX10_shoes 48 = .ok (.aload_n 0, 1) := by decide +kernel
theorem dX10_shoes_49 : decode cX10_shoes 49 = .ok (.iload_n 1, 1) := by decide +kernel
theorem dX10_shoes_50 : decode cX10_shoes 50 = .ok (.invokevirtual 81, 3) := by decide +kernel
theorem dX10_shoes_53 : decode cX10_shoes 53 = .ok (.if_icmp .ge 34, 3) := by decide +kernel
theorem dX10_shoes_56 : decode cX10_shoes 56 = .ok (.iload 4, 2) := by decide +kernel
theorem dX10_shoes_58 : decode cX10_shoes 58 = .ok (.aload_n 0, 1) := by decide +kernel
theorem dX10_shoes_59 : decode cX10_shoes 59 = .ok (.iload_n 1, 1) := by decide +kernel
theorem dX10_shoes_60 : decode cX10_shoes 60 = .ok (.iload 5, 2) := by decide +kernel
theorem dX10_shoes_62 : decode cX10_shoes 62 = .ok (.iload_n 2, 1) := by decide +kernel
theorem dX10_shoes_63 : decode cX10_shoes 63 = .ok (.invokevirtual 133, 3) := by decide +kernel
theorem dX10_shoes_66 : decode cX10_shoes 66 = .ok (.iconst (-1), 1) := by decide +kernel
theorem dX10_shoes_67 : decode cX10_shoes 67 = .ok (.if_icmp .eq 10, 3) := by decide +kernel
theorem dX10_shoes_70 : decode cX10_shoes 70 = .ok (.iconst 1, 1) := by decide +kernel
theorem dX10_shoes_71 : decode cX10_shoes 71 = .ok (.iload 5, 2) := by decide +kernel
theorem dX10_shoes_73 : decode cX10_shoes 73 = .ok (.ishl, 1) := by decide +kernel
theorem dX10_shoes_74 : decode cX10_shoes 74 = .ok (.goto 4, 3) := by decide +kernel
theorem dX10_shoes_77 : decode cX10_shoes 77 = .ok (.iconst 0, 1) := by decide +kernel
theorem dX10_shoes_78 : decode cX10_shoes 78 = .ok (.ior, 1) := by decide +kernel
theorem dX10_shoes_79 : decode cX10_shoes 79 = .ok (.istore 4, 2) := by decide +kernel
theorem dX10_shoes_81 : decode cX10_shoes 81 = .ok (.iinc 5 1, 3) := by decide +kernel
theorem dX10_shoes_84 : decode cX10_shoes 84 = .ok (.goto (-38), 3) := by decide +kernel
theorem dX10_shoes_87 : decode cX10_shoes 87 = .ok (.iload 4, 2) := by decide +kernel
theorem dX10_shoes_89 : decode cX10_shoes 89 = .ok (.ireturn, 1) := by decide +kernel
def lp_X10_shoes_46 (j87 : Int32 → Option (Int32 × gz_M)) (fu : Nat) (M4 : gz_M) (a0 : Nat) (a1 : Int32) (a2 : Int32) : Nat → Int32 → Int32 → Option (Int32 × gz_M)
  | 0, _, _ => none
  | n46 + 1, x5, x6 =>
    (f_X10_feetOf fu M4 a0 a1).bind fun x7 =>
    if x7 ≤ x6 then
      j87 x5
    else
      (f_X10_tried fu M4 a0 a1 x6 a2).bind fun x8 =>
      gz_jn (fun (x9 : Int32) =>
      lp_X10_shoes_46 j87 fu M4 a0 a1 a2 n46 (x5 ||| x9) (x6 + (1 : Int32))) fun j78 =>
      if x8 = (-1 : Int32) then
        j78 (0 : Int32)
      else
        j78 ((1 : Int32) <<< (x6 &&& 31))
def f_X10_shoes (fu : Nat) (M : gz_M) (a0 : Nat) (a1 : Int32) (a2 : Int32) : Option (Int32 × gz_M) :=
  gz_gd M 10 a0 <|
  (f_X10_isValley fu M a0 a1).bind fun x1 =>
  gz_jn (gz_b2 (f_X10_refuse fu M a0 (-2 : Int32)) fun x11 M12 =>
    some (x11, M12)) fun j20 =>
  if x1 = 0 then
    j20
  else
    (f_X10_in fu M (a2).toInt64 (0 : Int64) (7 : Int64)).bind fun x2 =>
    if x2 = 0 then
      j20
    else
      gz_b2 (f_X10_noTool fu M a0 a1 a2) fun x3 M4 =>
      if x3 = 0 then
        lp_X10_shoes_46 (fun (x10 : Int32) => some (x10, M4)) fu M4 a0 a1 a2 fu (0 : Int32) (0 : Int32)
      else
        some (x3, M4)
set_option maxHeartbeats 4000000 in
theorem w_X10_shoes_46 {C : gz_C} {y : Int32 × gz_M} {fu : Nat} {M4 : gz_M} {a0 : Nat} {a1 : Int32} {a2 : Int32} {j87 : Int32 → Option (Int32 × gz_M)} (hC : gz_ok C cX10_shoes RX10 6) (hX : gz_cx C 3 88 0 0 (some .int) (some (.int y.1)) y.2 "shoes") (hj87 : ∀ (x10 : Int32), j87 x10 = some y → gz_go C 0 0 M4 [(4, .int x10)] 87 []) : ∀ (n : Nat) (x5 : Int32) (x6 : Int32), lp_X10_shoes_46 j87 fu M4 a0 a1 a2 n x5 x6 = some y → gz_go C 0 0 M4 [(0, .ref a0), (1, .int a1), (2, .int a2), (4, .int x5), (5, .int x6)] 46 [] := by
  intro n
  induction n with
  | zero => intro x5 x6 hF; exact nomatch (show (none : Option (Int32 × gz_M)) = some y from hF)
  | succ n46 ih46 =>
    intro x5 x6 hF
    rw [lp_X10_shoes_46.eq_2] at hF
    refine gz_iload 46 hC 4 dX10_shoes_46 rfl ?_
    refine gz_aload_n 48 hC 0 dX10_shoes_48 rfl rfl ?_
    refine gz_iload_n 49 hC 1 dX10_shoes_49 rfl rfl ?_
    refine gz_cvP (st := [.int x6]) 50 hC hX [.int a1] Value.int yl_X10_feetOf yv_X10_feetOf q_1221 ⟨Nat.le_of_ble_eq_true rfl, Nat.le_of_ble_eq_true rfl⟩ ⟨_, rfl⟩ (fun r h => ct_X10_feetOf _ _ fu M4 a0 a1 r h) rfl rfl (Nat.le_of_ble_eq_true rfl) dX10_shoes_50 gz_00 hF (fun x7 hF => ?_)
    refine gz_icmp_ge 53 87 hC dX10_shoes_53 (by decide) hF (fun hF => ?_) (fun hF => ?_)
    · skip
      refine gz_sub [3] [(4, .int x5)] rfl ?_
      exact hj87 _ hF
    · skip
      refine gz_iload 56 hC 3 dX10_shoes_56 rfl ?_
      refine gz_aload_n 58 hC 0 dX10_shoes_58 rfl rfl ?_
      refine gz_iload_n 59 hC 1 dX10_shoes_59 rfl rfl ?_
      refine gz_iload 60 hC 4 dX10_shoes_60 rfl ?_
      refine gz_iload_n 62 hC 2 dX10_shoes_62 rfl rfl ?_
      refine gz_cvP (st := [.int x5]) 63 hC hX [.int a1, .int x6, .int a2] Value.int yl_X10_tried yv_X10_tried q_1233 ⟨Nat.le_of_ble_eq_true rfl, Nat.le_of_ble_eq_true rfl⟩ ⟨_, rfl⟩ (fun r h => ct_X10_tried _ _ fu M4 a0 a1 x6 a2 r h) rfl rfl (Nat.le_of_ble_eq_true rfl) dX10_shoes_63 gz_00 hF (fun x8 hF => ?_)
      refine gz_iconst 66 hC (-1 : Int32) dX10_shoes_66 gz_km1 ?_
      refine gz_join (fun (j : Int32 → Option (Int32 × gz_M)) => ∀ (x9 : Int32), j x9 = some y → gz_go C 0 0 M4 [(0, .ref a0), (1, .int a1), (2, .int a2), (5, .int x6)] 78 [.int x9, .int x5]) hF (fun x9 hF => ?_) (fun j78 hj78 hF => ?_)
      · skip
        refine gz_ior 78 hC dX10_shoes_78 ?_
        refine gz_istore 79 hC [(4, .int (x5 ||| x9)), (0, .ref a0), (1, .int a1), (2, .int a2), (5, .int x6)] dX10_shoes_79 (by decide) rfl ?_
        refine gz_iinc 81 hC (x6 + (1 : Int32)) 4 [(5, .int (x6 + (1 : Int32))), (4, .int (x5 ||| x9)), (0, .ref a0), (1, .int a1), (2, .int a2)] dX10_shoes_81 rfl rfl (by decide) rfl ?_
        refine gz_goto 84 46 hC dX10_shoes_84 (by decide) ?_
        refine gz_sub [2, 3, 4, 1, 0] [(0, .ref a0), (1, .int a1), (2, .int a2), (4, .int (x5 ||| x9)), (5, .int (x6 + (1 : Int32)))] rfl ?_
        exact ih46 _ _ hF
      refine gz_icmp_eq 67 77 hC dX10_shoes_67 (by decide) hF (fun hF => ?_) (fun hF => ?_)
      · skip
        refine gz_iconst 77 hC (0 : Int32) dX10_shoes_77 gz_k0 ?_
        refine gz_sub [0, 1, 2, 4] [(0, .ref a0), (1, .int a1), (2, .int a2), (5, .int x6)] rfl ?_
        exact hj78 _ hF
      · skip
        refine gz_iconst 70 hC (1 : Int32) dX10_shoes_70 gz_k1 ?_
        refine gz_iload 71 hC 4 dX10_shoes_71 rfl ?_
        refine gz_ishl 73 hC dX10_shoes_73 ?_
        refine gz_goto 74 78 hC dX10_shoes_74 (by decide) ?_
        refine gz_sub [0, 1, 2, 4] [(0, .ref a0), (1, .int a1), (2, .int a2), (5, .int x6)] rfl ?_
        exact hj78 _ hF
set_option maxHeartbeats 4000000 in
theorem ct_X10_shoes (l : Launch) (G : gz_G) (fu : Nat) (M : gz_M) (a0 : Nat) (a1 : Int32) (a2 : Int32) (y : Int32 × gz_M) (hF : f_X10_shoes fu M a0 a1 a2 = some y) : gz_ct l yX10_shoes cX10_shoes 6 (some .int) 3 88 0 0 G [.ref a0, .int a1, .int a2] M (some (.int y.1)) y.2 := by
  refine gz_ct.of (by decide) (Nat.le_of_ble_eq_true rfl) (fun C hC hX => ?_)
  unfold f_X10_shoes at hF
  obtain ⟨-, hF⟩ := gz_gd_some hF
  show gz_go C 0 0 M [(0, .ref a0), (1, .int a1), (2, .int a2)] 0 []
  refine gz_aload_n 0 hC 0 dX10_shoes_0 rfl rfl ?_
  refine gz_iload_n 1 hC 1 dX10_shoes_1 rfl rfl ?_
  refine gz_cvP (st := []) 2 hC hX [.int a1] Value.int yl_X10_isValley yv_X10_isValley q_1217 ⟨Nat.le_of_ble_eq_true rfl, Nat.le_of_ble_eq_true rfl⟩ ⟨_, rfl⟩ (fun r h => ct_X10_isValley _ _ fu M a0 a1 r h) rfl rfl (Nat.le_of_ble_eq_true rfl) dX10_shoes_2 gz_00 hF (fun x1 hF => ?_)
  refine gz_join (fun (j : Option (Int32 × gz_M)) => j = some y → gz_go C 0 0 M [(0, .ref a0)] 20 []) hF (fun hF => ?_) (fun j20 hj20 hF => ?_)
  · skip
    refine gz_aload_n 20 hC 0 dX10_shoes_20 rfl rfl ?_
    refine gz_bipush 21 hC (-2 : Int32) dX10_shoes_21 gz_bm2 ?_
    refine gz_cvM (st := []) 23 hC hX [.int (-2 : Int32)] Value.int yl_X10_refuse yv_X10_refuse q_1175 ⟨Nat.le_of_ble_eq_true rfl, Nat.le_of_ble_eq_true rfl⟩ ⟨_, rfl⟩ (fun r h => ct_X10_refuse _ _ fu M a0 (-2 : Int32) r h) rfl rfl (Nat.le_of_ble_eq_true rfl) dX10_shoes_23 gz_00 hF (fun x11 M12 hF => ?_)
    exact gz_iretM 26 hC hX dX10_shoes_26 hF
  refine gz_if_eq 5 20 hC dX10_shoes_5 (by decide) hF (fun hF => ?_) (fun hF => ?_)
  · skip
    refine gz_sub [0] [(0, .ref a0)] rfl ?_
    exact hj20 hF
  · skip
    refine gz_iload_n 8 hC 2 dX10_shoes_8 rfl rfl ?_
    refine gz_i2l 9 hC dX10_shoes_9 ?_
    refine gz_lconst 10 hC (0 : Int64) dX10_shoes_10 gz_l0 ?_
    refine gz_ldc2 11 hC dX10_shoes_11 q_1169 ?_
    refine gz_csP (st := []) 14 hC hX [.long (a2).toInt64, .long (0 : Int64), .long (7 : Int64)] Value.int yl_X10_in yv_X10_in q_1170 ⟨Nat.le_of_ble_eq_true rfl, Nat.le_of_ble_eq_true rfl⟩ (fun r h => ct_X10_in _ _ fu M (a2).toInt64 (0 : Int64) (7 : Int64) r h) rfl rfl (Nat.le_of_ble_eq_true rfl) dX10_shoes_14 gz_00 hF (fun x2 hF => ?_)
    refine gz_if_ne 17 27 hC dX10_shoes_17 (by decide) hF (fun hF => ?_) (fun hF => ?_)
    · skip
      refine gz_aload_n 27 hC 0 dX10_shoes_27 rfl rfl ?_
      refine gz_iload_n 28 hC 1 dX10_shoes_28 rfl rfl ?_
      refine gz_iload_n 29 hC 2 dX10_shoes_29 rfl rfl ?_
      refine gz_cvM (st := []) 30 hC hX [.int a1, .int a2] Value.int yl_X10_noTool yv_X10_noTool q_1225 ⟨Nat.le_of_ble_eq_true rfl, Nat.le_of_ble_eq_true rfl⟩ ⟨_, rfl⟩ (fun r h => ct_X10_noTool _ _ fu M a0 a1 a2 r h) rfl rfl (Nat.le_of_ble_eq_true rfl) dX10_shoes_30 gz_00 hF (fun x3 M4 hF => ?_)
      refine gz_istore_n 33 hC [(3, .int x3), (0, .ref a0), (1, .int a1), (2, .int a2)] dX10_shoes_33 rfl (by decide) rfl ?_
      refine gz_iload_n 34 hC 0 dX10_shoes_34 rfl rfl ?_
      refine gz_if_eq 35 40 hC dX10_shoes_35 (by decide) hF (fun hF => ?_) (fun hF => ?_)
      · skip
        refine gz_iconst 40 hC (0 : Int32) dX10_shoes_40 gz_k0 ?_
        refine gz_istore 41 hC [(4, .int (0 : Int32)), (3, .int x3), (0, .ref a0), (1, .int a1), (2, .int a2)] dX10_shoes_41 (by decide) rfl ?_
        refine gz_iconst 43 hC (0 : Int32) dX10_shoes_43 gz_k0 ?_
        refine gz_istore 44 hC [(5, .int (0 : Int32)), (4, .int (0 : Int32)), (3, .int x3), (0, .ref a0), (1, .int a1), (2, .int a2)] dX10_shoes_44 (by decide) rfl ?_
        refine gz_sub [3, 4, 5, 1, 0] [(0, .ref a0), (1, .int a1), (2, .int a2), (4, .int (0 : Int32)), (5, .int (0 : Int32))] rfl ?_
        refine w_X10_shoes_46 hC hX ?_ _ _ _ hF
        intro x10 hF
        refine gz_iload 87 hC 0 dX10_shoes_87 rfl ?_
        exact gz_iretM 89 hC hX dX10_shoes_89 hF
      · skip
        refine gz_iload_n 38 hC 0 dX10_shoes_38 rfl rfl ?_
        exact gz_iretM 39 hC hX dX10_shoes_39 hF
    · skip
      refine gz_sub [0] [(0, .ref a0)] rfl ?_
      exact hj20 hF

theorem dX10_feed_0 : decode cX10_feed 0 = .ok (.iload_n 2, 1) := by decide +kernel
theorem dX10_feed_1 : decode cX10_feed 1 = .ok (.i2l, 1) := by decide +kernel
theorem dX10_feed_2 : decode cX10_feed 2 = .ok (.lconst 1, 1) := by decide +kernel
theorem dX10_feed_3 : decode cX10_feed 3 = .ok (.ldc2_w 93, 3) := by decide +kernel
theorem dX10_feed_6 : decode cX10_feed 6 = .ok (.invokestatic 73, 3) := by decide +kernel
theorem dX10_feed_9 : decode cX10_feed 9 = .ok (.ifCond .ne 10, 3) := by decide +kernel
theorem dX10_feed_12 : decode cX10_feed 12 = .ok (.aload_n 0, 1) := by decide +kernel
theorem dX10_feed_13 : decode cX10_feed 13 = .ok (.bipush (-2), 2) := by decide +kernel
theorem dX10_feed_15 : decode cX10_feed 15 = .ok (.invokevirtual 97, 3) := by decide +kernel
theorem dX10_feed_18 : decode cX10_feed 18 = .ok (.ireturn, 1) := by decide +kernel
theorem dX10_feed_19 : decode cX10_feed 19 = .ok (.iload_n 2, 1) := by decide +kernel
theorem dX10_feed_20 : decode cX10_feed 20 = .ok (.sipush 250, 3) := by decide +kernel
theorem dX10_feed_23 : decode cX10_feed 23 = .ok (.aload_n 0, 1) := by decide +kernel
theorem dX10_feed_24 : decode cX10_feed 24 = .ok (.getfield 136, 3) := by decide +kernel
theorem dX10_feed_27 : decode cX10_feed 27 = .ok (.isub, 1) := by decide +kernel
theorem dX10_feed_28 : decode cX10_feed 28 = .ok (.if_icmp .le 10, 3) := by decide +kernel
theorem dX10_feed_31 : decode cX10_feed 31 = .ok (.aload_n 0, 1) := by decide +kernel
theorem dX10_feed_32 : decode cX10_feed 32 = .ok (.bipush (-6), 2) := by decide +kernel
theorem dX10_feed_34 : decode cX10_feed 34 = .ok (.invokevirtual 97, 3) := by decide +kernel
theorem dX10_feed_37 : decode cX10_feed 37 = .ok (.ireturn, 1) := by decide +kernel
theorem dX10_feed_38 : decode cX10_feed 38 = .ok (.iload_n 2, 1) := by decide +kernel
theorem dX10_feed_39 : decode cX10_feed 39 = .ok (.iconst 1, 1) := by decide +kernel
theorem dX10_feed_40 : decode cX10_feed 40 = .ok (.isub, 1) := by decide +kernel
theorem dX10_feed_41 : decode cX10_feed 41 = .ok (.istore_n 3, 1) := by decide +kernel
theorem dX10_feed_42 : decode cX10_feed 42 = .ok (.iload_n 3, 1) := by decide +kernel
theorem dX10_feed_43 : decode cX10_feed 43 = .ok (.ifCond .lt 35, 3) := by decide +kernel
theorem dX10_feed_46 : decode cX10_feed 46 = .ok (.aload_n 0, 1) := by decide +kernel
theorem dX10_feed_47 : decode cX10_feed 47 = .ok (.getfield 37, 3) := by decide +kernel
theorem dX10_feed_50 : decode cX10_feed 50 = .ok (.aload_n 0, 1) := by decide +kernel
theorem dX10_feed_51 : decode cX10_feed 51 = .ok (.dup, 1) := by decide +kernel
theorem dX10_feed_52 : decode cX10_feed 52 = .ok (.getfield 136, 3) := by decide +kernel
theorem dX10_feed_55 : decode cX10_feed 55 = .ok (.dup_x1, 1) := by decide +kernel
theorem dX10_feed_56 : decode cX10_feed 56 = .ok (.iconst 1, 1) := by decide +kernel
theorem dX10_feed_57 : decode cX10_feed 57 = .ok (.iadd, 1) := by decide +kernel
theorem dX10_feed_58 : decode cX10_feed 58 = .ok (.putfield 136, 3) := by decide +kernel
theorem dX10_feed_61 : decode cX10_feed 61 = .ok (.iload_n 1, 1) := by decide +kernel
theorem dX10_feed_62 : decode cX10_feed 62 = .ok (.bipush 8, 2) := by decide +kernel
theorem dX10_feed_64 : decode cX10_feed 64 = .ok (.iload_n 3, 1) := by decide +kernel
theorem dX10_feed_65 : decode cX10_feed 65 = .ok (.imul, 1) := by decide +kernel
theorem dX10_feed_66 : decode cX10_feed 66 = .ok (.ishr, 1) := by decide +kernel
theorem dX10_feed_67 : decode cX10_feed 67 = .ok (.sipush 255, 3) := by decide +kernel
theorem dX10_feed_70 : decode cX10_feed 70 = .ok (.iand, 1) := by decide +kernel
theorem dX10_feed_71 : decode cX10_feed 71 = .ok (.iastore, 1) := by decide +kernel
theorem dX10_feed_72 : decode cX10_feed 72 = .ok (.iinc 3 (-1), 3) := by decide +kernel
theorem dX10_feed_75 : decode cX10_feed 75 = .ok (.goto (-33), 3) := by decide +kernel
theorem dX10_feed_78 : decode cX10_feed 78 = .ok (.aload_n 0, 1) := by decide +kernel
theorem dX10_feed_79 : decode cX10_feed 79 = .ok (.getfield 136, 3) := by decide +kernel
theorem dX10_feed_82 : decode cX10_feed 82 = .ok (.ireturn, 1) := by decide +kernel
def lp_X10_feed_42 (j78 : gz_M → Option (Int32 × gz_M)) (a0 : Nat) (a1 : Int32) : Nat → Int32 → gz_M → Option (Int32 × gz_M)
  | 0, _, _ => none
  | n42 + 1, x7, M8 =>
    if x7 < 0 then
      j78 M8
    else
      (gz_gR M8 10 8 a0).bind fun x9 =>
      (gz_gI M8 10 9 a0).bind fun x10 =>
      (gz_pI M8 10 9 a0 (x10 + (1 : Int32))).bind fun M11 =>
      (gz_tI M11 x9 x10 ((a1 >>> (((8 : Int32) * x7) &&& 31)) &&& (255 : Int32))).bind fun M12 =>
      lp_X10_feed_42 j78 a0 a1 n42 (x7 + (-1 : Int32)) M12
def f_X10_feed (fu : Nat) (M : gz_M) (a0 : Nat) (a1 : Int32) (a2 : Int32) : Option (Int32 × gz_M) :=
  gz_gd M 10 a0 <|
  (f_X10_in fu M (a2).toInt64 (1 : Int64) (4 : Int64)).bind fun x1 =>
  if x1 = 0 then
    gz_b2 (f_X10_refuse fu M a0 (-2 : Int32)) fun x2 M3 =>
    some (x2, M3)
  else
    (gz_gI M 10 9 a0).bind fun x4 =>
    if a2 ≤ ((250 : Int32) - x4) then
      lp_X10_feed_42 (fun (M13 : gz_M) => (gz_gI M13 10 9 a0).bind fun x14 =>
        some (x14, M13)) a0 a1 fu (a2 - (1 : Int32)) M
    else
      gz_b2 (f_X10_refuse fu M a0 (-6 : Int32)) fun x5 M6 =>
      some (x5, M6)
set_option maxHeartbeats 4000000 in
theorem w_X10_feed_42 {C : gz_C} {y : Int32 × gz_M} {a0 : Nat} {a1 : Int32} {j78 : gz_M → Option (Int32 × gz_M)} (hC : gz_ok C cX10_feed RX10 4) (hX : gz_cx C 1 25 0 0 (some .int) (some (.int y.1)) y.2 "feed") (hj78 : ∀ (M13 : gz_M), j78 M13 = some y → gz_go C 0 0 M13 [(0, .ref a0)] 78 []) : ∀ (n : Nat) (x7 : Int32) (M8 : gz_M), lp_X10_feed_42 j78 a0 a1 n x7 M8 = some y → gz_go C 0 0 M8 [(0, .ref a0), (1, .int a1), (3, .int x7)] 42 [] := by
  intro n
  induction n with
  | zero => intro x7 M8 hF; exact nomatch (show (none : Option (Int32 × gz_M)) = some y from hF)
  | succ n42 ih42 =>
    intro x7 M8 hF
    rw [lp_X10_feed_42.eq_2] at hF
    refine gz_iload_n 42 hC 2 dX10_feed_42 rfl rfl ?_
    refine gz_if_lt 43 78 hC dX10_feed_43 (by decide) hF (fun hF => ?_) (fun hF => ?_)
    · skip
      refine gz_sub [0] [(0, .ref a0)] rfl ?_
      exact hj78 _ hF
    · skip
      refine gz_aload_n 46 hC 0 dX10_feed_46 rfl rfl ?_
      refine gz_getR 47 hC fl_X10_37 fk_10_8 dX10_feed_47 hF (fun x9 hF => ?_)
      refine gz_aload_n 50 hC 0 dX10_feed_50 rfl rfl ?_
      refine gz_dup 51 hC dX10_feed_51 rfl ?_
      refine gz_getI 52 hC fl_X10_136 fk_10_9 dX10_feed_52 hF (fun x10 hF => ?_)
      refine gz_dup_x1 55 hC dX10_feed_55 rfl rfl ?_
      refine gz_iconst 56 hC (1 : Int32) dX10_feed_56 gz_k1 ?_
      refine gz_iadd 57 hC dX10_feed_57 ?_
      refine gz_putI 58 hC fl_X10_136 fk_10_9 dX10_feed_58 hF (fun M11 hF => ?_)
      refine gz_iload_n 61 hC 1 dX10_feed_61 rfl rfl ?_
      refine gz_bipush 62 hC (8 : Int32) dX10_feed_62 gz_b8 ?_
      refine gz_iload_n 64 hC 2 dX10_feed_64 rfl rfl ?_
      refine gz_imul 65 hC dX10_feed_65 ?_
      refine gz_ishr 66 hC dX10_feed_66 ?_
      refine gz_sipush 67 hC (255 : Int32) dX10_feed_67 gz_s255 ?_
      refine gz_iand 70 hC dX10_feed_70 ?_
      refine gz_iast 71 hC dX10_feed_71 hF (fun M12 hF => ?_)
      refine gz_iinc 72 hC (x7 + (-1 : Int32)) 2 [(3, .int (x7 + (-1 : Int32))), (0, .ref a0), (1, .int a1)] dX10_feed_72 rfl rfl (by decide) rfl ?_
      refine gz_goto 75 42 hC dX10_feed_75 (by decide) ?_
      refine gz_sub [1, 2, 0] [(0, .ref a0), (1, .int a1), (3, .int (x7 + (-1 : Int32)))] rfl ?_
      exact ih42 _ _ hF
set_option maxHeartbeats 4000000 in
theorem ct_X10_feed (l : Launch) (G : gz_G) (fu : Nat) (M : gz_M) (a0 : Nat) (a1 : Int32) (a2 : Int32) (y : Int32 × gz_M) (hF : f_X10_feed fu M a0 a1 a2 = some y) : gz_ct l yX10_feed cX10_feed 4 (some .int) 1 25 0 0 G [.ref a0, .int a1, .int a2] M (some (.int y.1)) y.2 := by
  refine gz_ct.of (by decide) (Nat.le_of_ble_eq_true rfl) (fun C hC hX => ?_)
  unfold f_X10_feed at hF
  obtain ⟨-, hF⟩ := gz_gd_some hF
  show gz_go C 0 0 M [(0, .ref a0), (1, .int a1), (2, .int a2)] 0 []
  refine gz_iload_n 0 hC 2 dX10_feed_0 rfl rfl ?_
  refine gz_i2l 1 hC dX10_feed_1 ?_
  refine gz_lconst 2 hC (1 : Int64) dX10_feed_2 gz_l1 ?_
  refine gz_ldc2 3 hC dX10_feed_3 q_1173 ?_
  refine gz_csP (st := []) 6 hC hX [.long (a2).toInt64, .long (1 : Int64), .long (4 : Int64)] Value.int yl_X10_in yv_X10_in q_1170 ⟨Nat.le_of_ble_eq_true rfl, Nat.le_of_ble_eq_true rfl⟩ (fun r h => ct_X10_in _ _ fu M (a2).toInt64 (1 : Int64) (4 : Int64) r h) rfl rfl (Nat.le_of_ble_eq_true rfl) dX10_feed_6 gz_00 hF (fun x1 hF => ?_)
  refine gz_if_ne 9 19 hC dX10_feed_9 (by decide) hF (fun hF => ?_) (fun hF => ?_)
  · skip
    refine gz_iload_n 19 hC 2 dX10_feed_19 rfl rfl ?_
    refine gz_sipush 20 hC (250 : Int32) dX10_feed_20 gz_s250 ?_
    refine gz_aload_n 23 hC 0 dX10_feed_23 rfl rfl ?_
    refine gz_getI 24 hC fl_X10_136 fk_10_9 dX10_feed_24 hF (fun x4 hF => ?_)
    refine gz_isub 27 hC dX10_feed_27 ?_
    refine gz_icmp_le 28 38 hC dX10_feed_28 (by decide) hF (fun hF => ?_) (fun hF => ?_)
    · skip
      refine gz_iload_n 38 hC 2 dX10_feed_38 rfl rfl ?_
      refine gz_iconst 39 hC (1 : Int32) dX10_feed_39 gz_k1 ?_
      refine gz_isub 40 hC dX10_feed_40 ?_
      refine gz_istore_n 41 hC [(3, .int (a2 - (1 : Int32))), (0, .ref a0), (1, .int a1), (2, .int a2)] dX10_feed_41 rfl (by decide) rfl ?_
      refine gz_sub [1, 2, 0] [(0, .ref a0), (1, .int a1), (3, .int (a2 - (1 : Int32)))] rfl ?_
      refine w_X10_feed_42 hC hX ?_ _ _ _ hF
      intro M13 hF
      refine gz_aload_n 78 hC 0 dX10_feed_78 rfl rfl ?_
      refine gz_getI 79 hC fl_X10_136 fk_10_9 dX10_feed_79 hF (fun x14 hF => ?_)
      exact gz_iretM 82 hC hX dX10_feed_82 hF
    · skip
      refine gz_aload_n 31 hC 0 dX10_feed_31 rfl rfl ?_
      refine gz_bipush 32 hC (-6 : Int32) dX10_feed_32 gz_bm6 ?_
      refine gz_cvM (st := []) 34 hC hX [.int (-6 : Int32)] Value.int yl_X10_refuse yv_X10_refuse q_1175 ⟨Nat.le_of_ble_eq_true rfl, Nat.le_of_ble_eq_true rfl⟩ ⟨_, rfl⟩ (fun r h => ct_X10_refuse _ _ fu M a0 (-6 : Int32) r h) rfl rfl (Nat.le_of_ble_eq_true rfl) dX10_feed_34 gz_00 hF (fun x5 M6 hF => ?_)
      exact gz_iretM 37 hC hX dX10_feed_37 hF
  · skip
    refine gz_aload_n 12 hC 0 dX10_feed_12 rfl rfl ?_
    refine gz_bipush 13 hC (-2 : Int32) dX10_feed_13 gz_bm2 ?_
    refine gz_cvM (st := []) 15 hC hX [.int (-2 : Int32)] Value.int yl_X10_refuse yv_X10_refuse q_1175 ⟨Nat.le_of_ble_eq_true rfl, Nat.le_of_ble_eq_true rfl⟩ ⟨_, rfl⟩ (fun r h => ct_X10_refuse _ _ fu M a0 (-2 : Int32) r h) rfl rfl (Nat.le_of_ble_eq_true rfl) dX10_feed_15 gz_00 hF (fun x2 M3 hF => ?_)
    exact gz_iretM 18 hC hX dX10_feed_18 hF

theorem dX10_wipe_0 : decode cX10_wipe 0 = .ok (.aload_n 0, 1) := by decide +kernel
theorem dX10_wipe_1 : decode cX10_wipe 1 = .ok (.getfield 136, 3) := by decide +kernel
theorem dX10_wipe_4 : decode cX10_wipe 4 = .ok (.istore_n 1, 1) := by decide +kernel
theorem dX10_wipe_5 : decode cX10_wipe 5 = .ok (.aload_n 0, 1) := by decide +kernel
theorem dX10_wipe_6 : decode cX10_wipe 6 = .ok (.iconst 0, 1) := by decide +kernel
theorem dX10_wipe_7 : decode cX10_wipe 7 = .ok (.putfield 136, 3) := by decide +kernel
theorem dX10_wipe_10 : decode cX10_wipe 10 = .ok (.iload_n 1, 1) := by decide +kernel
theorem dX10_wipe_11 : decode cX10_wipe 11 = .ok (.ireturn, 1) := by decide +kernel

def f_X10_wipe (fu : Nat) (M : gz_M) (a0 : Nat) : Option (Int32 × gz_M) :=
  gz_gd M 10 a0 <|
  (gz_gI M 10 9 a0).bind fun x1 =>
  (gz_pI M 10 9 a0 (0 : Int32)).bind fun M2 =>
  some (x1, M2)

set_option maxHeartbeats 4000000 in
theorem ct_X10_wipe (l : Launch) (G : gz_G) (fu : Nat) (M : gz_M) (a0 : Nat) (y : Int32 × gz_M) (hF : f_X10_wipe fu M a0 = some y) : gz_ct l yX10_wipe cX10_wipe 2 (some .int) 0 0 0 0 G [.ref a0] M (some (.int y.1)) y.2 := by
  refine gz_ct.of (by decide) (Nat.le_of_ble_eq_true rfl) (fun C hC hX => ?_)
  unfold f_X10_wipe at hF
  obtain ⟨-, hF⟩ := gz_gd_some hF
  show gz_go C 0 0 M [(0, .ref a0)] 0 []
  refine gz_aload_n 0 hC 0 dX10_wipe_0 rfl rfl ?_
  refine gz_getI 1 hC fl_X10_136 fk_10_9 dX10_wipe_1 hF (fun x1 hF => ?_)
  refine gz_istore_n 4 hC [(1, .int x1), (0, .ref a0)] dX10_wipe_4 rfl (by decide) rfl ?_
  refine gz_aload_n 5 hC 1 dX10_wipe_5 rfl rfl ?_
  refine gz_iconst 6 hC (0 : Int32) dX10_wipe_6 gz_k0 ?_
  refine gz_putI 7 hC fl_X10_136 fk_10_9 dX10_wipe_7 hF (fun M2 hF => ?_)
  refine gz_iload_n 10 hC 0 dX10_wipe_10 rfl rfl ?_
  exact gz_iretM 11 hC hX dX10_wipe_11 hF

theorem dX10_isLetter_0 : decode cX10_isLetter 0 = .ok (.iload_n 0, 1) := by decide +kernel
theorem dX10_isLetter_1 : decode cX10_isLetter 1 = .ok (.bipush 97, 2) := by decide +kernel
theorem dX10_isLetter_3 : decode cX10_isLetter 3 = .ok (.if_icmp .lt 13, 3) := by decide +kernel
theorem dX10_isLetter_6 : decode cX10_isLetter 6 = .ok (.iload_n 0, 1) := by decide +kernel
theorem dX10_isLetter_7 : decode cX10_isLetter 7 = .ok (.bipush 122, 2) := by decide +kernel
theorem dX10_isLetter_9 : decode cX10_isLetter 9 = .ok (.if_icmp .gt 7, 3) := by decide +kernel
theorem dX10_isLetter_12 : decode cX10_isLetter 12 = .ok (.iconst 1, 1) := by decide +kernel
theorem dX10_isLetter_13 : decode cX10_isLetter 13 = .ok (.goto 4, 3) := by decide +kernel
theorem dX10_isLetter_16 : decode cX10_isLetter 16 = .ok (.iconst 0, 1) := by decide +kernel
theorem dX10_isLetter_17 : decode cX10_isLetter 17 = .ok (.ireturn, 1) := by decide +kernel

def f_X10_isLetter (fu : Nat) (M : gz_M) (a0 : Int32) : Option (Int32) :=
  gz_jn (fun (x1 : Int32) =>
  gz_z x1 (some x1)) fun j17 =>
  gz_jn (j17 (0 : Int32)) fun j16 =>
  if a0 < (97 : Int32) then
    j16
  else
    if (122 : Int32) < a0 then
      j16
    else
      j17 (1 : Int32)

set_option maxHeartbeats 4000000 in
theorem ct_X10_isLetter (l : Launch) (G : gz_G) (fu : Nat) (M : gz_M) (a0 : Int32) (y : Int32) (hF : f_X10_isLetter fu M a0 = some y) : gz_ct l yX10_isLetter cX10_isLetter 1 (some .boolean) 0 0 0 0 G [.int a0] M (some (.int y)) M := by
  refine gz_ct.of (by decide) (Nat.le_of_ble_eq_true rfl) (fun C hC hX => ?_)
  unfold f_X10_isLetter at hF
  show gz_go C 0 0 M [(0, .int a0)] 0 []
  refine gz_iload_n 0 hC 0 dX10_isLetter_0 rfl rfl ?_
  refine gz_bipush 1 hC (97 : Int32) dX10_isLetter_1 gz_b97 ?_
  refine gz_join (fun (j : Int32 → Option (Int32)) => ∀ (x1 : Int32), j x1 = some y → gz_go C 0 0 M [] 17 [.int x1]) hF (fun x1 hF => ?_) (fun j17 hj17 hF => ?_)
  · skip
    exact gz_zretP 17 hC hX dX10_isLetter_17 hF
  refine gz_join (fun (j : Option (Int32)) => j = some y → gz_go C 0 0 M [] 16 []) hF (fun hF => ?_) (fun j16 hj16 hF => ?_)
  · skip
    refine gz_iconst 16 hC (0 : Int32) dX10_isLetter_16 gz_k0 ?_
    exact hj17 _ hF
  refine gz_icmp_lt 3 16 hC dX10_isLetter_3 (by decide) hF (fun hF => ?_) (fun hF => ?_)
  · skip
    refine gz_sub [] [] rfl ?_
    exact hj16 hF
  · skip
    refine gz_iload_n 6 hC 0 dX10_isLetter_6 rfl rfl ?_
    refine gz_bipush 7 hC (122 : Int32) dX10_isLetter_7 gz_b122 ?_
    refine gz_icmp_gt 9 16 hC dX10_isLetter_9 (by decide) hF (fun hF => ?_) (fun hF => ?_)
    · skip
      refine gz_sub [] [] rfl ?_
      exact hj16 hF
    · skip
      refine gz_iconst 12 hC (1 : Int32) dX10_isLetter_12 gz_k1 ?_
      refine gz_goto 13 17 hC dX10_isLetter_13 (by decide) ?_
      refine gz_sub [] [] rfl ?_
      exact hj17 _ hF

theorem dX10_isDigit_0 : decode cX10_isDigit 0 = .ok (.iload_n 0, 1) := by decide +kernel
theorem dX10_isDigit_1 : decode cX10_isDigit 1 = .ok (.bipush 48, 2) := by decide +kernel
theorem dX10_isDigit_3 : decode cX10_isDigit 3 = .ok (.if_icmp .lt 13, 3) := by decide +kernel
theorem dX10_isDigit_6 : decode cX10_isDigit 6 = .ok (.iload_n 0, 1) := by decide +kernel
theorem dX10_isDigit_7 : decode cX10_isDigit 7 = .ok (.bipush 57, 2) := by decide +kernel
theorem dX10_isDigit_9 : decode cX10_isDigit 9 = .ok (.if_icmp .gt 7, 3) := by decide +kernel
theorem dX10_isDigit_12 : decode cX10_isDigit 12 = .ok (.iconst 1, 1) := by decide +kernel
theorem dX10_isDigit_13 : decode cX10_isDigit 13 = .ok (.goto 4, 3) := by decide +kernel
theorem dX10_isDigit_16 : decode cX10_isDigit 16 = .ok (.iconst 0, 1) := by decide +kernel
theorem dX10_isDigit_17 : decode cX10_isDigit 17 = .ok (.ireturn, 1) := by decide +kernel

def f_X10_isDigit (fu : Nat) (M : gz_M) (a0 : Int32) : Option (Int32) :=
  gz_jn (fun (x1 : Int32) =>
  gz_z x1 (some x1)) fun j17 =>
  gz_jn (j17 (0 : Int32)) fun j16 =>
  if a0 < (48 : Int32) then
    j16
  else
    if (57 : Int32) < a0 then
      j16
    else
      j17 (1 : Int32)

set_option maxHeartbeats 4000000 in
theorem ct_X10_isDigit (l : Launch) (G : gz_G) (fu : Nat) (M : gz_M) (a0 : Int32) (y : Int32) (hF : f_X10_isDigit fu M a0 = some y) : gz_ct l yX10_isDigit cX10_isDigit 1 (some .boolean) 0 0 0 0 G [.int a0] M (some (.int y)) M := by
  refine gz_ct.of (by decide) (Nat.le_of_ble_eq_true rfl) (fun C hC hX => ?_)
  unfold f_X10_isDigit at hF
  show gz_go C 0 0 M [(0, .int a0)] 0 []
  refine gz_iload_n 0 hC 0 dX10_isDigit_0 rfl rfl ?_
  refine gz_bipush 1 hC (48 : Int32) dX10_isDigit_1 gz_b48 ?_
  refine gz_join (fun (j : Int32 → Option (Int32)) => ∀ (x1 : Int32), j x1 = some y → gz_go C 0 0 M [] 17 [.int x1]) hF (fun x1 hF => ?_) (fun j17 hj17 hF => ?_)
  · skip
    exact gz_zretP 17 hC hX dX10_isDigit_17 hF
  refine gz_join (fun (j : Option (Int32)) => j = some y → gz_go C 0 0 M [] 16 []) hF (fun hF => ?_) (fun j16 hj16 hF => ?_)
  · skip
    refine gz_iconst 16 hC (0 : Int32) dX10_isDigit_16 gz_k0 ?_
    exact hj17 _ hF
  refine gz_icmp_lt 3 16 hC dX10_isDigit_3 (by decide) hF (fun hF => ?_) (fun hF => ?_)
  · skip
    refine gz_sub [] [] rfl ?_
    exact hj16 hF
  · skip
    refine gz_iload_n 6 hC 0 dX10_isDigit_6 rfl rfl ?_
    refine gz_bipush 7 hC (57 : Int32) dX10_isDigit_7 gz_b57 ?_
    refine gz_icmp_gt 9 16 hC dX10_isDigit_9 (by decide) hF (fun hF => ?_) (fun hF => ?_)
    · skip
      refine gz_sub [] [] rfl ?_
      exact hj16 hF
    · skip
      refine gz_iconst 12 hC (1 : Int32) dX10_isDigit_12 gz_k1 ?_
      refine gz_goto 13 17 hC dX10_isDigit_13 (by decide) ?_
      refine gz_sub [] [] rfl ?_
      exact hj17 _ hF

theorem dX10_look_0 : decode cX10_look 0 = .ok (.aload_n 0, 1) := by decide +kernel
theorem dX10_look_1 : decode cX10_look 1 = .ok (.getfield 139, 3) := by decide +kernel
theorem dX10_look_4 : decode cX10_look 4 = .ok (.aload_n 0, 1) := by decide +kernel
theorem dX10_look_5 : decode cX10_look 5 = .ok (.getfield 136, 3) := by decide +kernel
theorem dX10_look_8 : decode cX10_look 8 = .ok (.if_icmp .ge 30, 3) := by decide +kernel
theorem dX10_look_11 : decode cX10_look 11 = .ok (.aload_n 0, 1) := by decide +kernel
theorem dX10_look_12 : decode cX10_look 12 = .ok (.getfield 37, 3) := by decide +kernel
theorem dX10_look_15 : decode cX10_look 15 = .ok (.aload_n 0, 1) := by decide +kernel
theorem dX10_look_16 : decode cX10_look 16 = .ok (.getfield 139, 3) := by decide +kernel
theorem dX10_look_19 : decode cX10_look 19 = .ok (.iaload, 1) := by decide +kernel
theorem dX10_look_20 : decode cX10_look 20 = .ok (.bipush 32, 2) := by decide +kernel
theorem dX10_look_22 : decode cX10_look 22 = .ok (.if_icmp .ne 16, 3) := by decide +kernel
theorem dX10_look_25 : decode cX10_look 25 = .ok (.aload_n 0, 1) := by decide +kernel
theorem dX10_look_26 : decode cX10_look 26 = .ok (.dup, 1) := by decide +kernel
theorem dX10_look_27 : decode cX10_look 27 = .ok (.getfield 139, 3) := by decide +kernel
theorem dX10_look_30 : decode cX10_look 30 = .ok (.iconst 1, 1) := by decide +kernel
theorem dX10_look_31 : decode cX10_look 31 = .ok (.iadd, 1) := by decide +kernel
theorem dX10_look_32 : decode cX10_look 32 = .ok (.putfield 139, 3) := by decide +kernel
theorem dX10_look_35 : decode cX10_look 35 = .ok (.goto (-35), 3) := by decide +kernel
theorem dX10_look_38 : decode cX10_look 38 = .ok (.aload_n 0, 1) := by decide +kernel
theorem dX10_look_39 : decode cX10_look 39 = .ok (.aload_n 0, 1) := by decide +kernel
theorem dX10_look_40 : decode cX10_look 40 = .ok (.getfield 139, 3) := by decide +kernel
theorem dX10_look_43 : decode cX10_look 43 = .ok (.putfield 142, 3) := by decide +kernel
theorem dX10_look_46 : decode cX10_look 46 = .ok (.aload_n 0, 1) := by decide +kernel
theorem dX10_look_47 : decode cX10_look 47 = .ok (.lconst 0, 1) := by decide +kernel
theorem dX10_look_48 : decode cX10_look 48 = .ok (.putfield 145, 3) := by decide +kernel
theorem dX10_look_51 : decode cX10_look 51 = .ok (.aload_n 0, 1) := by decide +kernel
theorem dX10_look_52 : decode cX10_look 52 = .ok (.getfield 139, 3) := by decide +kernel
theorem dX10_look_55 : decode cX10_look 55 = .ok (.aload_n 0, 1) := by decide +kernel
theorem dX10_look_56 : decode cX10_look 56 = .ok (.getfield 136, 3) := by decide +kernel
theorem dX10_look_59 : decode cX10_look 59 = .ok (.if_icmp .ne 11, 3) := by decide +kernel
theorem dX10_look_62 : decode cX10_look 62 = .ok (.aload_n 0, 1) := by decide +kernel
theorem dX10_look_63 : decode cX10_look 63 = .ok (.iconst 0, 1) := by decide +kernel
theorem dX10_look_64 : decode cX10_look 64 = .ok (.putfield 149, 3) := by decide +kernel
theorem dX10_look_67 : decode cX10_look 67 = .ok (.goto 200, 3) := by decide +kernel
theorem dX10_look_70 : decode cX10_look 70 = .ok (.aload_n 0, 1) := by decide +kernel
theorem dX10_look_71 : decode cX10_look 71 = .ok (.getfield 37, 3) := by decide +kernel
theorem dX10_look_74 : decode cX10_look 74 = .ok (.aload_n 0, 1) := by decide +kernel
theorem dX10_look_75 : decode cX10_look 75 = .ok (.getfield 139, 3) := by decide +kernel
theorem dX10_look_78 : decode cX10_look 78 = .ok (.iaload, 1) := by decide +kernel
theorem dX10_look_79 : decode cX10_look 79 = .ok (.invokestatic 152, 3) := by decide +kernel
theorem dX10_look_82 : decode cX10_look 82 = .ok (.ifCond .eq 47, 3) := by decide +kernel
theorem dX10_look_85 : decode cX10_look 85 = .ok (.aload_n 0, 1) := by decide +kernel
theorem dX10_look_86 : decode cX10_look 86 = .ok (.iconst 1, 1) := by decide +kernel
theorem dX10_look_87 : decode cX10_look 87 = .ok (.putfield 149, 3) := by decide +kernel
theorem dX10_look_90 : decode cX10_look 90 = .ok (.aload_n 0, 1) := by decide +kernel
theorem dX10_look_91 : decode cX10_look 91 = .ok (.getfield 139, 3) := by decide +kernel
theorem dX10_look_94 : decode cX10_look 94 = .ok (.aload_n 0, 1) := by decide +kernel
theorem dX10_look_95 : decode cX10_look 95 = .ok (.getfield 136, 3) := by decide +kernel
theorem dX10_look_98 : decode cX10_look 98 = .ok (.if_icmp .ge 169, 3) := by decide +kernel
theorem dX10_look_101 : decode cX10_look 101 = .ok (.aload_n 0, 1) := by decide +kernel
theorem dX10_look_102 : decode cX10_look 102 = .ok (.getfield 37, 3) := by decide +kernel
theorem dX10_look_105 : decode cX10_look 105 = .ok (.aload_n 0, 1) := by decide +kernel
theorem dX10_look_106 : decode cX10_look 106 = .ok (.getfield 139, 3) := by decide +kernel
theorem dX10_look_109 : decode cX10_look 109 = .ok (.iaload, 1) := by decide +kernel
theorem dX10_look_110 : decode cX10_look 110 = .ok (.invokestatic 152, 3) := by decide +kernel
theorem dX10_look_113 : decode cX10_look 113 = .ok (.ifCond .eq 154, 3) := by decide +kernel
theorem dX10_look_116 : decode cX10_look 116 = .ok (.aload_n 0, 1) := by decide +kernel
theorem dX10_look_117 : decode cX10_look 117 = .ok (.dup, 1) := by decide +kernel
theorem dX10_look_118 : decode cX10_look 118 = .ok (.getfield 139, 3) := by decide +kernel
theorem dX10_look_121 : decode cX10_look 121 = .ok (.iconst 1, 1) := by decide +kernel
theorem dX10_look_122 : decode cX10_look 122 = .ok (.iadd, 1) := by decide +kernel
theorem dX10_look_123 : decode cX10_look 123 = .ok (.putfield 139, 3) := by decide +kernel
theorem dX10_look_126 : decode cX10_look 126 = .ok (.goto (-36), 3) := by decide +kernel
theorem dX10_look_129 : decode cX10_look 129 = .ok (.aload_n 0, 1) := by decide +kernel
theorem dX10_look_130 : decode cX10_look 130 = .ok (.getfield 37, 3) := by decide +kernel
theorem dX10_look_133 : decode cX10_look 133 = .ok (.aload_n 0, 1) := by decide +kernel
theorem dX10_look_134 : decode cX10_look 134 = .ok (.getfield 139, 3) := by decide +kernel
theorem dX10_look_137 : decode cX10_look 137 = .ok (.iaload, 1) := by decide +kernel
theorem dX10_look_138 : decode cX10_look 138 = .ok (.invokestatic 155, 3) := by decide +kernel
theorem dX10_look_141 : decode cX10_look 141 = .ok (.ifCond .eq 93, 3) := by decide +kernel
theorem dX10_look_144 : decode cX10_look 144 = .ok (.aload_n 0, 1) := by decide +kernel
theorem dX10_look_145 : decode cX10_look 145 = .ok (.iconst 2, 1) := by decide +kernel
theorem dX10_look_146 : decode cX10_look 146 = .ok (.putfield 149, 3) := by decide +kernel
theorem dX10_look_149 : decode cX10_look 149 = .ok (.aload_n 0, 1) := by decide +kernel
theorem dX10_look_150 : decode cX10_look 150 = .ok (.getfield 139, 3) := by decide +kernel
theorem dX10_look_153 : decode cX10_look 153 = .ok (.aload_n 0, 1) := by decide +kernel
theorem dX10_look_154 : decode cX10_look 154 = .ok (.getfield 136, 3) := by decide +kernel
theorem dX10_look_157 : decode cX10_look 157 = .ok (.if_icmp .ge 110, 3) := by decide +kernel
theorem dX10_look_160 : decode cX10_look 160 = .ok (.aload_n 0, 1) := by decide +kernel
theorem dX10_look_161 : decode cX10_look 161 = .ok (.getfield 37, 3) := by decide +kernel
theorem dX10_look_164 : decode cX10_look 164 = .ok (.aload_n 0, 1) := by decide +kernel
theorem dX10_look_165 : decode cX10_look 165 = .ok (.getfield 139, 3) := by decide +kernel
theorem dX10_look_168 : decode cX10_look 168 = .ok (.iaload, 1) := by decide +kernel
theorem dX10_look_169 : decode cX10_look 169 = .ok (.invokestatic 155, 3) := by decide +kernel
theorem dX10_look_172 : decode cX10_look 172 = .ok (.ifCond .eq 95, 3) := by decide +kernel
theorem dX10_look_175 : decode cX10_look 175 = .ok (.aload_n 0, 1) := by decide +kernel
theorem dX10_look_176 : decode cX10_look 176 = .ok (.aload_n 0, 1) := by decide +kernel
theorem dX10_look_177 : decode cX10_look 177 = .ok (.getfield 139, 3) := by decide +kernel
theorem dX10_look_180 : decode cX10_look 180 = .ok (.aload_n 0, 1) := by decide +kernel
theorem dX10_look_181 : decode cX10_look 181 = .ok (.getfield 142, 3) := by decide +kernel
theorem dX10_look_184 : decode cX10_look 184 = .ok (.isub, 1) := by decide +kernel
theorem dX10_look_185 : decode cX10_look 185 = .ok (.iconst 2, 1) := by decide +kernel
theorem dX10_look_186 : decode cX10_look 186 = .ok (.if_icmp .ge 29, 3) := by decide +kernel
theorem dX10_look_189 : decode cX10_look 189 = .ok (.aload_n 0, 1) := by decide +kernel
theorem dX10_look_190 : decode cX10_look 190 = .ok (.getfield 145, 3) := by decide +kernel
theorem dX10_look_193 : decode cX10_look 193 = .ok (.ldc2_w 158, 3) := by decide +kernel
theorem dX10_look_196 : decode cX10_look 196 = .ok (.lmul, 1) := by decide +kernel
theorem dX10_look_197 : decode cX10_look 197 = .ok (.aload_n 0, 1) := by decide +kernel
theorem dX10_look_198 : decode cX10_look 198 = .ok (.getfield 37, 3) := by decide +kernel
theorem dX10_look_201 : decode cX10_look 201 = .ok (.aload_n 0, 1) := by decide +kernel
theorem dX10_look_202 : decode cX10_look 202 = .ok (.getfield 139, 3) := by decide +kernel
theorem dX10_look_205 : decode cX10_look 205 = .ok (.iaload, 1) := by decide +kernel
theorem dX10_look_206 : decode cX10_look 206 = .ok (.i2l, 1) := by decide +kernel
theorem dX10_look_207 : decode cX10_look 207 = .ok (.ladd, 1) := by decide +kernel
theorem dX10_look_208 : decode cX10_look 208 = .ok (.ldc2_w 160, 3) := by decide +kernel
theorem dX10_look_211 : decode cX10_look 211 = .ok (.lsub, 1) := by decide +kernel
theorem dX10_look_212 : decode cX10_look 212 = .ok (.goto 6, 3) := by decide +kernel
theorem dX10_look_215 : decode cX10_look 215 = .ok (.ldc2_w 162, 3) := by decide +kernel
theorem dX10_look_218 : decode cX10_look 218 = .ok (.putfield 145, 3) := by decide +kernel
theorem dX10_look_221 : decode cX10_look 221 = .ok (.aload_n 0, 1) := by decide +kernel
theorem dX10_look_222 : decode cX10_look 222 = .ok (.dup, 1) := by decide +kernel
theorem dX10_look_223 : decode cX10_look 223 = .ok (.getfield 139, 3) := by decide +kernel
theorem dX10_look_226 : decode cX10_look 226 = .ok (.iconst 1, 1) := by decide +kernel
theorem dX10_look_227 : decode cX10_look 227 = .ok (.iadd, 1) := by decide +kernel
theorem dX10_look_228 : decode cX10_look 228 = .ok (.putfield 139, 3) := by decide +kernel
theorem dX10_look_231 : decode cX10_look 231 = .ok (.goto (-82), 3) := by decide +kernel
theorem dX10_look_234 : decode cX10_look 234 = .ok (.aload_n 0, 1) := by decide +kernel
theorem dX10_look_235 : decode cX10_look 235 = .ok (.aload_n 0, 1) := by decide +kernel
theorem dX10_look_236 : decode cX10_look 236 = .ok (.getfield 37, 3) := by decide +kernel
theorem dX10_look_239 : decode cX10_look 239 = .ok (.aload_n 0, 1) := by decide +kernel
theorem dX10_look_240 : decode cX10_look 240 = .ok (.getfield 139, 3) := by decide +kernel
theorem dX10_look_243 : decode cX10_look 243 = .ok (.iaload, 1) := by decide +kernel
theorem dX10_look_244 : decode cX10_look 244 = .ok (.bipush 59, 2) := by decide +kernel
theorem dX10_look_246 : decode cX10_look 246 = .ok (.if_icmp .ne 7, 3) := by decide +kernel
theorem dX10_look_249 : decode cX10_look 249 = .ok (.iconst 3, 1) := by decide +kernel
theorem dX10_look_250 : decode cX10_look 250 = .ok (.goto 4, 3) := by decide +kernel
theorem dX10_look_253 : decode cX10_look 253 = .ok (.iconst 4, 1) := by decide +kernel
theorem dX10_look_254 : decode cX10_look 254 = .ok (.putfield 149, 3) := by decide +kernel
theorem dX10_look_257 : decode cX10_look 257 = .ok (.aload_n 0, 1) := by decide +kernel
theorem dX10_look_258 : decode cX10_look 258 = .ok (.dup, 1) := by decide +kernel
theorem dX10_look_259 : decode cX10_look 259 = .ok (.getfield 139, 3) := by decide +kernel
theorem dX10_look_262 : decode cX10_look 262 = .ok (.iconst 1, 1) := by decide +kernel
theorem dX10_look_263 : decode cX10_look 263 = .ok (.iadd, 1) := by decide +kernel
theorem dX10_look_264 : decode cX10_look 264 = .ok (.putfield 139, 3) := by decide +kernel
theorem dX10_look_267 : decode cX10_look 267 = .ok (.return_, 1) := by decide +kernel
def lp_X10_look_0 (j38 : gz_M → Option (gz_M)) (a0 : Nat) : Nat → gz_M → Option (gz_M)
  | 0, _ => none
  | n0 + 1, M1 =>
    (gz_gI M1 10 21 a0).bind fun x2 =>
    (gz_gI M1 10 9 a0).bind fun x3 =>
    if x3 ≤ x2 then
      j38 M1
    else
      (gz_gR M1 10 8 a0).bind fun x4 =>
      (gz_gI M1 10 21 a0).bind fun x5 =>
      (gz_aI M1 x4 x5).bind fun x6 =>
      if x6 = (32 : Int32) then
        (gz_gI M1 10 21 a0).bind fun x7 =>
        (gz_pI M1 10 21 a0 (x7 + (1 : Int32))).bind fun M8 =>
        lp_X10_look_0 j38 a0 n0 M8
      else
        j38 M1
def lp_X10_look_149 (j267 : gz_M → Option (gz_M)) (fu : Nat) (a0 : Nat) : Nat → gz_M → Option (gz_M)
  | 0, _ => none
  | n149 + 1, M35 =>
    (gz_gI M35 10 21 a0).bind fun x36 =>
    (gz_gI M35 10 9 a0).bind fun x37 =>
    if x37 ≤ x36 then
      j267 M35
    else
      (gz_gR M35 10 8 a0).bind fun x38 =>
      (gz_gI M35 10 21 a0).bind fun x39 =>
      (gz_aI M35 x38 x39).bind fun x40 =>
      (f_X10_isDigit fu M35 x40).bind fun x41 =>
      if x41 = 0 then
        j267 M35
      else
        (gz_gI M35 10 21 a0).bind fun x42 =>
        (gz_gI M35 10 23 a0).bind fun x43 =>
        gz_jn (fun (x48 : Int64) =>
        (gz_pL M35 10 24 a0 x48).bind fun M49 =>
          (gz_gI M49 10 21 a0).bind fun x50 =>
          (gz_pI M49 10 21 a0 (x50 + (1 : Int32))).bind fun M51 =>
          lp_X10_look_149 j267 fu a0 n149 M51) fun j218 =>
        if (2 : Int32) ≤ (x42 - x43) then
          j218 (100000 : Int64)
        else
          (gz_gL M35 10 24 a0).bind fun x44 =>
          (gz_gR M35 10 8 a0).bind fun x45 =>
          (gz_gI M35 10 21 a0).bind fun x46 =>
          (gz_aI M35 x45 x46).bind fun x47 =>
          j218 (((x44 * (10 : Int64)) + (x47).toInt64) - (48 : Int64))
def lp_X10_look_90 (j267 : gz_M → Option (gz_M)) (fu : Nat) (a0 : Nat) : Nat → gz_M → Option (gz_M)
  | 0, _ => none
  | n90 + 1, M21 =>
    (gz_gI M21 10 21 a0).bind fun x22 =>
    (gz_gI M21 10 9 a0).bind fun x23 =>
    if x23 ≤ x22 then
      j267 M21
    else
      (gz_gR M21 10 8 a0).bind fun x24 =>
      (gz_gI M21 10 21 a0).bind fun x25 =>
      (gz_aI M21 x24 x25).bind fun x26 =>
      (f_X10_isLetter fu M21 x26).bind fun x27 =>
      if x27 = 0 then
        j267 M21
      else
        (gz_gI M21 10 21 a0).bind fun x28 =>
        (gz_pI M21 10 21 a0 (x28 + (1 : Int32))).bind fun M29 =>
        lp_X10_look_90 j267 fu a0 n90 M29
def f_X10_look (fu : Nat) (M : gz_M) (a0 : Nat) : Option (gz_M) :=
  gz_gd M 10 a0 <|
  lp_X10_look_0 (fun (M9 : gz_M) => (gz_gI M9 10 21 a0).bind fun x10 =>
    (gz_pI M9 10 23 a0 x10).bind fun M11 =>
    (gz_pL M11 10 24 a0 (0 : Int64)).bind fun M12 =>
    (gz_gI M12 10 21 a0).bind fun x13 =>
    (gz_gI M12 10 9 a0).bind fun x14 =>
    gz_jn (fun (M59 : gz_M) =>
    some M59) fun j267 =>
    if x13 = x14 then
      (gz_pI M12 10 22 a0 (0 : Int32)).bind fun M15 =>
      j267 M15
    else
      (gz_gR M12 10 8 a0).bind fun x16 =>
      (gz_gI M12 10 21 a0).bind fun x17 =>
      (gz_aI M12 x16 x17).bind fun x18 =>
      (f_X10_isLetter fu M12 x18).bind fun x19 =>
      if x19 = 0 then
        (gz_gR M12 10 8 a0).bind fun x30 =>
        (gz_gI M12 10 21 a0).bind fun x31 =>
        (gz_aI M12 x30 x31).bind fun x32 =>
        (f_X10_isDigit fu M12 x32).bind fun x33 =>
        if x33 = 0 then
          (gz_gR M12 10 8 a0).bind fun x52 =>
          (gz_gI M12 10 21 a0).bind fun x53 =>
          (gz_aI M12 x52 x53).bind fun x54 =>
          gz_jn (fun (x55 : Int32) =>
          (gz_pI M12 10 22 a0 x55).bind fun M56 =>
            (gz_gI M56 10 21 a0).bind fun x57 =>
            (gz_pI M56 10 21 a0 (x57 + (1 : Int32))).bind fun M58 =>
            j267 M58) fun j254 =>
          if x54 = (59 : Int32) then
            j254 (3 : Int32)
          else
            j254 (4 : Int32)
        else
          (gz_pI M12 10 22 a0 (2 : Int32)).bind fun M34 =>
          lp_X10_look_149 j267 fu a0 fu M34
      else
        (gz_pI M12 10 22 a0 (1 : Int32)).bind fun M20 =>
        lp_X10_look_90 j267 fu a0 fu M20) a0 fu M
set_option maxHeartbeats 4000000 in
theorem w_X10_look_0 {C : gz_C} {y : gz_M} {a0 : Nat} {j38 : gz_M → Option (gz_M)} (hC : gz_ok C cX10_look RX10 1) (hX : gz_cx C 1 20 0 0 none none y "look") (hj38 : ∀ (M9 : gz_M), j38 M9 = some y → gz_go C 0 0 M9 [(0, .ref a0)] 38 []) : ∀ (n : Nat) (M1 : gz_M), lp_X10_look_0 j38 a0 n M1 = some y → gz_go C 0 0 M1 [(0, .ref a0)] 0 [] := by
  intro n
  induction n with
  | zero => intro M1 hF; exact nomatch (show (none : Option (gz_M)) = some y from hF)
  | succ n0 ih0 =>
    intro M1 hF
    rw [lp_X10_look_0.eq_2] at hF
    refine gz_aload_n 0 hC 0 dX10_look_0 rfl rfl ?_
    refine gz_getI 1 hC fl_X10_139 fk_10_21 dX10_look_1 hF (fun x2 hF => ?_)
    refine gz_aload_n 4 hC 0 dX10_look_4 rfl rfl ?_
    refine gz_getI 5 hC fl_X10_136 fk_10_9 dX10_look_5 hF (fun x3 hF => ?_)
    refine gz_icmp_ge 8 38 hC dX10_look_8 (by decide) hF (fun hF => ?_) (fun hF => ?_)
    · skip
      exact hj38 _ hF
    · skip
      refine gz_aload_n 11 hC 0 dX10_look_11 rfl rfl ?_
      refine gz_getR 12 hC fl_X10_37 fk_10_8 dX10_look_12 hF (fun x4 hF => ?_)
      refine gz_aload_n 15 hC 0 dX10_look_15 rfl rfl ?_
      refine gz_getI 16 hC fl_X10_139 fk_10_21 dX10_look_16 hF (fun x5 hF => ?_)
      refine gz_iald 19 hC dX10_look_19 hF (fun x6 hF => ?_)
      refine gz_bipush 20 hC (32 : Int32) dX10_look_20 gz_b32 ?_
      refine gz_icmp_ne 22 38 hC dX10_look_22 (by decide) hF (fun hF => ?_) (fun hF => ?_)
      · skip
        exact hj38 _ hF
      · skip
        refine gz_aload_n 25 hC 0 dX10_look_25 rfl rfl ?_
        refine gz_dup 26 hC dX10_look_26 rfl ?_
        refine gz_getI 27 hC fl_X10_139 fk_10_21 dX10_look_27 hF (fun x7 hF => ?_)
        refine gz_iconst 30 hC (1 : Int32) dX10_look_30 gz_k1 ?_
        refine gz_iadd 31 hC dX10_look_31 ?_
        refine gz_putI 32 hC fl_X10_139 fk_10_21 dX10_look_32 hF (fun M8 hF => ?_)
        refine gz_goto 35 0 hC dX10_look_35 (by decide) ?_
        exact ih0 _ hF
set_option maxHeartbeats 4000000 in
theorem w_X10_look_149 {C : gz_C} {y : gz_M} {fu : Nat} {a0 : Nat} {j267 : gz_M → Option (gz_M)} (hC : gz_ok C cX10_look RX10 1) (hX : gz_cx C 1 20 0 0 none none y "look") (hj267 : ∀ (M59 : gz_M), j267 M59 = some y → gz_go C 0 0 M59 [] 267 []) : ∀ (n : Nat) (M35 : gz_M), lp_X10_look_149 j267 fu a0 n M35 = some y → gz_go C 0 0 M35 [(0, .ref a0)] 149 [] := by
  intro n
  induction n with
  | zero => intro M35 hF; exact nomatch (show (none : Option (gz_M)) = some y from hF)
  | succ n149 ih149 =>
    intro M35 hF
    rw [lp_X10_look_149.eq_2] at hF
    refine gz_aload_n 149 hC 0 dX10_look_149 rfl rfl ?_
    refine gz_getI 150 hC fl_X10_139 fk_10_21 dX10_look_150 hF (fun x36 hF => ?_)
    refine gz_aload_n 153 hC 0 dX10_look_153 rfl rfl ?_
    refine gz_getI 154 hC fl_X10_136 fk_10_9 dX10_look_154 hF (fun x37 hF => ?_)
    refine gz_icmp_ge 157 267 hC dX10_look_157 (by decide) hF (fun hF => ?_) (fun hF => ?_)
    · skip
      refine gz_sub [] [] rfl ?_
      exact hj267 _ hF
    · skip
      refine gz_aload_n 160 hC 0 dX10_look_160 rfl rfl ?_
      refine gz_getR 161 hC fl_X10_37 fk_10_8 dX10_look_161 hF (fun x38 hF => ?_)
      refine gz_aload_n 164 hC 0 dX10_look_164 rfl rfl ?_
      refine gz_getI 165 hC fl_X10_139 fk_10_21 dX10_look_165 hF (fun x39 hF => ?_)
      refine gz_iald 168 hC dX10_look_168 hF (fun x40 hF => ?_)
      refine gz_csP (st := []) 169 hC hX [.int x40] Value.int yl_X10_isDigit yv_X10_isDigit q_1280 ⟨Nat.le_of_ble_eq_true rfl, Nat.le_of_ble_eq_true rfl⟩ (fun r h => ct_X10_isDigit _ _ fu M35 x40 r h) rfl rfl (Nat.le_of_ble_eq_true rfl) dX10_look_169 gz_00 hF (fun x41 hF => ?_)
      refine gz_if_eq 172 267 hC dX10_look_172 (by decide) hF (fun hF => ?_) (fun hF => ?_)
      · skip
        refine gz_sub [] [] rfl ?_
        exact hj267 _ hF
      · skip
        refine gz_aload_n 175 hC 0 dX10_look_175 rfl rfl ?_
        refine gz_aload_n 176 hC 0 dX10_look_176 rfl rfl ?_
        refine gz_getI 177 hC fl_X10_139 fk_10_21 dX10_look_177 hF (fun x42 hF => ?_)
        refine gz_aload_n 180 hC 0 dX10_look_180 rfl rfl ?_
        refine gz_getI 181 hC fl_X10_142 fk_10_23 dX10_look_181 hF (fun x43 hF => ?_)
        refine gz_isub 184 hC dX10_look_184 ?_
        refine gz_iconst 185 hC (2 : Int32) dX10_look_185 gz_k2 ?_
        refine gz_join (fun (j : Int64 → Option (gz_M)) => ∀ (x48 : Int64), j x48 = some y → gz_go C 0 0 M35 [(0, .ref a0)] 218 [.long x48, .ref a0]) hF (fun x48 hF => ?_) (fun j218 hj218 hF => ?_)
        · skip
          refine gz_putL 218 hC fl_X10_145 fk_10_24 dX10_look_218 hF (fun M49 hF => ?_)
          refine gz_aload_n 221 hC 0 dX10_look_221 rfl rfl ?_
          refine gz_dup 222 hC dX10_look_222 rfl ?_
          refine gz_getI 223 hC fl_X10_139 fk_10_21 dX10_look_223 hF (fun x50 hF => ?_)
          refine gz_iconst 226 hC (1 : Int32) dX10_look_226 gz_k1 ?_
          refine gz_iadd 227 hC dX10_look_227 ?_
          refine gz_putI 228 hC fl_X10_139 fk_10_21 dX10_look_228 hF (fun M51 hF => ?_)
          refine gz_goto 231 149 hC dX10_look_231 (by decide) ?_
          exact ih149 _ hF
        refine gz_icmp_ge 186 215 hC dX10_look_186 (by decide) hF (fun hF => ?_) (fun hF => ?_)
        · skip
          refine gz_ldc2 215 hC dX10_look_215 q_1285 ?_
          exact hj218 _ hF
        · skip
          refine gz_aload_n 189 hC 0 dX10_look_189 rfl rfl ?_
          refine gz_getL 190 hC fl_X10_145 fk_10_24 dX10_look_190 hF (fun x44 hF => ?_)
          refine gz_ldc2 193 hC dX10_look_193 q_1283 ?_
          refine gz_lmul 196 hC dX10_look_196 ?_
          refine gz_aload_n 197 hC 0 dX10_look_197 rfl rfl ?_
          refine gz_getR 198 hC fl_X10_37 fk_10_8 dX10_look_198 hF (fun x45 hF => ?_)
          refine gz_aload_n 201 hC 0 dX10_look_201 rfl rfl ?_
          refine gz_getI 202 hC fl_X10_139 fk_10_21 dX10_look_202 hF (fun x46 hF => ?_)
          refine gz_iald 205 hC dX10_look_205 hF (fun x47 hF => ?_)
          refine gz_i2l 206 hC dX10_look_206 ?_
          refine gz_ladd 207 hC dX10_look_207 ?_
          refine gz_ldc2 208 hC dX10_look_208 q_1284 ?_
          refine gz_lsub 211 hC dX10_look_211 ?_
          refine gz_goto 212 218 hC dX10_look_212 (by decide) ?_
          exact hj218 _ hF
set_option maxHeartbeats 4000000 in
theorem w_X10_look_90 {C : gz_C} {y : gz_M} {fu : Nat} {a0 : Nat} {j267 : gz_M → Option (gz_M)} (hC : gz_ok C cX10_look RX10 1) (hX : gz_cx C 1 20 0 0 none none y "look") (hj267 : ∀ (M59 : gz_M), j267 M59 = some y → gz_go C 0 0 M59 [] 267 []) : ∀ (n : Nat) (M21 : gz_M), lp_X10_look_90 j267 fu a0 n M21 = some y → gz_go C 0 0 M21 [(0, .ref a0)] 90 [] := by
  intro n
  induction n with
  | zero => intro M21 hF; exact nomatch (show (none : Option (gz_M)) = some y from hF)
  | succ n90 ih90 =>
    intro M21 hF
    rw [lp_X10_look_90.eq_2] at hF
    refine gz_aload_n 90 hC 0 dX10_look_90 rfl rfl ?_
    refine gz_getI 91 hC fl_X10_139 fk_10_21 dX10_look_91 hF (fun x22 hF => ?_)
    refine gz_aload_n 94 hC 0 dX10_look_94 rfl rfl ?_
    refine gz_getI 95 hC fl_X10_136 fk_10_9 dX10_look_95 hF (fun x23 hF => ?_)
    refine gz_icmp_ge 98 267 hC dX10_look_98 (by decide) hF (fun hF => ?_) (fun hF => ?_)
    · skip
      refine gz_sub [] [] rfl ?_
      exact hj267 _ hF
    · skip
      refine gz_aload_n 101 hC 0 dX10_look_101 rfl rfl ?_
      refine gz_getR 102 hC fl_X10_37 fk_10_8 dX10_look_102 hF (fun x24 hF => ?_)
      refine gz_aload_n 105 hC 0 dX10_look_105 rfl rfl ?_
      refine gz_getI 106 hC fl_X10_139 fk_10_21 dX10_look_106 hF (fun x25 hF => ?_)
      refine gz_iald 109 hC dX10_look_109 hF (fun x26 hF => ?_)
      refine gz_csP (st := []) 110 hC hX [.int x26] Value.int yl_X10_isLetter yv_X10_isLetter q_1277 ⟨Nat.le_of_ble_eq_true rfl, Nat.le_of_ble_eq_true rfl⟩ (fun r h => ct_X10_isLetter _ _ fu M21 x26 r h) rfl rfl (Nat.le_of_ble_eq_true rfl) dX10_look_110 gz_00 hF (fun x27 hF => ?_)
      refine gz_if_eq 113 267 hC dX10_look_113 (by decide) hF (fun hF => ?_) (fun hF => ?_)
      · skip
        refine gz_sub [] [] rfl ?_
        exact hj267 _ hF
      · skip
        refine gz_aload_n 116 hC 0 dX10_look_116 rfl rfl ?_
        refine gz_dup 117 hC dX10_look_117 rfl ?_
        refine gz_getI 118 hC fl_X10_139 fk_10_21 dX10_look_118 hF (fun x28 hF => ?_)
        refine gz_iconst 121 hC (1 : Int32) dX10_look_121 gz_k1 ?_
        refine gz_iadd 122 hC dX10_look_122 ?_
        refine gz_putI 123 hC fl_X10_139 fk_10_21 dX10_look_123 hF (fun M29 hF => ?_)
        refine gz_goto 126 90 hC dX10_look_126 (by decide) ?_
        exact ih90 _ hF
set_option maxHeartbeats 4000000 in
theorem ct_X10_look (l : Launch) (G : gz_G) (fu : Nat) (M : gz_M) (a0 : Nat) (y : gz_M) (hF : f_X10_look fu M a0 = some y) : gz_ct l yX10_look cX10_look 1 none 1 20 0 0 G [.ref a0] M none y := by
  refine gz_ct.of (by decide) (Nat.le_of_ble_eq_true rfl) (fun C hC hX => ?_)
  unfold f_X10_look at hF
  obtain ⟨-, hF⟩ := gz_gd_some hF
  show gz_go C 0 0 M [(0, .ref a0)] 0 []
  refine w_X10_look_0 hC hX ?_ _ _ hF
  intro M9 hF
  refine gz_aload_n 38 hC 0 dX10_look_38 rfl rfl ?_
  refine gz_aload_n 39 hC 0 dX10_look_39 rfl rfl ?_
  refine gz_getI 40 hC fl_X10_139 fk_10_21 dX10_look_40 hF (fun x10 hF => ?_)
  refine gz_putI 43 hC fl_X10_142 fk_10_23 dX10_look_43 hF (fun M11 hF => ?_)
  refine gz_aload_n 46 hC 0 dX10_look_46 rfl rfl ?_
  refine gz_lconst 47 hC (0 : Int64) dX10_look_47 gz_l0 ?_
  refine gz_putL 48 hC fl_X10_145 fk_10_24 dX10_look_48 hF (fun M12 hF => ?_)
  refine gz_aload_n 51 hC 0 dX10_look_51 rfl rfl ?_
  refine gz_getI 52 hC fl_X10_139 fk_10_21 dX10_look_52 hF (fun x13 hF => ?_)
  refine gz_aload_n 55 hC 0 dX10_look_55 rfl rfl ?_
  refine gz_getI 56 hC fl_X10_136 fk_10_9 dX10_look_56 hF (fun x14 hF => ?_)
  refine gz_join (fun (j : gz_M → Option (gz_M)) => ∀ (M59 : gz_M), j M59 = some y → gz_go C 0 0 M59 [] 267 []) hF (fun M59 hF => ?_) (fun j267 hj267 hF => ?_)
  · skip
    exact gz_vretM 267 hC hX dX10_look_267 hF
  refine gz_icmp_ne 59 70 hC dX10_look_59 (by decide) hF (fun hF => ?_) (fun hF => ?_)
  · skip
    refine gz_aload_n 70 hC 0 dX10_look_70 rfl rfl ?_
    refine gz_getR 71 hC fl_X10_37 fk_10_8 dX10_look_71 hF (fun x16 hF => ?_)
    refine gz_aload_n 74 hC 0 dX10_look_74 rfl rfl ?_
    refine gz_getI 75 hC fl_X10_139 fk_10_21 dX10_look_75 hF (fun x17 hF => ?_)
    refine gz_iald 78 hC dX10_look_78 hF (fun x18 hF => ?_)
    refine gz_csP (st := []) 79 hC hX [.int x18] Value.int yl_X10_isLetter yv_X10_isLetter q_1277 ⟨Nat.le_of_ble_eq_true rfl, Nat.le_of_ble_eq_true rfl⟩ (fun r h => ct_X10_isLetter _ _ fu M12 x18 r h) rfl rfl (Nat.le_of_ble_eq_true rfl) dX10_look_79 gz_00 hF (fun x19 hF => ?_)
    refine gz_if_eq 82 129 hC dX10_look_82 (by decide) hF (fun hF => ?_) (fun hF => ?_)
    · skip
      refine gz_aload_n 129 hC 0 dX10_look_129 rfl rfl ?_
      refine gz_getR 130 hC fl_X10_37 fk_10_8 dX10_look_130 hF (fun x30 hF => ?_)
      refine gz_aload_n 133 hC 0 dX10_look_133 rfl rfl ?_
      refine gz_getI 134 hC fl_X10_139 fk_10_21 dX10_look_134 hF (fun x31 hF => ?_)
      refine gz_iald 137 hC dX10_look_137 hF (fun x32 hF => ?_)
      refine gz_csP (st := []) 138 hC hX [.int x32] Value.int yl_X10_isDigit yv_X10_isDigit q_1280 ⟨Nat.le_of_ble_eq_true rfl, Nat.le_of_ble_eq_true rfl⟩ (fun r h => ct_X10_isDigit _ _ fu M12 x32 r h) rfl rfl (Nat.le_of_ble_eq_true rfl) dX10_look_138 gz_00 hF (fun x33 hF => ?_)
      refine gz_if_eq 141 234 hC dX10_look_141 (by decide) hF (fun hF => ?_) (fun hF => ?_)
      · skip
        refine gz_aload_n 234 hC 0 dX10_look_234 rfl rfl ?_
        refine gz_aload_n 235 hC 0 dX10_look_235 rfl rfl ?_
        refine gz_getR 236 hC fl_X10_37 fk_10_8 dX10_look_236 hF (fun x52 hF => ?_)
        refine gz_aload_n 239 hC 0 dX10_look_239 rfl rfl ?_
        refine gz_getI 240 hC fl_X10_139 fk_10_21 dX10_look_240 hF (fun x53 hF => ?_)
        refine gz_iald 243 hC dX10_look_243 hF (fun x54 hF => ?_)
        refine gz_bipush 244 hC (59 : Int32) dX10_look_244 gz_b59 ?_
        refine gz_join (fun (j : Int32 → Option (gz_M)) => ∀ (x55 : Int32), j x55 = some y → gz_go C 0 0 M12 [(0, .ref a0)] 254 [.int x55, .ref a0]) hF (fun x55 hF => ?_) (fun j254 hj254 hF => ?_)
        · skip
          refine gz_putI 254 hC fl_X10_149 fk_10_22 dX10_look_254 hF (fun M56 hF => ?_)
          refine gz_aload_n 257 hC 0 dX10_look_257 rfl rfl ?_
          refine gz_dup 258 hC dX10_look_258 rfl ?_
          refine gz_getI 259 hC fl_X10_139 fk_10_21 dX10_look_259 hF (fun x57 hF => ?_)
          refine gz_iconst 262 hC (1 : Int32) dX10_look_262 gz_k1 ?_
          refine gz_iadd 263 hC dX10_look_263 ?_
          refine gz_putI 264 hC fl_X10_139 fk_10_21 dX10_look_264 hF (fun M58 hF => ?_)
          refine gz_sub [] [] rfl ?_
          exact hj267 _ hF
        refine gz_icmp_ne 246 253 hC dX10_look_246 (by decide) hF (fun hF => ?_) (fun hF => ?_)
        · skip
          refine gz_iconst 253 hC (4 : Int32) dX10_look_253 gz_k4 ?_
          exact hj254 _ hF
        · skip
          refine gz_iconst 249 hC (3 : Int32) dX10_look_249 gz_k3 ?_
          refine gz_goto 250 254 hC dX10_look_250 (by decide) ?_
          exact hj254 _ hF
      · skip
        refine gz_aload_n 144 hC 0 dX10_look_144 rfl rfl ?_
        refine gz_iconst 145 hC (2 : Int32) dX10_look_145 gz_k2 ?_
        refine gz_putI 146 hC fl_X10_149 fk_10_22 dX10_look_146 hF (fun M34 hF => ?_)
        refine w_X10_look_149 hC hX hj267 _ _ hF
    · skip
      refine gz_aload_n 85 hC 0 dX10_look_85 rfl rfl ?_
      refine gz_iconst 86 hC (1 : Int32) dX10_look_86 gz_k1 ?_
      refine gz_putI 87 hC fl_X10_149 fk_10_22 dX10_look_87 hF (fun M20 hF => ?_)
      refine w_X10_look_90 hC hX hj267 _ _ hF
  · skip
    refine gz_aload_n 62 hC 0 dX10_look_62 rfl rfl ?_
    refine gz_iconst 63 hC (0 : Int32) dX10_look_63 gz_k0 ?_
    refine gz_putI 64 hC fl_X10_149 fk_10_22 dX10_look_64 hF (fun M15 hF => ?_)
    refine gz_goto 67 267 hC dX10_look_67 (by decide) ?_
    refine gz_sub [] [] rfl ?_
    exact hj267 _ hF

theorem dX10_wrong_0 : decode cX10_wrong 0 = .ok (.aload_n 0, 1) := by decide +kernel
theorem dX10_wrong_1 : decode cX10_wrong 1 = .ok (.aload_n 0, 1) := by decide +kernel
theorem dX10_wrong_2 : decode cX10_wrong 2 = .ok (.getfield 142, 3) := by decide +kernel
theorem dX10_wrong_5 : decode cX10_wrong 5 = .ok (.putfield 164, 3) := by decide +kernel
theorem dX10_wrong_8 : decode cX10_wrong 8 = .ok (.iconst 0, 1) := by decide +kernel
theorem dX10_wrong_9 : decode cX10_wrong 9 = .ok (.ireturn, 1) := by decide +kernel

def f_X10_wrong (fu : Nat) (M : gz_M) (a0 : Nat) : Option (Int32 × gz_M) :=
  gz_gd M 10 a0 <|
  (gz_gI M 10 23 a0).bind fun x1 =>
  (gz_pI M 10 25 a0 x1).bind fun M2 =>
  gz_z (0 : Int32) (some ((0 : Int32), M2))

set_option maxHeartbeats 4000000 in
theorem ct_X10_wrong (l : Launch) (G : gz_G) (fu : Nat) (M : gz_M) (a0 : Nat) (y : Int32 × gz_M) (hF : f_X10_wrong fu M a0 = some y) : gz_ct l yX10_wrong cX10_wrong 1 (some .boolean) 0 0 0 0 G [.ref a0] M (some (.int y.1)) y.2 := by
  refine gz_ct.of (by decide) (Nat.le_of_ble_eq_true rfl) (fun C hC hX => ?_)
  unfold f_X10_wrong at hF
  obtain ⟨-, hF⟩ := gz_gd_some hF
  show gz_go C 0 0 M [(0, .ref a0)] 0 []
  refine gz_aload_n 0 hC 0 dX10_wrong_0 rfl rfl ?_
  refine gz_aload_n 1 hC 0 dX10_wrong_1 rfl rfl ?_
  refine gz_getI 2 hC fl_X10_142 fk_10_23 dX10_wrong_2 hF (fun x1 hF => ?_)
  refine gz_putI 5 hC fl_X10_164 fk_10_25 dX10_wrong_5 hF (fun M2 hF => ?_)
  refine gz_iconst 8 hC (0 : Int32) dX10_wrong_8 gz_k0 ?_
  exact gz_zretM 9 hC hX dX10_wrong_9 hF

theorem dX10_isWord_0 : decode cX10_isWord 0 = .ok (.aload_n 0, 1) := by decide +kernel
theorem dX10_isWord_1 : decode cX10_isWord 1 = .ok (.getfield 149, 3) := by decide +kernel
theorem dX10_isWord_4 : decode cX10_isWord 4 = .ok (.iconst 1, 1) := by decide +kernel
theorem dX10_isWord_5 : decode cX10_isWord 5 = .ok (.if_icmp .ne 19, 3) := by decide +kernel
theorem dX10_isWord_8 : decode cX10_isWord 8 = .ok (.aload_n 0, 1) := by decide +kernel
theorem dX10_isWord_9 : decode cX10_isWord 9 = .ok (.getfield 139, 3) := by decide +kernel
theorem dX10_isWord_12 : decode cX10_isWord 12 = .ok (.aload_n 0, 1) := by decide +kernel
theorem dX10_isWord_13 : decode cX10_isWord 13 = .ok (.getfield 142, 3) := by decide +kernel
theorem dX10_isWord_16 : decode cX10_isWord 16 = .ok (.isub, 1) := by decide +kernel
theorem dX10_isWord_17 : decode cX10_isWord 17 = .ok (.aload_n 1, 1) := by decide +kernel
theorem dX10_isWord_18 : decode cX10_isWord 18 = .ok (.invokevirtual 167, 3) := by decide +kernel
theorem dX10_isWord_21 : decode cX10_isWord 21 = .ok (.if_icmp .eq 5, 3) := by decide +kernel
theorem dX10_isWord_24 : decode cX10_isWord 24 = .ok (.iconst 0, 1) := by decide +kernel
theorem dX10_isWord_25 : decode cX10_isWord 25 = .ok (.ireturn, 1) := by decide +kernel
theorem dX10_isWord_26 : decode cX10_isWord 26 = .ok (.iconst 0, 1) := by decide +kernel
theorem dX10_isWord_27 : decode cX10_isWord 27 = .ok (.istore_n 2, 1) := by decide +kernel
theorem dX10_isWord_28 : decode cX10_isWord 28 = .ok (.iload_n 2, 1) := by decide +kernel
theorem dX10_isWord_29 : decode cX10_isWord 29 = .ok (.aload_n 1, 1) := by decide +kernel
theorem dX10_isWord_30 : decode cX10_isWord 30 = .ok (.invokevirtual 167, 3) := by decide +kernel
theorem dX10_isWord_33 : decode cX10_isWord 33 = .ok (.if_icmp .ge 30, 3) := by decide +kernel
theorem dX10_isWord_36 : decode cX10_isWord 36 = .ok (.aload_n 0, 1) := by decide +kernel
theorem dX10_isWord_37 : decode cX10_isWord 37 = .ok (.getfield 37, 3) := by decide +kernel
theorem dX10_isWord_40 : decode cX10_isWord 40 = .ok (.aload_n 0, 1) := by decide +kernel
theorem dX10_isWord_41 : decode cX10_isWord 41 = .ok (.getfield 142, 3) := by decide +kernel
theorem dX10_isWord_44 : decode cX10_isWord 44 = .ok (.iload_n 2, 1) := by decide +kernel
theorem dX10_isWord_45 : decode cX10_isWord 45 = .ok (.iadd, 1) := by decide +kernel
theorem dX10_isWord_46 : decode cX10_isWord 46 = .ok (.iaload, 1) := by decide +kernel
theorem dX10_isWord_47 : decode cX10_isWord 47 = .ok (.aload_n 1, 1) := by decide +kernel
theorem dX10_isWord_48 : decode cX10_isWord 48 = .ok (.iload_n 2, 1) := by decide +kernel
theorem dX10_isWord_49 : decode cX10_isWord 49 = .ok (.invokevirtual 173, 3) := by decide +kernel
theorem dX10_isWord_52 : decode cX10_isWord 52 = .ok (.if_icmp .eq 5, 3) := by decide +kernel
theorem dX10_isWord_55 : decode cX10_isWord 55 = .ok (.iconst 0, 1) := by decide +kernel
theorem dX10_isWord_56 : decode cX10_isWord 56 = .ok (.ireturn, 1) := by decide +kernel
theorem dX10_isWord_57 : decode cX10_isWord 57 = .ok (.iinc 2 1, 3) := by decide +kernel
theorem dX10_isWord_60 : decode cX10_isWord 60 = .ok (.goto (-32), 3) := by decide +kernel
theorem dX10_isWord_63 : decode cX10_isWord 63 = .ok (.iconst 1, 1) := by decide +kernel
theorem dX10_isWord_64 : decode cX10_isWord 64 = .ok (.ireturn, 1) := by decide +kernel
def lp_X10_isWord_28 (j63 : Option (Int32)) (M : gz_M) (a0 : Nat) (a1 : Nat) : Nat → Int32 → Option (Int32)
  | 0, _ => none
  | n28 + 1, x5 =>
    (gz_sl a1).bind fun x6 =>
    if x6 ≤ x5 then
      j63
    else
      (gz_gR M 10 8 a0).bind fun x7 =>
      (gz_gI M 10 23 a0).bind fun x8 =>
      (gz_aI M x7 (x8 + x5)).bind fun x9 =>
      (gz_sc a1 x5).bind fun x10 =>
      if x9 = x10 then
        lp_X10_isWord_28 j63 M a0 a1 n28 (x5 + (1 : Int32))
      else
        gz_z (0 : Int32) (some (0 : Int32))
def f_X10_isWord (fu : Nat) (M : gz_M) (a0 : Nat) (a1 : Nat) : Option (Int32) :=
  gz_gd M 10 a0 <|
  (gz_gI M 10 22 a0).bind fun x1 =>
  gz_jn (gz_z (0 : Int32) (some (0 : Int32))) fun j24 =>
  if x1 = (1 : Int32) then
    (gz_gI M 10 21 a0).bind fun x2 =>
    (gz_gI M 10 23 a0).bind fun x3 =>
    (gz_sl a1).bind fun x4 =>
    if (x2 - x3) = x4 then
      lp_X10_isWord_28 (gz_z (1 : Int32) (some (1 : Int32))) M a0 a1 fu (0 : Int32)
    else
      j24
  else
    j24
set_option maxHeartbeats 4000000 in
theorem w_X10_isWord_28 {C : gz_C} {y : Int32} {M : gz_M} {a0 : Nat} {a1 : Nat} {j63 : Option (Int32)} (hC : gz_ok C cX10_isWord RX10 3) (hX : gz_cx C 4 85 0 0 (some .boolean) (some (.int y)) M "isWord") (hj63 : j63 = some y → gz_go C 0 0 M [] 63 []) : ∀ (n : Nat) (x5 : Int32), lp_X10_isWord_28 j63 M a0 a1 n x5 = some y → gz_go C 0 0 M [(0, .ref a0), (1, .ref (C.2.2.2.2.2.2.2 a1)), (2, .int x5)] 28 [] := by
  intro n
  induction n with
  | zero => intro x5 hF; exact nomatch (show (none : Option (Int32)) = some y from hF)
  | succ n28 ih28 =>
    intro x5 hF
    rw [lp_X10_isWord_28.eq_2] at hF
    refine gz_iload_n 28 hC 2 dX10_isWord_28 rfl rfl ?_
    refine gz_aload_n 29 hC 1 dX10_isWord_29 rfl rfl ?_
    refine gz_sl_row 30 hC hX q_1295 ⟨Nat.le_of_ble_eq_true rfl, Nat.le_of_ble_eq_true rfl⟩ (Nat.le_of_ble_eq_true rfl) dX10_isWord_30 gz_00 hF (fun x6 hF => ?_)
    refine gz_icmp_ge 33 63 hC dX10_isWord_33 (by decide) hF (fun hF => ?_) (fun hF => ?_)
    · skip
      refine gz_sub [] [] rfl ?_
      exact hj63 hF
    · skip
      refine gz_aload_n 36 hC 0 dX10_isWord_36 rfl rfl ?_
      refine gz_getR 37 hC fl_X10_37 fk_10_8 dX10_isWord_37 hF (fun x7 hF => ?_)
      refine gz_aload_n 40 hC 0 dX10_isWord_40 rfl rfl ?_
      refine gz_getI 41 hC fl_X10_142 fk_10_23 dX10_isWord_41 hF (fun x8 hF => ?_)
      refine gz_iload_n 44 hC 2 dX10_isWord_44 rfl rfl ?_
      refine gz_iadd 45 hC dX10_isWord_45 ?_
      refine gz_iald 46 hC dX10_isWord_46 hF (fun x9 hF => ?_)
      refine gz_aload_n 47 hC 1 dX10_isWord_47 rfl rfl ?_
      refine gz_iload_n 48 hC 2 dX10_isWord_48 rfl rfl ?_
      refine gz_sc_row 49 hC hX q_1296 ⟨Nat.le_of_ble_eq_true rfl, Nat.le_of_ble_eq_true rfl⟩ (Nat.le_of_ble_eq_true rfl) dX10_isWord_49 gz_00 hF (fun x10 hF => ?_)
      refine gz_icmp_eq 52 57 hC dX10_isWord_52 (by decide) hF (fun hF => ?_) (fun hF => ?_)
      · skip
        refine gz_iinc 57 hC (x5 + (1 : Int32)) 2 [(2, .int (x5 + (1 : Int32))), (0, .ref a0), (1, .ref (C.2.2.2.2.2.2.2 a1))] dX10_isWord_57 rfl rfl (by decide) rfl ?_
        refine gz_goto 60 28 hC dX10_isWord_60 (by decide) ?_
        refine gz_sub [1, 2, 0] [(0, .ref a0), (1, .ref (C.2.2.2.2.2.2.2 a1)), (2, .int (x5 + (1 : Int32)))] rfl ?_
        exact ih28 _ hF
      · skip
        refine gz_iconst 55 hC (0 : Int32) dX10_isWord_55 gz_k0 ?_
        exact gz_zretP 56 hC hX dX10_isWord_56 hF
set_option maxHeartbeats 4000000 in
theorem ct_X10_isWord (l : Launch) (G : gz_G) (fu : Nat) (M : gz_M) (a0 : Nat) (a1 : Nat) (y : Int32) (hF : f_X10_isWord fu M a0 a1 = some y) : gz_ct l yX10_isWord cX10_isWord 3 (some .boolean) 4 85 0 0 G [.ref a0, .ref (G.2.2.2.2 a1)] M (some (.int y)) M := by
  refine gz_ct.ofG (by decide) (Nat.le_of_ble_eq_true rfl) (fun C hG hC hX => ?_)
  subst hG
  unfold f_X10_isWord at hF
  obtain ⟨-, hF⟩ := gz_gd_some hF
  show gz_go C 0 0 M [(0, .ref a0), (1, .ref (C.2.2.2.2.2.2.2 a1))] 0 []
  refine gz_aload_n 0 hC 0 dX10_isWord_0 rfl rfl ?_
  refine gz_getI 1 hC fl_X10_149 fk_10_22 dX10_isWord_1 hF (fun x1 hF => ?_)
  refine gz_iconst 4 hC (1 : Int32) dX10_isWord_4 gz_k1 ?_
  refine gz_join (fun (j : Option (Int32)) => j = some y → gz_go C 0 0 M [] 24 []) hF (fun hF => ?_) (fun j24 hj24 hF => ?_)
  · skip
    refine gz_iconst 24 hC (0 : Int32) dX10_isWord_24 gz_k0 ?_
    exact gz_zretP 25 hC hX dX10_isWord_25 hF
  refine gz_icmp_ne 5 24 hC dX10_isWord_5 (by decide) hF (fun hF => ?_) (fun hF => ?_)
  · skip
    refine gz_sub [] [] rfl ?_
    exact hj24 hF
  · skip
    refine gz_aload_n 8 hC 0 dX10_isWord_8 rfl rfl ?_
    refine gz_getI 9 hC fl_X10_139 fk_10_21 dX10_isWord_9 hF (fun x2 hF => ?_)
    refine gz_aload_n 12 hC 0 dX10_isWord_12 rfl rfl ?_
    refine gz_getI 13 hC fl_X10_142 fk_10_23 dX10_isWord_13 hF (fun x3 hF => ?_)
    refine gz_isub 16 hC dX10_isWord_16 ?_
    refine gz_aload_n 17 hC 1 dX10_isWord_17 rfl rfl ?_
    refine gz_sl_row 18 hC hX q_1295 ⟨Nat.le_of_ble_eq_true rfl, Nat.le_of_ble_eq_true rfl⟩ (Nat.le_of_ble_eq_true rfl) dX10_isWord_18 gz_00 hF (fun x4 hF => ?_)
    refine gz_icmp_eq 21 26 hC dX10_isWord_21 (by decide) hF (fun hF => ?_) (fun hF => ?_)
    · skip
      refine gz_iconst 26 hC (0 : Int32) dX10_isWord_26 gz_k0 ?_
      refine gz_istore_n 27 hC [(2, .int (0 : Int32)), (0, .ref a0), (1, .ref (C.2.2.2.2.2.2.2 a1))] dX10_isWord_27 rfl (by decide) rfl ?_
      refine gz_sub [1, 2, 0] [(0, .ref a0), (1, .ref (C.2.2.2.2.2.2.2 a1)), (2, .int (0 : Int32))] rfl ?_
      refine w_X10_isWord_28 hC hX ?_ _ _ hF
      intro hF
      refine gz_iconst 63 hC (1 : Int32) dX10_isWord_63 gz_k1 ?_
      exact gz_zretP 64 hC hX dX10_isWord_64 hF
    · skip
      refine gz_sub [] [] rfl ?_
      exact hj24 hF

theorem dX10_number_0 : decode cX10_number 0 = .ok (.aload_n 0, 1) := by decide +kernel
theorem dX10_number_1 : decode cX10_number 1 = .ok (.getfield 149, 3) := by decide +kernel
theorem dX10_number_4 : decode cX10_number 4 = .ok (.iconst 2, 1) := by decide +kernel
theorem dX10_number_5 : decode cX10_number 5 = .ok (.if_icmp .ne 18, 3) := by decide +kernel
theorem dX10_number_8 : decode cX10_number 8 = .ok (.aload_n 0, 1) := by decide +kernel
theorem dX10_number_9 : decode cX10_number 9 = .ok (.getfield 145, 3) := by decide +kernel
theorem dX10_number_12 : decode cX10_number 12 = .ok (.iload_n 3, 1) := by decide +kernel
theorem dX10_number_13 : decode cX10_number 13 = .ok (.i2l, 1) := by decide +kernel
theorem dX10_number_14 : decode cX10_number 14 = .ok (.iload 4, 2) := by decide +kernel
theorem dX10_number_16 : decode cX10_number 16 = .ok (.i2l, 1) := by decide +kernel
theorem dX10_number_17 : decode cX10_number 17 = .ok (.invokestatic 73, 3) := by decide +kernel
theorem dX10_number_20 : decode cX10_number 20 = .ok (.ifCond .ne 8, 3) := by decide +kernel
theorem dX10_number_23 : decode cX10_number 23 = .ok (.aload_n 0, 1) := by decide +kernel
theorem dX10_number_24 : decode cX10_number 24 = .ok (.invokevirtual 177, 3) := by decide +kernel
theorem dX10_number_27 : decode cX10_number 27 = .ok (.ireturn, 1) := by decide +kernel
theorem dX10_number_28 : decode cX10_number 28 = .ok (.aload_n 1, 1) := by decide +kernel
theorem dX10_number_29 : decode cX10_number 29 = .ok (.iload_n 2, 1) := by decide +kernel
theorem dX10_number_30 : decode cX10_number 30 = .ok (.aload_n 0, 1) := by decide +kernel
theorem dX10_number_31 : decode cX10_number 31 = .ok (.getfield 145, 3) := by decide +kernel
theorem dX10_number_34 : decode cX10_number 34 = .ok (.l2i, 1) := by decide +kernel
theorem dX10_number_35 : decode cX10_number 35 = .ok (.iastore, 1) := by decide +kernel
theorem dX10_number_36 : decode cX10_number 36 = .ok (.aload_n 0, 1) := by decide +kernel
theorem dX10_number_37 : decode cX10_number 37 = .ok (.invokevirtual 181, 3) := by decide +kernel
theorem dX10_number_40 : decode cX10_number 40 = .ok (.iconst 1, 1) := by decide +kernel
theorem dX10_number_41 : decode cX10_number 41 = .ok (.ireturn, 1) := by decide +kernel

def f_X10_number (fu : Nat) (M : gz_M) (a0 : Nat) (a1 : Nat) (a2 : Int32) (a3 : Int32) (a4 : Int32) : Option (Int32 × gz_M) :=
  gz_gd M 10 a0 <|
  (gz_gI M 10 22 a0).bind fun x1 =>
  gz_jn (gz_b2 (f_X10_wrong fu M a0) fun x7 M8 =>
    gz_z x7 (some (x7, M8))) fun j23 =>
  if x1 = (2 : Int32) then
    (gz_gL M 10 24 a0).bind fun x2 =>
    (f_X10_in fu M x2 (a3).toInt64 (a4).toInt64).bind fun x3 =>
    if x3 = 0 then
      j23
    else
      (gz_gL M 10 24 a0).bind fun x4 =>
      (gz_tI M a1 a2 (x4).toInt32).bind fun M5 =>
      (f_X10_look fu M5 a0).bind fun M6 =>
      gz_z (1 : Int32) (some ((1 : Int32), M6))
  else
    j23

set_option maxHeartbeats 4000000 in
theorem ct_X10_number (l : Launch) (G : gz_G) (fu : Nat) (M : gz_M) (a0 : Nat) (a1 : Nat) (a2 : Int32) (a3 : Int32) (a4 : Int32) (y : Int32 × gz_M) (hF : f_X10_number fu M a0 a1 a2 a3 a4 = some y) : gz_ct l yX10_number cX10_number 5 (some .boolean) 2 40 0 0 G [.ref a0, .ref a1, .int a2, .int a3, .int a4] M (some (.int y.1)) y.2 := by
  refine gz_ct.of (by decide) (Nat.le_of_ble_eq_true rfl) (fun C hC hX => ?_)
  unfold f_X10_number at hF
  obtain ⟨-, hF⟩ := gz_gd_some hF
  show gz_go C 0 0 M [(0, .ref a0), (1, .ref a1), (2, .int a2), (3, .int a3), (4, .int a4)] 0 []
  refine gz_aload_n 0 hC 0 dX10_number_0 rfl rfl ?_
  refine gz_getI 1 hC fl_X10_149 fk_10_22 dX10_number_1 hF (fun x1 hF => ?_)
  refine gz_iconst 4 hC (2 : Int32) dX10_number_4 gz_k2 ?_
  refine gz_join (fun (j : Option (Int32 × gz_M)) => j = some y → gz_go C 0 0 M [(0, .ref a0)] 23 []) hF (fun hF => ?_) (fun j23 hj23 hF => ?_)
  · skip
    refine gz_aload_n 23 hC 0 dX10_number_23 rfl rfl ?_
    refine gz_cvM (st := []) 24 hC hX [] Value.int yl_X10_wrong yv_X10_wrong q_1305 ⟨Nat.le_of_ble_eq_true rfl, Nat.le_of_ble_eq_true rfl⟩ ⟨_, rfl⟩ (fun r h => ct_X10_wrong _ _ fu M a0 r h) rfl rfl (Nat.le_of_ble_eq_true rfl) dX10_number_24 gz_00 hF (fun x7 M8 hF => ?_)
    exact gz_zretM 27 hC hX dX10_number_27 hF
  refine gz_icmp_ne 5 23 hC dX10_number_5 (by decide) hF (fun hF => ?_) (fun hF => ?_)
  · skip
    refine gz_sub [0] [(0, .ref a0)] rfl ?_
    exact hj23 hF
  · skip
    refine gz_aload_n 8 hC 0 dX10_number_8 rfl rfl ?_
    refine gz_getL 9 hC fl_X10_145 fk_10_24 dX10_number_9 hF (fun x2 hF => ?_)
    refine gz_iload_n 12 hC 3 dX10_number_12 rfl rfl ?_
    refine gz_i2l 13 hC dX10_number_13 ?_
    refine gz_iload 14 hC 4 dX10_number_14 rfl ?_
    refine gz_i2l 16 hC dX10_number_16 ?_
    refine gz_csP (st := []) 17 hC hX [.long x2, .long (a3).toInt64, .long (a4).toInt64] Value.int yl_X10_in yv_X10_in q_1170 ⟨Nat.le_of_ble_eq_true rfl, Nat.le_of_ble_eq_true rfl⟩ (fun r h => ct_X10_in _ _ fu M x2 (a3).toInt64 (a4).toInt64 r h) rfl rfl (Nat.le_of_ble_eq_true rfl) dX10_number_17 gz_00 hF (fun x3 hF => ?_)
    refine gz_if_ne 20 28 hC dX10_number_20 (by decide) hF (fun hF => ?_) (fun hF => ?_)
    · skip
      refine gz_aload_n 28 hC 1 dX10_number_28 rfl rfl ?_
      refine gz_iload_n 29 hC 2 dX10_number_29 rfl rfl ?_
      refine gz_aload_n 30 hC 0 dX10_number_30 rfl rfl ?_
      refine gz_getL 31 hC fl_X10_145 fk_10_24 dX10_number_31 hF (fun x4 hF => ?_)
      refine gz_l2i 34 hC dX10_number_34 ?_
      refine gz_iast 35 hC dX10_number_35 hF (fun M5 hF => ?_)
      refine gz_aload_n 36 hC 0 dX10_number_36 rfl rfl ?_
      refine gz_cvV (st := []) 37 hC hX [] yl_X10_look yv_X10_look q_1273 ⟨Nat.le_of_ble_eq_true rfl, Nat.le_of_ble_eq_true rfl⟩ ⟨_, rfl⟩ (fun r h => ct_X10_look _ _ fu M5 a0 r h) rfl rfl (Nat.le_of_ble_eq_true rfl) dX10_number_37 gz_00 hF (fun M6 hF => ?_)
      refine gz_iconst 40 hC (1 : Int32) dX10_number_40 gz_k1 ?_
      exact gz_zretM 41 hC hX dX10_number_41 hF
    · skip
      refine gz_sub [0] [(0, .ref a0)] rfl ?_
      exact hj23 hF

theorem dX10_three_0 : decode cX10_three 0 = .ok (.aload_n 0, 1) := by decide +kernel
theorem dX10_three_1 : decode cX10_three 1 = .ok (.aload_n 1, 1) := by decide +kernel
theorem dX10_three_2 : decode cX10_three 2 = .ok (.iload_n 2, 1) := by decide +kernel
theorem dX10_three_3 : decode cX10_three 3 = .ok (.iconst 0, 1) := by decide +kernel
theorem dX10_three_4 : decode cX10_three 4 = .ok (.iload_n 3, 1) := by decide +kernel
theorem dX10_three_5 : decode cX10_three 5 = .ok (.invokevirtual 184, 3) := by decide +kernel
theorem dX10_three_8 : decode cX10_three 8 = .ok (.ifCond .eq 33, 3) := by decide +kernel
theorem dX10_three_11 : decode cX10_three 11 = .ok (.aload_n 0, 1) := by decide +kernel
theorem dX10_three_12 : decode cX10_three 12 = .ok (.aload_n 1, 1) := by decide +kernel
theorem dX10_three_13 : decode cX10_three 13 = .ok (.iload_n 2, 1) := by decide +kernel
theorem dX10_three_14 : decode cX10_three 14 = .ok (.iconst 1, 1) := by decide +kernel
theorem dX10_three_15 : decode cX10_three 15 = .ok (.iadd, 1) := by decide +kernel
theorem dX10_three_16 : decode cX10_three 16 = .ok (.iconst 0, 1) := by decide +kernel
theorem dX10_three_17 : decode cX10_three 17 = .ok (.iload_n 3, 1) := by decide +kernel
theorem dX10_three_18 : decode cX10_three 18 = .ok (.invokevirtual 184, 3) := by decide +kernel
theorem dX10_three_21 : decode cX10_three 21 = .ok (.ifCond .eq 20, 3) := by decide +kernel
theorem dX10_three_24 : decode cX10_three 24 = .ok (.aload_n 0, 1) := by decide +kernel
theorem dX10_three_25 : decode cX10_three 25 = .ok (.aload_n 1, 1) := by decide +kernel
theorem dX10_three_26 : decode cX10_three 26 = .ok (.iload_n 2, 1) := by decide +kernel
theorem dX10_three_27 : decode cX10_three 27 = .ok (.iconst 2, 1) := by decide +kernel
theorem dX10_three_28 : decode cX10_three 28 = .ok (.iadd, 1) := by decide +kernel
theorem dX10_three_29 : decode cX10_three 29 = .ok (.iconst 0, 1) := by decide +kernel
theorem dX10_three_30 : decode cX10_three 30 = .ok (.iload_n 3, 1) := by decide +kernel
theorem dX10_three_31 : decode cX10_three 31 = .ok (.invokevirtual 184, 3) := by decide +kernel
theorem dX10_three_34 : decode cX10_three 34 = .ok (.ifCond .eq 7, 3) := by decide +kernel
theorem dX10_three_37 : decode cX10_three 37 = .ok (.iconst 1, 1) := by decide +kernel
theorem dX10_three_38 : decode cX10_three 38 = .ok (.goto 4, 3) := by decide +kernel
theorem dX10_three_41 : decode cX10_three 41 = .ok (.iconst 0, 1) := by decide +kernel
theorem dX10_three_42 : decode cX10_three 42 = .ok (.ireturn, 1) := by decide +kernel

def f_X10_three (fu : Nat) (M : gz_M) (a0 : Nat) (a1 : Nat) (a2 : Int32) (a3 : Int32) : Option (Int32 × gz_M) :=
  gz_gd M 10 a0 <|
  gz_b2 (f_X10_number fu M a0 a1 a2 (0 : Int32) a3) fun x1 M2 =>
  gz_jn (fun (x8 : Int32) (M9 : gz_M) =>
  gz_z x8 (some (x8, M9))) fun j42 =>
  gz_jn (fun (M7 : gz_M) =>
  j42 (0 : Int32) M7) fun j41 =>
  if x1 = 0 then
    j41 M2
  else
    gz_b2 (f_X10_number fu M2 a0 a1 (a2 + (1 : Int32)) (0 : Int32) a3) fun x3 M4 =>
    if x3 = 0 then
      j41 M4
    else
      gz_b2 (f_X10_number fu M4 a0 a1 (a2 + (2 : Int32)) (0 : Int32) a3) fun x5 M6 =>
      if x5 = 0 then
        j41 M6
      else
        j42 (1 : Int32) M6

set_option maxHeartbeats 4000000 in
theorem ct_X10_three (l : Launch) (G : gz_G) (fu : Nat) (M : gz_M) (a0 : Nat) (a1 : Nat) (a2 : Int32) (a3 : Int32) (y : Int32 × gz_M) (hF : f_X10_three fu M a0 a1 a2 a3 = some y) : gz_ct l yX10_three cX10_three 4 (some .boolean) 3 64 0 0 G [.ref a0, .ref a1, .int a2, .int a3] M (some (.int y.1)) y.2 := by
  refine gz_ct.of (by decide) (Nat.le_of_ble_eq_true rfl) (fun C hC hX => ?_)
  unfold f_X10_three at hF
  obtain ⟨-, hF⟩ := gz_gd_some hF
  show gz_go C 0 0 M [(0, .ref a0), (1, .ref a1), (2, .int a2), (3, .int a3)] 0 []
  refine gz_aload_n 0 hC 0 dX10_three_0 rfl rfl ?_
  refine gz_aload_n 1 hC 1 dX10_three_1 rfl rfl ?_
  refine gz_iload_n 2 hC 2 dX10_three_2 rfl rfl ?_
  refine gz_iconst 3 hC (0 : Int32) dX10_three_3 gz_k0 ?_
  refine gz_iload_n 4 hC 3 dX10_three_4 rfl rfl ?_
  refine gz_cvM (st := []) 5 hC hX [.ref a1, .int a2, .int (0 : Int32), .int a3] Value.int yl_X10_number yv_X10_number q_1301 ⟨Nat.le_of_ble_eq_true rfl, Nat.le_of_ble_eq_true rfl⟩ ⟨_, rfl⟩ (fun r h => ct_X10_number _ _ fu M a0 a1 a2 (0 : Int32) a3 r h) rfl rfl (Nat.le_of_ble_eq_true rfl) dX10_three_5 gz_00 hF (fun x1 M2 hF => ?_)
  refine gz_join (fun (j : Int32 → gz_M → Option (Int32 × gz_M)) => ∀ (x8 : Int32) (M9 : gz_M), j x8 M9 = some y → gz_go C 0 0 M9 [] 42 [.int x8]) hF (fun x8 M9 hF => ?_) (fun j42 hj42 hF => ?_)
  · skip
    exact gz_zretM 42 hC hX dX10_three_42 hF
  refine gz_join (fun (j : gz_M → Option (Int32 × gz_M)) => ∀ (M7 : gz_M), j M7 = some y → gz_go C 0 0 M7 [] 41 []) hF (fun M7 hF => ?_) (fun j41 hj41 hF => ?_)
  · skip
    refine gz_iconst 41 hC (0 : Int32) dX10_three_41 gz_k0 ?_
    exact hj42 _ _ hF
  refine gz_if_eq 8 41 hC dX10_three_8 (by decide) hF (fun hF => ?_) (fun hF => ?_)
  · skip
    refine gz_sub [] [] rfl ?_
    exact hj41 _ hF
  · skip
    refine gz_aload_n 11 hC 0 dX10_three_11 rfl rfl ?_
    refine gz_aload_n 12 hC 1 dX10_three_12 rfl rfl ?_
    refine gz_iload_n 13 hC 2 dX10_three_13 rfl rfl ?_
    refine gz_iconst 14 hC (1 : Int32) dX10_three_14 gz_k1 ?_
    refine gz_iadd 15 hC dX10_three_15 ?_
    refine gz_iconst 16 hC (0 : Int32) dX10_three_16 gz_k0 ?_
    refine gz_iload_n 17 hC 3 dX10_three_17 rfl rfl ?_
    refine gz_cvM (st := []) 18 hC hX [.ref a1, .int (a2 + (1 : Int32)), .int (0 : Int32), .int a3] Value.int yl_X10_number yv_X10_number q_1301 ⟨Nat.le_of_ble_eq_true rfl, Nat.le_of_ble_eq_true rfl⟩ ⟨_, rfl⟩ (fun r h => ct_X10_number _ _ fu M2 a0 a1 (a2 + (1 : Int32)) (0 : Int32) a3 r h) rfl rfl (Nat.le_of_ble_eq_true rfl) dX10_three_18 gz_00 hF (fun x3 M4 hF => ?_)
    refine gz_if_eq 21 41 hC dX10_three_21 (by decide) hF (fun hF => ?_) (fun hF => ?_)
    · skip
      refine gz_sub [] [] rfl ?_
      exact hj41 _ hF
    · skip
      refine gz_aload_n 24 hC 0 dX10_three_24 rfl rfl ?_
      refine gz_aload_n 25 hC 1 dX10_three_25 rfl rfl ?_
      refine gz_iload_n 26 hC 2 dX10_three_26 rfl rfl ?_
      refine gz_iconst 27 hC (2 : Int32) dX10_three_27 gz_k2 ?_
      refine gz_iadd 28 hC dX10_three_28 ?_
      refine gz_iconst 29 hC (0 : Int32) dX10_three_29 gz_k0 ?_
      refine gz_iload_n 30 hC 3 dX10_three_30 rfl rfl ?_
      refine gz_cvM (st := []) 31 hC hX [.ref a1, .int (a2 + (2 : Int32)), .int (0 : Int32), .int a3] Value.int yl_X10_number yv_X10_number q_1301 ⟨Nat.le_of_ble_eq_true rfl, Nat.le_of_ble_eq_true rfl⟩ ⟨_, rfl⟩ (fun r h => ct_X10_number _ _ fu M4 a0 a1 (a2 + (2 : Int32)) (0 : Int32) a3 r h) rfl rfl (Nat.le_of_ble_eq_true rfl) dX10_three_31 gz_00 hF (fun x5 M6 hF => ?_)
      refine gz_if_eq 34 41 hC dX10_three_34 (by decide) hF (fun hF => ?_) (fun hF => ?_)
      · skip
        refine gz_sub [] [] rfl ?_
        exact hj41 _ hF
      · skip
        refine gz_iconst 37 hC (1 : Int32) dX10_three_37 gz_k1 ?_
        refine gz_goto 38 42 hC dX10_three_38 (by decide) ?_
        refine gz_sub [] [] rfl ?_
        exact hj42 _ _ hF
