theorem fl_9_359 : FL RX9 359 9 41 := ⟨by decide, by decide, tb 1063 (by decide +kernel) rfl⟩
theorem dX9_read_0 : decode cX9_read 0 = .ok (.iload_n 1, 1) := by decide +kernel
theorem dX9_read_1 : decode cX9_read 1 = .ok (.iload_n 2, 1) := by decide +kernel
theorem dX9_read_2 : decode cX9_read 2 = .ok (.invokestatic 356, 3) := by decide +kernel
theorem dX9_read_5 : decode cX9_read 5 = .ok (.ifCond .eq 16, 3) := by decide +kernel
theorem dX9_read_8 : decode cX9_read 8 = .ok (.iload 4, 2) := by decide +kernel
theorem dX9_read_10 : decode cX9_read 10 = .ok (.i2l, 1) := by decide +kernel
theorem dX9_read_11 : decode cX9_read 11 = .ok (.lconst 0, 1) := by decide +kernel
theorem dX9_read_12 : decode cX9_read 12 = .ok (.ldc2_w 180, 3) := by decide +kernel
theorem dX9_read_15 : decode cX9_read 15 = .ok (.invokestatic 114, 3) := by decide +kernel
theorem dX9_read_18 : decode cX9_read 18 = .ok (.ifCond .ne 5, 3) := by decide +kernel
theorem dX9_read_21 : decode cX9_read 21 = .ok (.iconst (-1), 1) := by decide +kernel
theorem dX9_read_22 : decode cX9_read 22 = .ok (.ireturn, 1) := by decide +kernel
theorem dX9_read_23 : decode cX9_read 23 = .ok (.iconst 0, 1) := by decide +kernel
theorem dX9_read_24 : decode cX9_read 24 = .ok (.istore 5, 2) := by decide +kernel
theorem dX9_read_26 : decode cX9_read 26 = .ok (.iconst 0, 1) := by decide +kernel
theorem dX9_read_27 : decode cX9_read 27 = .ok (.istore 6, 2) := by decide +kernel
theorem dX9_read_29 : decode cX9_read 29 = .ok (.iconst 0, 1) := by decide +kernel
theorem dX9_read_30 : decode cX9_read 30 = .ok (.istore 7, 2) := by decide +kernel
theorem dX9_read_32 : decode cX9_read 32 = .ok (.iload 7, 2) := by decide +kernel
theorem dX9_read_34 : decode cX9_read 34 = .ok (.iload 4, 2) := by decide +kernel
theorem dX9_read_36 : decode cX9_read 36 = .ok (.if_icmp .ge 200, 3) := by decide +kernel
theorem dX9_read_39 : decode cX9_read 39 = .ok (.iload 5, 2) := by decide +kernel
theorem dX9_read_41 : decode cX9_read 41 = .ok (.ifCond .ne 195, 3) := by decide +kernel
theorem dX9_read_44 : decode cX9_read 44 = .ok (.iconst 0, 1) := by decide +kernel
theorem dX9_read_45 : decode cX9_read 45 = .ok (.istore 8, 2) := by decide +kernel
theorem dX9_read_47 : decode cX9_read 47 = .ok (.iload 8, 2) := by decide +kernel
theorem dX9_read_49 : decode cX9_read 49 = .ok (.iconst 4, 1) := by decide +kernel
theorem dX9_read_50 : decode cX9_read 50 = .ok (.if_icmp .ge 84, 3) := by decide +kernel
theorem dX9_read_53 : decode cX9_read 53 = .ok (.iload 5, 2) := by decide +kernel
theorem dX9_read_55 : decode cX9_read 55 = .ok (.ifCond .ne 79, 3) := by decide +kernel
theorem dX9_read_58 : decode cX9_read 58 = .ok (.iload_n 3, 1) := by decide +kernel
theorem dX9_read_59 : decode cX9_read 59 = .ok (.i2l, 1) := by decide +kernel
theorem dX9_read_60 : decode cX9_read 60 = .ok (.iconst 4, 1) := by decide +kernel
theorem dX9_read_61 : decode cX9_read 61 = .ok (.iload 7, 2) := by decide +kernel
theorem dX9_read_63 : decode cX9_read 63 = .ok (.imul, 1) := by decide +kernel
theorem dX9_read_64 : decode cX9_read 64 = .ok (.i2l, 1) := by decide +kernel
theorem dX9_read_65 : decode cX9_read 65 = .ok (.ladd, 1) := by decide +kernel
theorem dX9_read_66 : decode cX9_read 66 = .ok (.iload 8, 2) := by decide +kernel
theorem dX9_read_68 : decode cX9_read 68 = .ok (.i2l, 1) := by decide +kernel
theorem dX9_read_69 : decode cX9_read 69 = .ok (.ladd, 1) := by decide +kernel
theorem dX9_read_70 : decode cX9_read 70 = .ok (.lstore 9, 2) := by decide +kernel
theorem dX9_read_72 : decode cX9_read 72 = .ok (.aload_n 0, 1) := by decide +kernel
theorem dX9_read_73 : decode cX9_read 73 = .ok (.getfield 65, 3) := by decide +kernel
theorem dX9_read_76 : decode cX9_read 76 = .ok (.iload_n 1, 1) := by decide +kernel
theorem dX9_read_77 : decode cX9_read 77 = .ok (.iaload, 1) := by decide +kernel
theorem dX9_read_78 : decode cX9_read 78 = .ok (.bipush (-4), 2) := by decide +kernel
theorem dX9_read_80 : decode cX9_read 80 = .ok (.if_icmp .ne 7, 3) := by decide +kernel
theorem dX9_read_83 : decode cX9_read 83 = .ok (.iconst 1, 1) := by decide +kernel
theorem dX9_read_84 : decode cX9_read 84 = .ok (.goto 42, 3) := by decide +kernel
theorem dX9_read_87 : decode cX9_read 87 = .ok (.aload_n 0, 1) := by decide +kernel
theorem dX9_read_88 : decode cX9_read 88 = .ok (.getfield 65, 3) := by decide +kernel
theorem dX9_read_91 : decode cX9_read 91 = .ok (.iload_n 1, 1) := by decide +kernel
theorem dX9_read_92 : decode cX9_read 92 = .ok (.iaload, 1) := by decide +kernel
theorem dX9_read_93 : decode cX9_read 93 = .ok (.iload_n 2, 1) := by decide +kernel
theorem dX9_read_94 : decode cX9_read 94 = .ok (.if_icmp .eq 7, 3) := by decide +kernel
theorem dX9_read_97 : decode cX9_read 97 = .ok (.iconst 3, 1) := by decide +kernel
theorem dX9_read_98 : decode cX9_read 98 = .ok (.goto 28, 3) := by decide +kernel
theorem dX9_read_101 : decode cX9_read 101 = .ok (.lload 9, 2) := by decide +kernel
theorem dX9_read_103 : decode cX9_read 103 = .ok (.lconst 0, 1) := by decide +kernel
theorem dX9_read_104 : decode cX9_read 104 = .ok (.lcmp, 1) := by decide +kernel
theorem dX9_read_105 : decode cX9_read 105 = .ok (.ifCond .lt 16, 3) := by decide +kernel
theorem dX9_read_108 : decode cX9_read 108 = .ok (.lload 9, 2) := by decide +kernel
theorem dX9_read_110 : decode cX9_read 110 = .ok (.aload_n 0, 1) := by decide +kernel
theorem dX9_read_111 : decode cX9_read 111 = .ok (.getfield 68, 3) := by decide +kernel
theorem dX9_read_114 : decode cX9_read 114 = .ok (.iload_n 1, 1) := by decide +kernel
theorem dX9_read_115 : decode cX9_read 115 = .ok (.iaload, 1) := by decide +kernel
theorem dX9_read_116 : decode cX9_read 116 = .ok (.i2l, 1) := by decide +kernel
theorem dX9_read_117 : decode cX9_read 117 = .ok (.lcmp, 1) := by decide +kernel
theorem dX9_read_118 : decode cX9_read 118 = .ok (.ifCond .lt 7, 3) := by decide +kernel
theorem dX9_read_121 : decode cX9_read 121 = .ok (.iconst 2, 1) := by decide +kernel
theorem dX9_read_122 : decode cX9_read 122 = .ok (.goto 4, 3) := by decide +kernel
theorem dX9_read_125 : decode cX9_read 125 = .ok (.iconst 0, 1) := by decide +kernel
theorem dX9_read_126 : decode cX9_read 126 = .ok (.istore 5, 2) := by decide +kernel
theorem dX9_read_128 : decode cX9_read 128 = .ok (.iinc 8 1, 3) := by decide +kernel
theorem dX9_read_131 : decode cX9_read 131 = .ok (.goto (-84), 3) := by decide +kernel
theorem dX9_read_134 : decode cX9_read 134 = .ok (.iload 5, 2) := by decide +kernel
theorem dX9_read_136 : decode cX9_read 136 = .ok (.ifCond .ne 94, 3) := by decide +kernel
theorem dX9_read_139 : decode cX9_read 139 = .ok (.bipush 40, 2) := by decide +kernel
theorem dX9_read_141 : decode cX9_read 141 = .ok (.iload_n 1, 1) := by decide +kernel
theorem dX9_read_142 : decode cX9_read 142 = .ok (.imul, 1) := by decide +kernel
theorem dX9_read_143 : decode cX9_read 143 = .ok (.iload_n 3, 1) := by decide +kernel
theorem dX9_read_144 : decode cX9_read 144 = .ok (.iadd, 1) := by decide +kernel
theorem dX9_read_145 : decode cX9_read 145 = .ok (.iconst 4, 1) := by decide +kernel
theorem dX9_read_146 : decode cX9_read 146 = .ok (.iload 7, 2) := by decide +kernel
theorem dX9_read_148 : decode cX9_read 148 = .ok (.imul, 1) := by decide +kernel
theorem dX9_read_149 : decode cX9_read 149 = .ok (.iadd, 1) := by decide +kernel
theorem dX9_read_150 : decode cX9_read 150 = .ok (.istore 8, 2) := by decide +kernel
theorem dX9_read_152 : decode cX9_read 152 = .ok (.aload_n 0, 1) := by decide +kernel
theorem dX9_read_153 : decode cX9_read 153 = .ok (.aload_n 0, 1) := by decide +kernel
theorem dX9_read_154 : decode cX9_read 154 = .ok (.getfield 7, 3) := by decide +kernel
theorem dX9_read_157 : decode cX9_read 157 = .ok (.bipush 71, 2) := by decide +kernel
theorem dX9_read_159 : decode cX9_read 159 = .ok (.iaload, 1) := by decide +kernel
theorem dX9_read_160 : decode cX9_read 160 = .ok (.i2l, 1) := by decide +kernel
theorem dX9_read_161 : decode cX9_read 161 = .ok (.aload_n 0, 1) := by decide +kernel
theorem dX9_read_162 : decode cX9_read 162 = .ok (.getfield 71, 3) := by decide +kernel
theorem dX9_read_165 : decode cX9_read 165 = .ok (.iload 8, 2) := by decide +kernel
theorem dX9_read_167 : decode cX9_read 167 = .ok (.iaload, 1) := by decide +kernel
theorem dX9_read_168 : decode cX9_read 168 = .ok (.i2l, 1) := by decide +kernel
theorem dX9_read_169 : decode cX9_read 169 = .ok (.ladd, 1) := by decide +kernel
theorem dX9_read_170 : decode cX9_read 170 = .ok (.aload_n 0, 1) := by decide +kernel
theorem dX9_read_171 : decode cX9_read 171 = .ok (.getfield 71, 3) := by decide +kernel
theorem dX9_read_174 : decode cX9_read 174 = .ok (.iload 8, 2) := by decide +kernel
theorem dX9_read_176 : decode cX9_read 176 = .ok (.iconst 1, 1) := by decide +kernel
theorem dX9_read_177 : decode cX9_read 177 = .ok (.iadd, 1) := by decide +kernel
theorem dX9_read_178 : decode cX9_read 178 = .ok (.iaload, 1) := by decide +kernel
theorem dX9_read_179 : decode cX9_read 179 = .ok (.aload_n 0, 1) := by decide +kernel
theorem dX9_read_180 : decode cX9_read 180 = .ok (.getfield 71, 3) := by decide +kernel
theorem dX9_read_183 : decode cX9_read 183 = .ok (.iload 8, 2) := by decide +kernel
theorem dX9_read_185 : decode cX9_read 185 = .ok (.iconst 2, 1) := by decide +kernel
theorem dX9_read_186 : decode cX9_read 186 = .ok (.iadd, 1) := by decide +kernel
theorem dX9_read_187 : decode cX9_read 187 = .ok (.iaload, 1) := by decide +kernel
theorem dX9_read_188 : decode cX9_read 188 = .ok (.aload_n 0, 1) := by decide +kernel
theorem dX9_read_189 : decode cX9_read 189 = .ok (.getfield 71, 3) := by decide +kernel
theorem dX9_read_192 : decode cX9_read 192 = .ok (.iload 8, 2) := by decide +kernel
theorem dX9_read_194 : decode cX9_read 194 = .ok (.iconst 3, 1) := by decide +kernel
theorem dX9_read_195 : decode cX9_read 195 = .ok (.iadd, 1) := by decide +kernel
theorem dX9_read_196 : decode cX9_read 196 = .ok (.iaload, 1) := by decide +kernel
theorem dX9_read_197 : decode cX9_read 197 = .ok (.invokevirtual 266, 3) := by decide +kernel
theorem dX9_read_200 : decode cX9_read 200 = .ok (.ifCond .ne 9, 3) := by decide +kernel
theorem dX9_read_203 : decode cX9_read 203 = .ok (.bipush (-20), 2) := by decide +kernel
theorem dX9_read_205 : decode cX9_read 205 = .ok (.iload 7, 2) := by decide +kernel
theorem dX9_read_207 : decode cX9_read 207 = .ok (.isub, 1) := by decide +kernel
theorem dX9_read_208 : decode cX9_read 208 = .ok (.ireturn, 1) := by decide +kernel
theorem dX9_read_209 : decode cX9_read 209 = .ok (.aload_n 0, 1) := by decide +kernel
theorem dX9_read_210 : decode cX9_read 210 = .ok (.getfield 7, 3) := by decide +kernel
theorem dX9_read_213 : decode cX9_read 213 = .ok (.bipush 76, 2) := by decide +kernel
theorem dX9_read_215 : decode cX9_read 215 = .ok (.iaload, 1) := by decide +kernel
theorem dX9_read_216 : decode cX9_read 216 = .ok (.iload 6, 2) := by decide +kernel
theorem dX9_read_218 : decode cX9_read 218 = .ok (.iadd, 1) := by decide +kernel
theorem dX9_read_219 : decode cX9_read 219 = .ok (.bipush 12, 2) := by decide +kernel
theorem dX9_read_221 : decode cX9_read 221 = .ok (.if_icmp .ne 6, 3) := by decide +kernel
theorem dX9_read_224 : decode cX9_read 224 = .ok (.bipush (-3), 2) := by decide +kernel
theorem dX9_read_226 : decode cX9_read 226 = .ok (.ireturn, 1) := by decide +kernel
theorem dX9_read_227 : decode cX9_read 227 = .ok (.iinc 6 1, 3) := by decide +kernel
theorem dX9_read_230 : decode cX9_read 230 = .ok (.iinc 7 1, 3) := by decide +kernel
theorem dX9_read_233 : decode cX9_read 233 = .ok (.goto (-201), 3) := by decide +kernel
theorem dX9_read_236 : decode cX9_read 236 = .ok (.aload_n 0, 1) := by decide +kernel
theorem dX9_read_237 : decode cX9_read 237 = .ok (.iload 5, 2) := by decide +kernel
theorem dX9_read_239 : decode cX9_read 239 = .ok (.putfield 359, 3) := by decide +kernel
theorem dX9_read_242 : decode cX9_read 242 = .ok (.iconst 0, 1) := by decide +kernel
theorem dX9_read_243 : decode cX9_read 243 = .ok (.istore 7, 2) := by decide +kernel
theorem dX9_read_245 : decode cX9_read 245 = .ok (.iload 7, 2) := by decide +kernel
theorem dX9_read_247 : decode cX9_read 247 = .ok (.iload 6, 2) := by decide +kernel
theorem dX9_read_249 : decode cX9_read 249 = .ok (.if_icmp .ge 69, 3) := by decide +kernel
theorem dX9_read_252 : decode cX9_read 252 = .ok (.bipush 40, 2) := by decide +kernel
theorem dX9_read_254 : decode cX9_read 254 = .ok (.iload_n 1, 1) := by decide +kernel
theorem dX9_read_255 : decode cX9_read 255 = .ok (.imul, 1) := by decide +kernel
theorem dX9_read_256 : decode cX9_read 256 = .ok (.iload_n 3, 1) := by decide +kernel
theorem dX9_read_257 : decode cX9_read 257 = .ok (.iadd, 1) := by decide +kernel
theorem dX9_read_258 : decode cX9_read 258 = .ok (.iconst 4, 1) := by decide +kernel
theorem dX9_read_259 : decode cX9_read 259 = .ok (.iload 7, 2) := by decide +kernel
theorem dX9_read_261 : decode cX9_read 261 = .ok (.imul, 1) := by decide +kernel
theorem dX9_read_262 : decode cX9_read 262 = .ok (.iadd, 1) := by decide +kernel
theorem dX9_read_263 : decode cX9_read 263 = .ok (.istore 8, 2) := by decide +kernel
theorem dX9_read_265 : decode cX9_read 265 = .ok (.aload_n 0, 1) := by decide +kernel
theorem dX9_read_266 : decode cX9_read 266 = .ok (.iconst 0, 1) := by decide +kernel
theorem dX9_read_267 : decode cX9_read 267 = .ok (.aload_n 0, 1) := by decide +kernel
theorem dX9_read_268 : decode cX9_read 268 = .ok (.getfield 7, 3) := by decide +kernel
theorem dX9_read_271 : decode cX9_read 271 = .ok (.bipush 71, 2) := by decide +kernel
theorem dX9_read_273 : decode cX9_read 273 = .ok (.iaload, 1) := by decide +kernel
theorem dX9_read_274 : decode cX9_read 274 = .ok (.aload_n 0, 1) := by decide +kernel
theorem dX9_read_275 : decode cX9_read 275 = .ok (.getfield 71, 3) := by decide +kernel
theorem dX9_read_278 : decode cX9_read 278 = .ok (.iload 8, 2) := by decide +kernel
theorem dX9_read_280 : decode cX9_read 280 = .ok (.iaload, 1) := by decide +kernel
theorem dX9_read_281 : decode cX9_read 281 = .ok (.iadd, 1) := by decide +kernel
theorem dX9_read_282 : decode cX9_read 282 = .ok (.aload_n 0, 1) := by decide +kernel
theorem dX9_read_283 : decode cX9_read 283 = .ok (.getfield 71, 3) := by decide +kernel
theorem dX9_read_286 : decode cX9_read 286 = .ok (.iload 8, 2) := by decide +kernel
theorem dX9_read_288 : decode cX9_read 288 = .ok (.iconst 1, 1) := by decide +kernel
theorem dX9_read_289 : decode cX9_read 289 = .ok (.iadd, 1) := by decide +kernel
theorem dX9_read_290 : decode cX9_read 290 = .ok (.iaload, 1) := by decide +kernel
theorem dX9_read_291 : decode cX9_read 291 = .ok (.aload_n 0, 1) := by decide +kernel
theorem dX9_read_292 : decode cX9_read 292 = .ok (.getfield 71, 3) := by decide +kernel
theorem dX9_read_295 : decode cX9_read 295 = .ok (.iload 8, 2) := by decide +kernel
theorem dX9_read_297 : decode cX9_read 297 = .ok (.iconst 2, 1) := by decide +kernel
theorem dX9_read_298 : decode cX9_read 298 = .ok (.iadd, 1) := by decide +kernel
theorem dX9_read_299 : decode cX9_read 299 = .ok (.iaload, 1) := by decide +kernel
theorem dX9_read_300 : decode cX9_read 300 = .ok (.aload_n 0, 1) := by decide +kernel
theorem dX9_read_301 : decode cX9_read 301 = .ok (.getfield 71, 3) := by decide +kernel
theorem dX9_read_304 : decode cX9_read 304 = .ok (.iload 8, 2) := by decide +kernel
theorem dX9_read_306 : decode cX9_read 306 = .ok (.iconst 3, 1) := by decide +kernel
theorem dX9_read_307 : decode cX9_read 307 = .ok (.iadd, 1) := by decide +kernel
theorem dX9_read_308 : decode cX9_read 308 = .ok (.iaload, 1) := by decide +kernel
theorem dX9_read_309 : decode cX9_read 309 = .ok (.invokevirtual 270, 3) := by decide +kernel
theorem dX9_read_312 : decode cX9_read 312 = .ok (.iinc 7 1, 3) := by decide +kernel
theorem dX9_read_315 : decode cX9_read 315 = .ok (.goto (-70), 3) := by decide +kernel
theorem dX9_read_318 : decode cX9_read 318 = .ok (.iload 6, 2) := by decide +kernel
theorem dX9_read_320 : decode cX9_read 320 = .ok (.ireturn, 1) := by decide +kernel
def b_X9_read_47 (m : Mm) (a1 : Int32) (a2 : Int32) (a3 : Int32) (t5 : Int32 × Int32 × Int32) (t9 : Int32 × Int32) : Option ((Int32 × Int32) ⊕ (Int32)) :=
  if (4 : Int32) ≤ t9.2 then (some (Sum.inr t9.1)) else (if t9.1 = 0 then (letv ((a3.toInt64 + (((4 : Int32) * t5.2.2).toInt64)) + t9.2.toInt64) fun x11 => (ald m 132 4 a1).bind fun x12 => (if x12 = ((-4) : Int32) then (some 1) else ((ald m 132 4 a1).bind fun x14 => if x14 = a2 then (if (lg_cmp x11 (0 : Int64)) < 0 then (some 2) else ((ald m 133 4 a1).bind fun x15 => if (lg_cmp x11 x15.toInt64) < 0 then (some 0) else (some 2))) else (some 3)) : Option (Int32)).bind fun y13 => some (Sum.inl (y13, t9.2 + 1))) else (some (Sum.inr t9.1)))
def b_X9_read_32 (F : Nat) (m : Mm) (a1 : Int32) (a2 : Int32) (a3 : Int32) (a4 : Int32) (t5 : Int32 × Int32 × Int32) : Option ((Int32 × Int32 × Int32) ⊕ ((Int32) ⊕ (Unit) ⊕ (Int32 × Int32))) :=
  if a4 ≤ t5.2.2 then (some (Sum.inr (Sum.inr (Sum.inr ((t5.1, t5.2.1)))))) else (if t5.1 = 0 then ((iter F (b_X9_read_47 m a1 a2 a3 t5) ((t5.1, 0) : Int32 × Int32)).bind (fun e10 : Int32 => if e10 = 0 then (letv ((((40 : Int32) * a1) + a3) + ((4 : Int32) * t5.2.2)) fun x16 => (ald m 114 512 71).bind fun x17 => (ald m 134 160 x16).bind fun x18 => (ald m 134 160 (x16 + (1 : Int32))).bind fun x19 => (ald m 134 160 (x16 + (2 : Int32))).bind fun x20 => (ald m 134 160 (x16 + (3 : Int32))).bind fun x21 => (f_X9_isOrder m (x17.toInt64 + x18.toInt64) x19 x20 x21).bind fun x22 => if x22 = 0 then (some (Sum.inr (Sum.inl t5.2.2))) else ((ald m 114 512 76).bind fun x24 => if (x24 + t5.2.1) = (12 : Int32) then (some (Sum.inr (Sum.inr (Sum.inl (()))))) else (some (Sum.inl (e10, t5.2.1 + 1, t5.2.2 + 1))))) else (some (Sum.inl (e10, t5.2.1, t5.2.2 + 1))))) else (some (Sum.inr (Sum.inr (Sum.inr ((t5.1, t5.2.1)))))))
def b_X9_read_245 (a1 : Int32) (a3 : Int32) (e8 : Int32 × Int32) (t26 : Int32 × Mm) : Option ((Int32 × Mm) ⊕ (Mm)) :=
  if e8.2 ≤ t26.1 then (some (Sum.inr t26.2)) else (letv ((((40 : Int32) * a1) + a3) + ((4 : Int32) * t26.1)) fun x28 => (ald t26.2 114 512 71).bind fun x29 => (ald t26.2 134 160 x28).bind fun x30 => (ald t26.2 134 160 (x28 + (1 : Int32))).bind fun x31 => (ald t26.2 134 160 (x28 + (2 : Int32))).bind fun x32 => (ald t26.2 134 160 (x28 + (3 : Int32))).bind fun x33 => (f_X9_tells t26.2 0 (x29 + x30) x31 x32 x33).bind fun m35 => some (Sum.inl (t26.1 + 1, m35)))
def f_X9_read (F : Nat) (m : Mm) (a1 : Int32) (a2 : Int32) (a3 : Int32) (a4 : Int32) : Option (Int32 × Mm) :=
  (f_X9_isSheet a1 a2).bind fun x1 => if x1 = 0 then (some ((-1), m)) else ((f_X9_in a4.toInt64 0 10).bind fun x3 => if x3 = 0 then (some ((-1), m)) else ((iter F (b_X9_read_32 F m a1 a2 a3 a4) ((0, 0, 0) : Int32 × Int32 × Int32)).bind (Sum.elim (fun e6 : Int32 => some (((-20) : Int32) - e6, m)) (Sum.elim (fun e7 : Unit => some ((-3), m)) (fun e8 : Int32 × Int32 => letv (up2 m 113 41 e8.1) fun m25 => (iter F (b_X9_read_245 a1 a3 e8) ((0, m25) : Int32 × Mm)).bind (fun e27 : Mm => some (e8.2, e27)))))))
set_option maxHeartbeats 4000000 in
set_option maxRecDepth 100000 in
theorem ct_X9_read (F : Nat) {n : Nat} (hn : 135 ≤ n) (P D : Nat) (T : Option Nat) (m : Mm) (a1 : Int32) (a2 : Int32) (a3 : Int32) (a4 : Int32) : Ct yX9_read cX9_read 11 (some .int) 3 71 [.ref 113, .int a1, .int a2, .int a3, .int a4] n n m (RF P D T) (rI (RF P D T) (f_X9_read F m a1 a2 a3 a4)) := by
  refine Ct.ofI (own := RX9) (nm := "read") [(0, .ref 113), (1, .int a1), (2, .int a2), (3, .int a3), (4, .int a4)] (by decide) (Nat.le_of_ble_eq_true rfl) rfl rfl rfl ?_
  unfold f_X9_read
  refine J_iload_n 1 1 a1 dX9_read_0 rfl rfl ?_
  refine J_iload_n 2 2 a2 dX9_read_1 rfl rfl ?_
  refine J_callSP 2 [.int a1, .int a2] dX9_read_2 mv_X9_isSheet mv_X9_isSheets lk_9_356 (ct_X9_isSheet F hn P D T m a1 a2) rfl ⟨by decide, by decide⟩ (Nat.le_of_ble_eq_true rfl) (fun x1 => ?_)
  refine J_if_eq 21 dX9_read_5 (by decide) ?_ ?_
  · refine J_iconst (-1) dX9_read_21 (by decide) ?_
    exact J_iretI dX9_read_22 rfl rfl
  · refine J_iload 4 4 a4 dX9_read_8 rfl ?_
    refine J_i2l dX9_read_10 ?_
    refine J_lconst 0 dX9_read_11 (by decide) ?_
    refine J_ldc2 10 dX9_read_12 kl_9_180 ?_
    refine J_callSP 3 [.long a4.toInt64, .long 0, .long 10] dX9_read_15 mv_X9_in mv_X9_ins lk_9_114 (ct_X9_in F hn P D T m a4.toInt64 0 10) rfl ⟨by decide, by decide⟩ (Nat.le_of_ble_eq_true rfl) (fun x3 => ?_)
    refine J_if_ne 23 dX9_read_18 (by decide) ?_ ?_
    · refine J_iconst 0 dX9_read_23 (by decide) ?_
      refine J_istore 5 [(5, .int 0), (0, .ref 113), (1, .int a1), (2, .int a2), (3, .int a3), (4, .int a4)] dX9_read_24 (by decide) rfl ?_
      refine J_iconst 0 dX9_read_26 (by decide) ?_
      refine J_istore 6 [(6, .int 0), (5, .int 0), (0, .ref 113), (1, .int a1), (2, .int a2), (3, .int a3), (4, .int a4)] dX9_read_27 (by decide) rfl ?_
      refine J_iconst 0 dX9_read_29 (by decide) ?_
      refine J_istore 7 [(7, .int 0), (6, .int 0), (5, .int 0), (0, .ref 113), (1, .int a1), (2, .int a2), (3, .int a3), (4, .int a4)] dX9_read_30 (by decide) rfl ?_
      refine J_lv [3, 4, 5, 6, 7, 2, 1, 0] rfl ?_
      refine J_loop (pc := 32) (fun t5 : Int32 × Int32 × Int32 => [(0, .ref 113), (1, .int a1), (2, .int a2), (3, .int a3), (4, .int a4), (5, .int t5.1), (6, .int t5.2.1), (7, .int t5.2.2)]) (fun t5 => m) (Sum.elim (fun _ => 203) (Sum.elim (fun _ => 224) (fun _ => 236))) (Sum.elim (fun e6 : Int32 => [(7, .int e6)]) (Sum.elim (fun e7 : Unit => []) (fun e8 : Int32 × Int32 => [(0, .ref 113), (1, .int a1), (3, .int a3), (5, .int e8.1), (6, .int e8.2)]))) (fun _ => []) (Sum.elim (fun e6 : Int32 => m) (Sum.elim (fun e7 : Unit => m) (fun e8 : Int32 × Int32 => m))) ?_ (fun t5 k1 hBt5 hXt5 => ?_) F ((0, 0, 0))
      · refine sum_all ?_ ?_
        · intro e6
          dsimp only [Sum.elim_inl, Sum.elim_inr]
          refine J_bipush (-20) dX9_read_203 (by decide) ?_
          refine J_iload 7 0 e6 dX9_read_205 rfl ?_
          refine J_isub dX9_read_207 ?_
          exact J_iretI dX9_read_208 rfl rfl
        · refine sum_all ?_ ?_
          · intro e7
            dsimp only [Sum.elim_inl, Sum.elim_inr]
            refine J_bipush (-3) dX9_read_224 (by decide) ?_
            exact J_iretI dX9_read_226 rfl rfl
          · intro e8
            dsimp only [Sum.elim_inl, Sum.elim_inr]
            refine J_aload_n 0 0 113 dX9_read_236 rfl rfl ?_
            refine J_iload 5 3 e8.1 dX9_read_237 rfl ?_
            refine J_putI 113 9 41 dX9_read_239 fl_9_359 rfl rfl (Nat.lt_of_lt_of_le (Nat.le_of_ble_eq_true rfl) hn) rfl rfl rfl (fun m25 => ?_)
            refine J_iconst 0 dX9_read_242 (by decide) ?_
            refine J_istore 7 [(7, .int 0), (0, .ref 113), (1, .int a1), (3, .int a3), (5, .int e8.1), (6, .int e8.2)] dX9_read_243 (by decide) rfl ?_
            refine J_lv [1, 2, 3, 5, 0] rfl ?_
            refine J_loop (pc := 245) (fun t26 : Int32 × Mm => [(0, .ref 113), (1, .int a1), (3, .int a3), (6, .int e8.2), (7, .int t26.1)]) (fun t26 => t26.2) (fun _ => 318) (fun e27 => [(6, .int e8.2)]) (fun _ => []) (fun e27 => e27) ?_ (fun t26 k1 hBt26 hXt26 => ?_) F ((0, m25))
            · refine fun e27 => ?_
              refine J_iload 6 0 e8.2 dX9_read_318 rfl ?_
              exact J_iretI dX9_read_320 rfl rfl
            · unfold b_X9_read_245
              refine J_iload 7 4 t26.1 dX9_read_245 rfl ?_
              refine J_iload 6 3 e8.2 dX9_read_247 rfl ?_
              refine J_icmp_ge 318 dX9_read_249 (by decide) ?_ ?_
              · exact J_lv [3] rfl (hXt26 t26.2)
              · refine J_bipush 40 dX9_read_252 (by decide) ?_
                refine J_iload_n 1 1 a1 dX9_read_254 rfl rfl ?_
                refine J_imul dX9_read_255 ?_
                refine J_iload_n 3 2 a3 dX9_read_256 rfl rfl ?_
                refine J_iadd dX9_read_257 ?_
                refine J_iconst 4 dX9_read_258 (by decide) ?_
                refine J_iload 7 4 t26.1 dX9_read_259 rfl ?_
                refine J_imul dX9_read_261 ?_
                refine J_iadd dX9_read_262 ?_
                refine J_let (fun x28 => ?_)
                refine J_istore 8 [(8, .int x28), (0, .ref 113), (1, .int a1), (3, .int a3), (6, .int e8.2), (7, .int t26.1)] dX9_read_263 (by decide) rfl ?_
                refine J_aload_n 0 1 113 dX9_read_265 rfl rfl ?_
                refine J_iconst 0 dX9_read_266 (by decide) ?_
                refine J_aload_n 0 1 113 dX9_read_267 rfl rfl ?_
                refine J_getR 113 9 0 114 dX9_read_268 fl_9_7 rfl rfl (Nat.lt_of_lt_of_le (Nat.le_of_ble_eq_true rfl) hn) rfl ?_
                refine J_bipush 71 dX9_read_271 (by decide) ?_
                refine J_iald 114 512 dX9_read_273 rfl (Nat.lt_of_lt_of_le (Nat.le_of_ble_eq_true rfl) hn) (fun x29 => ?_)
                refine J_aload_n 0 1 113 dX9_read_274 rfl rfl ?_
                refine J_getR 113 9 40 134 dX9_read_275 fl_9_71 rfl rfl (Nat.lt_of_lt_of_le (Nat.le_of_ble_eq_true rfl) hn) rfl ?_
                refine J_iload 8 0 x28 dX9_read_278 rfl ?_
                refine J_iald 134 160 dX9_read_280 rfl (Nat.lt_of_lt_of_le (Nat.le_of_ble_eq_true rfl) hn) (fun x30 => ?_)
                refine J_iadd dX9_read_281 ?_
                refine J_aload_n 0 1 113 dX9_read_282 rfl rfl ?_
                refine J_getR 113 9 40 134 dX9_read_283 fl_9_71 rfl rfl (Nat.lt_of_lt_of_le (Nat.le_of_ble_eq_true rfl) hn) rfl ?_
                refine J_iload 8 0 x28 dX9_read_286 rfl ?_
                refine J_iconst 1 dX9_read_288 (by decide) ?_
                refine J_iadd dX9_read_289 ?_
                refine J_iald 134 160 dX9_read_290 rfl (Nat.lt_of_lt_of_le (Nat.le_of_ble_eq_true rfl) hn) (fun x31 => ?_)
                refine J_aload_n 0 1 113 dX9_read_291 rfl rfl ?_
                refine J_getR 113 9 40 134 dX9_read_292 fl_9_71 rfl rfl (Nat.lt_of_lt_of_le (Nat.le_of_ble_eq_true rfl) hn) rfl ?_
                refine J_iload 8 0 x28 dX9_read_295 rfl ?_
                refine J_iconst 2 dX9_read_297 (by decide) ?_
                refine J_iadd dX9_read_298 ?_
                refine J_iald 134 160 dX9_read_299 rfl (Nat.lt_of_lt_of_le (Nat.le_of_ble_eq_true rfl) hn) (fun x32 => ?_)
                refine J_aload_n 0 1 113 dX9_read_300 rfl rfl ?_
                refine J_getR 113 9 40 134 dX9_read_301 fl_9_71 rfl rfl (Nat.lt_of_lt_of_le (Nat.le_of_ble_eq_true rfl) hn) rfl ?_
                refine J_iload 8 0 x28 dX9_read_304 rfl ?_
                refine J_iconst 3 dX9_read_306 (by decide) ?_
                refine J_iadd dX9_read_307 ?_
                refine J_iald 134 160 dX9_read_308 rfl (Nat.lt_of_lt_of_le (Nat.le_of_ble_eq_true rfl) hn) (fun x33 => ?_)
                refine J_callVV 113 9 5 [.int 0, .int (x29 + x30), .int x31, .int x32, .int x33] dX9_read_309 mv_X9_tells mv_X9_tellsv lk_9_270 (ct_X9_tells F hn P D T t26.2 0 (x29 + x30) x31 x32 x33) rfl rfl (by decide) rfl (Nat.lt_of_lt_of_le (Nat.le_of_ble_eq_true rfl) hn) ⟨by decide, by decide⟩ (Nat.le_of_ble_eq_true rfl) (fun m35 => ?_)
                refine J_iinc 7 5 [(7, .int (t26.1 + 1)), (8, .int x28), (0, .ref 113), (1, .int a1), (3, .int a3), (6, .int e8.2)] t26.1 (t26.1 + 1) dX9_read_312 rfl rfl (by decide) rfl ?_
                refine J_goto 245 dX9_read_315 (by decide) ?_
                exact J_lv [2, 3, 4, 5, 0] rfl (hBt26 (t26.1 + 1, m35))
      · unfold b_X9_read_32
        refine J_iload 7 7 t5.2.2 dX9_read_32 rfl ?_
        refine J_iload 4 4 a4 dX9_read_34 rfl ?_
        refine J_icmp_ge 236 dX9_read_36 (by decide) ?_ ?_
        · exact J_lv [0, 1, 3, 5, 6] rfl (hXt5 (Sum.inr (Sum.inr ((t5.1, t5.2.1)))))
        · refine J_iload 5 5 t5.1 dX9_read_39 rfl ?_
          refine J_if_ne 236 dX9_read_41 (by decide) ?_ ?_
          · exact J_lv [0, 1, 3, 5, 6] rfl (hXt5 (Sum.inr (Sum.inr ((t5.1, t5.2.1)))))
          · refine J_iconst 0 dX9_read_44 (by decide) ?_
            refine J_istore 8 [(8, .int 0), (0, .ref 113), (1, .int a1), (2, .int a2), (3, .int a3), (4, .int a4), (5, .int t5.1), (6, .int t5.2.1), (7, .int t5.2.2)] dX9_read_45 (by decide) rfl ?_
            refine J_lv [1, 2, 3, 4, 5, 6, 7, 8, 0] rfl ?_
            refine J_loop (pc := 47) (fun t9 : Int32 × Int32 => [(0, .ref 113), (1, .int a1), (2, .int a2), (3, .int a3), (4, .int a4), (5, .int t9.1), (6, .int t5.2.1), (7, .int t5.2.2), (8, .int t9.2)]) (fun t9 => m) (fun _ => 134) (fun e10 => [(0, .ref 113), (1, .int a1), (2, .int a2), (3, .int a3), (4, .int a4), (5, .int e10), (6, .int t5.2.1), (7, .int t5.2.2)]) (fun _ => []) (fun e10 => m) ?_ (fun t9 k1 hBt9 hXt9 => ?_) F ((t5.1, 0))
            · refine fun e10 => ?_
              refine J_iload 5 5 e10 dX9_read_134 rfl ?_
              refine J_if_ne 230 dX9_read_136 (by decide) ?_ ?_
              · refine J_iinc 7 7 [(7, .int (t5.2.2 + 1)), (0, .ref 113), (1, .int a1), (2, .int a2), (3, .int a3), (4, .int a4), (5, .int e10), (6, .int t5.2.1)] t5.2.2 (t5.2.2 + 1) dX9_read_230 rfl rfl (by decide) rfl ?_
                refine J_goto 32 dX9_read_233 (by decide) ?_
                exact J_lv [1, 2, 3, 4, 5, 6, 7, 0] rfl (hBt5 (e10, t5.2.1, t5.2.2 + 1))
              · refine J_bipush 40 dX9_read_139 (by decide) ?_
                refine J_iload_n 1 1 a1 dX9_read_141 rfl rfl ?_
                refine J_imul dX9_read_142 ?_
                refine J_iload_n 3 3 a3 dX9_read_143 rfl rfl ?_
                refine J_iadd dX9_read_144 ?_
                refine J_iconst 4 dX9_read_145 (by decide) ?_
                refine J_iload 7 7 t5.2.2 dX9_read_146 rfl ?_
                refine J_imul dX9_read_148 ?_
                refine J_iadd dX9_read_149 ?_
                refine J_let (fun x16 => ?_)
                refine J_istore 8 [(8, .int x16), (0, .ref 113), (1, .int a1), (2, .int a2), (3, .int a3), (4, .int a4), (5, .int e10), (6, .int t5.2.1), (7, .int t5.2.2)] dX9_read_150 (by decide) rfl ?_
                refine J_aload_n 0 1 113 dX9_read_152 rfl rfl ?_
                refine J_aload_n 0 1 113 dX9_read_153 rfl rfl ?_
                refine J_getR 113 9 0 114 dX9_read_154 fl_9_7 rfl rfl (Nat.lt_of_lt_of_le (Nat.le_of_ble_eq_true rfl) hn) rfl ?_
                refine J_bipush 71 dX9_read_157 (by decide) ?_
                refine J_iald 114 512 dX9_read_159 rfl (Nat.lt_of_lt_of_le (Nat.le_of_ble_eq_true rfl) hn) (fun x17 => ?_)
                refine J_i2l dX9_read_160 ?_
                refine J_aload_n 0 1 113 dX9_read_161 rfl rfl ?_
                refine J_getR 113 9 40 134 dX9_read_162 fl_9_71 rfl rfl (Nat.lt_of_lt_of_le (Nat.le_of_ble_eq_true rfl) hn) rfl ?_
                refine J_iload 8 0 x16 dX9_read_165 rfl ?_
                refine J_iald 134 160 dX9_read_167 rfl (Nat.lt_of_lt_of_le (Nat.le_of_ble_eq_true rfl) hn) (fun x18 => ?_)
                refine J_i2l dX9_read_168 ?_
                refine J_ladd dX9_read_169 ?_
                refine J_aload_n 0 1 113 dX9_read_170 rfl rfl ?_
                refine J_getR 113 9 40 134 dX9_read_171 fl_9_71 rfl rfl (Nat.lt_of_lt_of_le (Nat.le_of_ble_eq_true rfl) hn) rfl ?_
                refine J_iload 8 0 x16 dX9_read_174 rfl ?_
                refine J_iconst 1 dX9_read_176 (by decide) ?_
                refine J_iadd dX9_read_177 ?_
                refine J_iald 134 160 dX9_read_178 rfl (Nat.lt_of_lt_of_le (Nat.le_of_ble_eq_true rfl) hn) (fun x19 => ?_)
                refine J_aload_n 0 1 113 dX9_read_179 rfl rfl ?_
                refine J_getR 113 9 40 134 dX9_read_180 fl_9_71 rfl rfl (Nat.lt_of_lt_of_le (Nat.le_of_ble_eq_true rfl) hn) rfl ?_
                refine J_iload 8 0 x16 dX9_read_183 rfl ?_
                refine J_iconst 2 dX9_read_185 (by decide) ?_
                refine J_iadd dX9_read_186 ?_
                refine J_iald 134 160 dX9_read_187 rfl (Nat.lt_of_lt_of_le (Nat.le_of_ble_eq_true rfl) hn) (fun x20 => ?_)
                refine J_aload_n 0 1 113 dX9_read_188 rfl rfl ?_
                refine J_getR 113 9 40 134 dX9_read_189 fl_9_71 rfl rfl (Nat.lt_of_lt_of_le (Nat.le_of_ble_eq_true rfl) hn) rfl ?_
                refine J_iload 8 0 x16 dX9_read_192 rfl ?_
                refine J_iconst 3 dX9_read_194 (by decide) ?_
                refine J_iadd dX9_read_195 ?_
                refine J_iald 134 160 dX9_read_196 rfl (Nat.lt_of_lt_of_le (Nat.le_of_ble_eq_true rfl) hn) (fun x21 => ?_)
                refine J_callVP 113 9 4 [.long (x17.toInt64 + x18.toInt64), .int x19, .int x20, .int x21] dX9_read_197 mv_X9_isOrder mv_X9_isOrderv lk_9_266 (ct_X9_isOrder F hn P D T m (x17.toInt64 + x18.toInt64) x19 x20 x21) rfl rfl (by decide) rfl (Nat.lt_of_lt_of_le (Nat.le_of_ble_eq_true rfl) hn) ⟨by decide, by decide⟩ (Nat.le_of_ble_eq_true rfl) (fun x22 => ?_)
                refine J_if_ne 209 dX9_read_200 (by decide) ?_ ?_
                · refine J_aload_n 0 1 113 dX9_read_209 rfl rfl ?_
                  refine J_getR 113 9 0 114 dX9_read_210 fl_9_7 rfl rfl (Nat.lt_of_lt_of_le (Nat.le_of_ble_eq_true rfl) hn) rfl ?_
                  refine J_bipush 76 dX9_read_213 (by decide) ?_
                  refine J_iald 114 512 dX9_read_215 rfl (Nat.lt_of_lt_of_le (Nat.le_of_ble_eq_true rfl) hn) (fun x24 => ?_)
                  refine J_iload 6 7 t5.2.1 dX9_read_216 rfl ?_
                  refine J_iadd dX9_read_218 ?_
                  refine J_bipush 12 dX9_read_219 (by decide) ?_
                  refine J_icmp_ne 227 dX9_read_221 (by decide) ?_ ?_
                  · refine J_iinc 6 7 [(6, .int (t5.2.1 + 1)), (8, .int x16), (0, .ref 113), (1, .int a1), (2, .int a2), (3, .int a3), (4, .int a4), (5, .int e10), (7, .int t5.2.2)] t5.2.1 (t5.2.1 + 1) dX9_read_227 rfl rfl (by decide) rfl ?_
                    refine J_iinc 7 8 [(7, .int (t5.2.2 + 1)), (6, .int (t5.2.1 + 1)), (8, .int x16), (0, .ref 113), (1, .int a1), (2, .int a2), (3, .int a3), (4, .int a4), (5, .int e10)] t5.2.2 (t5.2.2 + 1) dX9_read_230 rfl rfl (by decide) rfl ?_
                    refine J_goto 32 dX9_read_233 (by decide) ?_
                    exact J_lv [3, 4, 5, 6, 7, 8, 1, 0] rfl (hBt5 (e10, t5.2.1 + 1, t5.2.2 + 1))
                  · exact J_lv [] rfl (hXt5 (Sum.inr (Sum.inl (()))))
                · exact J_lv [8] rfl (hXt5 (Sum.inl t5.2.2))
            · unfold b_X9_read_47
              refine J_iload 8 8 t9.2 dX9_read_47 rfl ?_
              refine J_iconst 4 dX9_read_49 (by decide) ?_
              refine J_icmp_ge 134 dX9_read_50 (by decide) ?_ ?_
              · exact J_lv [0, 1, 2, 3, 4, 5, 6, 7] rfl (hXt9 t9.1)
              · refine J_iload 5 5 t9.1 dX9_read_53 rfl ?_
                refine J_if_ne 134 dX9_read_55 (by decide) ?_ ?_
                · exact J_lv [0, 1, 2, 3, 4, 5, 6, 7] rfl (hXt9 t9.1)
                · refine J_iload_n 3 3 a3 dX9_read_58 rfl rfl ?_
                  refine J_i2l dX9_read_59 ?_
                  refine J_iconst 4 dX9_read_60 (by decide) ?_
                  refine J_iload 7 7 t5.2.2 dX9_read_61 rfl ?_
                  refine J_imul dX9_read_63 ?_
                  refine J_i2l dX9_read_64 ?_
                  refine J_ladd dX9_read_65 ?_
                  refine J_iload 8 8 t9.2 dX9_read_66 rfl ?_
                  refine J_i2l dX9_read_68 ?_
                  refine J_ladd dX9_read_69 ?_
                  refine J_letL (fun x11 => ?_)
                  refine J_lstore 9 [(9, .long x11), (0, .ref 113), (1, .int a1), (2, .int a2), (3, .int a3), (4, .int a4), (5, .int t9.1), (6, .int t5.2.1), (7, .int t5.2.2), (8, .int t9.2)] dX9_read_70 (by decide) rfl ?_
                  refine J_aload_n 0 1 113 dX9_read_72 rfl rfl ?_
                  refine J_getR 113 9 38 132 dX9_read_73 fl_9_65 rfl rfl (Nat.lt_of_lt_of_le (Nat.le_of_ble_eq_true rfl) hn) rfl ?_
                  refine J_iload_n 1 2 a1 dX9_read_76 rfl rfl ?_
                  refine J_iald 132 4 dX9_read_77 rfl (Nat.lt_of_lt_of_le (Nat.le_of_ble_eq_true rfl) hn) (fun x12 => ?_)
                  refine J_bipush (-4) dX9_read_78 (by decide) ?_
                  refine J_seqJ 126 (fun y13 : Int32 => [(0, .ref 113), (1, .int a1), (2, .int a2), (3, .int a3), (4, .int a4), (6, .int t5.2.1), (7, .int t5.2.2), (8, .int t9.2)]) (fun y13 => [.int y13]) (fun y13 => m) (fun y13 => ?_) (fun k1 hEy13 => ?_)
                  · refine J_istore 5 [(5, .int y13), (0, .ref 113), (1, .int a1), (2, .int a2), (3, .int a3), (4, .int a4), (6, .int t5.2.1), (7, .int t5.2.2), (8, .int t9.2)] dX9_read_126 (by decide) rfl ?_
                    refine J_iinc 8 8 [(8, .int (t9.2 + 1)), (5, .int y13), (0, .ref 113), (1, .int a1), (2, .int a2), (3, .int a3), (4, .int a4), (6, .int t5.2.1), (7, .int t5.2.2)] t9.2 (t9.2 + 1) dX9_read_128 rfl rfl (by decide) rfl ?_
                    refine J_goto 47 dX9_read_131 (by decide) ?_
                    exact J_lv [2, 3, 4, 5, 6, 1, 7, 8, 0] rfl (hBt9 (y13, t9.2 + 1))
                  · refine J_icmp_ne 87 dX9_read_80 (by decide) ?_ ?_
                    · refine J_aload_n 0 1 113 dX9_read_87 rfl rfl ?_
                      refine J_getR 113 9 38 132 dX9_read_88 fl_9_65 rfl rfl (Nat.lt_of_lt_of_le (Nat.le_of_ble_eq_true rfl) hn) rfl ?_
                      refine J_iload_n 1 2 a1 dX9_read_91 rfl rfl ?_
                      refine J_iald 132 4 dX9_read_92 rfl (Nat.lt_of_lt_of_le (Nat.le_of_ble_eq_true rfl) hn) (fun x14 => ?_)
                      refine J_iload_n 2 3 a2 dX9_read_93 rfl rfl ?_
                      refine J_icmp_eq 101 dX9_read_94 (by decide) ?_ ?_
                      · refine J_lload 9 0 x11 dX9_read_101 rfl ?_
                        refine J_lconst 0 dX9_read_103 (by decide) ?_
                        refine J_lcmp dX9_read_104 ?_
                        refine J_if_lt 121 dX9_read_105 (by decide) ?_ ?_
                        · refine J_iconst 2 dX9_read_121 (by decide) ?_
                          refine J_goto 126 dX9_read_122 (by decide) ?_
                          exact J_lv [1, 2, 3, 4, 5, 7, 8, 9] rfl (hEy13 2)
                        · refine J_lload 9 0 x11 dX9_read_108 rfl ?_
                          refine J_aload_n 0 1 113 dX9_read_110 rfl rfl ?_
                          refine J_getR 113 9 39 133 dX9_read_111 fl_9_68 rfl rfl (Nat.lt_of_lt_of_le (Nat.le_of_ble_eq_true rfl) hn) rfl ?_
                          refine J_iload_n 1 2 a1 dX9_read_114 rfl rfl ?_
                          refine J_iald 133 4 dX9_read_115 rfl (Nat.lt_of_lt_of_le (Nat.le_of_ble_eq_true rfl) hn) (fun x15 => ?_)
                          refine J_i2l dX9_read_116 ?_
                          refine J_lcmp dX9_read_117 ?_
                          refine J_if_lt 125 dX9_read_118 (by decide) ?_ ?_
                          · refine J_iconst 0 dX9_read_125 (by decide) ?_
                            exact J_lv [1, 2, 3, 4, 5, 7, 8, 9] rfl (hEy13 0)
                          · refine J_iconst 2 dX9_read_121 (by decide) ?_
                            refine J_goto 126 dX9_read_122 (by decide) ?_
                            exact J_lv [1, 2, 3, 4, 5, 7, 8, 9] rfl (hEy13 2)
                      · refine J_iconst 3 dX9_read_97 (by decide) ?_
                        refine J_goto 126 dX9_read_98 (by decide) ?_
                        exact J_lv [1, 2, 3, 4, 5, 7, 8, 9] rfl (hEy13 3)
                    · refine J_iconst 1 dX9_read_83 (by decide) ?_
                      refine J_goto 126 dX9_read_84 (by decide) ?_
                      exact J_lv [1, 2, 3, 4, 5, 7, 8, 9] rfl (hEy13 1)
    · refine J_iconst (-1) dX9_read_21 (by decide) ?_
      exact J_iretI dX9_read_22 rfl rfl
