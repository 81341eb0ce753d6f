-- ===== X12_sung =====
theorem dX12_sung_0 : decode cX12_sung 0 = .ok (.iload_n 1, 1) := by decide +kernel
theorem dX12_sung_1 : decode cX12_sung 1 = .ok (.iconst 0, 1) := by decide +kernel
theorem dX12_sung_2 : decode cX12_sung 2 = .ok (.aload_n 0, 1) := by decide +kernel
theorem dX12_sung_3 : decode cX12_sung 3 = .ok (.getfield 306, 3) := by decide +kernel
theorem dX12_sung_6 : decode cX12_sung 6 = .ok (.iconst 1, 1) := by decide +kernel
theorem dX12_sung_7 : decode cX12_sung 7 = .ok (.isub, 1) := by decide +kernel
theorem dX12_sung_8 : decode cX12_sung 8 = .ok (.invokestatic 215, 3) := by decide +kernel
theorem dX12_sung_11 : decode cX12_sung 11 = .ok (.ifCond .eq 32, 3) := by decide +kernel
theorem dX12_sung_14 : decode cX12_sung 14 = .ok (.iload_n 2, 1) := by decide +kernel
theorem dX12_sung_15 : decode cX12_sung 15 = .ok (.iconst 1, 1) := by decide +kernel
theorem dX12_sung_16 : decode cX12_sung 16 = .ok (.bipush 20, 2) := by decide +kernel
theorem dX12_sung_18 : decode cX12_sung 18 = .ok (.invokestatic 215, 3) := by decide +kernel
theorem dX12_sung_21 : decode cX12_sung 21 = .ok (.ifCond .eq 22, 3) := by decide +kernel
theorem dX12_sung_24 : decode cX12_sung 24 = .ok (.iload_n 3, 1) := by decide +kernel
theorem dX12_sung_25 : decode cX12_sung 25 = .ok (.iconst 0, 1) := by decide +kernel
theorem dX12_sung_26 : decode cX12_sung 26 = .ok (.iconst 2, 1) := by decide +kernel
theorem dX12_sung_27 : decode cX12_sung 27 = .ok (.invokestatic 215, 3) := by decide +kernel
theorem dX12_sung_30 : decode cX12_sung 30 = .ok (.ifCond .eq 13, 3) := by decide +kernel
theorem dX12_sung_33 : decode cX12_sung 33 = .ok (.iconst 2, 1) := by decide +kernel
theorem dX12_sung_34 : decode cX12_sung 34 = .ok (.iload_n 2, 1) := by decide +kernel
theorem dX12_sung_35 : decode cX12_sung 35 = .ok (.imul, 1) := by decide +kernel
theorem dX12_sung_36 : decode cX12_sung 36 = .ok (.aload_n 0, 1) := by decide +kernel
theorem dX12_sung_37 : decode cX12_sung 37 = .ok (.getfield 242, 3) := by decide +kernel
theorem dX12_sung_40 : decode cX12_sung 40 = .ok (.if_icmp .le 5, 3) := by decide +kernel
theorem dX12_sung_43 : decode cX12_sung 43 = .ok (.iconst (-1), 1) := by decide +kernel
theorem dX12_sung_44 : decode cX12_sung 44 = .ok (.ireturn, 1) := by decide +kernel
theorem dX12_sung_45 : decode cX12_sung 45 = .ok (.aload_n 0, 1) := by decide +kernel
theorem dX12_sung_46 : decode cX12_sung 46 = .ok (.iconst 0, 1) := by decide +kernel
theorem dX12_sung_47 : decode cX12_sung 47 = .ok (.putfield 242, 3) := by decide +kernel
theorem dX12_sung_50 : decode cX12_sung 50 = .ok (.aload_n 0, 1) := by decide +kernel
theorem dX12_sung_51 : decode cX12_sung 51 = .ok (.invokevirtual 426, 3) := by decide +kernel
theorem dX12_sung_54 : decode cX12_sung 54 = .ok (.aload_n 0, 1) := by decide +kernel
theorem dX12_sung_55 : decode cX12_sung 55 = .ok (.iload_n 1, 1) := by decide +kernel
theorem dX12_sung_56 : decode cX12_sung 56 = .ok (.invokevirtual 484, 3) := by decide +kernel
theorem dX12_sung_59 : decode cX12_sung 59 = .ok (.istore 4, 2) := by decide +kernel
theorem dX12_sung_61 : decode cX12_sung 61 = .ok (.aload_n 0, 1) := by decide +kernel
theorem dX12_sung_62 : decode cX12_sung 62 = .ok (.iload_n 1, 1) := by decide +kernel
theorem dX12_sung_63 : decode cX12_sung 63 = .ok (.invokevirtual 487, 3) := by decide +kernel
theorem dX12_sung_66 : decode cX12_sung 66 = .ok (.istore 5, 2) := by decide +kernel
theorem dX12_sung_68 : decode cX12_sung 68 = .ok (.iconst 0, 1) := by decide +kernel
theorem dX12_sung_69 : decode cX12_sung 69 = .ok (.istore 6, 2) := by decide +kernel
theorem dX12_sung_71 : decode cX12_sung 71 = .ok (.iload 6, 2) := by decide +kernel
theorem dX12_sung_73 : decode cX12_sung 73 = .ok (.iload_n 2, 1) := by decide +kernel
theorem dX12_sung_74 : decode cX12_sung 74 = .ok (.if_icmp .ge 181, 3) := by decide +kernel
theorem dX12_sung_77 : decode cX12_sung 77 = .ok (.aload_n 0, 1) := by decide +kernel
theorem dX12_sung_78 : decode cX12_sung 78 = .ok (.getfield 38, 3) := by decide +kernel
theorem dX12_sung_81 : decode cX12_sung 81 = .ok (.iconst 2, 1) := by decide +kernel
theorem dX12_sung_82 : decode cX12_sung 82 = .ok (.iload 6, 2) := by decide +kernel
theorem dX12_sung_84 : decode cX12_sung 84 = .ok (.imul, 1) := by decide +kernel
theorem dX12_sung_85 : decode cX12_sung 85 = .ok (.baload, 1) := by decide +kernel
theorem dX12_sung_86 : decode cX12_sung 86 = .ok (.sipush 255, 3) := by decide +kernel
theorem dX12_sung_89 : decode cX12_sung 89 = .ok (.iand, 1) := by decide +kernel
theorem dX12_sung_90 : decode cX12_sung 90 = .ok (.istore 7, 2) := by decide +kernel
theorem dX12_sung_92 : decode cX12_sung 92 = .ok (.iload 7, 2) := by decide +kernel
theorem dX12_sung_94 : decode cX12_sung 94 = .ok (.bipush 96, 2) := by decide +kernel
theorem dX12_sung_96 : decode cX12_sung 96 = .ok (.if_icmp .lt 6, 3) := by decide +kernel
theorem dX12_sung_99 : decode cX12_sung 99 = .ok (.bipush (-2), 2) := by decide +kernel
theorem dX12_sung_101 : decode cX12_sung 101 = .ok (.ireturn, 1) := by decide +kernel
theorem dX12_sung_102 : decode cX12_sung 102 = .ok (.aload_n 0, 1) := by decide +kernel
theorem dX12_sung_103 : decode cX12_sung 103 = .ok (.getfield 153, 3) := by decide +kernel
theorem dX12_sung_106 : decode cX12_sung 106 = .ok (.iload 6, 2) := by decide +kernel
theorem dX12_sung_108 : decode cX12_sung 108 = .ok (.aload_n 0, 1) := by decide +kernel
theorem dX12_sung_109 : decode cX12_sung 109 = .ok (.getfield 38, 3) := by decide +kernel
theorem dX12_sung_112 : decode cX12_sung 112 = .ok (.iconst 2, 1) := by decide +kernel
theorem dX12_sung_113 : decode cX12_sung 113 = .ok (.iload 6, 2) := by decide +kernel
theorem dX12_sung_115 : decode cX12_sung 115 = .ok (.imul, 1) := by decide +kernel
theorem dX12_sung_116 : decode cX12_sung 116 = .ok (.iconst 1, 1) := by decide +kernel
theorem dX12_sung_117 : decode cX12_sung 117 = .ok (.iadd, 1) := by decide +kernel
theorem dX12_sung_118 : decode cX12_sung 118 = .ok (.baload, 1) := by decide +kernel
theorem dX12_sung_119 : decode cX12_sung 119 = .ok (.sipush 255, 3) := by decide +kernel
theorem dX12_sung_122 : decode cX12_sung 122 = .ok (.iand, 1) := by decide +kernel
theorem dX12_sung_123 : decode cX12_sung 123 = .ok (.iastore, 1) := by decide +kernel
theorem dX12_sung_124 : decode cX12_sung 124 = .ok (.aload_n 0, 1) := by decide +kernel
theorem dX12_sung_125 : decode cX12_sung 125 = .ok (.getfield 156, 3) := by decide +kernel
theorem dX12_sung_128 : decode cX12_sung 128 = .ok (.iload 6, 2) := by decide +kernel
theorem dX12_sung_130 : decode cX12_sung 130 = .ok (.aload_n 0, 1) := by decide +kernel
theorem dX12_sung_131 : decode cX12_sung 131 = .ok (.getfield 13, 3) := by decide +kernel
theorem dX12_sung_134 : decode cX12_sung 134 = .ok (.iload 7, 2) := by decide +kernel
theorem dX12_sung_136 : decode cX12_sung 136 = .ok (.iaload, 1) := by decide +kernel
theorem dX12_sung_137 : decode cX12_sung 137 = .ok (.iastore, 1) := by decide +kernel
theorem dX12_sung_138 : decode cX12_sung 138 = .ok (.iconst 0, 1) := by decide +kernel
theorem dX12_sung_139 : decode cX12_sung 139 = .ok (.istore 8, 2) := by decide +kernel
theorem dX12_sung_141 : decode cX12_sung 141 = .ok (.iload 8, 2) := by decide +kernel
theorem dX12_sung_143 : decode cX12_sung 143 = .ok (.iload 5, 2) := by decide +kernel
theorem dX12_sung_145 : decode cX12_sung 145 = .ok (.if_icmp .ge 23, 3) := by decide +kernel
theorem dX12_sung_148 : decode cX12_sung 148 = .ok (.aload_n 0, 1) := by decide +kernel
theorem dX12_sung_149 : decode cX12_sung 149 = .ok (.getfield 150, 3) := by decide +kernel
theorem dX12_sung_152 : decode cX12_sung 152 = .ok (.bipush 12, 2) := by decide +kernel
theorem dX12_sung_154 : decode cX12_sung 154 = .ok (.iload 6, 2) := by decide +kernel
theorem dX12_sung_156 : decode cX12_sung 156 = .ok (.imul, 1) := by decide +kernel
theorem dX12_sung_157 : decode cX12_sung 157 = .ok (.iload 8, 2) := by decide +kernel
theorem dX12_sung_159 : decode cX12_sung 159 = .ok (.iadd, 1) := by decide +kernel
theorem dX12_sung_160 : decode cX12_sung 160 = .ok (.iconst 0, 1) := by decide +kernel
theorem dX12_sung_161 : decode cX12_sung 161 = .ok (.iastore, 1) := by decide +kernel
theorem dX12_sung_162 : decode cX12_sung 162 = .ok (.iinc 8 1, 3) := by decide +kernel
theorem dX12_sung_165 : decode cX12_sung 165 = .ok (.goto (-24), 3) := by decide +kernel
theorem dX12_sung_168 : decode cX12_sung 168 = .ok (.iconst 0, 1) := by decide +kernel
theorem dX12_sung_169 : decode cX12_sung 169 = .ok (.istore 8, 2) := by decide +kernel
theorem dX12_sung_171 : decode cX12_sung 171 = .ok (.iload 8, 2) := by decide +kernel
theorem dX12_sung_173 : decode cX12_sung 173 = .ok (.aload_n 0, 1) := by decide +kernel
theorem dX12_sung_174 : decode cX12_sung 174 = .ok (.getfield 300, 3) := by decide +kernel
theorem dX12_sung_177 : decode cX12_sung 177 = .ok (.if_icmp .ge 72, 3) := by decide +kernel
theorem dX12_sung_180 : decode cX12_sung 180 = .ok (.aload_n 0, 1) := by decide +kernel
theorem dX12_sung_181 : decode cX12_sung 181 = .ok (.getfield 54, 3) := by decide +kernel
theorem dX12_sung_184 : decode cX12_sung 184 = .ok (.iload 8, 2) := by decide +kernel
theorem dX12_sung_186 : decode cX12_sung 186 = .ok (.iaload, 1) := by decide +kernel
theorem dX12_sung_187 : decode cX12_sung 187 = .ok (.iload_n 1, 1) := by decide +kernel
theorem dX12_sung_188 : decode cX12_sung 188 = .ok (.if_icmp .ne 55, 3) := by decide +kernel
theorem dX12_sung_191 : decode cX12_sung 191 = .ok (.aload_n 0, 1) := by decide +kernel
theorem dX12_sung_192 : decode cX12_sung 192 = .ok (.getfield 150, 3) := by decide +kernel
theorem dX12_sung_195 : decode cX12_sung 195 = .ok (.bipush 12, 2) := by decide +kernel
theorem dX12_sung_197 : decode cX12_sung 197 = .ok (.iload 6, 2) := by decide +kernel
theorem dX12_sung_199 : decode cX12_sung 199 = .ok (.imul, 1) := by decide +kernel
theorem dX12_sung_200 : decode cX12_sung 200 = .ok (.aload_n 0, 1) := by decide +kernel
theorem dX12_sung_201 : decode cX12_sung 201 = .ok (.getfield 51, 3) := by decide +kernel
theorem dX12_sung_204 : decode cX12_sung 204 = .ok (.iload 8, 2) := by decide +kernel
theorem dX12_sung_206 : decode cX12_sung 206 = .ok (.iaload, 1) := by decide +kernel
theorem dX12_sung_207 : decode cX12_sung 207 = .ok (.iadd, 1) := by decide +kernel
theorem dX12_sung_208 : decode cX12_sung 208 = .ok (.iload 4, 2) := by decide +kernel
theorem dX12_sung_210 : decode cX12_sung 210 = .ok (.isub, 1) := by decide +kernel
theorem dX12_sung_211 : decode cX12_sung 211 = .ok (.aload_n 0, 1) := by decide +kernel
theorem dX12_sung_212 : decode cX12_sung 212 = .ok (.getfield 150, 3) := by decide +kernel
theorem dX12_sung_215 : decode cX12_sung 215 = .ok (.bipush 12, 2) := by decide +kernel
theorem dX12_sung_217 : decode cX12_sung 217 = .ok (.iload 6, 2) := by decide +kernel
theorem dX12_sung_219 : decode cX12_sung 219 = .ok (.imul, 1) := by decide +kernel
theorem dX12_sung_220 : decode cX12_sung 220 = .ok (.aload_n 0, 1) := by decide +kernel
theorem dX12_sung_221 : decode cX12_sung 221 = .ok (.getfield 51, 3) := by decide +kernel
theorem dX12_sung_224 : decode cX12_sung 224 = .ok (.iload 8, 2) := by decide +kernel
theorem dX12_sung_226 : decode cX12_sung 226 = .ok (.iaload, 1) := by decide +kernel
theorem dX12_sung_227 : decode cX12_sung 227 = .ok (.iadd, 1) := by decide +kernel
theorem dX12_sung_228 : decode cX12_sung 228 = .ok (.iload 4, 2) := by decide +kernel
theorem dX12_sung_230 : decode cX12_sung 230 = .ok (.isub, 1) := by decide +kernel
theorem dX12_sung_231 : decode cX12_sung 231 = .ok (.iaload, 1) := by decide +kernel
theorem dX12_sung_232 : decode cX12_sung 232 = .ok (.aload_n 0, 1) := by decide +kernel
theorem dX12_sung_233 : decode cX12_sung 233 = .ok (.iload 8, 2) := by decide +kernel
theorem dX12_sung_235 : decode cX12_sung 235 = .ok (.iload_n 1, 1) := by decide +kernel
theorem dX12_sung_236 : decode cX12_sung 236 = .ok (.iload 7, 2) := by decide +kernel
theorem dX12_sung_238 : decode cX12_sung 238 = .ok (.invokevirtual 414, 3) := by decide +kernel
theorem dX12_sung_241 : decode cX12_sung 241 = .ok (.iadd, 1) := by decide +kernel
theorem dX12_sung_242 : decode cX12_sung 242 = .ok (.iastore, 1) := by decide +kernel
theorem dX12_sung_243 : decode cX12_sung 243 = .ok (.iinc 8 1, 3) := by decide +kernel
theorem dX12_sung_246 : decode cX12_sung 246 = .ok (.goto (-75), 3) := by decide +kernel
theorem dX12_sung_249 : decode cX12_sung 249 = .ok (.iinc 6 1, 3) := by decide +kernel
theorem dX12_sung_252 : decode cX12_sung 252 = .ok (.goto (-181), 3) := by decide +kernel
theorem dX12_sung_255 : decode cX12_sung 255 = .ok (.iconst 0, 1) := by decide +kernel
theorem dX12_sung_256 : decode cX12_sung 256 = .ok (.istore 6, 2) := by decide +kernel
theorem dX12_sung_258 : decode cX12_sung 258 = .ok (.bipush (-2), 2) := by decide +kernel
theorem dX12_sung_260 : decode cX12_sung 260 = .ok (.istore 7, 2) := by decide +kernel
theorem dX12_sung_262 : decode cX12_sung 262 = .ok (.sipush 4095, 3) := by decide +kernel
theorem dX12_sung_265 : decode cX12_sung 265 = .ok (.istore 8, 2) := by decide +kernel
theorem dX12_sung_267 : decode cX12_sung 267 = .ok (.iconst 0, 1) := by decide +kernel
theorem dX12_sung_268 : decode cX12_sung 268 = .ok (.istore 9, 2) := by decide +kernel
theorem dX12_sung_270 : decode cX12_sung 270 = .ok (.iload 9, 2) := by decide +kernel
theorem dX12_sung_272 : decode cX12_sung 272 = .ok (.iconst 1, 1) := by decide +kernel
theorem dX12_sung_273 : decode cX12_sung 273 = .ok (.iload 5, 2) := by decide +kernel
theorem dX12_sung_275 : decode cX12_sung 275 = .ok (.ishl, 1) := by decide +kernel
theorem dX12_sung_276 : decode cX12_sung 276 = .ok (.if_icmp .ge 51, 3) := by decide +kernel
theorem dX12_sung_279 : decode cX12_sung 279 = .ok (.aload_n 0, 1) := by decide +kernel
theorem dX12_sung_280 : decode cX12_sung 280 = .ok (.iload 9, 2) := by decide +kernel
theorem dX12_sung_282 : decode cX12_sung 282 = .ok (.iload 5, 2) := by decide +kernel
theorem dX12_sung_284 : decode cX12_sung 284 = .ok (.iload_n 2, 1) := by decide +kernel
theorem dX12_sung_285 : decode cX12_sung 285 = .ok (.invokevirtual 490, 3) := by decide +kernel
theorem dX12_sung_288 : decode cX12_sung 288 = .ok (.ifCond .ne 6, 3) := by decide +kernel
theorem dX12_sung_291 : decode cX12_sung 291 = .ok (.goto 30, 3) := by decide +kernel
theorem dX12_sung_294 : decode cX12_sung 294 = .ok (.iload 6, 2) := by decide +kernel
theorem dX12_sung_296 : decode cX12_sung 296 = .ok (.ifCond .ne 8, 3) := by decide +kernel
theorem dX12_sung_299 : decode cX12_sung 299 = .ok (.iload 9, 2) := by decide +kernel
theorem dX12_sung_301 : decode cX12_sung 301 = .ok (.goto 5, 3) := by decide +kernel
theorem dX12_sung_304 : decode cX12_sung 304 = .ok (.iload 7, 2) := by decide +kernel
theorem dX12_sung_306 : decode cX12_sung 306 = .ok (.istore 7, 2) := by decide +kernel
theorem dX12_sung_308 : decode cX12_sung 308 = .ok (.iload 8, 2) := by decide +kernel
theorem dX12_sung_310 : decode cX12_sung 310 = .ok (.iload 9, 2) := by decide +kernel
theorem dX12_sung_312 : decode cX12_sung 312 = .ok (.iand, 1) := by decide +kernel
theorem dX12_sung_313 : decode cX12_sung 313 = .ok (.istore 8, 2) := by decide +kernel
theorem dX12_sung_315 : decode cX12_sung 315 = .ok (.iload 6, 2) := by decide +kernel
theorem dX12_sung_317 : decode cX12_sung 317 = .ok (.iconst 1, 1) := by decide +kernel
theorem dX12_sung_318 : decode cX12_sung 318 = .ok (.iadd, 1) := by decide +kernel
theorem dX12_sung_319 : decode cX12_sung 319 = .ok (.istore 6, 2) := by decide +kernel
theorem dX12_sung_321 : decode cX12_sung 321 = .ok (.iinc 9 1, 3) := by decide +kernel
theorem dX12_sung_324 : decode cX12_sung 324 = .ok (.goto (-54), 3) := by decide +kernel
theorem dX12_sung_327 : decode cX12_sung 327 = .ok (.iload_n 3, 1) := by decide +kernel
theorem dX12_sung_328 : decode cX12_sung 328 = .ok (.ifCond .ne 8, 3) := by decide +kernel
theorem dX12_sung_331 : decode cX12_sung 331 = .ok (.iload 6, 2) := by decide +kernel
theorem dX12_sung_333 : decode cX12_sung 333 = .ok (.goto 25, 3) := by decide +kernel
theorem dX12_sung_336 : decode cX12_sung 336 = .ok (.iload 6, 2) := by decide +kernel
theorem dX12_sung_338 : decode cX12_sung 338 = .ok (.ifCond .ne 8, 3) := by decide +kernel
theorem dX12_sung_341 : decode cX12_sung 341 = .ok (.bipush (-2), 2) := by decide +kernel
theorem dX12_sung_343 : decode cX12_sung 343 = .ok (.goto 15, 3) := by decide +kernel
theorem dX12_sung_346 : decode cX12_sung 346 = .ok (.iload_n 3, 1) := by decide +kernel
theorem dX12_sung_347 : decode cX12_sung 347 = .ok (.iconst 1, 1) := by decide +kernel
theorem dX12_sung_348 : decode cX12_sung 348 = .ok (.if_icmp .ne 8, 3) := by decide +kernel
theorem dX12_sung_351 : decode cX12_sung 351 = .ok (.iload 7, 2) := by decide +kernel
theorem dX12_sung_353 : decode cX12_sung 353 = .ok (.goto 5, 3) := by decide +kernel
theorem dX12_sung_356 : decode cX12_sung 356 = .ok (.iload 8, 2) := by decide +kernel
theorem dX12_sung_358 : decode cX12_sung 358 = .ok (.ireturn, 1) := by decide +kernel
def ok_X12_sung_71 (K : ro_K) (v1 : Int32) (v2 : Int32) (v3 : Int32) (v4 : Int32) (v5 : Int32) : (ro_Mem ⊕ ro_Mem) → Prop := Sum.elim (fun e => ro_X K 99 [] [] e) (fun e => ro_X K 255 [(0, .ref (ro_ad (kG K) 207)), (2, .int v2), (3, .int v3), (5, .int v5)] [] e)
def ok_X12_sung_141 (K : ro_K) (v1 : Int32) (v2 : Int32) (v3 : Int32) (v4 : Int32) (v5 : Int32) (v6 : Int32) (v7 : Int32) : ro_Mem → Prop := fun e => ro_X K 168 [(0, .ref (ro_ad (kG K) 207)), (1, .int v1), (2, .int v2), (3, .int v3), (4, .int v4), (5, .int v5), (6, .int v6), (7, .int v7)] [] e
def fb_X12_sung_141 (v1 : Int32) (v2 : Int32) (v3 : Int32) (v4 : Int32) (v5 : Int32) (v6 : Int32) (v7 : Int32) (rec : (Int32 × ro_Mem) → Option ro_Mem) (v8 : Int32) (μ : ro_Mem) : Option ro_Mem :=
  if v5 ≤ v8 then
  (some μ)
  else
  (if ro_in ((12 * v6) + v8) 240 then
  (ro_lt (ro_set μ 254 ((12 * v6) + v8).toNatClampNeg 0) fun m33 =>
  rec (v8 + 1, m33)) else none)
theorem bb_X12_sung_141 {K : ro_K} (hK : ro_C K RX12 cX12_sung 10 5) (hR : ro_R K (some .int)) {v1 : Int32} {v2 : Int32} {v3 : Int32} {v4 : Int32} {v5 : Int32} {v6 : Int32} {v7 : Int32}  {μ : ro_Mem} {rec : (Int32 × ro_Mem) → Option ro_Mem} {v8 : Int32} {q : ro_Mem} (hrec : ∀ (s : Int32 × ro_Mem) (q : ro_Mem), rec s = some q → ok_X12_sung_141 K v1 v2 v3 v4 v5 v6 v7 q → ro_X K 141 [(0, .ref (ro_ad (kG K) 207)), (1, .int v1), (2, .int v2), (3, .int v3), (4, .int v4), (5, .int v5), (6, .int v6), (7, .int v7), (8, .int s.1)] [] s.2) (hf : fb_X12_sung_141 v1 v2 v3 v4 v5 v6 v7 rec v8 μ = some q) (hq : ok_X12_sung_141 K v1 v2 v3 v4 v5 v6 v7 q) : ro_X K 141 [(0, .ref (ro_ad (kG K) 207)), (1, .int v1), (2, .int v2), (3, .int v3), (4, .int v4), (5, .int v5), (6, .int v6), (7, .int v7), (8, .int v8)] [] μ := by
  unfold fb_X12_sung_141 at hf
  refine ro_iload hK 8 rfl dX12_sung_141 ?_
  refine ro_iload hK 5 rfl dX12_sung_143 ?_
  refine ro_icmp_ge hK 168 dX12_sung_145 (by decide) (fun c31 => ?_) (fun c31 => ?_)
  · have hf := ro_it hf c31
    refine ro_sub (L' := [(0, .ref (ro_ad (kG K) 207)), (1, .int v1), (2, .int v2), (3, .int v3), (4, .int v4), (5, .int v5), (6, .int v6), (7, .int v7)]) [0, 1, 2, 3, 4, 5, 6, 7] rfl ?_
    obtain rfl := Option.some.inj hf
    exact hq
  · have hf := ro_ie hf c31
    refine ro_aload_n hK 0 rfl dX12_sung_148 rfl ?_
    refine ro_getr hK fl_X12_150 sh_207 dX12_sung_149 ?_
    refine ro_bipush (v := 12) hK dX12_sung_152 (by decide) ?_
    refine ro_iload hK 6 rfl dX12_sung_154 ?_
    refine ro_imul hK dX12_sung_156 ?_
    refine ro_iload hK 8 rfl dX12_sung_157 ?_
    refine ro_iadd hK dX12_sung_159 ?_
    refine ro_iconst (v := 0) hK dX12_sung_160 (by decide) ?_
    obtain ⟨g32, hf⟩ := ro_gd hf
    obtain ⟨m33, e34, hf⟩ := ro_ld hf
    refine ro_iast hK sh_254 g32 dX12_sung_161 ?_
    refine ro_mv e34 ?_
    refine ro_iinc (v := v8 + 1) (L' := [(8, .int (v8 + 1)), (0, .ref (ro_ad (kG K) 207)), (1, .int v1), (2, .int v2), (3, .int v3), (4, .int v4), (5, .int v5), (6, .int v6), (7, .int v7)]) hK 8 rfl dX12_sung_162 rfl (by decide) rfl ?_
    refine ro_goto hK 141 dX12_sung_165 (by decide) ?_
    refine ro_sub (L' := [(0, .ref (ro_ad (kG K) 207)), (1, .int v1), (2, .int v2), (3, .int v3), (4, .int v4), (5, .int v5), (6, .int v6), (7, .int v7), (8, .int (v8 + 1))]) [1, 2, 3, 4, 5, 6, 7, 8, 0] rfl ?_
    exact hrec (v8 + 1, m33) _ hf hq
def fl_X12_sung_141 (v1 : Int32) (v2 : Int32) (v3 : Int32) (v4 : Int32) (v5 : Int32) (v6 : Int32) (v7 : Int32) : (Int32 × ro_Mem) → Option ro_Mem :=
  ro_loop (fun rec s => fb_X12_sung_141 v1 v2 v3 v4 v5 v6 v7 rec s.1 s.2) ro_FU
theorem lp_X12_sung_141 {K : ro_K} (hK : ro_C K RX12 cX12_sung 10 5) (hR : ro_R K (some .int)) {v1 : Int32} {v2 : Int32} {v3 : Int32} {v4 : Int32} {v5 : Int32} {v6 : Int32} {v7 : Int32}  {s : Int32 × ro_Mem} {q : ro_Mem} (hf : fl_X12_sung_141 v1 v2 v3 v4 v5 v6 v7 s = some q) (hq : ok_X12_sung_141 K v1 v2 v3 v4 v5 v6 v7 q) : ro_X K 141 [(0, .ref (ro_ad (kG K) 207)), (1, .int v1), (2, .int v2), (3, .int v3), (4, .int v4), (5, .int v5), (6, .int v6), (7, .int v7), (8, .int s.1)] [] s.2 :=
  ro_loopX (b := fun rec s => fb_X12_sung_141 v1 v2 v3 v4 v5 v6 v7 rec s.1 s.2) (X := fun s => ro_X K 141 [(0, .ref (ro_ad (kG K) 207)), (1, .int v1), (2, .int v2), (3, .int v3), (4, .int v4), (5, .int v5), (6, .int v6), (7, .int v7), (8, .int s.1)] [] s.2) (OK := ok_X12_sung_141 K v1 v2 v3 v4 v5 v6 v7) (fun rec s q hrec hb ho => bb_X12_sung_141 hK hR  hrec hb ho) ro_FU s q hf hq
def ok_X12_sung_171 (K : ro_K) (v1 : Int32) (v2 : Int32) (v3 : Int32) (v4 : Int32) (v5 : Int32) (v6 : Int32) (v7 : Int32) : ro_Mem → Prop := fun e => ro_X K 249 [(0, .ref (ro_ad (kG K) 207)), (1, .int v1), (2, .int v2), (3, .int v3), (4, .int v4), (5, .int v5), (6, .int v6)] [] e
def fb_X12_sung_171 (v1 : Int32) (v2 : Int32) (v3 : Int32) (v4 : Int32) (v5 : Int32) (v6 : Int32) (v7 : Int32) (rec : (Int32 × ro_Mem) → Option ro_Mem) (v8 : Int32) (μ : ro_Mem) : Option ro_Mem :=
  if (μ 207 18) ≤ v8 then
  (some μ)
  else
  (if ro_in v8 32 then
  (if (μ 222 v8.toNatClampNeg) = v1 then
  (if ro_in (((12 * v6) + (μ 221 v8.toNatClampNeg)) - v4) 240 then
  ((fn_X12_byNote v8 v1 v7 μ).bind fun q41 =>
  ro_lt (ro_set μ 254 (((12 * v6) + (μ 221 v8.toNatClampNeg)) - v4).toNatClampNeg ((μ 254 (((12 * v6) + (μ 221 v8.toNatClampNeg)) - v4).toNatClampNeg) + q41)) fun m43 =>
  rec (v8 + 1, m43)) else none)
  else
  (rec (v8 + 1, μ))) else none)
theorem bb_X12_sung_171 {K : ro_K} (hK : ro_C K RX12 cX12_sung 10 5) (hR : ro_R K (some .int)) {v1 : Int32} {v2 : Int32} {v3 : Int32} {v4 : Int32} {v5 : Int32} {v6 : Int32} {v7 : Int32}  {μ : ro_Mem} {rec : (Int32 × ro_Mem) → Option ro_Mem} {v8 : Int32} {q : ro_Mem} (hrec : ∀ (s : Int32 × ro_Mem) (q : ro_Mem), rec s = some q → ok_X12_sung_171 K v1 v2 v3 v4 v5 v6 v7 q → ro_X K 171 [(0, .ref (ro_ad (kG K) 207)), (1, .int v1), (2, .int v2), (3, .int v3), (4, .int v4), (5, .int v5), (6, .int v6), (7, .int v7), (8, .int s.1)] [] s.2) (hf : fb_X12_sung_171 v1 v2 v3 v4 v5 v6 v7 rec v8 μ = some q) (hq : ok_X12_sung_171 K v1 v2 v3 v4 v5 v6 v7 q) : ro_X K 171 [(0, .ref (ro_ad (kG K) 207)), (1, .int v1), (2, .int v2), (3, .int v3), (4, .int v4), (5, .int v5), (6, .int v6), (7, .int v7), (8, .int v8)] [] μ := by
  unfold fb_X12_sung_171 at hf
  refine ro_iload hK 8 rfl dX12_sung_171 ?_
  refine ro_aload_n hK 0 rfl dX12_sung_173 rfl ?_
  refine ro_geti hK fl_X12_300 sh_207 dX12_sung_174 ?_
  refine ro_icmp_ge hK 249 dX12_sung_177 (by decide) (fun c37 => ?_) (fun c37 => ?_)
  · have hf := ro_it hf c37
    refine ro_sub (L' := [(0, .ref (ro_ad (kG K) 207)), (1, .int v1), (2, .int v2), (3, .int v3), (4, .int v4), (5, .int v5), (6, .int v6)]) [0, 1, 2, 3, 4, 5, 6] rfl ?_
    obtain rfl := Option.some.inj hf
    exact hq
  · have hf := ro_ie hf c37
    refine ro_aload_n hK 0 rfl dX12_sung_180 rfl ?_
    refine ro_getr hK fl_X12_54 sh_207 dX12_sung_181 ?_
    refine ro_iload hK 8 rfl dX12_sung_184 ?_
    obtain ⟨g38, hf⟩ := ro_gd hf
    refine ro_iald hK sh_222 g38 dX12_sung_186 ?_
    refine ro_iload_n hK 1 rfl dX12_sung_187 rfl ?_
    refine ro_icmp_ne hK 243 dX12_sung_188 (by decide) (fun c39 => ?_) (fun c39 => ?_)
    · have hf := ro_ie hf c39
      refine ro_iinc (v := v8 + 1) (L' := [(8, .int (v8 + 1)), (0, .ref (ro_ad (kG K) 207)), (1, .int v1), (2, .int v2), (3, .int v3), (4, .int v4), (5, .int v5), (6, .int v6), (7, .int v7)]) hK 8 rfl dX12_sung_243 rfl (by decide) rfl ?_
      refine ro_goto hK 171 dX12_sung_246 (by decide) ?_
      refine ro_sub (L' := [(0, .ref (ro_ad (kG K) 207)), (1, .int v1), (2, .int v2), (3, .int v3), (4, .int v4), (5, .int v5), (6, .int v6), (7, .int v7), (8, .int (v8 + 1))]) [1, 2, 3, 4, 5, 6, 7, 8, 0] rfl ?_
      exact hrec (v8 + 1, μ) _ hf hq
    · have hf := ro_it hf c39
      refine ro_aload_n hK 0 rfl dX12_sung_191 rfl ?_
      refine ro_getr hK fl_X12_150 sh_207 dX12_sung_192 ?_
      refine ro_bipush (v := 12) hK dX12_sung_195 (by decide) ?_
      refine ro_iload hK 6 rfl dX12_sung_197 ?_
      refine ro_imul hK dX12_sung_199 ?_
      refine ro_aload_n hK 0 rfl dX12_sung_200 rfl ?_
      refine ro_getr hK fl_X12_51 sh_207 dX12_sung_201 ?_
      refine ro_iload hK 8 rfl dX12_sung_204 ?_
      refine ro_iald hK sh_221 g38 dX12_sung_206 ?_
      refine ro_iadd hK dX12_sung_207 ?_
      refine ro_iload hK 4 rfl dX12_sung_208 ?_
      refine ro_isub hK dX12_sung_210 ?_
      refine ro_aload_n hK 0 rfl dX12_sung_211 rfl ?_
      refine ro_getr hK fl_X12_150 sh_207 dX12_sung_212 ?_
      refine ro_bipush (v := 12) hK dX12_sung_215 (by decide) ?_
      refine ro_iload hK 6 rfl dX12_sung_217 ?_
      refine ro_imul hK dX12_sung_219 ?_
      refine ro_aload_n hK 0 rfl dX12_sung_220 rfl ?_
      refine ro_getr hK fl_X12_51 sh_207 dX12_sung_221 ?_
      refine ro_iload hK 8 rfl dX12_sung_224 ?_
      refine ro_iald hK sh_221 g38 dX12_sung_226 ?_
      refine ro_iadd hK dX12_sung_227 ?_
      refine ro_iload hK 4 rfl dX12_sung_228 ?_
      refine ro_isub hK dX12_sung_230 ?_
      obtain ⟨g40, hf⟩ := ro_gd hf
      refine ro_iald hK sh_254 g40 dX12_sung_231 ?_
      refine ro_aload_n hK 0 rfl dX12_sung_232 rfl ?_
      refine ro_iload hK 8 rfl dX12_sung_233 ?_
      refine ro_iload_n hK 1 rfl dX12_sung_235 rfl ?_
      refine ro_iload hK 7 rfl dX12_sung_236 ?_
      obtain ⟨q41, e42, hf⟩ := ro_bd hf
      refine ro_callvi hK [.int v8, .int v1, .int v7] ml_X12_414 mv_X12_byNote (mt_X12_byNote (kl K) (kG K)  e42) sh_207 ⟨_, rfl, rfl⟩ (by decide) rfl rfl (Nat.le_of_ble_eq_true rfl) dX12_sung_238 ?_
      refine ro_iadd hK dX12_sung_241 ?_
      obtain ⟨m43, e44, hf⟩ := ro_ld hf
      refine ro_iast hK sh_254 g40 dX12_sung_242 ?_
      refine ro_mv e44 ?_
      refine ro_iinc (v := v8 + 1) (L' := [(8, .int (v8 + 1)), (0, .ref (ro_ad (kG K) 207)), (1, .int v1), (2, .int v2), (3, .int v3), (4, .int v4), (5, .int v5), (6, .int v6), (7, .int v7)]) hK 8 rfl dX12_sung_243 rfl (by decide) rfl ?_
      refine ro_goto hK 171 dX12_sung_246 (by decide) ?_
      refine ro_sub (L' := [(0, .ref (ro_ad (kG K) 207)), (1, .int v1), (2, .int v2), (3, .int v3), (4, .int v4), (5, .int v5), (6, .int v6), (7, .int v7), (8, .int (v8 + 1))]) [1, 2, 3, 4, 5, 6, 7, 8, 0] rfl ?_
      exact hrec (v8 + 1, m43) _ hf hq
def fl_X12_sung_171 (v1 : Int32) (v2 : Int32) (v3 : Int32) (v4 : Int32) (v5 : Int32) (v6 : Int32) (v7 : Int32) : (Int32 × ro_Mem) → Option ro_Mem :=
  ro_loop (fun rec s => fb_X12_sung_171 v1 v2 v3 v4 v5 v6 v7 rec s.1 s.2) ro_FU
theorem lp_X12_sung_171 {K : ro_K} (hK : ro_C K RX12 cX12_sung 10 5) (hR : ro_R K (some .int)) {v1 : Int32} {v2 : Int32} {v3 : Int32} {v4 : Int32} {v5 : Int32} {v6 : Int32} {v7 : Int32}  {s : Int32 × ro_Mem} {q : ro_Mem} (hf : fl_X12_sung_171 v1 v2 v3 v4 v5 v6 v7 s = some q) (hq : ok_X12_sung_171 K v1 v2 v3 v4 v5 v6 v7 q) : ro_X K 171 [(0, .ref (ro_ad (kG K) 207)), (1, .int v1), (2, .int v2), (3, .int v3), (4, .int v4), (5, .int v5), (6, .int v6), (7, .int v7), (8, .int s.1)] [] s.2 :=
  ro_loopX (b := fun rec s => fb_X12_sung_171 v1 v2 v3 v4 v5 v6 v7 rec s.1 s.2) (X := fun s => ro_X K 171 [(0, .ref (ro_ad (kG K) 207)), (1, .int v1), (2, .int v2), (3, .int v3), (4, .int v4), (5, .int v5), (6, .int v6), (7, .int v7), (8, .int s.1)] [] s.2) (OK := ok_X12_sung_171 K v1 v2 v3 v4 v5 v6 v7) (fun rec s q hrec hb ho => bb_X12_sung_171 hK hR  hrec hb ho) ro_FU s q hf hq
def fb_X12_sung_71 (v1 : Int32) (v2 : Int32) (v3 : Int32) (v4 : Int32) (v5 : Int32) (rec : (Int32 × ro_Mem) → Option (ro_Mem ⊕ ro_Mem)) (v6 : Int32) (μ : ro_Mem) : Option (ro_Mem ⊕ ro_Mem) :=
  if v2 ≤ v6 then
  (some (.inr μ))
  else
  (if ro_in (2 * v6) 220 then
  (ro_lt ((μ 217 (2 * v6).toNatClampNeg) &&& 255) fun z21 =>
  if z21 < 96 then
  (if ro_in ((2 * v6) + 1) 220 then
  (if ro_in v6 20 then
  (ro_lt (ro_set μ 255 v6.toNatClampNeg ((μ 217 ((2 * v6) + 1).toNatClampNeg) &&& 255)) fun m26 =>
  if ro_in z21 96 then
  (ro_lt (ro_set m26 256 v6.toNatClampNeg (m26 209 z21.toNatClampNeg)) fun m29 =>
  (fl_X12_sung_141 v1 v2 v3 v4 v5 v6 z21 (0, m29)).bind fun q35 =>
  (fl_X12_sung_171 v1 v2 v3 v4 v5 v6 z21 (0, q35)).bind fun q45 =>
  rec (v6 + 1, q45)) else none) else none) else none)
  else
  (some (.inl μ))) else none)
theorem bb_X12_sung_71 {K : ro_K} (hK : ro_C K RX12 cX12_sung 10 5) (hR : ro_R K (some .int)) {v1 : Int32} {v2 : Int32} {v3 : Int32} {v4 : Int32} {v5 : Int32}  {μ : ro_Mem} {rec : (Int32 × ro_Mem) → Option (ro_Mem ⊕ ro_Mem)} {v6 : Int32} {q : (ro_Mem ⊕ ro_Mem)} (hrec : ∀ (s : Int32 × ro_Mem) (q : (ro_Mem ⊕ ro_Mem)), rec s = some q → ok_X12_sung_71 K v1 v2 v3 v4 v5 q → ro_X K 71 [(0, .ref (ro_ad (kG K) 207)), (1, .int v1), (2, .int v2), (3, .int v3), (4, .int v4), (5, .int v5), (6, .int s.1)] [] s.2) (hf : fb_X12_sung_71 v1 v2 v3 v4 v5 rec v6 μ = some q) (hq : ok_X12_sung_71 K v1 v2 v3 v4 v5 q) : ro_X K 71 [(0, .ref (ro_ad (kG K) 207)), (1, .int v1), (2, .int v2), (3, .int v3), (4, .int v4), (5, .int v5), (6, .int v6)] [] μ := by
  unfold fb_X12_sung_71 at hf
  refine ro_iload hK 6 rfl dX12_sung_71 ?_
  refine ro_iload_n hK 2 rfl dX12_sung_73 rfl ?_
  refine ro_icmp_ge hK 255 dX12_sung_74 (by decide) (fun c19 => ?_) (fun c19 => ?_)
  · have hf := ro_it hf c19
    refine ro_sub (L' := [(0, .ref (ro_ad (kG K) 207)), (2, .int v2), (3, .int v3), (5, .int v5)]) [0, 2, 3, 5] rfl ?_
    obtain rfl := Option.some.inj hf
    exact hq
  · have hf := ro_ie hf c19
    refine ro_aload_n hK 0 rfl dX12_sung_77 rfl ?_
    refine ro_getr hK fl_X12_38 sh_207 dX12_sung_78 ?_
    refine ro_iconst (v := 2) hK dX12_sung_81 (by decide) ?_
    refine ro_iload hK 6 rfl dX12_sung_82 ?_
    refine ro_imul hK dX12_sung_84 ?_
    obtain ⟨g20, hf⟩ := ro_gd hf
    refine ro_bald hK sh_217 g20 dX12_sung_85 ?_
    refine ro_sipush (v := 255) hK dX12_sung_86 (by decide) ?_
    refine ro_iand hK dX12_sung_89 ?_
    obtain ⟨z21, e22, hf⟩ := ro_ld hf
    refine ro_iv e22 ?_
    refine ro_istore (L' := [(7, .int z21), (0, .ref (ro_ad (kG K) 207)), (1, .int v1), (2, .int v2), (3, .int v3), (4, .int v4), (5, .int v5), (6, .int v6)]) hK dX12_sung_90 (by decide) rfl ?_
    refine ro_iload hK 0 rfl dX12_sung_92 ?_
    refine ro_bipush (v := 96) hK dX12_sung_94 (by decide) ?_
    refine ro_icmp_lt hK 102 dX12_sung_96 (by decide) (fun c23 => ?_) (fun c23 => ?_)
    · have hf := ro_it hf c23
      refine ro_aload_n hK 1 rfl dX12_sung_102 rfl ?_
      refine ro_getr hK fl_X12_153 sh_207 dX12_sung_103 ?_
      refine ro_iload hK 7 rfl dX12_sung_106 ?_
      refine ro_aload_n hK 1 rfl dX12_sung_108 rfl ?_
      refine ro_getr hK fl_X12_38 sh_207 dX12_sung_109 ?_
      refine ro_iconst (v := 2) hK dX12_sung_112 (by decide) ?_
      refine ro_iload hK 7 rfl dX12_sung_113 ?_
      refine ro_imul hK dX12_sung_115 ?_
      refine ro_iconst (v := 1) hK dX12_sung_116 (by decide) ?_
      refine ro_iadd hK dX12_sung_117 ?_
      obtain ⟨g24, hf⟩ := ro_gd hf
      refine ro_bald hK sh_217 g24 dX12_sung_118 ?_
      refine ro_sipush (v := 255) hK dX12_sung_119 (by decide) ?_
      refine ro_iand hK dX12_sung_122 ?_
      obtain ⟨g25, hf⟩ := ro_gd hf
      obtain ⟨m26, e27, hf⟩ := ro_ld hf
      refine ro_iast hK sh_255 g25 dX12_sung_123 ?_
      refine ro_mv e27 ?_
      refine ro_aload_n hK 1 rfl dX12_sung_124 rfl ?_
      refine ro_getr hK fl_X12_156 sh_207 dX12_sung_125 ?_
      refine ro_iload hK 7 rfl dX12_sung_128 ?_
      refine ro_aload_n hK 1 rfl dX12_sung_130 rfl ?_
      refine ro_getr hK fl_X12_13 sh_207 dX12_sung_131 ?_
      refine ro_iload hK 0 rfl dX12_sung_134 ?_
      obtain ⟨g28, hf⟩ := ro_gd hf
      refine ro_iald hK sh_209 g28 dX12_sung_136 ?_
      obtain ⟨m29, e30, hf⟩ := ro_ld hf
      refine ro_iast hK sh_256 g25 dX12_sung_137 ?_
      refine ro_mv e30 ?_
      refine ro_iconst (v := 0) hK dX12_sung_138 (by decide) ?_
      refine ro_istore (L' := [(8, .int 0), (7, .int z21), (0, .ref (ro_ad (kG K) 207)), (1, .int v1), (2, .int v2), (3, .int v3), (4, .int v4), (5, .int v5), (6, .int v6)]) hK dX12_sung_139 (by decide) rfl ?_
      obtain ⟨q35, e36, hf⟩ := ro_bd hf
      refine ro_sub (L' := [(0, .ref (ro_ad (kG K) 207)), (1, .int v1), (2, .int v2), (3, .int v3), (4, .int v4), (5, .int v5), (6, .int v6), (7, .int z21), (8, .int 0)]) [2, 3, 4, 5, 6, 7, 8, 1, 0] rfl ?_
      refine lp_X12_sung_141 hK hR  e36 ?_
      show ro_X K 168 [(0, .ref (ro_ad (kG K) 207)), (1, .int v1), (2, .int v2), (3, .int v3), (4, .int v4), (5, .int v5), (6, .int v6), (7, .int z21)] [] q35
      refine ro_iconst (v := 0) hK dX12_sung_168 (by decide) ?_
      refine ro_istore (L' := [(8, .int 0), (0, .ref (ro_ad (kG K) 207)), (1, .int v1), (2, .int v2), (3, .int v3), (4, .int v4), (5, .int v5), (6, .int v6), (7, .int z21)]) hK dX12_sung_169 (by decide) rfl ?_
      obtain ⟨q45, e46, hf⟩ := ro_bd hf
      refine ro_sub (L' := [(0, .ref (ro_ad (kG K) 207)), (1, .int v1), (2, .int v2), (3, .int v3), (4, .int v4), (5, .int v5), (6, .int v6), (7, .int z21), (8, .int 0)]) [1, 2, 3, 4, 5, 6, 7, 8, 0] rfl ?_
      refine lp_X12_sung_171 hK hR  e46 ?_
      show ro_X K 249 [(0, .ref (ro_ad (kG K) 207)), (1, .int v1), (2, .int v2), (3, .int v3), (4, .int v4), (5, .int v5), (6, .int v6)] [] q45
      refine ro_iinc (v := v6 + 1) (L' := [(6, .int (v6 + 1)), (0, .ref (ro_ad (kG K) 207)), (1, .int v1), (2, .int v2), (3, .int v3), (4, .int v4), (5, .int v5)]) hK 6 rfl dX12_sung_249 rfl (by decide) rfl ?_
      refine ro_goto hK 71 dX12_sung_252 (by decide) ?_
      refine ro_sub (L' := [(0, .ref (ro_ad (kG K) 207)), (1, .int v1), (2, .int v2), (3, .int v3), (4, .int v4), (5, .int v5), (6, .int (v6 + 1))]) [1, 2, 3, 4, 5, 6, 0] rfl ?_
      exact hrec (v6 + 1, q45) _ hf hq
    · have hf := ro_ie hf c23
      refine ro_sub (L' := []) [] rfl ?_
      obtain rfl := Option.some.inj hf
      exact hq
def fl_X12_sung_71 (v1 : Int32) (v2 : Int32) (v3 : Int32) (v4 : Int32) (v5 : Int32) : (Int32 × ro_Mem) → Option (ro_Mem ⊕ ro_Mem) :=
  ro_loop (fun rec s => fb_X12_sung_71 v1 v2 v3 v4 v5 rec s.1 s.2) ro_FU
theorem lp_X12_sung_71 {K : ro_K} (hK : ro_C K RX12 cX12_sung 10 5) (hR : ro_R K (some .int)) {v1 : Int32} {v2 : Int32} {v3 : Int32} {v4 : Int32} {v5 : Int32}  {s : Int32 × ro_Mem} {q : (ro_Mem ⊕ ro_Mem)} (hf : fl_X12_sung_71 v1 v2 v3 v4 v5 s = some q) (hq : ok_X12_sung_71 K v1 v2 v3 v4 v5 q) : ro_X K 71 [(0, .ref (ro_ad (kG K) 207)), (1, .int v1), (2, .int v2), (3, .int v3), (4, .int v4), (5, .int v5), (6, .int s.1)] [] s.2 :=
  ro_loopX (b := fun rec s => fb_X12_sung_71 v1 v2 v3 v4 v5 rec s.1 s.2) (X := fun s => ro_X K 71 [(0, .ref (ro_ad (kG K) 207)), (1, .int v1), (2, .int v2), (3, .int v3), (4, .int v4), (5, .int v5), (6, .int s.1)] [] s.2) (OK := ok_X12_sung_71 K v1 v2 v3 v4 v5) (fun rec s q hrec hb ho => bb_X12_sung_71 hK hR  hrec hb ho) ro_FU s q hf hq
def ok_X12_sung_270 (K : ro_K) (v2 : Int32) (v3 : Int32) (v5 : Int32) (μ : ro_Mem) : (Int32 × Int32 × Int32) → Prop := fun e => ro_X K 327 [(3, .int v3), (6, .int e.1), (7, .int e.2.1), (8, .int e.2.2)] [] μ
def fj_X12_sung_306 (rec : (Int32 × Int32 × Int32 × Int32) → Option (Int32 × Int32 × Int32)) (v2 : Int32) (v3 : Int32) (v5 : Int32) (v6 : Int32) (v8 : Int32) (v9 : Int32) (t0 : Int32) (μ : ro_Mem) : Option (Int32 × Int32 × Int32) :=
  ro_lt (v8 &&& v9) fun z56 =>
  ro_lt (v6 + 1) fun z58 =>
  rec (z58, t0, z56, v9 + 1)
theorem bj_X12_sung_306 {K : ro_K} (hK : ro_C K RX12 cX12_sung 10 5) (hR : ro_R K (some .int)) {v2 : Int32} {v3 : Int32} {v5 : Int32} {v6 : Int32} {v8 : Int32} {v9 : Int32} {t0 : Int32}  {rec : (Int32 × Int32 × Int32 × Int32) → Option (Int32 × Int32 × Int32)} {μ : ro_Mem} (hrec : ∀ (s : Int32 × Int32 × Int32 × Int32) (q : (Int32 × Int32 × Int32)), rec s = some q → ok_X12_sung_270 K v2 v3 v5 μ q → ro_X K 270 [(0, .ref (ro_ad (kG K) 207)), (2, .int v2), (3, .int v3), (5, .int v5), (6, .int s.1), (7, .int s.2.1), (8, .int s.2.2.1), (9, .int s.2.2.2)] [] μ) {out : (Int32 × Int32 × Int32)} (hf : fj_X12_sung_306 rec v2 v3 v5 v6 v8 v9 t0 μ = some out) (hq : ok_X12_sung_270 K v2 v3 v5 μ out) : ro_X K 306 [(0, .ref (ro_ad (kG K) 207)), (2, .int v2), (3, .int v3), (5, .int v5), (6, .int v6), (8, .int v8), (9, .int v9)] [.int t0] μ := by
  unfold fj_X12_sung_306 at hf
  refine ro_istore (L' := [(7, .int t0), (0, .ref (ro_ad (kG K) 207)), (2, .int v2), (3, .int v3), (5, .int v5), (6, .int v6), (8, .int v8), (9, .int v9)]) hK dX12_sung_306 (by decide) rfl ?_
  refine ro_iload hK 6 rfl dX12_sung_308 ?_
  refine ro_iload hK 7 rfl dX12_sung_310 ?_
  refine ro_iand hK dX12_sung_312 ?_
  obtain ⟨z56, e57, hf⟩ := ro_ld hf
  refine ro_iv e57 ?_
  refine ro_istore (L' := [(8, .int z56), (7, .int t0), (0, .ref (ro_ad (kG K) 207)), (2, .int v2), (3, .int v3), (5, .int v5), (6, .int v6), (9, .int v9)]) hK dX12_sung_313 (by decide) rfl ?_
  refine ro_iload hK 6 rfl dX12_sung_315 ?_
  refine ro_iconst (v := 1) hK dX12_sung_317 (by decide) ?_
  refine ro_iadd hK dX12_sung_318 ?_
  obtain ⟨z58, e59, hf⟩ := ro_ld hf
  refine ro_iv e59 ?_
  refine ro_istore (L' := [(6, .int z58), (8, .int z56), (7, .int t0), (0, .ref (ro_ad (kG K) 207)), (2, .int v2), (3, .int v3), (5, .int v5), (9, .int v9)]) hK dX12_sung_319 (by decide) rfl ?_
  refine ro_iinc (v := v9 + 1) (L' := [(9, .int (v9 + 1)), (6, .int z58), (8, .int z56), (7, .int t0), (0, .ref (ro_ad (kG K) 207)), (2, .int v2), (3, .int v3), (5, .int v5)]) hK 7 rfl dX12_sung_321 rfl (by decide) rfl ?_
  refine ro_goto hK 270 dX12_sung_324 (by decide) ?_
  refine ro_sub (L' := [(0, .ref (ro_ad (kG K) 207)), (2, .int v2), (3, .int v3), (5, .int v5), (6, .int z58), (7, .int t0), (8, .int z56), (9, .int (v9 + 1))]) [4, 5, 6, 7, 1, 3, 2, 0] rfl ?_
  exact hrec (z58, t0, z56, v9 + 1) _ hf hq
def fb_X12_sung_270 (v2 : Int32) (v3 : Int32) (v5 : Int32) (μ : ro_Mem) (rec : (Int32 × Int32 × Int32 × Int32) → Option (Int32 × Int32 × Int32)) (v6 : Int32) (v7 : Int32) (v8 : Int32) (v9 : Int32) : Option (Int32 × Int32 × Int32) :=
  if ((1 : Int32) <<< (v5 &&& 31)) ≤ v9 then
  (some (v6, v7, v8))
  else
  ((fn_X12_wouldBeSo v9 v5 v2 μ).bind fun q52 =>
  if q52 = 0 then
  (rec (v6, v7, v8, v9 + 1))
  else
  (if v6 = 0 then
  (fj_X12_sung_306 rec v2 v3 v5 v6 v8 v9 v9 μ)
  else
  (fj_X12_sung_306 rec v2 v3 v5 v6 v8 v9 v7 μ)))
theorem bb_X12_sung_270 {K : ro_K} (hK : ro_C K RX12 cX12_sung 10 5) (hR : ro_R K (some .int)) {v2 : Int32} {v3 : Int32} {v5 : Int32}  {μ : ro_Mem} {rec : (Int32 × Int32 × Int32 × Int32) → Option (Int32 × Int32 × Int32)} {v6 : Int32} {v7 : Int32} {v8 : Int32} {v9 : Int32} {q : (Int32 × Int32 × Int32)} (hrec : ∀ (s : Int32 × Int32 × Int32 × Int32) (q : (Int32 × Int32 × Int32)), rec s = some q → ok_X12_sung_270 K v2 v3 v5 μ q → ro_X K 270 [(0, .ref (ro_ad (kG K) 207)), (2, .int v2), (3, .int v3), (5, .int v5), (6, .int s.1), (7, .int s.2.1), (8, .int s.2.2.1), (9, .int s.2.2.2)] [] μ) (hf : fb_X12_sung_270 v2 v3 v5 μ rec v6 v7 v8 v9 = some q) (hq : ok_X12_sung_270 K v2 v3 v5 μ q) : ro_X K 270 [(0, .ref (ro_ad (kG K) 207)), (2, .int v2), (3, .int v3), (5, .int v5), (6, .int v6), (7, .int v7), (8, .int v8), (9, .int v9)] [] μ := by
  unfold fb_X12_sung_270 at hf
  refine ro_iload hK 7 rfl dX12_sung_270 ?_
  refine ro_iconst (v := 1) hK dX12_sung_272 (by decide) ?_
  refine ro_iload hK 3 rfl dX12_sung_273 ?_
  refine ro_ishl hK dX12_sung_275 ?_
  refine ro_icmp_ge hK 327 dX12_sung_276 (by decide) (fun c51 => ?_) (fun c51 => ?_)
  · have hf := ro_it hf c51
    refine ro_sub (L' := [(3, .int v3), (6, .int v6), (7, .int v7), (8, .int v8)]) [2, 4, 5, 6] rfl ?_
    obtain rfl := Option.some.inj hf
    exact hq
  · have hf := ro_ie hf c51
    refine ro_aload_n hK 0 rfl dX12_sung_279 rfl ?_
    refine ro_iload hK 7 rfl dX12_sung_280 ?_
    refine ro_iload hK 3 rfl dX12_sung_282 ?_
    refine ro_iload_n hK 1 rfl dX12_sung_284 rfl ?_
    obtain ⟨q52, e53, hf⟩ := ro_bd hf
    refine ro_callvi hK [.int v9, .int v5, .int v2] ml_X12_490 mv_X12_wouldBeSo (mt_X12_wouldBeSo (kl K) (kG K)  e53) sh_207 ⟨_, rfl, rfl⟩ (by decide) rfl rfl (Nat.le_of_ble_eq_true rfl) dX12_sung_285 ?_
    refine ro_if_ne hK 294 dX12_sung_288 (by decide) (fun c54 => ?_) (fun c54 => ?_)
    · have hf := ro_ie hf c54
      refine ro_iload hK 4 rfl dX12_sung_294 ?_
      refine ro_if_ne hK 304 dX12_sung_296 (by decide) (fun c55 => ?_) (fun c55 => ?_)
      · have hf := ro_ie hf c55
        refine ro_iload hK 5 rfl dX12_sung_304 ?_
        refine ro_sub (L' := [(0, .ref (ro_ad (kG K) 207)), (2, .int v2), (3, .int v3), (5, .int v5), (6, .int v6), (8, .int v8), (9, .int v9)]) [0, 1, 2, 3, 4, 6, 7] rfl ?_
        exact bj_X12_sung_306 hK hR  hrec hf hq
      · have hf := ro_it hf c55
        refine ro_iload hK 7 rfl dX12_sung_299 ?_
        refine ro_goto hK 306 dX12_sung_301 (by decide) ?_
        refine ro_sub (L' := [(0, .ref (ro_ad (kG K) 207)), (2, .int v2), (3, .int v3), (5, .int v5), (6, .int v6), (8, .int v8), (9, .int v9)]) [0, 1, 2, 3, 4, 6, 7] rfl ?_
        exact bj_X12_sung_306 hK hR  hrec hf hq
    · have hf := ro_it hf c54
      refine ro_goto hK 321 dX12_sung_291 (by decide) ?_
      refine ro_iinc (v := v9 + 1) (L' := [(9, .int (v9 + 1)), (0, .ref (ro_ad (kG K) 207)), (2, .int v2), (3, .int v3), (5, .int v5), (6, .int v6), (7, .int v7), (8, .int v8)]) hK 7 rfl dX12_sung_321 rfl (by decide) rfl ?_
      refine ro_goto hK 270 dX12_sung_324 (by decide) ?_
      refine ro_sub (L' := [(0, .ref (ro_ad (kG K) 207)), (2, .int v2), (3, .int v3), (5, .int v5), (6, .int v6), (7, .int v7), (8, .int v8), (9, .int (v9 + 1))]) [1, 2, 3, 4, 5, 6, 7, 0] rfl ?_
      exact hrec (v6, v7, v8, v9 + 1) _ hf hq
def fl_X12_sung_270 (v2 : Int32) (v3 : Int32) (v5 : Int32) (μ : ro_Mem) : (Int32 × Int32 × Int32 × Int32) → Option (Int32 × Int32 × Int32) :=
  ro_loop (fun rec s => fb_X12_sung_270 v2 v3 v5 μ rec s.1 s.2.1 s.2.2.1 s.2.2.2) ro_FU
theorem lp_X12_sung_270 {K : ro_K} (hK : ro_C K RX12 cX12_sung 10 5) (hR : ro_R K (some .int)) {v2 : Int32} {v3 : Int32} {v5 : Int32}  {μ : ro_Mem} {s : Int32 × Int32 × Int32 × Int32} {q : (Int32 × Int32 × Int32)} (hf : fl_X12_sung_270 v2 v3 v5 μ s = some q) (hq : ok_X12_sung_270 K v2 v3 v5 μ q) : ro_X K 270 [(0, .ref (ro_ad (kG K) 207)), (2, .int v2), (3, .int v3), (5, .int v5), (6, .int s.1), (7, .int s.2.1), (8, .int s.2.2.1), (9, .int s.2.2.2)] [] μ :=
  ro_loopX (b := fun rec s => fb_X12_sung_270 v2 v3 v5 μ rec s.1 s.2.1 s.2.2.1 s.2.2.2) (X := fun s => ro_X K 270 [(0, .ref (ro_ad (kG K) 207)), (2, .int v2), (3, .int v3), (5, .int v5), (6, .int s.1), (7, .int s.2.1), (8, .int s.2.2.1), (9, .int s.2.2.2)] [] μ) (OK := ok_X12_sung_270 K v2 v3 v5 μ) (fun rec s q hrec hb ho => bb_X12_sung_270 hK hR  hrec hb ho) ro_FU s q hf hq
def fn_X12_sung (v1 : Int32) (v2 : Int32) (v3 : Int32) (μ : ro_Mem) : Option (Int32 × ro_Mem) :=
  (fn_X12_in v1 0 ((μ 207 20) - 1)).bind fun q1 =>
  if q1 = 0 then
  (some ((-1), μ))
  else
  ((fn_X12_in v2 1 20).bind fun q4 =>
  if q4 = 0 then
  (some ((-1), μ))
  else
  ((fn_X12_in v3 0 2).bind fun q7 =>
  if q7 = 0 then
  (some ((-1), μ))
  else
  (if (2 * v2) ≤ (μ 207 13) then
  (ro_lt (ro_set μ 207 13 0) fun m11 =>
  (fn_X12_laysDrops m11).bind fun q13 =>
  (fn_X12_firstBar v1 q13).bind fun q15 =>
  (fn_X12_barsIn v1 q13).bind fun q17 =>
  (fl_X12_sung_71 v1 v2 v3 q15 q17 (0, q13)).bind fun q47 =>
  q47.elim (fun e49 => some ((-2), e49)) (fun e50 => (fl_X12_sung_270 v2 v3 q17 e50 (0, (-2), 4095, 0)).bind fun q60 =>
  if v3 = 0 then
  (some (q60.1, e50))
  else
  (if q60.1 = 0 then
  (some ((-2), e50))
  else
  (if v3 = 1 then
  (some (q60.2.1, e50))
  else
  (some (q60.2.2, e50))))))
  else
  (some ((-1), μ)))))
theorem be_X12_sung {K : ro_K} (hK : ro_C K RX12 cX12_sung 10 5) (hR : ro_R K (some .int)) {v1 : Int32} {v2 : Int32} {v3 : Int32}  {μ : ro_Mem} {out : Int32 × ro_Mem} (hf : fn_X12_sung v1 v2 v3 μ = some out) (hq : kQ K (some (.int out.1)) out.2) : ro_X K 0 [(0, .ref (ro_ad (kG K) 207)), (1, .int v1), (2, .int v2), (3, .int v3)] [] μ := by
  unfold fn_X12_sung at hf
  refine ro_iload_n hK 1 rfl dX12_sung_0 rfl ?_
  refine ro_iconst (v := 0) hK dX12_sung_1 (by decide) ?_
  refine ro_aload_n hK 0 rfl dX12_sung_2 rfl ?_
  refine ro_geti hK fl_X12_306 sh_207 dX12_sung_3 ?_
  refine ro_iconst (v := 1) hK dX12_sung_6 (by decide) ?_
  refine ro_isub hK dX12_sung_7 ?_
  obtain ⟨q1, e2, hf⟩ := ro_bd hf
  refine ro_callsi hK [.int v1, .int 0, .int ((μ 207 20) - 1)] ml_X12_215 ms_X12_in (mt_X12_in (kl K) (kG K)  e2) (by decide) rfl rfl (Nat.le_of_ble_eq_true rfl) dX12_sung_8 ?_
  refine ro_if_eq hK 43 dX12_sung_11 (by decide) (fun c3 => ?_) (fun c3 => ?_)
  · have hf := ro_it hf c3
    refine ro_iconst (v := (-1)) hK dX12_sung_43 (by decide) ?_
    obtain rfl := Option.some.inj hf
    exact ro_iret hK hR dX12_sung_44 hq
  · have hf := ro_ie hf c3
    refine ro_iload_n hK 2 rfl dX12_sung_14 rfl ?_
    refine ro_iconst (v := 1) hK dX12_sung_15 (by decide) ?_
    refine ro_bipush (v := 20) hK dX12_sung_16 (by decide) ?_
    obtain ⟨q4, e5, hf⟩ := ro_bd hf
    refine ro_callsi hK [.int v2, .int 1, .int 20] ml_X12_215 ms_X12_in (mt_X12_in (kl K) (kG K)  e5) (by decide) rfl rfl (Nat.le_of_ble_eq_true rfl) dX12_sung_18 ?_
    refine ro_if_eq hK 43 dX12_sung_21 (by decide) (fun c6 => ?_) (fun c6 => ?_)
    · have hf := ro_it hf c6
      refine ro_iconst (v := (-1)) hK dX12_sung_43 (by decide) ?_
      obtain rfl := Option.some.inj hf
      exact ro_iret hK hR dX12_sung_44 hq
    · have hf := ro_ie hf c6
      refine ro_iload_n hK 3 rfl dX12_sung_24 rfl ?_
      refine ro_iconst (v := 0) hK dX12_sung_25 (by decide) ?_
      refine ro_iconst (v := 2) hK dX12_sung_26 (by decide) ?_
      obtain ⟨q7, e8, hf⟩ := ro_bd hf
      refine ro_callsi hK [.int v3, .int 0, .int 2] ml_X12_215 ms_X12_in (mt_X12_in (kl K) (kG K)  e8) (by decide) rfl rfl (Nat.le_of_ble_eq_true rfl) dX12_sung_27 ?_
      refine ro_if_eq hK 43 dX12_sung_30 (by decide) (fun c9 => ?_) (fun c9 => ?_)
      · have hf := ro_it hf c9
        refine ro_iconst (v := (-1)) hK dX12_sung_43 (by decide) ?_
        obtain rfl := Option.some.inj hf
        exact ro_iret hK hR dX12_sung_44 hq
      · have hf := ro_ie hf c9
        refine ro_iconst (v := 2) hK dX12_sung_33 (by decide) ?_
        refine ro_iload_n hK 2 rfl dX12_sung_34 rfl ?_
        refine ro_imul hK dX12_sung_35 ?_
        refine ro_aload_n hK 0 rfl dX12_sung_36 rfl ?_
        refine ro_geti hK fl_X12_242 sh_207 dX12_sung_37 ?_
        refine ro_icmp_le hK 45 dX12_sung_40 (by decide) (fun c10 => ?_) (fun c10 => ?_)
        · have hf := ro_it hf c10
          refine ro_aload_n hK 0 rfl dX12_sung_45 rfl ?_
          refine ro_iconst (v := 0) hK dX12_sung_46 (by decide) ?_
          obtain ⟨m11, e12, hf⟩ := ro_ld hf
          refine ro_puti hK fl_X12_242 sh_207 rfl rfl dX12_sung_47 ?_
          refine ro_mv e12 ?_
          refine ro_aload_n hK 0 rfl dX12_sung_50 rfl ?_
          obtain ⟨q13, e14, hf⟩ := ro_bd hf
          refine ro_callvv hK [] ml_X12_426 mv_X12_laysDrops (mt_X12_laysDrops (kl K) (kG K)  e14) sh_207 ⟨_, rfl, rfl⟩ (by decide) rfl rfl (Nat.le_of_ble_eq_true rfl) dX12_sung_51 ?_
          refine ro_aload_n hK 0 rfl dX12_sung_54 rfl ?_
          refine ro_iload_n hK 1 rfl dX12_sung_55 rfl ?_
          obtain ⟨q15, e16, hf⟩ := ro_bd hf
          refine ro_callvi hK [.int v1] ml_X12_484 mv_X12_firstBar (mt_X12_firstBar (kl K) (kG K)  e16) sh_207 ⟨_, rfl, rfl⟩ (by decide) rfl rfl (Nat.le_of_ble_eq_true rfl) dX12_sung_56 ?_
          refine ro_istore (L' := [(4, .int q15), (0, .ref (ro_ad (kG K) 207)), (1, .int v1), (2, .int v2), (3, .int v3)]) hK dX12_sung_59 (by decide) rfl ?_
          refine ro_aload_n hK 1 rfl dX12_sung_61 rfl ?_
          refine ro_iload_n hK 2 rfl dX12_sung_62 rfl ?_
          obtain ⟨q17, e18, hf⟩ := ro_bd hf
          refine ro_callvi hK [.int v1] ml_X12_487 mv_X12_barsIn (mt_X12_barsIn (kl K) (kG K)  e18) sh_207 ⟨_, rfl, rfl⟩ (by decide) rfl rfl (Nat.le_of_ble_eq_true rfl) dX12_sung_63 ?_
          refine ro_istore (L' := [(5, .int q17), (4, .int q15), (0, .ref (ro_ad (kG K) 207)), (1, .int v1), (2, .int v2), (3, .int v3)]) hK dX12_sung_66 (by decide) rfl ?_
          refine ro_iconst (v := 0) hK dX12_sung_68 (by decide) ?_
          refine ro_istore (L' := [(6, .int 0), (5, .int q17), (4, .int q15), (0, .ref (ro_ad (kG K) 207)), (1, .int v1), (2, .int v2), (3, .int v3)]) hK dX12_sung_69 (by decide) rfl ?_
          obtain ⟨q47, e48, hf⟩ := ro_bd hf
          refine ro_sub (L' := [(0, .ref (ro_ad (kG K) 207)), (1, .int v1), (2, .int v2), (3, .int v3), (4, .int q15), (5, .int q17), (6, .int 0)]) [3, 4, 5, 6, 2, 1, 0] rfl ?_
          refine lp_X12_sung_71 hK hR  e48 ?_
          rcases q47 with e49 | e50
          · have hf := ro_el hf
            show ro_X K 99 [] [] e49
            refine ro_bipush (v := (-2)) hK dX12_sung_99 (by decide) ?_
            obtain rfl := Option.some.inj hf
            exact ro_iret hK hR dX12_sung_101 hq
          · have hf := ro_er hf
            show ro_X K 255 [(0, .ref (ro_ad (kG K) 207)), (2, .int v2), (3, .int v3), (5, .int q17)] [] e50
            refine ro_iconst (v := 0) hK dX12_sung_255 (by decide) ?_
            refine ro_istore (L' := [(6, .int 0), (0, .ref (ro_ad (kG K) 207)), (2, .int v2), (3, .int v3), (5, .int q17)]) hK dX12_sung_256 (by decide) rfl ?_
            refine ro_bipush (v := (-2)) hK dX12_sung_258 (by decide) ?_
            refine ro_istore (L' := [(7, .int (-2)), (6, .int 0), (0, .ref (ro_ad (kG K) 207)), (2, .int v2), (3, .int v3), (5, .int q17)]) hK dX12_sung_260 (by decide) rfl ?_
            refine ro_sipush (v := 4095) hK dX12_sung_262 (by decide) ?_
            refine ro_istore (L' := [(8, .int 4095), (7, .int (-2)), (6, .int 0), (0, .ref (ro_ad (kG K) 207)), (2, .int v2), (3, .int v3), (5, .int q17)]) hK dX12_sung_265 (by decide) rfl ?_
            refine ro_iconst (v := 0) hK dX12_sung_267 (by decide) ?_
            refine ro_istore (L' := [(9, .int 0), (8, .int 4095), (7, .int (-2)), (6, .int 0), (0, .ref (ro_ad (kG K) 207)), (2, .int v2), (3, .int v3), (5, .int q17)]) hK dX12_sung_268 (by decide) rfl ?_
            obtain ⟨q60, e61, hf⟩ := ro_bd hf
            refine ro_sub (L' := [(0, .ref (ro_ad (kG K) 207)), (2, .int v2), (3, .int v3), (5, .int q17), (6, .int 0), (7, .int (-2)), (8, .int 4095), (9, .int 0)]) [4, 5, 6, 7, 3, 2, 1, 0] rfl ?_
            refine lp_X12_sung_270 hK hR  e61 ?_
            show ro_X K 327 [(3, .int v3), (6, .int q60.1), (7, .int q60.2.1), (8, .int q60.2.2)] [] e50
            refine ro_iload_n hK 0 rfl dX12_sung_327 rfl ?_
            refine ro_if_ne hK 336 dX12_sung_328 (by decide) (fun c62 => ?_) (fun c62 => ?_)
            · have hf := ro_ie hf c62
              refine ro_iload hK 1 rfl dX12_sung_336 ?_
              refine ro_if_ne hK 346 dX12_sung_338 (by decide) (fun c63 => ?_) (fun c63 => ?_)
              · have hf := ro_ie hf c63
                refine ro_iload_n hK 0 rfl dX12_sung_346 rfl ?_
                refine ro_iconst (v := 1) hK dX12_sung_347 (by decide) ?_
                refine ro_icmp_ne hK 356 dX12_sung_348 (by decide) (fun c64 => ?_) (fun c64 => ?_)
                · have hf := ro_ie hf c64
                  refine ro_iload hK 3 rfl dX12_sung_356 ?_
                  obtain rfl := Option.some.inj hf
                  exact ro_iret hK hR dX12_sung_358 hq
                · have hf := ro_it hf c64
                  refine ro_iload hK 2 rfl dX12_sung_351 ?_
                  refine ro_goto hK 358 dX12_sung_353 (by decide) ?_
                  obtain rfl := Option.some.inj hf
                  exact ro_iret hK hR dX12_sung_358 hq
              · have hf := ro_it hf c63
                refine ro_bipush (v := (-2)) hK dX12_sung_341 (by decide) ?_
                refine ro_goto hK 358 dX12_sung_343 (by decide) ?_
                obtain rfl := Option.some.inj hf
                exact ro_iret hK hR dX12_sung_358 hq
            · have hf := ro_it hf c62
              refine ro_iload hK 1 rfl dX12_sung_331 ?_
              refine ro_goto hK 358 dX12_sung_333 (by decide) ?_
              obtain rfl := Option.some.inj hf
              exact ro_iret hK hR dX12_sung_358 hq
        · have hf := ro_ie hf c10
          refine ro_iconst (v := (-1)) hK dX12_sung_43 (by decide) ?_
          obtain rfl := Option.some.inj hf
          exact ro_iret hK hR dX12_sung_44 hq
theorem mt_X12_sung (l : Launch) (G : ro_G) {v1 : Int32} {v2 : Int32} {v3 : Int32}  {μ : ro_Mem} {out : Int32 × ro_Mem} (hf : fn_X12_sung v1 v2 v3 μ = some out) : ro_MX l G yX12_sung cX12_sung 10 (some .int) 5 [.ref (ro_ad G 207), .int v1, .int v2, .int v3] μ (some (.int out.1)) out.2 := by
  refine ro_MX.of (by decide +kernel) (Nat.le_of_ble_eq_true rfl) (fun K hG hl hq hK hR => ?_)
  subst hG
  exact be_X12_sung hK hR  hf hq
-- ===== X12_weighed =====
theorem dX12_weighed_0 : decode cX12_weighed 0 = .ok (.iconst 0, 1) := by decide +kernel
theorem dX12_weighed_1 : decode cX12_weighed 1 = .ok (.istore_n 3, 1) := by decide +kernel
theorem dX12_weighed_2 : decode cX12_weighed 2 = .ok (.iconst 0, 1) := by decide +kernel
theorem dX12_weighed_3 : decode cX12_weighed 3 = .ok (.istore 4, 2) := by decide +kernel
theorem dX12_weighed_5 : decode cX12_weighed 5 = .ok (.iload 4, 2) := by decide +kernel
theorem dX12_weighed_7 : decode cX12_weighed 7 = .ok (.iconst 4, 1) := by decide +kernel
theorem dX12_weighed_8 : decode cX12_weighed 8 = .ok (.if_icmp .ge 106, 3) := by decide +kernel
theorem dX12_weighed_11 : decode cX12_weighed 11 = .ok (.iconst 0, 1) := by decide +kernel
theorem dX12_weighed_12 : decode cX12_weighed 12 = .ok (.istore 5, 2) := by decide +kernel
theorem dX12_weighed_14 : decode cX12_weighed 14 = .ok (.iload 5, 2) := by decide +kernel
theorem dX12_weighed_16 : decode cX12_weighed 16 = .ok (.bipush 10, 2) := by decide +kernel
theorem dX12_weighed_18 : decode cX12_weighed 18 = .ok (.if_icmp .ge 90, 3) := by decide +kernel
theorem dX12_weighed_21 : decode cX12_weighed 21 = .ok (.aload_n 0, 1) := by decide +kernel
theorem dX12_weighed_22 : decode cX12_weighed 22 = .ok (.iload 5, 2) := by decide +kernel
theorem dX12_weighed_24 : decode cX12_weighed 24 = .ok (.invokevirtual 235, 3) := by decide +kernel
theorem dX12_weighed_27 : decode cX12_weighed 27 = .ok (.ifCond .eq 19, 3) := by decide +kernel
theorem dX12_weighed_30 : decode cX12_weighed 30 = .ok (.aload_n 0, 1) := by decide +kernel
theorem dX12_weighed_31 : decode cX12_weighed 31 = .ok (.getfield 35, 3) := by decide +kernel
theorem dX12_weighed_34 : decode cX12_weighed 34 = .ok (.bipush 10, 2) := by decide +kernel
theorem dX12_weighed_36 : decode cX12_weighed 36 = .ok (.iload 4, 2) := by decide +kernel
theorem dX12_weighed_38 : decode cX12_weighed 38 = .ok (.imul, 1) := by decide +kernel
theorem dX12_weighed_39 : decode cX12_weighed 39 = .ok (.iload 5, 2) := by decide +kernel
theorem dX12_weighed_41 : decode cX12_weighed 41 = .ok (.iadd, 1) := by decide +kernel
theorem dX12_weighed_42 : decode cX12_weighed 42 = .ok (.iaload, 1) := by decide +kernel
theorem dX12_weighed_43 : decode cX12_weighed 43 = .ok (.goto 6, 3) := by decide +kernel
theorem dX12_weighed_46 : decode cX12_weighed 46 = .ok (.sipush 255, 3) := by decide +kernel
theorem dX12_weighed_49 : decode cX12_weighed 49 = .ok (.istore 6, 2) := by decide +kernel
theorem dX12_weighed_51 : decode cX12_weighed 51 = .ok (.iload 6, 2) := by decide +kernel
theorem dX12_weighed_53 : decode cX12_weighed 53 = .ok (.sipush 255, 3) := by decide +kernel
theorem dX12_weighed_56 : decode cX12_weighed 56 = .ok (.if_icmp .eq 46, 3) := by decide +kernel
theorem dX12_weighed_59 : decode cX12_weighed 59 = .ok (.iload_n 3, 1) := by decide +kernel
theorem dX12_weighed_60 : decode cX12_weighed 60 = .ok (.aload_n 0, 1) := by decide +kernel
theorem dX12_weighed_61 : decode cX12_weighed 61 = .ok (.getfield 32, 3) := by decide +kernel
theorem dX12_weighed_64 : decode cX12_weighed 64 = .ok (.iload 5, 2) := by decide +kernel
theorem dX12_weighed_66 : decode cX12_weighed 66 = .ok (.iaload, 1) := by decide +kernel
theorem dX12_weighed_67 : decode cX12_weighed 67 = .ok (.iconst 0, 1) := by decide +kernel
theorem dX12_weighed_68 : decode cX12_weighed 68 = .ok (.aload_n 0, 1) := by decide +kernel
theorem dX12_weighed_69 : decode cX12_weighed 69 = .ok (.iload 4, 2) := by decide +kernel
theorem dX12_weighed_71 : decode cX12_weighed 71 = .ok (.iload 6, 2) := by decide +kernel
theorem dX12_weighed_73 : decode cX12_weighed 73 = .ok (.invokevirtual 417, 3) := by decide +kernel
theorem dX12_weighed_76 : decode cX12_weighed 76 = .ok (.aload_n 0, 1) := by decide +kernel
theorem dX12_weighed_77 : decode cX12_weighed 77 = .ok (.getfield 13, 3) := by decide +kernel
theorem dX12_weighed_80 : decode cX12_weighed 80 = .ok (.iload 6, 2) := by decide +kernel
theorem dX12_weighed_82 : decode cX12_weighed 82 = .ok (.iaload, 1) := by decide +kernel
theorem dX12_weighed_83 : decode cX12_weighed 83 = .ok (.isub, 1) := by decide +kernel
theorem dX12_weighed_84 : decode cX12_weighed 84 = .ok (.iload 6, 2) := by decide +kernel
theorem dX12_weighed_86 : decode cX12_weighed 86 = .ok (.iload_n 1, 1) := by decide +kernel
theorem dX12_weighed_87 : decode cX12_weighed 87 = .ok (.if_icmp .ne 7, 3) := by decide +kernel
theorem dX12_weighed_90 : decode cX12_weighed 90 = .ok (.iload_n 2, 1) := by decide +kernel
theorem dX12_weighed_91 : decode cX12_weighed 91 = .ok (.goto 4, 3) := by decide +kernel
theorem dX12_weighed_94 : decode cX12_weighed 94 = .ok (.iconst 0, 1) := by decide +kernel
theorem dX12_weighed_95 : decode cX12_weighed 95 = .ok (.isub, 1) := by decide +kernel
theorem dX12_weighed_96 : decode cX12_weighed 96 = .ok (.invokestatic 420, 3) := by decide +kernel
theorem dX12_weighed_99 : decode cX12_weighed 99 = .ok (.imul, 1) := by decide +kernel
theorem dX12_weighed_100 : decode cX12_weighed 100 = .ok (.iadd, 1) := by decide +kernel
theorem dX12_weighed_101 : decode cX12_weighed 101 = .ok (.istore_n 3, 1) := by decide +kernel
theorem dX12_weighed_102 : decode cX12_weighed 102 = .ok (.iinc 5 1, 3) := by decide +kernel
theorem dX12_weighed_105 : decode cX12_weighed 105 = .ok (.goto (-91), 3) := by decide +kernel
theorem dX12_weighed_108 : decode cX12_weighed 108 = .ok (.iinc 4 1, 3) := by decide +kernel
theorem dX12_weighed_111 : decode cX12_weighed 111 = .ok (.goto (-106), 3) := by decide +kernel
theorem dX12_weighed_114 : decode cX12_weighed 114 = .ok (.iload_n 3, 1) := by decide +kernel
theorem dX12_weighed_115 : decode cX12_weighed 115 = .ok (.ireturn, 1) := by decide +kernel
def ok_X12_weighed_5 (K : ro_K) (v1 : Int32) (v2 : Int32) (μ : ro_Mem) : Int32 → Prop := fun e => ro_X K 114 [(3, .int e)] [] μ
def ok_X12_weighed_14 (K : ro_K) (v1 : Int32) (v2 : Int32) (v4 : Int32) (μ : ro_Mem) : Int32 → Prop := fun e => ro_X K 108 [(0, .ref (ro_ad (kG K) 207)), (1, .int v1), (2, .int v2), (3, .int e), (4, .int v4)] [] μ
def fj_X12_weighed_95 (rec : (Int32 × Int32) → Option Int32) (v1 : Int32) (v2 : Int32) (v4 : Int32) (v5 : Int32) (t0 : Int32) (t1 : Int32) (t2 : Int32) (t3 : Int32) (t4 : Int32) (μ : ro_Mem) : Option Int32 :=
  (fn_X12_max t2 (t3 - t4)).bind fun q12 =>
  ro_lt (t0 + (t1 * q12)) fun z14 =>
  rec (z14, v5 + 1)
theorem bj_X12_weighed_95 {K : ro_K} (hK : ro_C K RX12 cX12_weighed 7 4) (hR : ro_R K (some .int)) {v1 : Int32} {v2 : Int32} {v4 : Int32} {v5 : Int32} {t0 : Int32} {t1 : Int32} {t2 : Int32} {t3 : Int32} {t4 : Int32}  {rec : (Int32 × Int32) → Option Int32} {μ : ro_Mem} (hrec : ∀ (s : Int32 × Int32) (q : Int32), rec s = some q → ok_X12_weighed_14 K v1 v2 v4 μ q → ro_X K 14 [(0, .ref (ro_ad (kG K) 207)), (1, .int v1), (2, .int v2), (3, .int s.1), (4, .int v4), (5, .int s.2)] [] μ) {out : Int32} (hf : fj_X12_weighed_95 rec v1 v2 v4 v5 t0 t1 t2 t3 t4 μ = some out) (hq : ok_X12_weighed_14 K v1 v2 v4 μ out) : ro_X K 95 [(0, .ref (ro_ad (kG K) 207)), (1, .int v1), (2, .int v2), (4, .int v4), (5, .int v5)] [.int t4, .int t3, .int t2, .int t1, .int t0] μ := by
  unfold fj_X12_weighed_95 at hf
  refine ro_isub hK dX12_weighed_95 ?_
  obtain ⟨q12, e13, hf⟩ := ro_bd hf
  refine ro_callsi hK [.int t2, .int (t3 - t4)] ml_X12_420 ms_X12_max (mt_X12_max (kl K) (kG K)  e13) (by decide) rfl rfl (Nat.le_of_ble_eq_true rfl) dX12_weighed_96 ?_
  refine ro_imul hK dX12_weighed_99 ?_
  refine ro_iadd hK dX12_weighed_100 ?_
  obtain ⟨z14, e15, hf⟩ := ro_ld hf
  refine ro_iv e15 ?_
  refine ro_istore_n (L' := [(3, .int z14), (0, .ref (ro_ad (kG K) 207)), (1, .int v1), (2, .int v2), (4, .int v4), (5, .int v5)]) hK dX12_weighed_101 rfl (by decide) rfl ?_
  refine ro_iinc (v := v5 + 1) (L' := [(5, .int (v5 + 1)), (3, .int z14), (0, .ref (ro_ad (kG K) 207)), (1, .int v1), (2, .int v2), (4, .int v4)]) hK 5 rfl dX12_weighed_102 rfl (by decide) rfl ?_
  refine ro_goto hK 14 dX12_weighed_105 (by decide) ?_
  refine ro_sub (L' := [(0, .ref (ro_ad (kG K) 207)), (1, .int v1), (2, .int v2), (3, .int z14), (4, .int v4), (5, .int (v5 + 1))]) [2, 3, 4, 1, 5, 0] rfl ?_
  exact hrec (z14, v5 + 1) _ hf hq
def fj_X12_weighed_49 (rec : (Int32 × Int32) → Option Int32) (v1 : Int32) (v2 : Int32) (v3 : Int32) (v4 : Int32) (v5 : Int32) (t0 : Int32) (μ : ro_Mem) : Option Int32 :=
  if t0 = 255 then
  (rec (v3, v5 + 1))
  else
  (if ro_in v5 10 then
  ((fn_X12_allOn v4 t0 μ).bind fun q8 =>
  if ro_in t0 96 then
  (if t0 = v1 then
  (fj_X12_weighed_95 rec v1 v2 v4 v5 v3 (μ 215 v5.toNatClampNeg) 0 (q8 - (μ 209 t0.toNatClampNeg)) v2 μ)
  else
  (fj_X12_weighed_95 rec v1 v2 v4 v5 v3 (μ 215 v5.toNatClampNeg) 0 (q8 - (μ 209 t0.toNatClampNeg)) 0 μ)) else none) else none)
theorem bj_X12_weighed_49 {K : ro_K} (hK : ro_C K RX12 cX12_weighed 7 4) (hR : ro_R K (some .int)) {v1 : Int32} {v2 : Int32} {v3 : Int32} {v4 : Int32} {v5 : Int32} {t0 : Int32}  {rec : (Int32 × Int32) → Option Int32} {μ : ro_Mem} (hrec : ∀ (s : Int32 × Int32) (q : Int32), rec s = some q → ok_X12_weighed_14 K v1 v2 v4 μ q → ro_X K 14 [(0, .ref (ro_ad (kG K) 207)), (1, .int v1), (2, .int v2), (3, .int s.1), (4, .int v4), (5, .int s.2)] [] μ) {out : Int32} (hf : fj_X12_weighed_49 rec v1 v2 v3 v4 v5 t0 μ = some out) (hq : ok_X12_weighed_14 K v1 v2 v4 μ out) : ro_X K 49 [(0, .ref (ro_ad (kG K) 207)), (1, .int v1), (2, .int v2), (3, .int v3), (4, .int v4), (5, .int v5)] [.int t0] μ := by
  unfold fj_X12_weighed_49 at hf
  refine ro_istore (L' := [(6, .int t0), (0, .ref (ro_ad (kG K) 207)), (1, .int v1), (2, .int v2), (3, .int v3), (4, .int v4), (5, .int v5)]) hK dX12_weighed_49 (by decide) rfl ?_
  refine ro_iload hK 0 rfl dX12_weighed_51 ?_
  refine ro_sipush (v := 255) hK dX12_weighed_53 (by decide) ?_
  refine ro_icmp_eq hK 102 dX12_weighed_56 (by decide) (fun c6 => ?_) (fun c6 => ?_)
  · have hf := ro_it hf c6
    refine ro_iinc (v := v5 + 1) (L' := [(5, .int (v5 + 1)), (6, .int t0), (0, .ref (ro_ad (kG K) 207)), (1, .int v1), (2, .int v2), (3, .int v3), (4, .int v4)]) hK 6 rfl dX12_weighed_102 rfl (by decide) rfl ?_
    refine ro_goto hK 14 dX12_weighed_105 (by decide) ?_
    refine ro_sub (L' := [(0, .ref (ro_ad (kG K) 207)), (1, .int v1), (2, .int v2), (3, .int v3), (4, .int v4), (5, .int (v5 + 1))]) [2, 3, 4, 5, 6, 0] rfl ?_
    exact hrec (v3, v5 + 1) _ hf hq
  · have hf := ro_ie hf c6
    refine ro_iload_n hK 4 rfl dX12_weighed_59 rfl ?_
    refine ro_aload_n hK 1 rfl dX12_weighed_60 rfl ?_
    refine ro_getr hK fl_X12_32 sh_207 dX12_weighed_61 ?_
    refine ro_iload hK 6 rfl dX12_weighed_64 ?_
    obtain ⟨g7, hf⟩ := ro_gd hf
    refine ro_iald hK sh_215 g7 dX12_weighed_66 ?_
    refine ro_iconst (v := 0) hK dX12_weighed_67 (by decide) ?_
    refine ro_aload_n hK 1 rfl dX12_weighed_68 rfl ?_
    refine ro_iload hK 5 rfl dX12_weighed_69 ?_
    refine ro_iload hK 0 rfl dX12_weighed_71 ?_
    obtain ⟨q8, e9, hf⟩ := ro_bd hf
    refine ro_callvi hK [.int v4, .int t0] ml_X12_417 mv_X12_allOn (mt_X12_allOn (kl K) (kG K)  e9) sh_207 ⟨_, rfl, rfl⟩ (by decide) rfl rfl (Nat.le_of_ble_eq_true rfl) dX12_weighed_73 ?_
    refine ro_aload_n hK 1 rfl dX12_weighed_76 rfl ?_
    refine ro_getr hK fl_X12_13 sh_207 dX12_weighed_77 ?_
    refine ro_iload hK 0 rfl dX12_weighed_80 ?_
    obtain ⟨g10, hf⟩ := ro_gd hf
    refine ro_iald hK sh_209 g10 dX12_weighed_82 ?_
    refine ro_isub hK dX12_weighed_83 ?_
    refine ro_iload hK 0 rfl dX12_weighed_84 ?_
    refine ro_iload_n hK 2 rfl dX12_weighed_86 rfl ?_
    refine ro_icmp_ne hK 94 dX12_weighed_87 (by decide) (fun c11 => ?_) (fun c11 => ?_)
    · have hf := ro_ie hf c11
      refine ro_iconst (v := 0) hK dX12_weighed_94 (by decide) ?_
      refine ro_sub (L' := [(0, .ref (ro_ad (kG K) 207)), (1, .int v1), (2, .int v2), (4, .int v4), (5, .int v5)]) [1, 2, 3, 5, 6] rfl ?_
      exact bj_X12_weighed_95 hK hR  hrec hf hq
    · have hf := ro_it hf c11
      refine ro_iload_n hK 3 rfl dX12_weighed_90 rfl ?_
      refine ro_goto hK 95 dX12_weighed_91 (by decide) ?_
      refine ro_sub (L' := [(0, .ref (ro_ad (kG K) 207)), (1, .int v1), (2, .int v2), (4, .int v4), (5, .int v5)]) [1, 2, 3, 5, 6] rfl ?_
      exact bj_X12_weighed_95 hK hR  hrec hf hq
def fb_X12_weighed_14 (v1 : Int32) (v2 : Int32) (v4 : Int32) (μ : ro_Mem) (rec : (Int32 × Int32) → Option Int32) (v3 : Int32) (v5 : Int32) : Option Int32 :=
  if 10 ≤ v5 then
  (some v3)
  else
  ((fn_X12_isGuest v5 μ).bind fun q3 =>
  if q3 = 0 then
  (fj_X12_weighed_49 rec v1 v2 v3 v4 v5 255 μ)
  else
  (if ro_in ((10 * v4) + v5) 40 then
  (fj_X12_weighed_49 rec v1 v2 v3 v4 v5 (μ 216 ((10 * v4) + v5).toNatClampNeg) μ) else none))
theorem bb_X12_weighed_14 {K : ro_K} (hK : ro_C K RX12 cX12_weighed 7 4) (hR : ro_R K (some .int)) {v1 : Int32} {v2 : Int32} {v4 : Int32}  {μ : ro_Mem} {rec : (Int32 × Int32) → Option Int32} {v3 : Int32} {v5 : Int32} {q : Int32} (hrec : ∀ (s : Int32 × Int32) (q : Int32), rec s = some q → ok_X12_weighed_14 K v1 v2 v4 μ q → ro_X K 14 [(0, .ref (ro_ad (kG K) 207)), (1, .int v1), (2, .int v2), (3, .int s.1), (4, .int v4), (5, .int s.2)] [] μ) (hf : fb_X12_weighed_14 v1 v2 v4 μ rec v3 v5 = some q) (hq : ok_X12_weighed_14 K v1 v2 v4 μ q) : ro_X K 14 [(0, .ref (ro_ad (kG K) 207)), (1, .int v1), (2, .int v2), (3, .int v3), (4, .int v4), (5, .int v5)] [] μ := by
  unfold fb_X12_weighed_14 at hf
  refine ro_iload hK 5 rfl dX12_weighed_14 ?_
  refine ro_bipush (v := 10) hK dX12_weighed_16 (by decide) ?_
  refine ro_icmp_ge hK 108 dX12_weighed_18 (by decide) (fun c2 => ?_) (fun c2 => ?_)
  · have hf := ro_it hf c2
    refine ro_sub (L' := [(0, .ref (ro_ad (kG K) 207)), (1, .int v1), (2, .int v2), (3, .int v3), (4, .int v4)]) [0, 1, 2, 3, 4] rfl ?_
    obtain rfl := Option.some.inj hf
    exact hq
  · have hf := ro_ie hf c2
    refine ro_aload_n hK 0 rfl dX12_weighed_21 rfl ?_
    refine ro_iload hK 5 rfl dX12_weighed_22 ?_
    obtain ⟨q3, e4, hf⟩ := ro_bd hf
    refine ro_callvi hK [.int v5] ml_X12_235 mv_X12_isGuest (mt_X12_isGuest (kl K) (kG K)  e4) sh_207 ⟨_, rfl, rfl⟩ (by decide) rfl rfl (Nat.le_of_ble_eq_true rfl) dX12_weighed_24 ?_
    refine ro_if_eq hK 46 dX12_weighed_27 (by decide) (fun c5 => ?_) (fun c5 => ?_)
    · have hf := ro_it hf c5
      refine ro_sipush (v := 255) hK dX12_weighed_46 (by decide) ?_
      exact bj_X12_weighed_49 hK hR  hrec hf hq
    · have hf := ro_ie hf c5
      refine ro_aload_n hK 0 rfl dX12_weighed_30 rfl ?_
      refine ro_getr hK fl_X12_35 sh_207 dX12_weighed_31 ?_
      refine ro_bipush (v := 10) hK dX12_weighed_34 (by decide) ?_
      refine ro_iload hK 4 rfl dX12_weighed_36 ?_
      refine ro_imul hK dX12_weighed_38 ?_
      refine ro_iload hK 5 rfl dX12_weighed_39 ?_
      refine ro_iadd hK dX12_weighed_41 ?_
      obtain ⟨g16, hf⟩ := ro_gd hf
      refine ro_iald hK sh_216 g16 dX12_weighed_42 ?_
      refine ro_goto hK 49 dX12_weighed_43 (by decide) ?_
      exact bj_X12_weighed_49 hK hR  hrec hf hq
def fl_X12_weighed_14 (v1 : Int32) (v2 : Int32) (v4 : Int32) (μ : ro_Mem) : (Int32 × Int32) → Option Int32 :=
  ro_loop (fun rec s => fb_X12_weighed_14 v1 v2 v4 μ rec s.1 s.2) ro_FU
theorem lp_X12_weighed_14 {K : ro_K} (hK : ro_C K RX12 cX12_weighed 7 4) (hR : ro_R K (some .int)) {v1 : Int32} {v2 : Int32} {v4 : Int32}  {μ : ro_Mem} {s : Int32 × Int32} {q : Int32} (hf : fl_X12_weighed_14 v1 v2 v4 μ s = some q) (hq : ok_X12_weighed_14 K v1 v2 v4 μ q) : ro_X K 14 [(0, .ref (ro_ad (kG K) 207)), (1, .int v1), (2, .int v2), (3, .int s.1), (4, .int v4), (5, .int s.2)] [] μ :=
  ro_loopX (b := fun rec s => fb_X12_weighed_14 v1 v2 v4 μ rec s.1 s.2) (X := fun s => ro_X K 14 [(0, .ref (ro_ad (kG K) 207)), (1, .int v1), (2, .int v2), (3, .int s.1), (4, .int v4), (5, .int s.2)] [] μ) (OK := ok_X12_weighed_14 K v1 v2 v4 μ) (fun rec s q hrec hb ho => bb_X12_weighed_14 hK hR  hrec hb ho) ro_FU s q hf hq
def fb_X12_weighed_5 (v1 : Int32) (v2 : Int32) (μ : ro_Mem) (rec : (Int32 × Int32) → Option Int32) (v3 : Int32) (v4 : Int32) : Option Int32 :=
  if 4 ≤ v4 then
  (some v3)
  else
  ((fl_X12_weighed_14 v1 v2 v4 μ (v3, 0)).bind fun q17 =>
  rec (q17, v4 + 1))
theorem bb_X12_weighed_5 {K : ro_K} (hK : ro_C K RX12 cX12_weighed 7 4) (hR : ro_R K (some .int)) {v1 : Int32} {v2 : Int32}  {μ : ro_Mem} {rec : (Int32 × Int32) → Option Int32} {v3 : Int32} {v4 : Int32} {q : Int32} (hrec : ∀ (s : Int32 × Int32) (q : Int32), rec s = some q → ok_X12_weighed_5 K v1 v2 μ q → ro_X K 5 [(0, .ref (ro_ad (kG K) 207)), (1, .int v1), (2, .int v2), (3, .int s.1), (4, .int s.2)] [] μ) (hf : fb_X12_weighed_5 v1 v2 μ rec v3 v4 = some q) (hq : ok_X12_weighed_5 K v1 v2 μ q) : ro_X K 5 [(0, .ref (ro_ad (kG K) 207)), (1, .int v1), (2, .int v2), (3, .int v3), (4, .int v4)] [] μ := by
  unfold fb_X12_weighed_5 at hf
  refine ro_iload hK 4 rfl dX12_weighed_5 ?_
  refine ro_iconst (v := 4) hK dX12_weighed_7 (by decide) ?_
  refine ro_icmp_ge hK 114 dX12_weighed_8 (by decide) (fun c1 => ?_) (fun c1 => ?_)
  · have hf := ro_it hf c1
    refine ro_sub (L' := [(3, .int v3)]) [3] rfl ?_
    obtain rfl := Option.some.inj hf
    exact hq
  · have hf := ro_ie hf c1
    refine ro_iconst (v := 0) hK dX12_weighed_11 (by decide) ?_
    refine ro_istore (L' := [(5, .int 0), (0, .ref (ro_ad (kG K) 207)), (1, .int v1), (2, .int v2), (3, .int v3), (4, .int v4)]) hK dX12_weighed_12 (by decide) rfl ?_
    obtain ⟨q17, e18, hf⟩ := ro_bd hf
    refine ro_sub (L' := [(0, .ref (ro_ad (kG K) 207)), (1, .int v1), (2, .int v2), (3, .int v3), (4, .int v4), (5, .int 0)]) [1, 2, 3, 4, 5, 0] rfl ?_
    refine lp_X12_weighed_14 hK hR  e18 ?_
    show ro_X K 108 [(0, .ref (ro_ad (kG K) 207)), (1, .int v1), (2, .int v2), (3, .int q17), (4, .int v4)] [] μ
    refine ro_iinc (v := v4 + 1) (L' := [(4, .int (v4 + 1)), (0, .ref (ro_ad (kG K) 207)), (1, .int v1), (2, .int v2), (3, .int q17)]) hK 4 rfl dX12_weighed_108 rfl (by decide) rfl ?_
    refine ro_goto hK 5 dX12_weighed_111 (by decide) ?_
    refine ro_sub (L' := [(0, .ref (ro_ad (kG K) 207)), (1, .int v1), (2, .int v2), (3, .int q17), (4, .int (v4 + 1))]) [1, 2, 3, 4, 0] rfl ?_
    exact hrec (q17, v4 + 1) _ hf hq
def fl_X12_weighed_5 (v1 : Int32) (v2 : Int32) (μ : ro_Mem) : (Int32 × Int32) → Option Int32 :=
  ro_loop (fun rec s => fb_X12_weighed_5 v1 v2 μ rec s.1 s.2) ro_FU
theorem lp_X12_weighed_5 {K : ro_K} (hK : ro_C K RX12 cX12_weighed 7 4) (hR : ro_R K (some .int)) {v1 : Int32} {v2 : Int32}  {μ : ro_Mem} {s : Int32 × Int32} {q : Int32} (hf : fl_X12_weighed_5 v1 v2 μ s = some q) (hq : ok_X12_weighed_5 K v1 v2 μ q) : ro_X K 5 [(0, .ref (ro_ad (kG K) 207)), (1, .int v1), (2, .int v2), (3, .int s.1), (4, .int s.2)] [] μ :=
  ro_loopX (b := fun rec s => fb_X12_weighed_5 v1 v2 μ rec s.1 s.2) (X := fun s => ro_X K 5 [(0, .ref (ro_ad (kG K) 207)), (1, .int v1), (2, .int v2), (3, .int s.1), (4, .int s.2)] [] μ) (OK := ok_X12_weighed_5 K v1 v2 μ) (fun rec s q hrec hb ho => bb_X12_weighed_5 hK hR  hrec hb ho) ro_FU s q hf hq
def fn_X12_weighed (v1 : Int32) (v2 : Int32) (μ : ro_Mem) : Option Int32 :=
  (fl_X12_weighed_5 v1 v2 μ (0, 0)).bind fun q19 =>
  some q19
theorem be_X12_weighed {K : ro_K} (hK : ro_C K RX12 cX12_weighed 7 4) (hR : ro_R K (some .int)) {v1 : Int32} {v2 : Int32}  {μ : ro_Mem} {out : Int32} (hf : fn_X12_weighed v1 v2 μ = some out) (hq : kQ K (some (.int out)) μ) : ro_X K 0 [(0, .ref (ro_ad (kG K) 207)), (1, .int v1), (2, .int v2)] [] μ := by
  unfold fn_X12_weighed at hf
  refine ro_iconst (v := 0) hK dX12_weighed_0 (by decide) ?_
  refine ro_istore_n (L' := [(3, .int 0), (0, .ref (ro_ad (kG K) 207)), (1, .int v1), (2, .int v2)]) hK dX12_weighed_1 rfl (by decide) rfl ?_
  refine ro_iconst (v := 0) hK dX12_weighed_2 (by decide) ?_
  refine ro_istore (L' := [(4, .int 0), (3, .int 0), (0, .ref (ro_ad (kG K) 207)), (1, .int v1), (2, .int v2)]) hK dX12_weighed_3 (by decide) rfl ?_
  obtain ⟨q19, e20, hf⟩ := ro_bd hf
  refine ro_sub (L' := [(0, .ref (ro_ad (kG K) 207)), (1, .int v1), (2, .int v2), (3, .int 0), (4, .int 0)]) [2, 3, 4, 1, 0] rfl ?_
  refine lp_X12_weighed_5 hK hR  e20 ?_
  show ro_X K 114 [(3, .int q19)] [] μ
  refine ro_iload_n hK 0 rfl dX12_weighed_114 rfl ?_
  obtain rfl := Option.some.inj hf
  exact ro_iret hK hR dX12_weighed_115 hq
theorem mt_X12_weighed (l : Launch) (G : ro_G) {v1 : Int32} {v2 : Int32}  {μ : ro_Mem} {out : Int32} (hf : fn_X12_weighed v1 v2 μ = some out) : ro_MX l G yX12_weighed cX12_weighed 7 (some .int) 4 [.ref (ro_ad G 207), .int v1, .int v2] μ (some (.int out)) μ := by
  refine ro_MX.of (by decide +kernel) (Nat.le_of_ble_eq_true rfl) (fun K hG hl hq hK hR => ?_)
  subst hG
  exact be_X12_weighed hK hR  hf hq
-- ===== X12_sponge =====
theorem dX12_sponge_0 : decode cX12_sponge 0 = .ok (.iload_n 1, 1) := by decide +kernel
theorem dX12_sponge_1 : decode cX12_sponge 1 = .ok (.iconst 1, 1) := by decide +kernel
theorem dX12_sponge_2 : decode cX12_sponge 2 = .ok (.bipush 99, 2) := by decide +kernel
theorem dX12_sponge_4 : decode cX12_sponge 4 = .ok (.invokestatic 215, 3) := by decide +kernel
theorem dX12_sponge_7 : decode cX12_sponge 7 = .ok (.ifCond .eq 12, 3) := by decide +kernel
theorem dX12_sponge_10 : decode cX12_sponge 10 = .ok (.iload_n 2, 1) := by decide +kernel
theorem dX12_sponge_11 : decode cX12_sponge 11 = .ok (.iconst 0, 1) := by decide +kernel
theorem dX12_sponge_12 : decode cX12_sponge 12 = .ok (.iconst 1, 1) := by decide +kernel
theorem dX12_sponge_13 : decode cX12_sponge 13 = .ok (.invokestatic 215, 3) := by decide +kernel
theorem dX12_sponge_16 : decode cX12_sponge 16 = .ok (.ifCond .ne 5, 3) := by decide +kernel
theorem dX12_sponge_19 : decode cX12_sponge 19 = .ok (.iconst (-1), 1) := by decide +kernel
theorem dX12_sponge_20 : decode cX12_sponge 20 = .ok (.ireturn, 1) := by decide +kernel
theorem dX12_sponge_21 : decode cX12_sponge 21 = .ok (.aload_n 0, 1) := by decide +kernel
theorem dX12_sponge_22 : decode cX12_sponge 22 = .ok (.invokevirtual 426, 3) := by decide +kernel
theorem dX12_sponge_25 : decode cX12_sponge 25 = .ok (.aload_n 0, 1) := by decide +kernel
theorem dX12_sponge_26 : decode cX12_sponge 26 = .ok (.iconst (-1), 1) := by decide +kernel
theorem dX12_sponge_27 : decode cX12_sponge 27 = .ok (.iconst 0, 1) := by decide +kernel
theorem dX12_sponge_28 : decode cX12_sponge 28 = .ok (.invokevirtual 493, 3) := by decide +kernel
theorem dX12_sponge_31 : decode cX12_sponge 31 = .ok (.istore_n 3, 1) := by decide +kernel
theorem dX12_sponge_32 : decode cX12_sponge 32 = .ok (.iconst 0, 1) := by decide +kernel
theorem dX12_sponge_33 : decode cX12_sponge 33 = .ok (.istore 4, 2) := by decide +kernel
theorem dX12_sponge_35 : decode cX12_sponge 35 = .ok (.ldc_w 456, 3) := by decide +kernel
theorem dX12_sponge_38 : decode cX12_sponge 38 = .ok (.istore 5, 2) := by decide +kernel
theorem dX12_sponge_40 : decode cX12_sponge 40 = .ok (.iconst 0, 1) := by decide +kernel
theorem dX12_sponge_41 : decode cX12_sponge 41 = .ok (.istore 6, 2) := by decide +kernel
theorem dX12_sponge_43 : decode cX12_sponge 43 = .ok (.iload 6, 2) := by decide +kernel
theorem dX12_sponge_45 : decode cX12_sponge 45 = .ok (.bipush 96, 2) := by decide +kernel
theorem dX12_sponge_47 : decode cX12_sponge 47 = .ok (.if_icmp .ge 87, 3) := by decide +kernel
theorem dX12_sponge_50 : decode cX12_sponge 50 = .ok (.iconst 0, 1) := by decide +kernel
theorem dX12_sponge_51 : decode cX12_sponge 51 = .ok (.istore 7, 2) := by decide +kernel
theorem dX12_sponge_53 : decode cX12_sponge 53 = .ok (.iconst 0, 1) := by decide +kernel
theorem dX12_sponge_54 : decode cX12_sponge 54 = .ok (.istore 8, 2) := by decide +kernel
theorem dX12_sponge_56 : decode cX12_sponge 56 = .ok (.iload 8, 2) := by decide +kernel
theorem dX12_sponge_58 : decode cX12_sponge 58 = .ok (.iconst 4, 1) := by decide +kernel
theorem dX12_sponge_59 : decode cX12_sponge 59 = .ok (.if_icmp .ge 33, 3) := by decide +kernel
theorem dX12_sponge_62 : decode cX12_sponge 62 = .ok (.iload 7, 2) := by decide +kernel
theorem dX12_sponge_64 : decode cX12_sponge 64 = .ok (.ifCond .ne 15, 3) := by decide +kernel
theorem dX12_sponge_67 : decode cX12_sponge 67 = .ok (.aload_n 0, 1) := by decide +kernel
theorem dX12_sponge_68 : decode cX12_sponge 68 = .ok (.iload 8, 2) := by decide +kernel
theorem dX12_sponge_70 : decode cX12_sponge 70 = .ok (.iload 6, 2) := by decide +kernel
theorem dX12_sponge_72 : decode cX12_sponge 72 = .ok (.invokevirtual 238, 3) := by decide +kernel
theorem dX12_sponge_75 : decode cX12_sponge 75 = .ok (.iconst (-1), 1) := by decide +kernel
theorem dX12_sponge_76 : decode cX12_sponge 76 = .ok (.if_icmp .eq 7, 3) := by decide +kernel
theorem dX12_sponge_79 : decode cX12_sponge 79 = .ok (.iconst 1, 1) := by decide +kernel
theorem dX12_sponge_80 : decode cX12_sponge 80 = .ok (.goto 4, 3) := by decide +kernel
theorem dX12_sponge_83 : decode cX12_sponge 83 = .ok (.iconst 0, 1) := by decide +kernel
theorem dX12_sponge_84 : decode cX12_sponge 84 = .ok (.istore 7, 2) := by decide +kernel
theorem dX12_sponge_86 : decode cX12_sponge 86 = .ok (.iinc 8 1, 3) := by decide +kernel
theorem dX12_sponge_89 : decode cX12_sponge 89 = .ok (.goto (-33), 3) := by decide +kernel
theorem dX12_sponge_92 : decode cX12_sponge 92 = .ok (.iload 7, 2) := by decide +kernel
theorem dX12_sponge_94 : decode cX12_sponge 94 = .ok (.ifCond .eq 13, 3) := by decide +kernel
theorem dX12_sponge_97 : decode cX12_sponge 97 = .ok (.aload_n 0, 1) := by decide +kernel
theorem dX12_sponge_98 : decode cX12_sponge 98 = .ok (.iload 6, 2) := by decide +kernel
theorem dX12_sponge_100 : decode cX12_sponge 100 = .ok (.iload_n 1, 1) := by decide +kernel
theorem dX12_sponge_101 : decode cX12_sponge 101 = .ok (.invokevirtual 493, 3) := by decide +kernel
theorem dX12_sponge_104 : decode cX12_sponge 104 = .ok (.goto 4, 3) := by decide +kernel
theorem dX12_sponge_107 : decode cX12_sponge 107 = .ok (.iload_n 3, 1) := by decide +kernel
theorem dX12_sponge_108 : decode cX12_sponge 108 = .ok (.istore 8, 2) := by decide +kernel
theorem dX12_sponge_110 : decode cX12_sponge 110 = .ok (.iload 8, 2) := by decide +kernel
theorem dX12_sponge_112 : decode cX12_sponge 112 = .ok (.iload 5, 2) := by decide +kernel
theorem dX12_sponge_114 : decode cX12_sponge 114 = .ok (.if_icmp .lt 6, 3) := by decide +kernel
theorem dX12_sponge_117 : decode cX12_sponge 117 = .ok (.goto 11, 3) := by decide +kernel
theorem dX12_sponge_120 : decode cX12_sponge 120 = .ok (.iload 8, 2) := by decide +kernel
theorem dX12_sponge_122 : decode cX12_sponge 122 = .ok (.istore 5, 2) := by decide +kernel
theorem dX12_sponge_124 : decode cX12_sponge 124 = .ok (.iload 6, 2) := by decide +kernel
theorem dX12_sponge_126 : decode cX12_sponge 126 = .ok (.istore 4, 2) := by decide +kernel
theorem dX12_sponge_128 : decode cX12_sponge 128 = .ok (.iinc 6 1, 3) := by decide +kernel
theorem dX12_sponge_131 : decode cX12_sponge 131 = .ok (.goto (-88), 3) := by decide +kernel
theorem dX12_sponge_134 : decode cX12_sponge 134 = .ok (.iload_n 2, 1) := by decide +kernel
theorem dX12_sponge_135 : decode cX12_sponge 135 = .ok (.ifCond .ne 8, 3) := by decide +kernel
theorem dX12_sponge_138 : decode cX12_sponge 138 = .ok (.iload 4, 2) := by decide +kernel
theorem dX12_sponge_140 : decode cX12_sponge 140 = .ok (.goto 7, 3) := by decide +kernel
theorem dX12_sponge_143 : decode cX12_sponge 143 = .ok (.iload_n 3, 1) := by decide +kernel
theorem dX12_sponge_144 : decode cX12_sponge 144 = .ok (.iload 5, 2) := by decide +kernel
theorem dX12_sponge_146 : decode cX12_sponge 146 = .ok (.isub, 1) := by decide +kernel
theorem dX12_sponge_147 : decode cX12_sponge 147 = .ok (.ireturn, 1) := by decide +kernel
def ok_X12_sponge_43 (K : ro_K) (v1 : Int32) (v2 : Int32) (v3 : Int32) (μ : ro_Mem) : (Int32 × Int32) → Prop := fun e => ro_X K 134 [(2, .int v2), (3, .int v3), (4, .int e.1), (5, .int e.2)] [] μ
def ok_X12_sponge_56 (K : ro_K) (v1 : Int32) (v2 : Int32) (v3 : Int32) (v4 : Int32) (v5 : Int32) (v6 : Int32) (μ : ro_Mem) : Int32 → Prop := fun e => ro_X K 92 [(0, .ref (ro_ad (kG K) 207)), (1, .int v1), (2, .int v2), (3, .int v3), (4, .int v4), (5, .int v5), (6, .int v6), (7, .int e)] [] μ
def fb_X12_sponge_56 (v1 : Int32) (v2 : Int32) (v3 : Int32) (v4 : Int32) (v5 : Int32) (v6 : Int32) (μ : ro_Mem) (rec : (Int32 × Int32) → Option Int32) (v7 : Int32) (v8 : Int32) : Option Int32 :=
  if 4 ≤ v8 then
  (some v7)
  else
  (if v7 = 0 then
  ((fn_X12_whoOn v8 v6 μ).bind fun q14 =>
  if q14 = (-1) then
  (rec (0, v8 + 1))
  else
  (rec (1, v8 + 1)))
  else
  (rec (1, v8 + 1)))
theorem bb_X12_sponge_56 {K : ro_K} (hK : ro_C K RX12 cX12_sponge 9 5) (hR : ro_R K (some .int)) {v1 : Int32} {v2 : Int32} {v3 : Int32} {v4 : Int32} {v5 : Int32} {v6 : Int32}  {μ : ro_Mem} {rec : (Int32 × Int32) → Option Int32} {v7 : Int32} {v8 : Int32} {q : Int32} (hrec : ∀ (s : Int32 × Int32) (q : Int32), rec s = some q → ok_X12_sponge_56 K v1 v2 v3 v4 v5 v6 μ q → ro_X K 56 [(0, .ref (ro_ad (kG K) 207)), (1, .int v1), (2, .int v2), (3, .int v3), (4, .int v4), (5, .int v5), (6, .int v6), (7, .int s.1), (8, .int s.2)] [] μ) (hf : fb_X12_sponge_56 v1 v2 v3 v4 v5 v6 μ rec v7 v8 = some q) (hq : ok_X12_sponge_56 K v1 v2 v3 v4 v5 v6 μ q) : ro_X K 56 [(0, .ref (ro_ad (kG K) 207)), (1, .int v1), (2, .int v2), (3, .int v3), (4, .int v4), (5, .int v5), (6, .int v6), (7, .int v7), (8, .int v8)] [] μ := by
  unfold fb_X12_sponge_56 at hf
  refine ro_iload hK 8 rfl dX12_sponge_56 ?_
  refine ro_iconst (v := 4) hK dX12_sponge_58 (by decide) ?_
  refine ro_icmp_ge hK 92 dX12_sponge_59 (by decide) (fun c12 => ?_) (fun c12 => ?_)
  · have hf := ro_it hf c12
    refine ro_sub (L' := [(0, .ref (ro_ad (kG K) 207)), (1, .int v1), (2, .int v2), (3, .int v3), (4, .int v4), (5, .int v5), (6, .int v6), (7, .int v7)]) [0, 1, 2, 3, 4, 5, 6, 7] rfl ?_
    obtain rfl := Option.some.inj hf
    exact hq
  · have hf := ro_ie hf c12
    refine ro_iload hK 7 rfl dX12_sponge_62 ?_
    refine ro_if_ne hK 79 dX12_sponge_64 (by decide) (fun c13 => ?_) (fun c13 => ?_)
    · have hf := ro_ie hf c13
      refine ro_iconst (v := 1) hK dX12_sponge_79 (by decide) ?_
      refine ro_goto hK 84 dX12_sponge_80 (by decide) ?_
      refine ro_istore (L' := [(7, .int 1), (0, .ref (ro_ad (kG K) 207)), (1, .int v1), (2, .int v2), (3, .int v3), (4, .int v4), (5, .int v5), (6, .int v6), (8, .int v8)]) hK dX12_sponge_84 (by decide) rfl ?_
      refine ro_iinc (v := v8 + 1) (L' := [(8, .int (v8 + 1)), (7, .int 1), (0, .ref (ro_ad (kG K) 207)), (1, .int v1), (2, .int v2), (3, .int v3), (4, .int v4), (5, .int v5), (6, .int v6)]) hK 8 rfl dX12_sponge_86 rfl (by decide) rfl ?_
      refine ro_goto hK 56 dX12_sponge_89 (by decide) ?_
      refine ro_sub (L' := [(0, .ref (ro_ad (kG K) 207)), (1, .int v1), (2, .int v2), (3, .int v3), (4, .int v4), (5, .int v5), (6, .int v6), (7, .int 1), (8, .int (v8 + 1))]) [2, 3, 4, 5, 6, 7, 8, 1, 0] rfl ?_
      exact hrec (1, v8 + 1) _ hf hq
    · have hf := ro_it hf c13
      refine ro_aload_n hK 0 rfl dX12_sponge_67 rfl ?_
      refine ro_iload hK 8 rfl dX12_sponge_68 ?_
      refine ro_iload hK 6 rfl dX12_sponge_70 ?_
      obtain ⟨q14, e15, hf⟩ := ro_bd hf
      refine ro_callvi hK [.int v8, .int v6] ml_X12_238 mv_X12_whoOn (mt_X12_whoOn (kl K) (kG K)  e15) sh_207 ⟨_, rfl, rfl⟩ (by decide) rfl rfl (Nat.le_of_ble_eq_true rfl) dX12_sponge_72 ?_
      refine ro_iconst (v := (-1)) hK dX12_sponge_75 (by decide) ?_
      refine ro_icmp_eq hK 83 dX12_sponge_76 (by decide) (fun c16 => ?_) (fun c16 => ?_)
      · have hf := ro_it hf c16
        refine ro_iconst (v := 0) hK dX12_sponge_83 (by decide) ?_
        refine ro_istore (L' := [(7, .int 0), (0, .ref (ro_ad (kG K) 207)), (1, .int v1), (2, .int v2), (3, .int v3), (4, .int v4), (5, .int v5), (6, .int v6), (8, .int v8)]) hK dX12_sponge_84 (by decide) rfl ?_
        refine ro_iinc (v := v8 + 1) (L' := [(8, .int (v8 + 1)), (7, .int 0), (0, .ref (ro_ad (kG K) 207)), (1, .int v1), (2, .int v2), (3, .int v3), (4, .int v4), (5, .int v5), (6, .int v6)]) hK 8 rfl dX12_sponge_86 rfl (by decide) rfl ?_
        refine ro_goto hK 56 dX12_sponge_89 (by decide) ?_
        refine ro_sub (L' := [(0, .ref (ro_ad (kG K) 207)), (1, .int v1), (2, .int v2), (3, .int v3), (4, .int v4), (5, .int v5), (6, .int v6), (7, .int 0), (8, .int (v8 + 1))]) [2, 3, 4, 5, 6, 7, 8, 1, 0] rfl ?_
        exact hrec (0, v8 + 1) _ hf hq
      · have hf := ro_ie hf c16
        refine ro_iconst (v := 1) hK dX12_sponge_79 (by decide) ?_
        refine ro_goto hK 84 dX12_sponge_80 (by decide) ?_
        refine ro_istore (L' := [(7, .int 1), (0, .ref (ro_ad (kG K) 207)), (1, .int v1), (2, .int v2), (3, .int v3), (4, .int v4), (5, .int v5), (6, .int v6), (8, .int v8)]) hK dX12_sponge_84 (by decide) rfl ?_
        refine ro_iinc (v := v8 + 1) (L' := [(8, .int (v8 + 1)), (7, .int 1), (0, .ref (ro_ad (kG K) 207)), (1, .int v1), (2, .int v2), (3, .int v3), (4, .int v4), (5, .int v5), (6, .int v6)]) hK 8 rfl dX12_sponge_86 rfl (by decide) rfl ?_
        refine ro_goto hK 56 dX12_sponge_89 (by decide) ?_
        refine ro_sub (L' := [(0, .ref (ro_ad (kG K) 207)), (1, .int v1), (2, .int v2), (3, .int v3), (4, .int v4), (5, .int v5), (6, .int v6), (7, .int 1), (8, .int (v8 + 1))]) [2, 3, 4, 5, 6, 7, 8, 1, 0] rfl ?_
        exact hrec (1, v8 + 1) _ hf hq
def fl_X12_sponge_56 (v1 : Int32) (v2 : Int32) (v3 : Int32) (v4 : Int32) (v5 : Int32) (v6 : Int32) (μ : ro_Mem) : (Int32 × Int32) → Option Int32 :=
  ro_loop (fun rec s => fb_X12_sponge_56 v1 v2 v3 v4 v5 v6 μ rec s.1 s.2) ro_FU
theorem lp_X12_sponge_56 {K : ro_K} (hK : ro_C K RX12 cX12_sponge 9 5) (hR : ro_R K (some .int)) {v1 : Int32} {v2 : Int32} {v3 : Int32} {v4 : Int32} {v5 : Int32} {v6 : Int32}  {μ : ro_Mem} {s : Int32 × Int32} {q : Int32} (hf : fl_X12_sponge_56 v1 v2 v3 v4 v5 v6 μ s = some q) (hq : ok_X12_sponge_56 K v1 v2 v3 v4 v5 v6 μ q) : ro_X K 56 [(0, .ref (ro_ad (kG K) 207)), (1, .int v1), (2, .int v2), (3, .int v3), (4, .int v4), (5, .int v5), (6, .int v6), (7, .int s.1), (8, .int s.2)] [] μ :=
  ro_loopX (b := fun rec s => fb_X12_sponge_56 v1 v2 v3 v4 v5 v6 μ rec s.1 s.2) (X := fun s => ro_X K 56 [(0, .ref (ro_ad (kG K) 207)), (1, .int v1), (2, .int v2), (3, .int v3), (4, .int v4), (5, .int v5), (6, .int v6), (7, .int s.1), (8, .int s.2)] [] μ) (OK := ok_X12_sponge_56 K v1 v2 v3 v4 v5 v6 μ) (fun rec s q hrec hb ho => bb_X12_sponge_56 hK hR  hrec hb ho) ro_FU s q hf hq
def fj_X12_sponge_108 (rec : (Int32 × Int32 × Int32) → Option (Int32 × Int32)) (v1 : Int32) (v2 : Int32) (v3 : Int32) (v4 : Int32) (v5 : Int32) (v6 : Int32) (t0 : Int32) (μ : ro_Mem) : Option (Int32 × Int32) :=
  if t0 < v5 then
  (rec (v6, t0, v6 + 1))
  else
  (rec (v4, v5, v6 + 1))
theorem bj_X12_sponge_108 {K : ro_K} (hK : ro_C K RX12 cX12_sponge 9 5) (hR : ro_R K (some .int)) {v1 : Int32} {v2 : Int32} {v3 : Int32} {v4 : Int32} {v5 : Int32} {v6 : Int32} {t0 : Int32}  {rec : (Int32 × Int32 × Int32) → Option (Int32 × Int32)} {μ : ro_Mem} (hrec : ∀ (s : Int32 × Int32 × Int32) (q : (Int32 × Int32)), rec s = some q → ok_X12_sponge_43 K v1 v2 v3 μ q → ro_X K 43 [(0, .ref (ro_ad (kG K) 207)), (1, .int v1), (2, .int v2), (3, .int v3), (4, .int s.1), (5, .int s.2.1), (6, .int s.2.2)] [] μ) {out : (Int32 × Int32)} (hf : fj_X12_sponge_108 rec v1 v2 v3 v4 v5 v6 t0 μ = some out) (hq : ok_X12_sponge_43 K v1 v2 v3 μ out) : ro_X K 108 [(0, .ref (ro_ad (kG K) 207)), (1, .int v1), (2, .int v2), (3, .int v3), (4, .int v4), (5, .int v5), (6, .int v6)] [.int t0] μ := by
  unfold fj_X12_sponge_108 at hf
  refine ro_istore (L' := [(8, .int t0), (0, .ref (ro_ad (kG K) 207)), (1, .int v1), (2, .int v2), (3, .int v3), (4, .int v4), (5, .int v5), (6, .int v6)]) hK dX12_sponge_108 (by decide) rfl ?_
  refine ro_iload hK 0 rfl dX12_sponge_110 ?_
  refine ro_iload hK 6 rfl dX12_sponge_112 ?_
  refine ro_icmp_lt hK 120 dX12_sponge_114 (by decide) (fun c20 => ?_) (fun c20 => ?_)
  · have hf := ro_it hf c20
    refine ro_iload hK 0 rfl dX12_sponge_120 ?_
    refine ro_istore (L' := [(5, .int t0), (8, .int t0), (0, .ref (ro_ad (kG K) 207)), (1, .int v1), (2, .int v2), (3, .int v3), (4, .int v4), (6, .int v6)]) hK dX12_sponge_122 (by decide) rfl ?_
    refine ro_iload hK 7 rfl dX12_sponge_124 ?_
    refine ro_istore (L' := [(4, .int v6), (5, .int t0), (8, .int t0), (0, .ref (ro_ad (kG K) 207)), (1, .int v1), (2, .int v2), (3, .int v3), (6, .int v6)]) hK dX12_sponge_126 (by decide) rfl ?_
    refine ro_iinc (v := v6 + 1) (L' := [(6, .int (v6 + 1)), (4, .int v6), (5, .int t0), (8, .int t0), (0, .ref (ro_ad (kG K) 207)), (1, .int v1), (2, .int v2), (3, .int v3)]) hK 7 rfl dX12_sponge_128 rfl (by decide) rfl ?_
    refine ro_goto hK 43 dX12_sponge_131 (by decide) ?_
    refine ro_sub (L' := [(0, .ref (ro_ad (kG K) 207)), (1, .int v1), (2, .int v2), (3, .int v3), (4, .int v6), (5, .int t0), (6, .int (v6 + 1))]) [4, 5, 6, 7, 1, 2, 0] rfl ?_
    exact hrec (v6, t0, v6 + 1) _ hf hq
  · have hf := ro_ie hf c20
    refine ro_goto hK 128 dX12_sponge_117 (by decide) ?_
    refine ro_iinc (v := v6 + 1) (L' := [(6, .int (v6 + 1)), (8, .int t0), (0, .ref (ro_ad (kG K) 207)), (1, .int v1), (2, .int v2), (3, .int v3), (4, .int v4), (5, .int v5)]) hK 7 rfl dX12_sponge_128 rfl (by decide) rfl ?_
    refine ro_goto hK 43 dX12_sponge_131 (by decide) ?_
    refine ro_sub (L' := [(0, .ref (ro_ad (kG K) 207)), (1, .int v1), (2, .int v2), (3, .int v3), (4, .int v4), (5, .int v5), (6, .int (v6 + 1))]) [2, 3, 4, 5, 6, 7, 0] rfl ?_
    exact hrec (v4, v5, v6 + 1) _ hf hq
def fb_X12_sponge_43 (v1 : Int32) (v2 : Int32) (v3 : Int32) (μ : ro_Mem) (rec : (Int32 × Int32 × Int32) → Option (Int32 × Int32)) (v4 : Int32) (v5 : Int32) (v6 : Int32) : Option (Int32 × Int32) :=
  if 96 ≤ v6 then
  (some (v4, v5))
  else
  ((fl_X12_sponge_56 v1 v2 v3 v4 v5 v6 μ (0, 0)).bind fun q17 =>
  if q17 = 0 then
  (fj_X12_sponge_108 rec v1 v2 v3 v4 v5 v6 v3 μ)
  else
  ((fn_X12_weighed v6 v1 μ).bind fun q21 =>
  fj_X12_sponge_108 rec v1 v2 v3 v4 v5 v6 q21 μ))
theorem bb_X12_sponge_43 {K : ro_K} (hK : ro_C K RX12 cX12_sponge 9 5) (hR : ro_R K (some .int)) {v1 : Int32} {v2 : Int32} {v3 : Int32}  {μ : ro_Mem} {rec : (Int32 × Int32 × Int32) → Option (Int32 × Int32)} {v4 : Int32} {v5 : Int32} {v6 : Int32} {q : (Int32 × Int32)} (hrec : ∀ (s : Int32 × Int32 × Int32) (q : (Int32 × Int32)), rec s = some q → ok_X12_sponge_43 K v1 v2 v3 μ q → ro_X K 43 [(0, .ref (ro_ad (kG K) 207)), (1, .int v1), (2, .int v2), (3, .int v3), (4, .int s.1), (5, .int s.2.1), (6, .int s.2.2)] [] μ) (hf : fb_X12_sponge_43 v1 v2 v3 μ rec v4 v5 v6 = some q) (hq : ok_X12_sponge_43 K v1 v2 v3 μ q) : ro_X K 43 [(0, .ref (ro_ad (kG K) 207)), (1, .int v1), (2, .int v2), (3, .int v3), (4, .int v4), (5, .int v5), (6, .int v6)] [] μ := by
  unfold fb_X12_sponge_43 at hf
  refine ro_iload hK 6 rfl dX12_sponge_43 ?_
  refine ro_bipush (v := 96) hK dX12_sponge_45 (by decide) ?_
  refine ro_icmp_ge hK 134 dX12_sponge_47 (by decide) (fun c11 => ?_) (fun c11 => ?_)
  · have hf := ro_it hf c11
    refine ro_sub (L' := [(2, .int v2), (3, .int v3), (4, .int v4), (5, .int v5)]) [2, 3, 4, 5] rfl ?_
    obtain rfl := Option.some.inj hf
    exact hq
  · have hf := ro_ie hf c11
    refine ro_iconst (v := 0) hK dX12_sponge_50 (by decide) ?_
    refine ro_istore (L' := [(7, .int 0), (0, .ref (ro_ad (kG K) 207)), (1, .int v1), (2, .int v2), (3, .int v3), (4, .int v4), (5, .int v5), (6, .int v6)]) hK dX12_sponge_51 (by decide) rfl ?_
    refine ro_iconst (v := 0) hK dX12_sponge_53 (by decide) ?_
    refine ro_istore (L' := [(8, .int 0), (7, .int 0), (0, .ref (ro_ad (kG K) 207)), (1, .int v1), (2, .int v2), (3, .int v3), (4, .int v4), (5, .int v5), (6, .int v6)]) hK dX12_sponge_54 (by decide) rfl ?_
    obtain ⟨q17, e18, hf⟩ := ro_bd hf
    refine ro_sub (L' := [(0, .ref (ro_ad (kG K) 207)), (1, .int v1), (2, .int v2), (3, .int v3), (4, .int v4), (5, .int v5), (6, .int v6), (7, .int 0), (8, .int 0)]) [2, 3, 4, 5, 6, 7, 8, 1, 0] rfl ?_
    refine lp_X12_sponge_56 hK hR  e18 ?_
    show ro_X K 92 [(0, .ref (ro_ad (kG K) 207)), (1, .int v1), (2, .int v2), (3, .int v3), (4, .int v4), (5, .int v5), (6, .int v6), (7, .int q17)] [] μ
    refine ro_iload hK 7 rfl dX12_sponge_92 ?_
    refine ro_if_eq hK 107 dX12_sponge_94 (by decide) (fun c19 => ?_) (fun c19 => ?_)
    · have hf := ro_it hf c19
      refine ro_iload_n hK 3 rfl dX12_sponge_107 rfl ?_
      refine ro_sub (L' := [(0, .ref (ro_ad (kG K) 207)), (1, .int v1), (2, .int v2), (3, .int v3), (4, .int v4), (5, .int v5), (6, .int v6)]) [0, 1, 2, 3, 4, 5, 6] rfl ?_
      exact bj_X12_sponge_108 hK hR  hrec hf hq
    · have hf := ro_ie hf c19
      refine ro_aload_n hK 0 rfl dX12_sponge_97 rfl ?_
      refine ro_iload hK 6 rfl dX12_sponge_98 ?_
      refine ro_iload_n hK 1 rfl dX12_sponge_100 rfl ?_
      obtain ⟨q21, e22, hf⟩ := ro_bd hf
      refine ro_callvi hK [.int v6, .int v1] ml_X12_493 mv_X12_weighed (mt_X12_weighed (kl K) (kG K)  e22) sh_207 ⟨_, rfl, rfl⟩ (by decide) rfl rfl (Nat.le_of_ble_eq_true rfl) dX12_sponge_101 ?_
      refine ro_goto hK 108 dX12_sponge_104 (by decide) ?_
      refine ro_sub (L' := [(0, .ref (ro_ad (kG K) 207)), (1, .int v1), (2, .int v2), (3, .int v3), (4, .int v4), (5, .int v5), (6, .int v6)]) [0, 1, 2, 3, 4, 5, 6] rfl ?_
      exact bj_X12_sponge_108 hK hR  hrec hf hq
def fl_X12_sponge_43 (v1 : Int32) (v2 : Int32) (v3 : Int32) (μ : ro_Mem) : (Int32 × Int32 × Int32) → Option (Int32 × Int32) :=
  ro_loop (fun rec s => fb_X12_sponge_43 v1 v2 v3 μ rec s.1 s.2.1 s.2.2) ro_FU
theorem lp_X12_sponge_43 {K : ro_K} (hK : ro_C K RX12 cX12_sponge 9 5) (hR : ro_R K (some .int)) {v1 : Int32} {v2 : Int32} {v3 : Int32}  {μ : ro_Mem} {s : Int32 × Int32 × Int32} {q : (Int32 × Int32)} (hf : fl_X12_sponge_43 v1 v2 v3 μ s = some q) (hq : ok_X12_sponge_43 K v1 v2 v3 μ q) : ro_X K 43 [(0, .ref (ro_ad (kG K) 207)), (1, .int v1), (2, .int v2), (3, .int v3), (4, .int s.1), (5, .int s.2.1), (6, .int s.2.2)] [] μ :=
  ro_loopX (b := fun rec s => fb_X12_sponge_43 v1 v2 v3 μ rec s.1 s.2.1 s.2.2) (X := fun s => ro_X K 43 [(0, .ref (ro_ad (kG K) 207)), (1, .int v1), (2, .int v2), (3, .int v3), (4, .int s.1), (5, .int s.2.1), (6, .int s.2.2)] [] μ) (OK := ok_X12_sponge_43 K v1 v2 v3 μ) (fun rec s q hrec hb ho => bb_X12_sponge_43 hK hR  hrec hb ho) ro_FU s q hf hq
def fn_X12_sponge (v1 : Int32) (v2 : Int32) (μ : ro_Mem) : Option (Int32 × ro_Mem) :=
  (fn_X12_in v1 1 99).bind fun q1 =>
  if q1 = 0 then
  (some ((-1), μ))
  else
  ((fn_X12_in v2 0 1).bind fun q4 =>
  if q4 = 0 then
  (some ((-1), μ))
  else
  ((fn_X12_laysDrops μ).bind fun q7 =>
  (fn_X12_weighed (-1) 0 q7).bind fun q9 =>
  (fl_X12_sponge_43 v1 v2 q9 q7 (0, 1000000000, 0)).bind fun q23 =>
  if v2 = 0 then
  (some (q23.1, q7))
  else
  (some (q9 - q23.2, q7))))
theorem be_X12_sponge {K : ro_K} (hK : ro_C K RX12 cX12_sponge 9 5) (hR : ro_R K (some .int)) {v1 : Int32} {v2 : Int32}  {μ : ro_Mem} {out : Int32 × ro_Mem} (hf : fn_X12_sponge v1 v2 μ = some out) (hq : kQ K (some (.int out.1)) out.2) : ro_X K 0 [(0, .ref (ro_ad (kG K) 207)), (1, .int v1), (2, .int v2)] [] μ := by
  unfold fn_X12_sponge at hf
  refine ro_iload_n hK 1 rfl dX12_sponge_0 rfl ?_
  refine ro_iconst (v := 1) hK dX12_sponge_1 (by decide) ?_
  refine ro_bipush (v := 99) hK dX12_sponge_2 (by decide) ?_
  obtain ⟨q1, e2, hf⟩ := ro_bd hf
  refine ro_callsi hK [.int v1, .int 1, .int 99] ml_X12_215 ms_X12_in (mt_X12_in (kl K) (kG K)  e2) (by decide) rfl rfl (Nat.le_of_ble_eq_true rfl) dX12_sponge_4 ?_
  refine ro_if_eq hK 19 dX12_sponge_7 (by decide) (fun c3 => ?_) (fun c3 => ?_)
  · have hf := ro_it hf c3
    refine ro_iconst (v := (-1)) hK dX12_sponge_19 (by decide) ?_
    obtain rfl := Option.some.inj hf
    exact ro_iret hK hR dX12_sponge_20 hq
  · have hf := ro_ie hf c3
    refine ro_iload_n hK 2 rfl dX12_sponge_10 rfl ?_
    refine ro_iconst (v := 0) hK dX12_sponge_11 (by decide) ?_
    refine ro_iconst (v := 1) hK dX12_sponge_12 (by decide) ?_
    obtain ⟨q4, e5, hf⟩ := ro_bd hf
    refine ro_callsi hK [.int v2, .int 0, .int 1] ml_X12_215 ms_X12_in (mt_X12_in (kl K) (kG K)  e5) (by decide) rfl rfl (Nat.le_of_ble_eq_true rfl) dX12_sponge_13 ?_
    refine ro_if_ne hK 21 dX12_sponge_16 (by decide) (fun c6 => ?_) (fun c6 => ?_)
    · have hf := ro_ie hf c6
      refine ro_aload_n hK 0 rfl dX12_sponge_21 rfl ?_
      obtain ⟨q7, e8, hf⟩ := ro_bd hf
      refine ro_callvv hK [] ml_X12_426 mv_X12_laysDrops (mt_X12_laysDrops (kl K) (kG K)  e8) sh_207 ⟨_, rfl, rfl⟩ (by decide) rfl rfl (Nat.le_of_ble_eq_true rfl) dX12_sponge_22 ?_
      refine ro_aload_n hK 0 rfl dX12_sponge_25 rfl ?_
      refine ro_iconst (v := (-1)) hK dX12_sponge_26 (by decide) ?_
      refine ro_iconst (v := 0) hK dX12_sponge_27 (by decide) ?_
      obtain ⟨q9, e10, hf⟩ := ro_bd hf
      refine ro_callvi hK [.int (-1), .int 0] ml_X12_493 mv_X12_weighed (mt_X12_weighed (kl K) (kG K)  e10) sh_207 ⟨_, rfl, rfl⟩ (by decide) rfl rfl (Nat.le_of_ble_eq_true rfl) dX12_sponge_28 ?_
      refine ro_istore_n (L' := [(3, .int q9), (0, .ref (ro_ad (kG K) 207)), (1, .int v1), (2, .int v2)]) hK dX12_sponge_31 rfl (by decide) rfl ?_
      refine ro_iconst (v := 0) hK dX12_sponge_32 (by decide) ?_
      refine ro_istore (L' := [(4, .int 0), (3, .int q9), (0, .ref (ro_ad (kG K) 207)), (1, .int v1), (2, .int v2)]) hK dX12_sponge_33 (by decide) rfl ?_
      refine ro_ldcw hK kc_X12_456 dX12_sponge_35 ?_
      refine ro_istore (L' := [(5, .int 1000000000), (4, .int 0), (3, .int q9), (0, .ref (ro_ad (kG K) 207)), (1, .int v1), (2, .int v2)]) hK dX12_sponge_38 (by decide) rfl ?_
      refine ro_iconst (v := 0) hK dX12_sponge_40 (by decide) ?_
      refine ro_istore (L' := [(6, .int 0), (5, .int 1000000000), (4, .int 0), (3, .int q9), (0, .ref (ro_ad (kG K) 207)), (1, .int v1), (2, .int v2)]) hK dX12_sponge_41 (by decide) rfl ?_
      obtain ⟨q23, e24, hf⟩ := ro_bd hf
      refine ro_sub (L' := [(0, .ref (ro_ad (kG K) 207)), (1, .int v1), (2, .int v2), (3, .int q9), (4, .int 0), (5, .int 1000000000), (6, .int 0)]) [4, 5, 6, 3, 2, 1, 0] rfl ?_
      refine lp_X12_sponge_43 hK hR  e24 ?_
      show ro_X K 134 [(2, .int v2), (3, .int q9), (4, .int q23.1), (5, .int q23.2)] [] q7
      refine ro_iload_n hK 0 rfl dX12_sponge_134 rfl ?_
      refine ro_if_ne hK 143 dX12_sponge_135 (by decide) (fun c25 => ?_) (fun c25 => ?_)
      · have hf := ro_ie hf c25
        refine ro_iload_n hK 1 rfl dX12_sponge_143 rfl ?_
        refine ro_iload hK 3 rfl dX12_sponge_144 ?_
        refine ro_isub hK dX12_sponge_146 ?_
        obtain rfl := Option.some.inj hf
        exact ro_iret hK hR dX12_sponge_147 hq
      · have hf := ro_it hf c25
        refine ro_iload hK 2 rfl dX12_sponge_138 ?_
        refine ro_goto hK 147 dX12_sponge_140 (by decide) ?_
        obtain rfl := Option.some.inj hf
        exact ro_iret hK hR dX12_sponge_147 hq
    · have hf := ro_it hf c6
      refine ro_iconst (v := (-1)) hK dX12_sponge_19 (by decide) ?_
      obtain rfl := Option.some.inj hf
      exact ro_iret hK hR dX12_sponge_20 hq
theorem mt_X12_sponge (l : Launch) (G : ro_G) {v1 : Int32} {v2 : Int32}  {μ : ro_Mem} {out : Int32 × ro_Mem} (hf : fn_X12_sponge v1 v2 μ = some out) : ro_MX l G yX12_sponge cX12_sponge 9 (some .int) 5 [.ref (ro_ad G 207), .int v1, .int v2] μ (some (.int out.1)) out.2 := by
  refine ro_MX.of (by decide +kernel) (Nat.le_of_ble_eq_true rfl) (fun K hG hl hq hK hR => ?_)
  subst hG
  exact be_X12_sponge hK hR  hf hq
-- ===== X12_paidFor =====
theorem dX12_paidFor_0 : decode cX12_paidFor 0 = .ok (.iconst 0, 1) := by decide +kernel
theorem dX12_paidFor_1 : decode cX12_paidFor 1 = .ok (.istore_n 2, 1) := by decide +kernel
theorem dX12_paidFor_2 : decode cX12_paidFor 2 = .ok (.iconst 0, 1) := by decide +kernel
theorem dX12_paidFor_3 : decode cX12_paidFor 3 = .ok (.istore_n 3, 1) := by decide +kernel
theorem dX12_paidFor_4 : decode cX12_paidFor 4 = .ok (.iload_n 3, 1) := by decide +kernel
theorem dX12_paidFor_5 : decode cX12_paidFor 5 = .ok (.bipush 10, 2) := by decide +kernel
theorem dX12_paidFor_7 : decode cX12_paidFor 7 = .ok (.if_icmp .ge 96, 3) := by decide +kernel
theorem dX12_paidFor_10 : decode cX12_paidFor 10 = .ok (.aload_n 0, 1) := by decide +kernel
theorem dX12_paidFor_11 : decode cX12_paidFor 11 = .ok (.iload_n 3, 1) := by decide +kernel
theorem dX12_paidFor_12 : decode cX12_paidFor 12 = .ok (.invokevirtual 235, 3) := by decide +kernel
theorem dX12_paidFor_15 : decode cX12_paidFor 15 = .ok (.ifCond .eq 17, 3) := by decide +kernel
theorem dX12_paidFor_18 : decode cX12_paidFor 18 = .ok (.aload_n 0, 1) := by decide +kernel
theorem dX12_paidFor_19 : decode cX12_paidFor 19 = .ok (.getfield 35, 3) := by decide +kernel
theorem dX12_paidFor_22 : decode cX12_paidFor 22 = .ok (.bipush 10, 2) := by decide +kernel
theorem dX12_paidFor_24 : decode cX12_paidFor 24 = .ok (.iload_n 1, 1) := by decide +kernel
theorem dX12_paidFor_25 : decode cX12_paidFor 25 = .ok (.imul, 1) := by decide +kernel
theorem dX12_paidFor_26 : decode cX12_paidFor 26 = .ok (.iload_n 3, 1) := by decide +kernel
theorem dX12_paidFor_27 : decode cX12_paidFor 27 = .ok (.iadd, 1) := by decide +kernel
theorem dX12_paidFor_28 : decode cX12_paidFor 28 = .ok (.iaload, 1) := by decide +kernel
theorem dX12_paidFor_29 : decode cX12_paidFor 29 = .ok (.goto 6, 3) := by decide +kernel
theorem dX12_paidFor_32 : decode cX12_paidFor 32 = .ok (.sipush 255, 3) := by decide +kernel
theorem dX12_paidFor_35 : decode cX12_paidFor 35 = .ok (.istore 4, 2) := by decide +kernel
theorem dX12_paidFor_37 : decode cX12_paidFor 37 = .ok (.iload 4, 2) := by decide +kernel
theorem dX12_paidFor_39 : decode cX12_paidFor 39 = .ok (.sipush 255, 3) := by decide +kernel
theorem dX12_paidFor_42 : decode cX12_paidFor 42 = .ok (.if_icmp .eq 55, 3) := by decide +kernel
theorem dX12_paidFor_45 : decode cX12_paidFor 45 = .ok (.aload_n 0, 1) := by decide +kernel
theorem dX12_paidFor_46 : decode cX12_paidFor 46 = .ok (.iload_n 1, 1) := by decide +kernel
theorem dX12_paidFor_47 : decode cX12_paidFor 47 = .ok (.iload 4, 2) := by decide +kernel
theorem dX12_paidFor_49 : decode cX12_paidFor 49 = .ok (.invokevirtual 423, 3) := by decide +kernel
theorem dX12_paidFor_52 : decode cX12_paidFor 52 = .ok (.ifCond .le 6, 3) := by decide +kernel
theorem dX12_paidFor_55 : decode cX12_paidFor 55 = .ok (.goto 42, 3) := by decide +kernel
theorem dX12_paidFor_58 : decode cX12_paidFor 58 = .ok (.aload_n 0, 1) := by decide +kernel
theorem dX12_paidFor_59 : decode cX12_paidFor 59 = .ok (.iload 4, 2) := by decide +kernel
theorem dX12_paidFor_61 : decode cX12_paidFor 61 = .ok (.invokevirtual 385, 3) := by decide +kernel
theorem dX12_paidFor_64 : decode cX12_paidFor 64 = .ok (.aload_n 0, 1) := by decide +kernel
theorem dX12_paidFor_65 : decode cX12_paidFor 65 = .ok (.getfield 108, 3) := by decide +kernel
theorem dX12_paidFor_68 : decode cX12_paidFor 68 = .ok (.bipush 6, 2) := by decide +kernel
theorem dX12_paidFor_70 : decode cX12_paidFor 70 = .ok (.iload_n 1, 1) := by decide +kernel
theorem dX12_paidFor_71 : decode cX12_paidFor 71 = .ok (.iastore, 1) := by decide +kernel
theorem dX12_paidFor_72 : decode cX12_paidFor 72 = .ok (.aload_n 0, 1) := by decide +kernel
theorem dX12_paidFor_73 : decode cX12_paidFor 73 = .ok (.getfield 108, 3) := by decide +kernel
theorem dX12_paidFor_76 : decode cX12_paidFor 76 = .ok (.bipush 7, 2) := by decide +kernel
theorem dX12_paidFor_78 : decode cX12_paidFor 78 = .ok (.aload_n 0, 1) := by decide +kernel
theorem dX12_paidFor_79 : decode cX12_paidFor 79 = .ok (.getfield 29, 3) := by decide +kernel
theorem dX12_paidFor_82 : decode cX12_paidFor 82 = .ok (.iload_n 1, 1) := by decide +kernel
theorem dX12_paidFor_83 : decode cX12_paidFor 83 = .ok (.iaload, 1) := by decide +kernel
theorem dX12_paidFor_84 : decode cX12_paidFor 84 = .ok (.iastore, 1) := by decide +kernel
theorem dX12_paidFor_85 : decode cX12_paidFor 85 = .ok (.iload_n 2, 1) := by decide +kernel
theorem dX12_paidFor_86 : decode cX12_paidFor 86 = .ok (.aload_n 0, 1) := by decide +kernel
theorem dX12_paidFor_87 : decode cX12_paidFor 87 = .ok (.bipush 113, 2) := by decide +kernel
theorem dX12_paidFor_89 : decode cX12_paidFor 89 = .ok (.sipush 999, 3) := by decide +kernel
theorem dX12_paidFor_92 : decode cX12_paidFor 92 = .ok (.invokevirtual 394, 3) := by decide +kernel
theorem dX12_paidFor_95 : decode cX12_paidFor 95 = .ok (.iadd, 1) := by decide +kernel
theorem dX12_paidFor_96 : decode cX12_paidFor 96 = .ok (.istore_n 2, 1) := by decide +kernel
theorem dX12_paidFor_97 : decode cX12_paidFor 97 = .ok (.iinc 3 1, 3) := by decide +kernel
theorem dX12_paidFor_100 : decode cX12_paidFor 100 = .ok (.goto (-96), 3) := by decide +kernel
theorem dX12_paidFor_103 : decode cX12_paidFor 103 = .ok (.iload_n 2, 1) := by decide +kernel
theorem dX12_paidFor_104 : decode cX12_paidFor 104 = .ok (.ireturn, 1) := by decide +kernel
def ok_X12_paidFor_4 (K : ro_K) (v1 : Int32) : (Int32 × ro_Mem) → Prop := fun e => ro_X K 103 [(2, .int e.1)] [] e.2
def fj_X12_paidFor_35 (rec : (Int32 × Int32 × ro_Mem) → Option (Int32 × ro_Mem)) (v1 : Int32) (v2 : Int32) (v3 : Int32) (t0 : Int32) (μ : ro_Mem) : Option (Int32 × ro_Mem) :=
  if t0 = 255 then
  (rec (v2, v3 + 1, μ))
  else
  ((fn_X12_wetOn v1 t0 μ).bind fun q6 =>
  if q6 ≤ 0 then
  ((fn_X12_feels t0 μ).bind fun q9 =>
  ro_lt (ro_set q9 240 (6 : Int32).toNatClampNeg v1) fun m11 =>
  if ro_in v1 4 then
  (ro_lt (ro_set m11 240 (7 : Int32).toNatClampNeg (m11 214 v1.toNatClampNeg)) fun m14 =>
  (fn_X12_byLaw 113 999 m14).bind fun q16 =>
  ro_lt (v2 + q16.1) fun z18 =>
  rec (z18, v3 + 1, q16.2)) else none)
  else
  (rec (v2, v3 + 1, μ)))
theorem bj_X12_paidFor_35 {K : ro_K} (hK : ro_C K RX12 cX12_paidFor 5 5) (hR : ro_R K (some .int)) {v1 : Int32} {v2 : Int32} {v3 : Int32} {t0 : Int32}  {rec : (Int32 × Int32 × ro_Mem) → Option (Int32 × ro_Mem)} {μ : ro_Mem} (hrec : ∀ (s : Int32 × Int32 × ro_Mem) (q : (Int32 × ro_Mem)), rec s = some q → ok_X12_paidFor_4 K v1 q → ro_X K 4 [(0, .ref (ro_ad (kG K) 207)), (1, .int v1), (2, .int s.1), (3, .int s.2.1)] [] s.2.2) {out : (Int32 × ro_Mem)} (hf : fj_X12_paidFor_35 rec v1 v2 v3 t0 μ = some out) (hq : ok_X12_paidFor_4 K v1 out) : ro_X K 35 [(0, .ref (ro_ad (kG K) 207)), (1, .int v1), (2, .int v2), (3, .int v3)] [.int t0] μ := by
  unfold fj_X12_paidFor_35 at hf
  refine ro_istore (L' := [(4, .int t0), (0, .ref (ro_ad (kG K) 207)), (1, .int v1), (2, .int v2), (3, .int v3)]) hK dX12_paidFor_35 (by decide) rfl ?_
  refine ro_iload hK 0 rfl dX12_paidFor_37 ?_
  refine ro_sipush (v := 255) hK dX12_paidFor_39 (by decide) ?_
  refine ro_icmp_eq hK 97 dX12_paidFor_42 (by decide) (fun c5 => ?_) (fun c5 => ?_)
  · have hf := ro_it hf c5
    refine ro_iinc (v := v3 + 1) (L' := [(3, .int (v3 + 1)), (4, .int t0), (0, .ref (ro_ad (kG K) 207)), (1, .int v1), (2, .int v2)]) hK 4 rfl dX12_paidFor_97 rfl (by decide) rfl ?_
    refine ro_goto hK 4 dX12_paidFor_100 (by decide) ?_
    refine ro_sub (L' := [(0, .ref (ro_ad (kG K) 207)), (1, .int v1), (2, .int v2), (3, .int (v3 + 1))]) [2, 3, 4, 0] rfl ?_
    exact hrec (v2, v3 + 1, μ) _ hf hq
  · have hf := ro_ie hf c5
    refine ro_aload_n hK 1 rfl dX12_paidFor_45 rfl ?_
    refine ro_iload_n hK 2 rfl dX12_paidFor_46 rfl ?_
    refine ro_iload hK 0 rfl dX12_paidFor_47 ?_
    obtain ⟨q6, e7, hf⟩ := ro_bd hf
    refine ro_callvi hK [.int v1, .int t0] ml_X12_423 mv_X12_wetOn (mt_X12_wetOn (kl K) (kG K)  e7) sh_207 ⟨_, rfl, rfl⟩ (by decide) rfl rfl (Nat.le_of_ble_eq_true rfl) dX12_paidFor_49 ?_
    refine ro_if_le hK 58 dX12_paidFor_52 (by decide) (fun c8 => ?_) (fun c8 => ?_)
    · have hf := ro_it hf c8
      refine ro_aload_n hK 1 rfl dX12_paidFor_58 rfl ?_
      refine ro_iload hK 0 rfl dX12_paidFor_59 ?_
      obtain ⟨q9, e10, hf⟩ := ro_bd hf
      refine ro_callvv hK [.int t0] ml_X12_385 mv_X12_feels (mt_X12_feels (kl K) (kG K)  e10) sh_207 ⟨_, rfl, rfl⟩ (by decide) rfl rfl (Nat.le_of_ble_eq_true rfl) dX12_paidFor_61 ?_
      refine ro_aload_n hK 1 rfl dX12_paidFor_64 rfl ?_
      refine ro_getr hK fl_X12_108 sh_207 dX12_paidFor_65 ?_
      refine ro_bipush (v := 6) hK dX12_paidFor_68 (by decide) ?_
      refine ro_iload_n hK 2 rfl dX12_paidFor_70 rfl ?_
      obtain ⟨m11, e12, hf⟩ := ro_ld hf
      refine ro_iast hK sh_240 (by decide) dX12_paidFor_71 ?_
      refine ro_mv e12 ?_
      refine ro_aload_n hK 1 rfl dX12_paidFor_72 rfl ?_
      refine ro_getr hK fl_X12_108 sh_207 dX12_paidFor_73 ?_
      refine ro_bipush (v := 7) hK dX12_paidFor_76 (by decide) ?_
      refine ro_aload_n hK 1 rfl dX12_paidFor_78 rfl ?_
      refine ro_getr hK fl_X12_29 sh_207 dX12_paidFor_79 ?_
      refine ro_iload_n hK 2 rfl dX12_paidFor_82 rfl ?_
      obtain ⟨g13, hf⟩ := ro_gd hf
      refine ro_iald hK sh_214 g13 dX12_paidFor_83 ?_
      obtain ⟨m14, e15, hf⟩ := ro_ld hf
      refine ro_iast hK sh_240 (by decide) dX12_paidFor_84 ?_
      refine ro_mv e15 ?_
      refine ro_iload_n hK 3 rfl dX12_paidFor_85 rfl ?_
      refine ro_aload_n hK 1 rfl dX12_paidFor_86 rfl ?_
      refine ro_bipush (v := 113) hK dX12_paidFor_87 (by decide) ?_
      refine ro_sipush (v := 999) hK dX12_paidFor_89 (by decide) ?_
      obtain ⟨q16, e17, hf⟩ := ro_bd hf
      refine ro_callvi hK [.int 113, .int 999] ml_X12_394 mv_X12_byLaw (mt_X12_byLaw (kl K) (kG K)  e17) sh_207 ⟨_, rfl, rfl⟩ (by decide) rfl rfl (Nat.le_of_ble_eq_true rfl) dX12_paidFor_92 ?_
      refine ro_iadd hK dX12_paidFor_95 ?_
      obtain ⟨z18, e19, hf⟩ := ro_ld hf
      refine ro_iv e19 ?_
      refine ro_istore_n (L' := [(2, .int z18), (4, .int t0), (0, .ref (ro_ad (kG K) 207)), (1, .int v1), (3, .int v3)]) hK dX12_paidFor_96 rfl (by decide) rfl ?_
      refine ro_iinc (v := v3 + 1) (L' := [(3, .int (v3 + 1)), (2, .int z18), (4, .int t0), (0, .ref (ro_ad (kG K) 207)), (1, .int v1)]) hK 4 rfl dX12_paidFor_97 rfl (by decide) rfl ?_
      refine ro_goto hK 4 dX12_paidFor_100 (by decide) ?_
      refine ro_sub (L' := [(0, .ref (ro_ad (kG K) 207)), (1, .int v1), (2, .int z18), (3, .int (v3 + 1))]) [3, 4, 1, 0] rfl ?_
      exact hrec (z18, v3 + 1, q16.2) _ hf hq
    · have hf := ro_ie hf c8
      refine ro_goto hK 97 dX12_paidFor_55 (by decide) ?_
      refine ro_iinc (v := v3 + 1) (L' := [(3, .int (v3 + 1)), (4, .int t0), (0, .ref (ro_ad (kG K) 207)), (1, .int v1), (2, .int v2)]) hK 4 rfl dX12_paidFor_97 rfl (by decide) rfl ?_
      refine ro_goto hK 4 dX12_paidFor_100 (by decide) ?_
      refine ro_sub (L' := [(0, .ref (ro_ad (kG K) 207)), (1, .int v1), (2, .int v2), (3, .int (v3 + 1))]) [2, 3, 4, 0] rfl ?_
      exact hrec (v2, v3 + 1, μ) _ hf hq
def fb_X12_paidFor_4 (v1 : Int32) (rec : (Int32 × Int32 × ro_Mem) → Option (Int32 × ro_Mem)) (v2 : Int32) (v3 : Int32) (μ : ro_Mem) : Option (Int32 × ro_Mem) :=
  if 10 ≤ v3 then
  (some (v2, μ))
  else
  ((fn_X12_isGuest v3 μ).bind fun q2 =>
  if q2 = 0 then
  (fj_X12_paidFor_35 rec v1 v2 v3 255 μ)
  else
  (if ro_in ((10 * v1) + v3) 40 then
  (fj_X12_paidFor_35 rec v1 v2 v3 (μ 216 ((10 * v1) + v3).toNatClampNeg) μ) else none))
theorem bb_X12_paidFor_4 {K : ro_K} (hK : ro_C K RX12 cX12_paidFor 5 5) (hR : ro_R K (some .int)) {v1 : Int32}  {μ : ro_Mem} {rec : (Int32 × Int32 × ro_Mem) → Option (Int32 × ro_Mem)} {v2 : Int32} {v3 : Int32} {q : (Int32 × ro_Mem)} (hrec : ∀ (s : Int32 × Int32 × ro_Mem) (q : (Int32 × ro_Mem)), rec s = some q → ok_X12_paidFor_4 K v1 q → ro_X K 4 [(0, .ref (ro_ad (kG K) 207)), (1, .int v1), (2, .int s.1), (3, .int s.2.1)] [] s.2.2) (hf : fb_X12_paidFor_4 v1 rec v2 v3 μ = some q) (hq : ok_X12_paidFor_4 K v1 q) : ro_X K 4 [(0, .ref (ro_ad (kG K) 207)), (1, .int v1), (2, .int v2), (3, .int v3)] [] μ := by
  unfold fb_X12_paidFor_4 at hf
  refine ro_iload_n hK 3 rfl dX12_paidFor_4 rfl ?_
  refine ro_bipush (v := 10) hK dX12_paidFor_5 (by decide) ?_
  refine ro_icmp_ge hK 103 dX12_paidFor_7 (by decide) (fun c1 => ?_) (fun c1 => ?_)
  · have hf := ro_it hf c1
    refine ro_sub (L' := [(2, .int v2)]) [2] rfl ?_
    obtain rfl := Option.some.inj hf
    exact hq
  · have hf := ro_ie hf c1
    refine ro_aload_n hK 0 rfl dX12_paidFor_10 rfl ?_
    refine ro_iload_n hK 3 rfl dX12_paidFor_11 rfl ?_
    obtain ⟨q2, e3, hf⟩ := ro_bd hf
    refine ro_callvi hK [.int v3] ml_X12_235 mv_X12_isGuest (mt_X12_isGuest (kl K) (kG K)  e3) sh_207 ⟨_, rfl, rfl⟩ (by decide) rfl rfl (Nat.le_of_ble_eq_true rfl) dX12_paidFor_12 ?_
    refine ro_if_eq hK 32 dX12_paidFor_15 (by decide) (fun c4 => ?_) (fun c4 => ?_)
    · have hf := ro_it hf c4
      refine ro_sipush (v := 255) hK dX12_paidFor_32 (by decide) ?_
      exact bj_X12_paidFor_35 hK hR  hrec hf hq
    · have hf := ro_ie hf c4
      refine ro_aload_n hK 0 rfl dX12_paidFor_18 rfl ?_
      refine ro_getr hK fl_X12_35 sh_207 dX12_paidFor_19 ?_
      refine ro_bipush (v := 10) hK dX12_paidFor_22 (by decide) ?_
      refine ro_iload_n hK 1 rfl dX12_paidFor_24 rfl ?_
      refine ro_imul hK dX12_paidFor_25 ?_
      refine ro_iload_n hK 3 rfl dX12_paidFor_26 rfl ?_
      refine ro_iadd hK dX12_paidFor_27 ?_
      obtain ⟨g20, hf⟩ := ro_gd hf
      refine ro_iald hK sh_216 g20 dX12_paidFor_28 ?_
      refine ro_goto hK 35 dX12_paidFor_29 (by decide) ?_
      exact bj_X12_paidFor_35 hK hR  hrec hf hq
def fl_X12_paidFor_4 (v1 : Int32) : (Int32 × Int32 × ro_Mem) → Option (Int32 × ro_Mem) :=
  ro_loop (fun rec s => fb_X12_paidFor_4 v1 rec s.1 s.2.1 s.2.2) ro_FU
theorem lp_X12_paidFor_4 {K : ro_K} (hK : ro_C K RX12 cX12_paidFor 5 5) (hR : ro_R K (some .int)) {v1 : Int32}  {s : Int32 × Int32 × ro_Mem} {q : (Int32 × ro_Mem)} (hf : fl_X12_paidFor_4 v1 s = some q) (hq : ok_X12_paidFor_4 K v1 q) : ro_X K 4 [(0, .ref (ro_ad (kG K) 207)), (1, .int v1), (2, .int s.1), (3, .int s.2.1)] [] s.2.2 :=
  ro_loopX (b := fun rec s => fb_X12_paidFor_4 v1 rec s.1 s.2.1 s.2.2) (X := fun s => ro_X K 4 [(0, .ref (ro_ad (kG K) 207)), (1, .int v1), (2, .int s.1), (3, .int s.2.1)] [] s.2.2) (OK := ok_X12_paidFor_4 K v1) (fun rec s q hrec hb ho => bb_X12_paidFor_4 hK hR  hrec hb ho) ro_FU s q hf hq
def fn_X12_paidFor (v1 : Int32) (μ : ro_Mem) : Option (Int32 × ro_Mem) :=
  (fl_X12_paidFor_4 v1 (0, 0, μ)).bind fun q21 =>
  some (q21.1, q21.2)
theorem be_X12_paidFor {K : ro_K} (hK : ro_C K RX12 cX12_paidFor 5 5) (hR : ro_R K (some .int)) {v1 : Int32}  {μ : ro_Mem} {out : Int32 × ro_Mem} (hf : fn_X12_paidFor v1 μ = some out) (hq : kQ K (some (.int out.1)) out.2) : ro_X K 0 [(0, .ref (ro_ad (kG K) 207)), (1, .int v1)] [] μ := by
  unfold fn_X12_paidFor at hf
  refine ro_iconst (v := 0) hK dX12_paidFor_0 (by decide) ?_
  refine ro_istore_n (L' := [(2, .int 0), (0, .ref (ro_ad (kG K) 207)), (1, .int v1)]) hK dX12_paidFor_1 rfl (by decide) rfl ?_
  refine ro_iconst (v := 0) hK dX12_paidFor_2 (by decide) ?_
  refine ro_istore_n (L' := [(3, .int 0), (2, .int 0), (0, .ref (ro_ad (kG K) 207)), (1, .int v1)]) hK dX12_paidFor_3 rfl (by decide) rfl ?_
  obtain ⟨q21, e22, hf⟩ := ro_bd hf
  refine ro_sub (L' := [(0, .ref (ro_ad (kG K) 207)), (1, .int v1), (2, .int 0), (3, .int 0)]) [2, 3, 1, 0] rfl ?_
  refine lp_X12_paidFor_4 hK hR  e22 ?_
  show ro_X K 103 [(2, .int q21.1)] [] q21.2
  refine ro_iload_n hK 0 rfl dX12_paidFor_103 rfl ?_
  obtain rfl := Option.some.inj hf
  exact ro_iret hK hR dX12_paidFor_104 hq
theorem mt_X12_paidFor (l : Launch) (G : ro_G) {v1 : Int32}  {μ : ro_Mem} {out : Int32 × ro_Mem} (hf : fn_X12_paidFor v1 μ = some out) : ro_MX l G yX12_paidFor cX12_paidFor 5 (some .int) 5 [.ref (ro_ad G 207), .int v1] μ (some (.int out.1)) out.2 := by
  refine ro_MX.of (by decide +kernel) (Nat.le_of_ble_eq_true rfl) (fun K hG hl hq hK hR => ?_)
  subst hG
  exact be_X12_paidFor hK hR  hf hq
-- ===== X12_paidAll =====
theorem dX12_paidAll_0 : decode cX12_paidAll 0 = .ok (.iconst 0, 1) := by decide +kernel
theorem dX12_paidAll_1 : decode cX12_paidAll 1 = .ok (.istore_n 1, 1) := by decide +kernel
theorem dX12_paidAll_2 : decode cX12_paidAll 2 = .ok (.iconst 0, 1) := by decide +kernel
theorem dX12_paidAll_3 : decode cX12_paidAll 3 = .ok (.istore_n 2, 1) := by decide +kernel
theorem dX12_paidAll_4 : decode cX12_paidAll 4 = .ok (.iload_n 2, 1) := by decide +kernel
theorem dX12_paidAll_5 : decode cX12_paidAll 5 = .ok (.iconst 4, 1) := by decide +kernel
theorem dX12_paidAll_6 : decode cX12_paidAll 6 = .ok (.if_icmp .ge 17, 3) := by decide +kernel
theorem dX12_paidAll_9 : decode cX12_paidAll 9 = .ok (.iload_n 1, 1) := by decide +kernel
theorem dX12_paidAll_10 : decode cX12_paidAll 10 = .ok (.aload_n 0, 1) := by decide +kernel
theorem dX12_paidAll_11 : decode cX12_paidAll 11 = .ok (.iload_n 2, 1) := by decide +kernel
theorem dX12_paidAll_12 : decode cX12_paidAll 12 = .ok (.invokevirtual 496, 3) := by decide +kernel
theorem dX12_paidAll_15 : decode cX12_paidAll 15 = .ok (.iadd, 1) := by decide +kernel
theorem dX12_paidAll_16 : decode cX12_paidAll 16 = .ok (.istore_n 1, 1) := by decide +kernel
theorem dX12_paidAll_17 : decode cX12_paidAll 17 = .ok (.iinc 2 1, 3) := by decide +kernel
theorem dX12_paidAll_20 : decode cX12_paidAll 20 = .ok (.goto (-16), 3) := by decide +kernel
theorem dX12_paidAll_23 : decode cX12_paidAll 23 = .ok (.iload_n 1, 1) := by decide +kernel
theorem dX12_paidAll_24 : decode cX12_paidAll 24 = .ok (.ireturn, 1) := by decide +kernel
def ok_X12_paidAll_4 (K : ro_K)  : (Int32 × ro_Mem) → Prop := fun e => ro_X K 23 [(1, .int e.1)] [] e.2
def fb_X12_paidAll_4  (rec : (Int32 × Int32 × ro_Mem) → Option (Int32 × ro_Mem)) (v1 : Int32) (v2 : Int32) (μ : ro_Mem) : Option (Int32 × ro_Mem) :=
  if 4 ≤ v2 then
  (some (v1, μ))
  else
  ((fn_X12_paidFor v2 μ).bind fun q2 =>
  ro_lt (v1 + q2.1) fun z4 =>
  rec (z4, v2 + 1, q2.2))
theorem bb_X12_paidAll_4 {K : ro_K} (hK : ro_C K RX12 cX12_paidAll 3 6) (hR : ro_R K (some .int))   {μ : ro_Mem} {rec : (Int32 × Int32 × ro_Mem) → Option (Int32 × ro_Mem)} {v1 : Int32} {v2 : Int32} {q : (Int32 × ro_Mem)} (hrec : ∀ (s : Int32 × Int32 × ro_Mem) (q : (Int32 × ro_Mem)), rec s = some q → ok_X12_paidAll_4 K q → ro_X K 4 [(0, .ref (ro_ad (kG K) 207)), (1, .int s.1), (2, .int s.2.1)] [] s.2.2) (hf : fb_X12_paidAll_4 rec v1 v2 μ = some q) (hq : ok_X12_paidAll_4 K q) : ro_X K 4 [(0, .ref (ro_ad (kG K) 207)), (1, .int v1), (2, .int v2)] [] μ := by
  unfold fb_X12_paidAll_4 at hf
  refine ro_iload_n hK 2 rfl dX12_paidAll_4 rfl ?_
  refine ro_iconst (v := 4) hK dX12_paidAll_5 (by decide) ?_
  refine ro_icmp_ge hK 23 dX12_paidAll_6 (by decide) (fun c1 => ?_) (fun c1 => ?_)
  · have hf := ro_it hf c1
    refine ro_sub (L' := [(1, .int v1)]) [1] rfl ?_
    obtain rfl := Option.some.inj hf
    exact hq
  · have hf := ro_ie hf c1
    refine ro_iload_n hK 1 rfl dX12_paidAll_9 rfl ?_
    refine ro_aload_n hK 0 rfl dX12_paidAll_10 rfl ?_
    refine ro_iload_n hK 2 rfl dX12_paidAll_11 rfl ?_
    obtain ⟨q2, e3, hf⟩ := ro_bd hf
    refine ro_callvi hK [.int v2] ml_X12_496 mv_X12_paidFor (mt_X12_paidFor (kl K) (kG K)  e3) sh_207 ⟨_, rfl, rfl⟩ (by decide) rfl rfl (Nat.le_of_ble_eq_true rfl) dX12_paidAll_12 ?_
    refine ro_iadd hK dX12_paidAll_15 ?_
    obtain ⟨z4, e5, hf⟩ := ro_ld hf
    refine ro_iv e5 ?_
    refine ro_istore_n (L' := [(1, .int z4), (0, .ref (ro_ad (kG K) 207)), (2, .int v2)]) hK dX12_paidAll_16 rfl (by decide) rfl ?_
    refine ro_iinc (v := v2 + 1) (L' := [(2, .int (v2 + 1)), (1, .int z4), (0, .ref (ro_ad (kG K) 207))]) hK 2 rfl dX12_paidAll_17 rfl (by decide) rfl ?_
    refine ro_goto hK 4 dX12_paidAll_20 (by decide) ?_
    refine ro_sub (L' := [(0, .ref (ro_ad (kG K) 207)), (1, .int z4), (2, .int (v2 + 1))]) [2, 1, 0] rfl ?_
    exact hrec (z4, v2 + 1, q2.2) _ hf hq
def fl_X12_paidAll_4  : (Int32 × Int32 × ro_Mem) → Option (Int32 × ro_Mem) :=
  ro_loop (fun rec s => fb_X12_paidAll_4 rec s.1 s.2.1 s.2.2) ro_FU
theorem lp_X12_paidAll_4 {K : ro_K} (hK : ro_C K RX12 cX12_paidAll 3 6) (hR : ro_R K (some .int))   {s : Int32 × Int32 × ro_Mem} {q : (Int32 × ro_Mem)} (hf : fl_X12_paidAll_4 s = some q) (hq : ok_X12_paidAll_4 K q) : ro_X K 4 [(0, .ref (ro_ad (kG K) 207)), (1, .int s.1), (2, .int s.2.1)] [] s.2.2 :=
  ro_loopX (b := fun rec s => fb_X12_paidAll_4 rec s.1 s.2.1 s.2.2) (X := fun s => ro_X K 4 [(0, .ref (ro_ad (kG K) 207)), (1, .int s.1), (2, .int s.2.1)] [] s.2.2) (OK := ok_X12_paidAll_4 K) (fun rec s q hrec hb ho => bb_X12_paidAll_4 hK hR  hrec hb ho) ro_FU s q hf hq
def fn_X12_paidAll (μ : ro_Mem) : Option (Int32 × ro_Mem) :=
  (fl_X12_paidAll_4  (0, 0, μ)).bind fun q6 =>
  some (q6.1, q6.2)
theorem be_X12_paidAll {K : ro_K} (hK : ro_C K RX12 cX12_paidAll 3 6) (hR : ro_R K (some .int))   {μ : ro_Mem} {out : Int32 × ro_Mem} (hf : fn_X12_paidAll μ = some out) (hq : kQ K (some (.int out.1)) out.2) : ro_X K 0 [(0, .ref (ro_ad (kG K) 207))] [] μ := by
  unfold fn_X12_paidAll at hf
  refine ro_iconst (v := 0) hK dX12_paidAll_0 (by decide) ?_
  refine ro_istore_n (L' := [(1, .int 0), (0, .ref (ro_ad (kG K) 207))]) hK dX12_paidAll_1 rfl (by decide) rfl ?_
  refine ro_iconst (v := 0) hK dX12_paidAll_2 (by decide) ?_
  refine ro_istore_n (L' := [(2, .int 0), (1, .int 0), (0, .ref (ro_ad (kG K) 207))]) hK dX12_paidAll_3 rfl (by decide) rfl ?_
  obtain ⟨q6, e7, hf⟩ := ro_bd hf
  refine ro_sub (L' := [(0, .ref (ro_ad (kG K) 207)), (1, .int 0), (2, .int 0)]) [2, 1, 0] rfl ?_
  refine lp_X12_paidAll_4 hK hR  e7 ?_
  show ro_X K 23 [(1, .int q6.1)] [] q6.2
  refine ro_iload_n hK 0 rfl dX12_paidAll_23 rfl ?_
  obtain rfl := Option.some.inj hf
  exact ro_iret hK hR dX12_paidAll_24 hq
theorem mt_X12_paidAll (l : Launch) (G : ro_G)   {μ : ro_Mem} {out : Int32 × ro_Mem} (hf : fn_X12_paidAll μ = some out) : ro_MX l G yX12_paidAll cX12_paidAll 3 (some .int) 6 [.ref (ro_ad G 207)] μ (some (.int out.1)) out.2 := by
  refine ro_MX.of (by decide +kernel) (Nat.le_of_ble_eq_true rfl) (fun K hG hl hq hK hR => ?_)
  subst hG
  exact be_X12_paidAll hK hR  hf hq
-- ===== X12_paid =====
theorem dX12_paid_0 : decode cX12_paid 0 = .ok (.iload_n 1, 1) := by decide +kernel
theorem dX12_paid_1 : decode cX12_paid 1 = .ok (.iconst 0, 1) := by decide +kernel
theorem dX12_paid_2 : decode cX12_paid 2 = .ok (.iconst 4, 1) := by decide +kernel
theorem dX12_paid_3 : decode cX12_paid 3 = .ok (.invokestatic 215, 3) := by decide +kernel
theorem dX12_paid_6 : decode cX12_paid 6 = .ok (.ifCond .ne 5, 3) := by decide +kernel
theorem dX12_paid_9 : decode cX12_paid 9 = .ok (.iconst (-1), 1) := by decide +kernel
theorem dX12_paid_10 : decode cX12_paid 10 = .ok (.ireturn, 1) := by decide +kernel
theorem dX12_paid_11 : decode cX12_paid 11 = .ok (.aload_n 0, 1) := by decide +kernel
theorem dX12_paid_12 : decode cX12_paid 12 = .ok (.invokevirtual 426, 3) := by decide +kernel
theorem dX12_paid_15 : decode cX12_paid 15 = .ok (.iload_n 1, 1) := by decide +kernel
theorem dX12_paid_16 : decode cX12_paid 16 = .ok (.iconst 4, 1) := by decide +kernel
theorem dX12_paid_17 : decode cX12_paid 17 = .ok (.if_icmp .ne 10, 3) := by decide +kernel
theorem dX12_paid_20 : decode cX12_paid 20 = .ok (.aload_n 0, 1) := by decide +kernel
theorem dX12_paid_21 : decode cX12_paid 21 = .ok (.invokevirtual 499, 3) := by decide +kernel
theorem dX12_paid_24 : decode cX12_paid 24 = .ok (.goto 8, 3) := by decide +kernel
theorem dX12_paid_27 : decode cX12_paid 27 = .ok (.aload_n 0, 1) := by decide +kernel
theorem dX12_paid_28 : decode cX12_paid 28 = .ok (.iload_n 1, 1) := by decide +kernel
theorem dX12_paid_29 : decode cX12_paid 29 = .ok (.invokevirtual 496, 3) := by decide +kernel
theorem dX12_paid_32 : decode cX12_paid 32 = .ok (.ireturn, 1) := by decide +kernel
def fn_X12_paid (v1 : Int32) (μ : ro_Mem) : Option (Int32 × ro_Mem) :=
  (fn_X12_in v1 0 4).bind fun q1 =>
  if q1 = 0 then
  (some ((-1), μ))
  else
  ((fn_X12_laysDrops μ).bind fun q4 =>
  if v1 = 4 then
  ((fn_X12_paidAll q4).bind fun q9 =>
  some (q9.1, q9.2))
  else
  ((fn_X12_paidFor v1 q4).bind fun q7 =>
  some (q7.1, q7.2)))
theorem be_X12_paid {K : ro_K} (hK : ro_C K RX12 cX12_paid 2 7) (hR : ro_R K (some .int)) {v1 : Int32}  {μ : ro_Mem} {out : Int32 × ro_Mem} (hf : fn_X12_paid v1 μ = some out) (hq : kQ K (some (.int out.1)) out.2) : ro_X K 0 [(0, .ref (ro_ad (kG K) 207)), (1, .int v1)] [] μ := by
  unfold fn_X12_paid at hf
  refine ro_iload_n hK 1 rfl dX12_paid_0 rfl ?_
  refine ro_iconst (v := 0) hK dX12_paid_1 (by decide) ?_
  refine ro_iconst (v := 4) hK dX12_paid_2 (by decide) ?_
  obtain ⟨q1, e2, hf⟩ := ro_bd hf
  refine ro_callsi hK [.int v1, .int 0, .int 4] ml_X12_215 ms_X12_in (mt_X12_in (kl K) (kG K)  e2) (by decide) rfl rfl (Nat.le_of_ble_eq_true rfl) dX12_paid_3 ?_
  refine ro_if_ne hK 11 dX12_paid_6 (by decide) (fun c3 => ?_) (fun c3 => ?_)
  · have hf := ro_ie hf c3
    refine ro_aload_n hK 0 rfl dX12_paid_11 rfl ?_
    obtain ⟨q4, e5, hf⟩ := ro_bd hf
    refine ro_callvv hK [] ml_X12_426 mv_X12_laysDrops (mt_X12_laysDrops (kl K) (kG K)  e5) sh_207 ⟨_, rfl, rfl⟩ (by decide) rfl rfl (Nat.le_of_ble_eq_true rfl) dX12_paid_12 ?_
    refine ro_iload_n hK 1 rfl dX12_paid_15 rfl ?_
    refine ro_iconst (v := 4) hK dX12_paid_16 (by decide) ?_
    refine ro_icmp_ne hK 27 dX12_paid_17 (by decide) (fun c6 => ?_) (fun c6 => ?_)
    · have hf := ro_ie hf c6
      refine ro_aload_n hK 0 rfl dX12_paid_27 rfl ?_
      refine ro_iload_n hK 1 rfl dX12_paid_28 rfl ?_
      obtain ⟨q7, e8, hf⟩ := ro_bd hf
      refine ro_callvi hK [.int v1] ml_X12_496 mv_X12_paidFor (mt_X12_paidFor (kl K) (kG K)  e8) sh_207 ⟨_, rfl, rfl⟩ (by decide) rfl rfl (Nat.le_of_ble_eq_true rfl) dX12_paid_29 ?_
      obtain rfl := Option.some.inj hf
      exact ro_iret hK hR dX12_paid_32 hq
    · have hf := ro_it hf c6
      refine ro_aload_n hK 0 rfl dX12_paid_20 rfl ?_
      obtain ⟨q9, e10, hf⟩ := ro_bd hf
      refine ro_callvi hK [] ml_X12_499 mv_X12_paidAll (mt_X12_paidAll (kl K) (kG K)  e10) sh_207 ⟨_, rfl, rfl⟩ (by decide) rfl rfl (Nat.le_of_ble_eq_true rfl) dX12_paid_21 ?_
      refine ro_goto hK 32 dX12_paid_24 (by decide) ?_
      obtain rfl := Option.some.inj hf
      exact ro_iret hK hR dX12_paid_32 hq
  · have hf := ro_it hf c3
    refine ro_iconst (v := (-1)) hK dX12_paid_9 (by decide) ?_
    obtain rfl := Option.some.inj hf
    exact ro_iret hK hR dX12_paid_10 hq
theorem mt_X12_paid (l : Launch) (G : ro_G) {v1 : Int32}  {μ : ro_Mem} {out : Int32 × ro_Mem} (hf : fn_X12_paid v1 μ = some out) : ro_MX l G yX12_paid cX12_paid 2 (some .int) 7 [.ref (ro_ad G 207), .int v1] μ (some (.int out.1)) out.2 := by
  refine ro_MX.of (by decide +kernel) (Nat.le_of_ble_eq_true rfl) (fun K hG hl hq hK hR => ?_)
  subst hG
  exact be_X12_paid hK hR  hf hq
