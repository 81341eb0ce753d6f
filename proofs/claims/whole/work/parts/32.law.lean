section LAW
variable {K : ro_K} {own : String} {cc : ByteArray} {nL h pc : Nat} {Lv : List (Nat × Value)} {st : List Value} {μ : ro_Mem}
theorem ro_scl (hK : ro_C K own cc nL h) {b L : Nat} {xs : Nat → Int32} (hX : va_X b L xs (ks K) (ks K).heap) (hbl : b < (ks K).heap.size) (hbA : ¬ ro_A (kG K) b) {i : Int32} (hi : ro_in i L) (d : decode cc pc = .ok (.iaload, 1)) (kk : ro_X K (pc + 1) Lv (.int (xs i.toNatClampNeg) :: st) μ) : ro_X K pc Lv (.int i :: .ref b :: st) μ := fun H lo ls hP hS hl => va_sld hK.1 hK.2.1 hX hbl hbA hS (ro_in_vp hi) d (kk H lo ls hP hS hl)
theorem ro_scn (hK : ro_C K own cc nL h) {b L : Nat} {xs : Nat → Int32} (hX : va_X b L xs (ks K) (ks K).heap) (hbl : b < (ks K).heap.size) (hbA : ¬ ro_A (kG K) b) (d : decode cc pc = .ok (.arraylength, 1)) (kk : ro_X K (pc + 1) Lv (.int (nI L) :: st) μ) : ro_X K pc Lv (.ref b :: st) μ := fun H lo ls hP hS hl => va_slen hK.1 hK.2.1 hX hbl hbA hS d (kk H lo ls hP hS hl)
end LAW
theorem ml_L_13 : Cond.methodLink RL 13 yX11_seat ∈ ro_WT := ro_tb 473 (by decide +kernel) rfl
theorem ml_L_17 : Cond.methodLink RL 17 yX12_seat ∈ ro_WT := ro_tb 1366 (by decide +kernel) rfl
theorem ml_L_18 : Cond.methodLink RL 18 yX11_slate ∈ ro_WT := ro_tb 480 (by decide +kernel) rfl
theorem ml_L_22 : Cond.methodLink RL 22 yX12_slate ∈ ro_WT := ro_tb 1376 (by decide +kernel) rfl
theorem ml_L_23 : Cond.methodLink RL 23 yX11_nail ∈ ro_WT := ro_tb 488 (by decide +kernel) rfl
theorem ml_L_27 : Cond.methodLink RL 27 yX12_nail ∈ ro_WT := ro_tb 1380 (by decide +kernel) rfl
theorem ml_L_28 : Cond.methodLink RL 28 yX11_rain ∈ ro_WT := ro_tb 500 (by decide +kernel) rfl
theorem ml_L_32 : Cond.methodLink RL 32 yX12_rain ∈ ro_WT := ro_tb 1391 (by decide +kernel) rfl
theorem ml_L_33 : Cond.methodLink RL 33 yX11_guest ∈ ro_WT := ro_tb 507 (by decide +kernel) rfl
theorem ml_L_36 : Cond.methodLink RL 36 yX12_guest ∈ ro_WT := ro_tb 1398 (by decide +kernel) rfl
theorem ml_L_37 : Cond.methodLink RL 37 yX11_sits ∈ ro_WT := ro_tb 515 (by decide +kernel) rfl
theorem ml_L_41 : Cond.methodLink RL 41 yX12_sits ∈ ro_WT := ro_tb 1402 (by decide +kernel) rfl
theorem ml_L_42 : Cond.methodLink RL 42 yX11_feed ∈ ro_WT := ro_tb 527 (by decide +kernel) rfl
theorem ml_L_46 : Cond.methodLink RL 46 yX12_feed ∈ ro_WT := ro_tb 1414 (by decide +kernel) rfl
theorem ml_L_47 : Cond.methodLink RL 47 yX11_score ∈ ro_WT := ro_tb 535 (by decide +kernel) rfl
theorem ml_L_51 : Cond.methodLink RL 51 yX12_score ∈ ro_WT := ro_tb 1422 (by decide +kernel) rfl
theorem ml_L_52 : Cond.methodLink RL 52 yX11_law ∈ ro_WT := ro_tb 668 (by decide +kernel) rfl
theorem ml_L_55 : Cond.methodLink RL 55 yX12_law ∈ ro_WT := ro_tb 1469 (by decide +kernel) rfl
theorem ml_L_56 : Cond.methodLink RL 56 yX11_note ∈ ro_WT := ro_tb 724 (by decide +kernel) rfl
theorem ml_L_60 : Cond.methodLink RL 60 yX12_note ∈ ro_WT := ro_tb 1461 (by decide +kernel) rfl
theorem ml_L_61 : Cond.methodLink RL 61 yX11_drops ∈ ro_WT := ro_tb 728 (by decide +kernel) rfl
theorem ml_L_64 : Cond.methodLink RL 64 yX12_drops ∈ ro_WT := ro_tb 1536 (by decide +kernel) rfl
theorem ml_L_65 : Cond.methodLink RL 65 yX11_wet ∈ ro_WT := ro_tb 796 (by decide +kernel) rfl
theorem ml_L_69 : Cond.methodLink RL 69 yX12_wet ∈ ro_WT := ro_tb 1563 (by decide +kernel) rfl
theorem ml_L_70 : Cond.methodLink RL 70 yX11_guestWet ∈ ro_WT := ro_tb 807 (by decide +kernel) rfl
theorem ml_L_73 : Cond.methodLink RL 73 yX12_guestWet ∈ ro_WT := ro_tb 1609 (by decide +kernel) rfl
theorem ml_L_74 : Cond.methodLink RL 74 yX11_house ∈ ro_WT := ro_tb 815 (by decide +kernel) rfl
theorem ml_L_77 : Cond.methodLink RL 77 yX12_house ∈ ro_WT := ro_tb 1617 (by decide +kernel) rfl
theorem ml_L_78 : Cond.methodLink RL 78 yX11_seated ∈ ro_WT := ro_tb 829 (by decide +kernel) rfl
theorem ml_L_82 : Cond.methodLink RL 82 yX12_seated ∈ ro_WT := ro_tb 1640 (by decide +kernel) rfl
theorem ml_L_83 : Cond.methodLink RL 83 yX11_transposed ∈ ro_WT := ro_tb 874 (by decide +kernel) rfl
theorem ml_L_86 : Cond.methodLink RL 86 yX12_transposed ∈ ro_WT := ro_tb 1664 (by decide +kernel) rfl
theorem ml_L_87 : Cond.methodLink RL 87 yX11_leftOut ∈ ro_WT := ro_tb 901 (by decide +kernel) rfl
theorem ml_L_90 : Cond.methodLink RL 90 yX12_leftOut ∈ ro_WT := ro_tb 1672 (by decide +kernel) rfl
theorem ml_L_91 : Cond.methodLink RL 91 yX11_nails ∈ ro_WT := ro_tb 935 (by decide +kernel) rfl
theorem ml_L_94 : Cond.methodLink RL 94 yX12_nails ∈ ro_WT := ro_tb 1680 (by decide +kernel) rfl
theorem ml_L_95 : Cond.methodLink RL 95 yX11_sung ∈ ro_WT := ro_tb 965 (by decide +kernel) rfl
theorem ml_L_98 : Cond.methodLink RL 98 yX12_sung ∈ ro_WT := ro_tb 1692 (by decide +kernel) rfl
theorem ml_L_99 : Cond.methodLink RL 99 yX11_sponge ∈ ro_WT := ro_tb 999 (by decide +kernel) rfl
theorem ml_L_102 : Cond.methodLink RL 102 yX12_sponge ∈ ro_WT := ro_tb 1708 (by decide +kernel) rfl
theorem ml_L_103 : Cond.methodLink RL 103 yX11_paid ∈ ro_WT := ro_tb 1008 (by decide +kernel) rfl
theorem ml_L_106 : Cond.methodLink RL 106 yX12_paid ∈ ro_WT := ro_tb 1716 (by decide +kernel) rfl
theorem ml_L_107 : Cond.methodLink RL 107 yX11_perform ∈ ro_WT := ro_tb 1020 (by decide +kernel) rfl
theorem ml_L_111 : Cond.methodLink RL 111 yX12_perform ∈ ro_WT := ro_tb 1728 (by decide +kernel) rfl
theorem ml_L_112 : Cond.methodLink RL 112 yX11_soFar ∈ ro_WT := ro_tb 1034 (by decide +kernel) rfl
theorem ml_L_115 : Cond.methodLink RL 115 yX12_soFar ∈ ro_WT := ro_tb 1736 (by decide +kernel) rfl
theorem ml_L_116 : Cond.methodLink RL 116 yX11_seed ∈ ro_WT := ro_tb 1038 (by decide +kernel) rfl
theorem ml_L_120 : Cond.methodLink RL 120 yX12_seed ∈ ro_WT := ro_tb 1740 (by decide +kernel) rfl
theorem ml_L_121 : Cond.methodLink RL 121 yX11_draw ∈ ro_WT := ro_tb 1043 (by decide +kernel) rfl
theorem ml_L_124 : Cond.methodLink RL 124 yX12_draw ∈ ro_WT := ro_tb 1745 (by decide +kernel) rfl
theorem ml_L_125 : Cond.methodLink RL 125 yX11_keep ∈ ro_WT := ro_tb 1047 (by decide +kernel) rfl
theorem ml_L_128 : Cond.methodLink RL 128 yX12_keep ∈ ro_WT := ro_tb 1750 (by decide +kernel) rfl
theorem ml_L_129 : Cond.methodLink RL 129 yX11_undo ∈ ro_WT := ro_tb 1056 (by decide +kernel) rfl
theorem ml_L_133 : Cond.methodLink RL 133 yX12_undo ∈ ro_WT := ro_tb 1757 (by decide +kernel) rfl
theorem ml_L_134 : Cond.methodLink RL 134 yX11_check ∈ ro_WT := ro_tb 1060 (by decide +kernel) rfl
theorem ml_L_137 : Cond.methodLink RL 137 yX12_check ∈ ro_WT := ro_tb 1761 (by decide +kernel) rfl
theorem ml_L_138 : Cond.methodLink RL 138 yX11_count ∈ ro_WT := ro_tb 1068 (by decide +kernel) rfl
theorem ml_L_141 : Cond.methodLink RL 141 yX12_count ∈ ro_WT := ro_tb 1769 (by decide +kernel) rfl
theorem dL_law_0 : decode cL_law 0 = .ok (.new 7, 3) := by decide +kernel
theorem dL_law_3 : decode cL_law 3 = .ok (.dup, 1) := by decide +kernel
theorem dL_law_4 : decode cL_law 4 = .ok (.invokespecial 9, 3) := by decide +kernel
theorem dL_law_7 : decode cL_law 7 = .ok (.astore_n 1, 1) := by decide +kernel
theorem dL_law_8 : decode cL_law 8 = .ok (.new 10, 3) := by decide +kernel
theorem dL_law_11 : decode cL_law 11 = .ok (.dup, 1) := by decide +kernel
theorem dL_law_12 : decode cL_law 12 = .ok (.invokespecial 12, 3) := by decide +kernel
theorem dL_law_15 : decode cL_law 15 = .ok (.astore_n 2, 1) := by decide +kernel
theorem dL_law_16 : decode cL_law 16 = .ok (.iconst 0, 1) := by decide +kernel
theorem dL_law_17 : decode cL_law 17 = .ok (.istore_n 3, 1) := by decide +kernel
theorem dL_law_18 : decode cL_law 18 = .ok (.iload_n 3, 1) := by decide +kernel
theorem dL_law_19 : decode cL_law 19 = .ok (.aload_n 0, 1) := by decide +kernel
theorem dL_law_20 : decode cL_law 20 = .ok (.arraylength, 1) := by decide +kernel
theorem dL_law_21 : decode cL_law 21 = .ok (.bipush 6, 2) := by decide +kernel
theorem dL_law_23 : decode cL_law 23 = .ok (.isub, 1) := by decide +kernel
theorem dL_law_24 : decode cL_law 24 = .ok (.if_icmp .gt 1155, 3) := by decide +kernel
theorem dL_law_27 : decode cL_law 27 = .ok (.aload_n 0, 1) := by decide +kernel
theorem dL_law_28 : decode cL_law 28 = .ok (.iload_n 3, 1) := by decide +kernel
theorem dL_law_29 : decode cL_law 29 = .ok (.iaload, 1) := by decide +kernel
theorem dL_law_30 : decode cL_law 30 = .ok (.bipush 31, 2) := by decide +kernel
theorem dL_law_32 : decode cL_law 32 = .ok (.iand, 1) := by decide +kernel
theorem dL_law_33 : decode cL_law 33 = .ok (.tableswitch 1140 0 28 #[131, 200, 263, 312, 345, 378, 431, 494, 517, 540, 573, 606, 649, 682, 715, 768, 801, 844, 877, 920, 953, 976, 989, 1012, 1035, 1048, 1061, 1074, 1117], 131) := by decide +kernel
theorem dL_law_164 : decode cL_law 164 = .ok (.aload_n 1, 1) := by decide +kernel
theorem dL_law_165 : decode cL_law 165 = .ok (.aload_n 0, 1) := by decide +kernel
theorem dL_law_166 : decode cL_law 166 = .ok (.iload_n 3, 1) := by decide +kernel
theorem dL_law_167 : decode cL_law 167 = .ok (.iconst 1, 1) := by decide +kernel
theorem dL_law_168 : decode cL_law 168 = .ok (.iadd, 1) := by decide +kernel
theorem dL_law_169 : decode cL_law 169 = .ok (.iaload, 1) := by decide +kernel
theorem dL_law_170 : decode cL_law 170 = .ok (.aload_n 0, 1) := by decide +kernel
theorem dL_law_171 : decode cL_law 171 = .ok (.iload_n 3, 1) := by decide +kernel
theorem dL_law_172 : decode cL_law 172 = .ok (.iconst 2, 1) := by decide +kernel
theorem dL_law_173 : decode cL_law 173 = .ok (.iadd, 1) := by decide +kernel
theorem dL_law_174 : decode cL_law 174 = .ok (.iaload, 1) := by decide +kernel
theorem dL_law_175 : decode cL_law 175 = .ok (.aload_n 0, 1) := by decide +kernel
theorem dL_law_176 : decode cL_law 176 = .ok (.iload_n 3, 1) := by decide +kernel
theorem dL_law_177 : decode cL_law 177 = .ok (.iconst 3, 1) := by decide +kernel
theorem dL_law_178 : decode cL_law 178 = .ok (.iadd, 1) := by decide +kernel
theorem dL_law_179 : decode cL_law 179 = .ok (.iaload, 1) := by decide +kernel
theorem dL_law_180 : decode cL_law 180 = .ok (.ifCond .eq 7, 3) := by decide +kernel
theorem dL_law_183 : decode cL_law 183 = .ok (.iconst 1, 1) := by decide +kernel
theorem dL_law_184 : decode cL_law 184 = .ok (.goto 4, 3) := by decide +kernel
theorem dL_law_187 : decode cL_law 187 = .ok (.iconst 0, 1) := by decide +kernel
theorem dL_law_188 : decode cL_law 188 = .ok (.aload_n 0, 1) := by decide +kernel
theorem dL_law_189 : decode cL_law 189 = .ok (.iload_n 3, 1) := by decide +kernel
theorem dL_law_190 : decode cL_law 190 = .ok (.iconst 4, 1) := by decide +kernel
theorem dL_law_191 : decode cL_law 191 = .ok (.iadd, 1) := by decide +kernel
theorem dL_law_192 : decode cL_law 192 = .ok (.iaload, 1) := by decide +kernel
theorem dL_law_193 : decode cL_law 193 = .ok (.invokevirtual 13, 3) := by decide +kernel
theorem dL_law_196 : decode cL_law 196 = .ok (.aload_n 2, 1) := by decide +kernel
theorem dL_law_197 : decode cL_law 197 = .ok (.aload_n 0, 1) := by decide +kernel
theorem dL_law_198 : decode cL_law 198 = .ok (.iload_n 3, 1) := by decide +kernel
theorem dL_law_199 : decode cL_law 199 = .ok (.iconst 1, 1) := by decide +kernel
theorem dL_law_200 : decode cL_law 200 = .ok (.iadd, 1) := by decide +kernel
theorem dL_law_201 : decode cL_law 201 = .ok (.iaload, 1) := by decide +kernel
theorem dL_law_202 : decode cL_law 202 = .ok (.aload_n 0, 1) := by decide +kernel
theorem dL_law_203 : decode cL_law 203 = .ok (.iload_n 3, 1) := by decide +kernel
theorem dL_law_204 : decode cL_law 204 = .ok (.iconst 2, 1) := by decide +kernel
theorem dL_law_205 : decode cL_law 205 = .ok (.iadd, 1) := by decide +kernel
theorem dL_law_206 : decode cL_law 206 = .ok (.iaload, 1) := by decide +kernel
theorem dL_law_207 : decode cL_law 207 = .ok (.aload_n 0, 1) := by decide +kernel
theorem dL_law_208 : decode cL_law 208 = .ok (.iload_n 3, 1) := by decide +kernel
theorem dL_law_209 : decode cL_law 209 = .ok (.iconst 3, 1) := by decide +kernel
theorem dL_law_210 : decode cL_law 210 = .ok (.iadd, 1) := by decide +kernel
theorem dL_law_211 : decode cL_law 211 = .ok (.iaload, 1) := by decide +kernel
theorem dL_law_212 : decode cL_law 212 = .ok (.ifCond .eq 7, 3) := by decide +kernel
theorem dL_law_215 : decode cL_law 215 = .ok (.iconst 1, 1) := by decide +kernel
theorem dL_law_216 : decode cL_law 216 = .ok (.goto 4, 3) := by decide +kernel
theorem dL_law_219 : decode cL_law 219 = .ok (.iconst 0, 1) := by decide +kernel
theorem dL_law_220 : decode cL_law 220 = .ok (.aload_n 0, 1) := by decide +kernel
theorem dL_law_221 : decode cL_law 221 = .ok (.iload_n 3, 1) := by decide +kernel
theorem dL_law_222 : decode cL_law 222 = .ok (.iconst 4, 1) := by decide +kernel
theorem dL_law_223 : decode cL_law 223 = .ok (.iadd, 1) := by decide +kernel
theorem dL_law_224 : decode cL_law 224 = .ok (.iaload, 1) := by decide +kernel
theorem dL_law_225 : decode cL_law 225 = .ok (.invokevirtual 17, 3) := by decide +kernel
theorem dL_law_228 : decode cL_law 228 = .ok (.if_icmp .eq 945, 3) := by decide +kernel
theorem dL_law_231 : decode cL_law 231 = .ok (.iconst 0, 1) := by decide +kernel
theorem dL_law_232 : decode cL_law 232 = .ok (.ireturn, 1) := by decide +kernel
theorem dL_law_233 : decode cL_law 233 = .ok (.aload_n 1, 1) := by decide +kernel
theorem dL_law_234 : decode cL_law 234 = .ok (.aload_n 0, 1) := by decide +kernel
theorem dL_law_235 : decode cL_law 235 = .ok (.iload_n 3, 1) := by decide +kernel
theorem dL_law_236 : decode cL_law 236 = .ok (.iconst 1, 1) := by decide +kernel
theorem dL_law_237 : decode cL_law 237 = .ok (.iadd, 1) := by decide +kernel
theorem dL_law_238 : decode cL_law 238 = .ok (.iaload, 1) := by decide +kernel
theorem dL_law_239 : decode cL_law 239 = .ok (.aload_n 0, 1) := by decide +kernel
theorem dL_law_240 : decode cL_law 240 = .ok (.iload_n 3, 1) := by decide +kernel
theorem dL_law_241 : decode cL_law 241 = .ok (.iconst 2, 1) := by decide +kernel
theorem dL_law_242 : decode cL_law 242 = .ok (.iadd, 1) := by decide +kernel
theorem dL_law_243 : decode cL_law 243 = .ok (.iaload, 1) := by decide +kernel
theorem dL_law_244 : decode cL_law 244 = .ok (.aload_n 0, 1) := by decide +kernel
theorem dL_law_245 : decode cL_law 245 = .ok (.iload_n 3, 1) := by decide +kernel
theorem dL_law_246 : decode cL_law 246 = .ok (.iconst 3, 1) := by decide +kernel
theorem dL_law_247 : decode cL_law 247 = .ok (.iadd, 1) := by decide +kernel
theorem dL_law_248 : decode cL_law 248 = .ok (.iaload, 1) := by decide +kernel
theorem dL_law_249 : decode cL_law 249 = .ok (.aload_n 0, 1) := by decide +kernel
theorem dL_law_250 : decode cL_law 250 = .ok (.iload_n 3, 1) := by decide +kernel
theorem dL_law_251 : decode cL_law 251 = .ok (.iconst 4, 1) := by decide +kernel
theorem dL_law_252 : decode cL_law 252 = .ok (.iadd, 1) := by decide +kernel
theorem dL_law_253 : decode cL_law 253 = .ok (.iaload, 1) := by decide +kernel
theorem dL_law_254 : decode cL_law 254 = .ok (.aload_n 0, 1) := by decide +kernel
theorem dL_law_255 : decode cL_law 255 = .ok (.iload_n 3, 1) := by decide +kernel
theorem dL_law_256 : decode cL_law 256 = .ok (.iconst 5, 1) := by decide +kernel
theorem dL_law_257 : decode cL_law 257 = .ok (.iadd, 1) := by decide +kernel
theorem dL_law_258 : decode cL_law 258 = .ok (.iaload, 1) := by decide +kernel
theorem dL_law_259 : decode cL_law 259 = .ok (.invokevirtual 18, 3) := by decide +kernel
theorem dL_law_262 : decode cL_law 262 = .ok (.aload_n 2, 1) := by decide +kernel
theorem dL_law_263 : decode cL_law 263 = .ok (.aload_n 0, 1) := by decide +kernel
theorem dL_law_264 : decode cL_law 264 = .ok (.iload_n 3, 1) := by decide +kernel
theorem dL_law_265 : decode cL_law 265 = .ok (.iconst 1, 1) := by decide +kernel
theorem dL_law_266 : decode cL_law 266 = .ok (.iadd, 1) := by decide +kernel
theorem dL_law_267 : decode cL_law 267 = .ok (.iaload, 1) := by decide +kernel
theorem dL_law_268 : decode cL_law 268 = .ok (.aload_n 0, 1) := by decide +kernel
theorem dL_law_269 : decode cL_law 269 = .ok (.iload_n 3, 1) := by decide +kernel
theorem dL_law_270 : decode cL_law 270 = .ok (.iconst 2, 1) := by decide +kernel
theorem dL_law_271 : decode cL_law 271 = .ok (.iadd, 1) := by decide +kernel
theorem dL_law_272 : decode cL_law 272 = .ok (.iaload, 1) := by decide +kernel
theorem dL_law_273 : decode cL_law 273 = .ok (.aload_n 0, 1) := by decide +kernel
theorem dL_law_274 : decode cL_law 274 = .ok (.iload_n 3, 1) := by decide +kernel
theorem dL_law_275 : decode cL_law 275 = .ok (.iconst 3, 1) := by decide +kernel
theorem dL_law_276 : decode cL_law 276 = .ok (.iadd, 1) := by decide +kernel
theorem dL_law_277 : decode cL_law 277 = .ok (.iaload, 1) := by decide +kernel
theorem dL_law_278 : decode cL_law 278 = .ok (.aload_n 0, 1) := by decide +kernel
theorem dL_law_279 : decode cL_law 279 = .ok (.iload_n 3, 1) := by decide +kernel
theorem dL_law_280 : decode cL_law 280 = .ok (.iconst 4, 1) := by decide +kernel
theorem dL_law_281 : decode cL_law 281 = .ok (.iadd, 1) := by decide +kernel
theorem dL_law_282 : decode cL_law 282 = .ok (.iaload, 1) := by decide +kernel
theorem dL_law_283 : decode cL_law 283 = .ok (.aload_n 0, 1) := by decide +kernel
theorem dL_law_284 : decode cL_law 284 = .ok (.iload_n 3, 1) := by decide +kernel
theorem dL_law_285 : decode cL_law 285 = .ok (.iconst 5, 1) := by decide +kernel
theorem dL_law_286 : decode cL_law 286 = .ok (.iadd, 1) := by decide +kernel
theorem dL_law_287 : decode cL_law 287 = .ok (.iaload, 1) := by decide +kernel
theorem dL_law_288 : decode cL_law 288 = .ok (.invokevirtual 22, 3) := by decide +kernel
theorem dL_law_291 : decode cL_law 291 = .ok (.if_icmp .eq 882, 3) := by decide +kernel
theorem dL_law_294 : decode cL_law 294 = .ok (.iconst 0, 1) := by decide +kernel
theorem dL_law_295 : decode cL_law 295 = .ok (.ireturn, 1) := by decide +kernel
theorem dL_law_296 : decode cL_law 296 = .ok (.aload_n 1, 1) := by decide +kernel
theorem dL_law_297 : decode cL_law 297 = .ok (.aload_n 0, 1) := by decide +kernel
theorem dL_law_298 : decode cL_law 298 = .ok (.iload_n 3, 1) := by decide +kernel
theorem dL_law_299 : decode cL_law 299 = .ok (.iconst 1, 1) := by decide +kernel
theorem dL_law_300 : decode cL_law 300 = .ok (.iadd, 1) := by decide +kernel
theorem dL_law_301 : decode cL_law 301 = .ok (.iaload, 1) := by decide +kernel
theorem dL_law_302 : decode cL_law 302 = .ok (.aload_n 0, 1) := by decide +kernel
theorem dL_law_303 : decode cL_law 303 = .ok (.iload_n 3, 1) := by decide +kernel
theorem dL_law_304 : decode cL_law 304 = .ok (.iconst 2, 1) := by decide +kernel
theorem dL_law_305 : decode cL_law 305 = .ok (.iadd, 1) := by decide +kernel
theorem dL_law_306 : decode cL_law 306 = .ok (.iaload, 1) := by decide +kernel
theorem dL_law_307 : decode cL_law 307 = .ok (.ifCond .eq 7, 3) := by decide +kernel
theorem dL_law_310 : decode cL_law 310 = .ok (.iconst 1, 1) := by decide +kernel
theorem dL_law_311 : decode cL_law 311 = .ok (.goto 4, 3) := by decide +kernel
theorem dL_law_314 : decode cL_law 314 = .ok (.iconst 0, 1) := by decide +kernel
theorem dL_law_315 : decode cL_law 315 = .ok (.invokevirtual 23, 3) := by decide +kernel
theorem dL_law_318 : decode cL_law 318 = .ok (.aload_n 2, 1) := by decide +kernel
theorem dL_law_319 : decode cL_law 319 = .ok (.aload_n 0, 1) := by decide +kernel
theorem dL_law_320 : decode cL_law 320 = .ok (.iload_n 3, 1) := by decide +kernel
theorem dL_law_321 : decode cL_law 321 = .ok (.iconst 1, 1) := by decide +kernel
theorem dL_law_322 : decode cL_law 322 = .ok (.iadd, 1) := by decide +kernel
theorem dL_law_323 : decode cL_law 323 = .ok (.iaload, 1) := by decide +kernel
theorem dL_law_324 : decode cL_law 324 = .ok (.aload_n 0, 1) := by decide +kernel
theorem dL_law_325 : decode cL_law 325 = .ok (.iload_n 3, 1) := by decide +kernel
theorem dL_law_326 : decode cL_law 326 = .ok (.iconst 2, 1) := by decide +kernel
theorem dL_law_327 : decode cL_law 327 = .ok (.iadd, 1) := by decide +kernel
theorem dL_law_328 : decode cL_law 328 = .ok (.iaload, 1) := by decide +kernel
theorem dL_law_329 : decode cL_law 329 = .ok (.ifCond .eq 7, 3) := by decide +kernel
theorem dL_law_332 : decode cL_law 332 = .ok (.iconst 1, 1) := by decide +kernel
theorem dL_law_333 : decode cL_law 333 = .ok (.goto 4, 3) := by decide +kernel
theorem dL_law_336 : decode cL_law 336 = .ok (.iconst 0, 1) := by decide +kernel
theorem dL_law_337 : decode cL_law 337 = .ok (.invokevirtual 27, 3) := by decide +kernel
theorem dL_law_340 : decode cL_law 340 = .ok (.if_icmp .eq 833, 3) := by decide +kernel
theorem dL_law_343 : decode cL_law 343 = .ok (.iconst 0, 1) := by decide +kernel
theorem dL_law_344 : decode cL_law 344 = .ok (.ireturn, 1) := by decide +kernel
theorem dL_law_345 : decode cL_law 345 = .ok (.aload_n 1, 1) := by decide +kernel
theorem dL_law_346 : decode cL_law 346 = .ok (.aload_n 0, 1) := by decide +kernel
theorem dL_law_347 : decode cL_law 347 = .ok (.iload_n 3, 1) := by decide +kernel
theorem dL_law_348 : decode cL_law 348 = .ok (.iconst 1, 1) := by decide +kernel
theorem dL_law_349 : decode cL_law 349 = .ok (.iadd, 1) := by decide +kernel
theorem dL_law_350 : decode cL_law 350 = .ok (.iaload, 1) := by decide +kernel
theorem dL_law_351 : decode cL_law 351 = .ok (.aload_n 0, 1) := by decide +kernel
theorem dL_law_352 : decode cL_law 352 = .ok (.iload_n 3, 1) := by decide +kernel
theorem dL_law_353 : decode cL_law 353 = .ok (.iconst 2, 1) := by decide +kernel
theorem dL_law_354 : decode cL_law 354 = .ok (.iadd, 1) := by decide +kernel
theorem dL_law_355 : decode cL_law 355 = .ok (.iaload, 1) := by decide +kernel
theorem dL_law_356 : decode cL_law 356 = .ok (.invokevirtual 28, 3) := by decide +kernel
theorem dL_law_359 : decode cL_law 359 = .ok (.aload_n 2, 1) := by decide +kernel
theorem dL_law_360 : decode cL_law 360 = .ok (.aload_n 0, 1) := by decide +kernel
theorem dL_law_361 : decode cL_law 361 = .ok (.iload_n 3, 1) := by decide +kernel
theorem dL_law_362 : decode cL_law 362 = .ok (.iconst 1, 1) := by decide +kernel
theorem dL_law_363 : decode cL_law 363 = .ok (.iadd, 1) := by decide +kernel
theorem dL_law_364 : decode cL_law 364 = .ok (.iaload, 1) := by decide +kernel
theorem dL_law_365 : decode cL_law 365 = .ok (.aload_n 0, 1) := by decide +kernel
theorem dL_law_366 : decode cL_law 366 = .ok (.iload_n 3, 1) := by decide +kernel
theorem dL_law_367 : decode cL_law 367 = .ok (.iconst 2, 1) := by decide +kernel
theorem dL_law_368 : decode cL_law 368 = .ok (.iadd, 1) := by decide +kernel
theorem dL_law_369 : decode cL_law 369 = .ok (.iaload, 1) := by decide +kernel
theorem dL_law_370 : decode cL_law 370 = .ok (.invokevirtual 32, 3) := by decide +kernel
theorem dL_law_373 : decode cL_law 373 = .ok (.if_icmp .eq 800, 3) := by decide +kernel
theorem dL_law_376 : decode cL_law 376 = .ok (.iconst 0, 1) := by decide +kernel
theorem dL_law_377 : decode cL_law 377 = .ok (.ireturn, 1) := by decide +kernel
theorem dL_law_378 : decode cL_law 378 = .ok (.aload_n 1, 1) := by decide +kernel
theorem dL_law_379 : decode cL_law 379 = .ok (.aload_n 0, 1) := by decide +kernel
theorem dL_law_380 : decode cL_law 380 = .ok (.iload_n 3, 1) := by decide +kernel
theorem dL_law_381 : decode cL_law 381 = .ok (.iconst 1, 1) := by decide +kernel
theorem dL_law_382 : decode cL_law 382 = .ok (.iadd, 1) := by decide +kernel
theorem dL_law_383 : decode cL_law 383 = .ok (.iaload, 1) := by decide +kernel
theorem dL_law_384 : decode cL_law 384 = .ok (.aload_n 0, 1) := by decide +kernel
theorem dL_law_385 : decode cL_law 385 = .ok (.iload_n 3, 1) := by decide +kernel
theorem dL_law_386 : decode cL_law 386 = .ok (.iconst 2, 1) := by decide +kernel
theorem dL_law_387 : decode cL_law 387 = .ok (.iadd, 1) := by decide +kernel
theorem dL_law_388 : decode cL_law 388 = .ok (.iaload, 1) := by decide +kernel
theorem dL_law_389 : decode cL_law 389 = .ok (.invokevirtual 33, 3) := by decide +kernel
theorem dL_law_392 : decode cL_law 392 = .ok (.aload_n 2, 1) := by decide +kernel
theorem dL_law_393 : decode cL_law 393 = .ok (.aload_n 0, 1) := by decide +kernel
theorem dL_law_394 : decode cL_law 394 = .ok (.iload_n 3, 1) := by decide +kernel
theorem dL_law_395 : decode cL_law 395 = .ok (.iconst 1, 1) := by decide +kernel
theorem dL_law_396 : decode cL_law 396 = .ok (.iadd, 1) := by decide +kernel
theorem dL_law_397 : decode cL_law 397 = .ok (.iaload, 1) := by decide +kernel
theorem dL_law_398 : decode cL_law 398 = .ok (.aload_n 0, 1) := by decide +kernel
theorem dL_law_399 : decode cL_law 399 = .ok (.iload_n 3, 1) := by decide +kernel
theorem dL_law_400 : decode cL_law 400 = .ok (.iconst 2, 1) := by decide +kernel
theorem dL_law_401 : decode cL_law 401 = .ok (.iadd, 1) := by decide +kernel
theorem dL_law_402 : decode cL_law 402 = .ok (.iaload, 1) := by decide +kernel
theorem dL_law_403 : decode cL_law 403 = .ok (.invokevirtual 36, 3) := by decide +kernel
theorem dL_law_406 : decode cL_law 406 = .ok (.if_icmp .eq 767, 3) := by decide +kernel
theorem dL_law_409 : decode cL_law 409 = .ok (.iconst 0, 1) := by decide +kernel
theorem dL_law_410 : decode cL_law 410 = .ok (.ireturn, 1) := by decide +kernel
theorem dL_law_411 : decode cL_law 411 = .ok (.aload_n 1, 1) := by decide +kernel
theorem dL_law_412 : decode cL_law 412 = .ok (.aload_n 0, 1) := by decide +kernel
theorem dL_law_413 : decode cL_law 413 = .ok (.iload_n 3, 1) := by decide +kernel
theorem dL_law_414 : decode cL_law 414 = .ok (.iconst 1, 1) := by decide +kernel
theorem dL_law_415 : decode cL_law 415 = .ok (.iadd, 1) := by decide +kernel
theorem dL_law_416 : decode cL_law 416 = .ok (.iaload, 1) := by decide +kernel
theorem dL_law_417 : decode cL_law 417 = .ok (.aload_n 0, 1) := by decide +kernel
theorem dL_law_418 : decode cL_law 418 = .ok (.iload_n 3, 1) := by decide +kernel
theorem dL_law_419 : decode cL_law 419 = .ok (.iconst 2, 1) := by decide +kernel
theorem dL_law_420 : decode cL_law 420 = .ok (.iadd, 1) := by decide +kernel
theorem dL_law_421 : decode cL_law 421 = .ok (.iaload, 1) := by decide +kernel
theorem dL_law_422 : decode cL_law 422 = .ok (.aload_n 0, 1) := by decide +kernel
theorem dL_law_423 : decode cL_law 423 = .ok (.iload_n 3, 1) := by decide +kernel
theorem dL_law_424 : decode cL_law 424 = .ok (.iconst 3, 1) := by decide +kernel
theorem dL_law_425 : decode cL_law 425 = .ok (.iadd, 1) := by decide +kernel
theorem dL_law_426 : decode cL_law 426 = .ok (.iaload, 1) := by decide +kernel
theorem dL_law_427 : decode cL_law 427 = .ok (.aload_n 0, 1) := by decide +kernel
theorem dL_law_428 : decode cL_law 428 = .ok (.iload_n 3, 1) := by decide +kernel
theorem dL_law_429 : decode cL_law 429 = .ok (.iconst 4, 1) := by decide +kernel
theorem dL_law_430 : decode cL_law 430 = .ok (.iadd, 1) := by decide +kernel
theorem dL_law_431 : decode cL_law 431 = .ok (.iaload, 1) := by decide +kernel
theorem dL_law_432 : decode cL_law 432 = .ok (.invokevirtual 37, 3) := by decide +kernel
theorem dL_law_435 : decode cL_law 435 = .ok (.aload_n 2, 1) := by decide +kernel
theorem dL_law_436 : decode cL_law 436 = .ok (.aload_n 0, 1) := by decide +kernel
theorem dL_law_437 : decode cL_law 437 = .ok (.iload_n 3, 1) := by decide +kernel
theorem dL_law_438 : decode cL_law 438 = .ok (.iconst 1, 1) := by decide +kernel
theorem dL_law_439 : decode cL_law 439 = .ok (.iadd, 1) := by decide +kernel
theorem dL_law_440 : decode cL_law 440 = .ok (.iaload, 1) := by decide +kernel
theorem dL_law_441 : decode cL_law 441 = .ok (.aload_n 0, 1) := by decide +kernel
theorem dL_law_442 : decode cL_law 442 = .ok (.iload_n 3, 1) := by decide +kernel
theorem dL_law_443 : decode cL_law 443 = .ok (.iconst 2, 1) := by decide +kernel
theorem dL_law_444 : decode cL_law 444 = .ok (.iadd, 1) := by decide +kernel
theorem dL_law_445 : decode cL_law 445 = .ok (.iaload, 1) := by decide +kernel
theorem dL_law_446 : decode cL_law 446 = .ok (.aload_n 0, 1) := by decide +kernel
theorem dL_law_447 : decode cL_law 447 = .ok (.iload_n 3, 1) := by decide +kernel
theorem dL_law_448 : decode cL_law 448 = .ok (.iconst 3, 1) := by decide +kernel
theorem dL_law_449 : decode cL_law 449 = .ok (.iadd, 1) := by decide +kernel
theorem dL_law_450 : decode cL_law 450 = .ok (.iaload, 1) := by decide +kernel
theorem dL_law_451 : decode cL_law 451 = .ok (.aload_n 0, 1) := by decide +kernel
theorem dL_law_452 : decode cL_law 452 = .ok (.iload_n 3, 1) := by decide +kernel
theorem dL_law_453 : decode cL_law 453 = .ok (.iconst 4, 1) := by decide +kernel
theorem dL_law_454 : decode cL_law 454 = .ok (.iadd, 1) := by decide +kernel
theorem dL_law_455 : decode cL_law 455 = .ok (.iaload, 1) := by decide +kernel
theorem dL_law_456 : decode cL_law 456 = .ok (.invokevirtual 41, 3) := by decide +kernel
theorem dL_law_459 : decode cL_law 459 = .ok (.if_icmp .eq 714, 3) := by decide +kernel
theorem dL_law_462 : decode cL_law 462 = .ok (.iconst 0, 1) := by decide +kernel
theorem dL_law_463 : decode cL_law 463 = .ok (.ireturn, 1) := by decide +kernel
theorem dL_law_464 : decode cL_law 464 = .ok (.aload_n 1, 1) := by decide +kernel
theorem dL_law_465 : decode cL_law 465 = .ok (.aload_n 0, 1) := by decide +kernel
theorem dL_law_466 : decode cL_law 466 = .ok (.iload_n 3, 1) := by decide +kernel
theorem dL_law_467 : decode cL_law 467 = .ok (.iconst 1, 1) := by decide +kernel
theorem dL_law_468 : decode cL_law 468 = .ok (.iadd, 1) := by decide +kernel
theorem dL_law_469 : decode cL_law 469 = .ok (.iaload, 1) := by decide +kernel
theorem dL_law_470 : decode cL_law 470 = .ok (.aload_n 0, 1) := by decide +kernel
theorem dL_law_471 : decode cL_law 471 = .ok (.iload_n 3, 1) := by decide +kernel
theorem dL_law_472 : decode cL_law 472 = .ok (.iconst 2, 1) := by decide +kernel
theorem dL_law_473 : decode cL_law 473 = .ok (.iadd, 1) := by decide +kernel
theorem dL_law_474 : decode cL_law 474 = .ok (.iaload, 1) := by decide +kernel
theorem dL_law_475 : decode cL_law 475 = .ok (.aload_n 0, 1) := by decide +kernel
theorem dL_law_476 : decode cL_law 476 = .ok (.iload_n 3, 1) := by decide +kernel
theorem dL_law_477 : decode cL_law 477 = .ok (.iconst 3, 1) := by decide +kernel
theorem dL_law_478 : decode cL_law 478 = .ok (.iadd, 1) := by decide +kernel
theorem dL_law_479 : decode cL_law 479 = .ok (.iaload, 1) := by decide +kernel
theorem dL_law_480 : decode cL_law 480 = .ok (.aload_n 0, 1) := by decide +kernel
theorem dL_law_481 : decode cL_law 481 = .ok (.iload_n 3, 1) := by decide +kernel
theorem dL_law_482 : decode cL_law 482 = .ok (.iconst 4, 1) := by decide +kernel
theorem dL_law_483 : decode cL_law 483 = .ok (.iadd, 1) := by decide +kernel
theorem dL_law_484 : decode cL_law 484 = .ok (.iaload, 1) := by decide +kernel
theorem dL_law_485 : decode cL_law 485 = .ok (.aload_n 0, 1) := by decide +kernel
theorem dL_law_486 : decode cL_law 486 = .ok (.iload_n 3, 1) := by decide +kernel
theorem dL_law_487 : decode cL_law 487 = .ok (.iconst 5, 1) := by decide +kernel
theorem dL_law_488 : decode cL_law 488 = .ok (.iadd, 1) := by decide +kernel
theorem dL_law_489 : decode cL_law 489 = .ok (.iaload, 1) := by decide +kernel
theorem dL_law_490 : decode cL_law 490 = .ok (.invokevirtual 42, 3) := by decide +kernel
theorem dL_law_493 : decode cL_law 493 = .ok (.aload_n 2, 1) := by decide +kernel
theorem dL_law_494 : decode cL_law 494 = .ok (.aload_n 0, 1) := by decide +kernel
theorem dL_law_495 : decode cL_law 495 = .ok (.iload_n 3, 1) := by decide +kernel
theorem dL_law_496 : decode cL_law 496 = .ok (.iconst 1, 1) := by decide +kernel
theorem dL_law_497 : decode cL_law 497 = .ok (.iadd, 1) := by decide +kernel
theorem dL_law_498 : decode cL_law 498 = .ok (.iaload, 1) := by decide +kernel
theorem dL_law_499 : decode cL_law 499 = .ok (.aload_n 0, 1) := by decide +kernel
theorem dL_law_500 : decode cL_law 500 = .ok (.iload_n 3, 1) := by decide +kernel
theorem dL_law_501 : decode cL_law 501 = .ok (.iconst 2, 1) := by decide +kernel
theorem dL_law_502 : decode cL_law 502 = .ok (.iadd, 1) := by decide +kernel
theorem dL_law_503 : decode cL_law 503 = .ok (.iaload, 1) := by decide +kernel
theorem dL_law_504 : decode cL_law 504 = .ok (.aload_n 0, 1) := by decide +kernel
theorem dL_law_505 : decode cL_law 505 = .ok (.iload_n 3, 1) := by decide +kernel
theorem dL_law_506 : decode cL_law 506 = .ok (.iconst 3, 1) := by decide +kernel
theorem dL_law_507 : decode cL_law 507 = .ok (.iadd, 1) := by decide +kernel
theorem dL_law_508 : decode cL_law 508 = .ok (.iaload, 1) := by decide +kernel
theorem dL_law_509 : decode cL_law 509 = .ok (.aload_n 0, 1) := by decide +kernel
theorem dL_law_510 : decode cL_law 510 = .ok (.iload_n 3, 1) := by decide +kernel
theorem dL_law_511 : decode cL_law 511 = .ok (.iconst 4, 1) := by decide +kernel
theorem dL_law_512 : decode cL_law 512 = .ok (.iadd, 1) := by decide +kernel
theorem dL_law_513 : decode cL_law 513 = .ok (.iaload, 1) := by decide +kernel
theorem dL_law_514 : decode cL_law 514 = .ok (.aload_n 0, 1) := by decide +kernel
theorem dL_law_515 : decode cL_law 515 = .ok (.iload_n 3, 1) := by decide +kernel
theorem dL_law_516 : decode cL_law 516 = .ok (.iconst 5, 1) := by decide +kernel
theorem dL_law_517 : decode cL_law 517 = .ok (.iadd, 1) := by decide +kernel
theorem dL_law_518 : decode cL_law 518 = .ok (.iaload, 1) := by decide +kernel
theorem dL_law_519 : decode cL_law 519 = .ok (.invokevirtual 46, 3) := by decide +kernel
theorem dL_law_522 : decode cL_law 522 = .ok (.if_icmp .eq 651, 3) := by decide +kernel
theorem dL_law_525 : decode cL_law 525 = .ok (.iconst 0, 1) := by decide +kernel
theorem dL_law_526 : decode cL_law 526 = .ok (.ireturn, 1) := by decide +kernel
theorem dL_law_527 : decode cL_law 527 = .ok (.aload_n 1, 1) := by decide +kernel
theorem dL_law_528 : decode cL_law 528 = .ok (.aload_n 0, 1) := by decide +kernel
theorem dL_law_529 : decode cL_law 529 = .ok (.iload_n 3, 1) := by decide +kernel
theorem dL_law_530 : decode cL_law 530 = .ok (.iconst 1, 1) := by decide +kernel
theorem dL_law_531 : decode cL_law 531 = .ok (.iadd, 1) := by decide +kernel
theorem dL_law_532 : decode cL_law 532 = .ok (.iaload, 1) := by decide +kernel
theorem dL_law_533 : decode cL_law 533 = .ok (.invokevirtual 47, 3) := by decide +kernel
theorem dL_law_536 : decode cL_law 536 = .ok (.aload_n 2, 1) := by decide +kernel
theorem dL_law_537 : decode cL_law 537 = .ok (.aload_n 0, 1) := by decide +kernel
theorem dL_law_538 : decode cL_law 538 = .ok (.iload_n 3, 1) := by decide +kernel
theorem dL_law_539 : decode cL_law 539 = .ok (.iconst 1, 1) := by decide +kernel
theorem dL_law_540 : decode cL_law 540 = .ok (.iadd, 1) := by decide +kernel
theorem dL_law_541 : decode cL_law 541 = .ok (.iaload, 1) := by decide +kernel
theorem dL_law_542 : decode cL_law 542 = .ok (.invokevirtual 51, 3) := by decide +kernel
theorem dL_law_545 : decode cL_law 545 = .ok (.if_icmp .eq 628, 3) := by decide +kernel
theorem dL_law_548 : decode cL_law 548 = .ok (.iconst 0, 1) := by decide +kernel
theorem dL_law_549 : decode cL_law 549 = .ok (.ireturn, 1) := by decide +kernel
theorem dL_law_550 : decode cL_law 550 = .ok (.aload_n 1, 1) := by decide +kernel
theorem dL_law_551 : decode cL_law 551 = .ok (.aload_n 0, 1) := by decide +kernel
theorem dL_law_552 : decode cL_law 552 = .ok (.iload_n 3, 1) := by decide +kernel
theorem dL_law_553 : decode cL_law 553 = .ok (.iconst 1, 1) := by decide +kernel
theorem dL_law_554 : decode cL_law 554 = .ok (.iadd, 1) := by decide +kernel
theorem dL_law_555 : decode cL_law 555 = .ok (.iaload, 1) := by decide +kernel
theorem dL_law_556 : decode cL_law 556 = .ok (.invokevirtual 52, 3) := by decide +kernel
theorem dL_law_559 : decode cL_law 559 = .ok (.aload_n 2, 1) := by decide +kernel
theorem dL_law_560 : decode cL_law 560 = .ok (.aload_n 0, 1) := by decide +kernel
theorem dL_law_561 : decode cL_law 561 = .ok (.iload_n 3, 1) := by decide +kernel
theorem dL_law_562 : decode cL_law 562 = .ok (.iconst 1, 1) := by decide +kernel
theorem dL_law_563 : decode cL_law 563 = .ok (.iadd, 1) := by decide +kernel
theorem dL_law_564 : decode cL_law 564 = .ok (.iaload, 1) := by decide +kernel
theorem dL_law_565 : decode cL_law 565 = .ok (.invokevirtual 55, 3) := by decide +kernel
theorem dL_law_568 : decode cL_law 568 = .ok (.if_icmp .eq 605, 3) := by decide +kernel
theorem dL_law_571 : decode cL_law 571 = .ok (.iconst 0, 1) := by decide +kernel
theorem dL_law_572 : decode cL_law 572 = .ok (.ireturn, 1) := by decide +kernel
theorem dL_law_573 : decode cL_law 573 = .ok (.aload_n 1, 1) := by decide +kernel
theorem dL_law_574 : decode cL_law 574 = .ok (.aload_n 0, 1) := by decide +kernel
theorem dL_law_575 : decode cL_law 575 = .ok (.iload_n 3, 1) := by decide +kernel
theorem dL_law_576 : decode cL_law 576 = .ok (.iconst 1, 1) := by decide +kernel
theorem dL_law_577 : decode cL_law 577 = .ok (.iadd, 1) := by decide +kernel
theorem dL_law_578 : decode cL_law 578 = .ok (.iaload, 1) := by decide +kernel
theorem dL_law_579 : decode cL_law 579 = .ok (.aload_n 0, 1) := by decide +kernel
theorem dL_law_580 : decode cL_law 580 = .ok (.iload_n 3, 1) := by decide +kernel
theorem dL_law_581 : decode cL_law 581 = .ok (.iconst 2, 1) := by decide +kernel
theorem dL_law_582 : decode cL_law 582 = .ok (.iadd, 1) := by decide +kernel
theorem dL_law_583 : decode cL_law 583 = .ok (.iaload, 1) := by decide +kernel
theorem dL_law_584 : decode cL_law 584 = .ok (.invokevirtual 56, 3) := by decide +kernel
theorem dL_law_587 : decode cL_law 587 = .ok (.aload_n 2, 1) := by decide +kernel
theorem dL_law_588 : decode cL_law 588 = .ok (.aload_n 0, 1) := by decide +kernel
theorem dL_law_589 : decode cL_law 589 = .ok (.iload_n 3, 1) := by decide +kernel
theorem dL_law_590 : decode cL_law 590 = .ok (.iconst 1, 1) := by decide +kernel
theorem dL_law_591 : decode cL_law 591 = .ok (.iadd, 1) := by decide +kernel
theorem dL_law_592 : decode cL_law 592 = .ok (.iaload, 1) := by decide +kernel
theorem dL_law_593 : decode cL_law 593 = .ok (.aload_n 0, 1) := by decide +kernel
theorem dL_law_594 : decode cL_law 594 = .ok (.iload_n 3, 1) := by decide +kernel
theorem dL_law_595 : decode cL_law 595 = .ok (.iconst 2, 1) := by decide +kernel
theorem dL_law_596 : decode cL_law 596 = .ok (.iadd, 1) := by decide +kernel
theorem dL_law_597 : decode cL_law 597 = .ok (.iaload, 1) := by decide +kernel
theorem dL_law_598 : decode cL_law 598 = .ok (.invokevirtual 60, 3) := by decide +kernel
theorem dL_law_601 : decode cL_law 601 = .ok (.if_icmp .eq 572, 3) := by decide +kernel
theorem dL_law_604 : decode cL_law 604 = .ok (.iconst 0, 1) := by decide +kernel
theorem dL_law_605 : decode cL_law 605 = .ok (.ireturn, 1) := by decide +kernel
theorem dL_law_606 : decode cL_law 606 = .ok (.aload_n 1, 1) := by decide +kernel
theorem dL_law_607 : decode cL_law 607 = .ok (.aload_n 0, 1) := by decide +kernel
theorem dL_law_608 : decode cL_law 608 = .ok (.iload_n 3, 1) := by decide +kernel
theorem dL_law_609 : decode cL_law 609 = .ok (.iconst 1, 1) := by decide +kernel
theorem dL_law_610 : decode cL_law 610 = .ok (.iadd, 1) := by decide +kernel
theorem dL_law_611 : decode cL_law 611 = .ok (.iaload, 1) := by decide +kernel
theorem dL_law_612 : decode cL_law 612 = .ok (.aload_n 0, 1) := by decide +kernel
theorem dL_law_613 : decode cL_law 613 = .ok (.iload_n 3, 1) := by decide +kernel
theorem dL_law_614 : decode cL_law 614 = .ok (.iconst 2, 1) := by decide +kernel
theorem dL_law_615 : decode cL_law 615 = .ok (.iadd, 1) := by decide +kernel
theorem dL_law_616 : decode cL_law 616 = .ok (.iaload, 1) := by decide +kernel
theorem dL_law_617 : decode cL_law 617 = .ok (.invokevirtual 61, 3) := by decide +kernel
theorem dL_law_620 : decode cL_law 620 = .ok (.aload_n 2, 1) := by decide +kernel
theorem dL_law_621 : decode cL_law 621 = .ok (.aload_n 0, 1) := by decide +kernel
theorem dL_law_622 : decode cL_law 622 = .ok (.iload_n 3, 1) := by decide +kernel
theorem dL_law_623 : decode cL_law 623 = .ok (.iconst 1, 1) := by decide +kernel
theorem dL_law_624 : decode cL_law 624 = .ok (.iadd, 1) := by decide +kernel
theorem dL_law_625 : decode cL_law 625 = .ok (.iaload, 1) := by decide +kernel
theorem dL_law_626 : decode cL_law 626 = .ok (.aload_n 0, 1) := by decide +kernel
theorem dL_law_627 : decode cL_law 627 = .ok (.iload_n 3, 1) := by decide +kernel
theorem dL_law_628 : decode cL_law 628 = .ok (.iconst 2, 1) := by decide +kernel
theorem dL_law_629 : decode cL_law 629 = .ok (.iadd, 1) := by decide +kernel
theorem dL_law_630 : decode cL_law 630 = .ok (.iaload, 1) := by decide +kernel
theorem dL_law_631 : decode cL_law 631 = .ok (.invokevirtual 64, 3) := by decide +kernel
theorem dL_law_634 : decode cL_law 634 = .ok (.if_icmp .eq 539, 3) := by decide +kernel
theorem dL_law_637 : decode cL_law 637 = .ok (.iconst 0, 1) := by decide +kernel
theorem dL_law_638 : decode cL_law 638 = .ok (.ireturn, 1) := by decide +kernel
theorem dL_law_639 : decode cL_law 639 = .ok (.aload_n 1, 1) := by decide +kernel
theorem dL_law_640 : decode cL_law 640 = .ok (.aload_n 0, 1) := by decide +kernel
theorem dL_law_641 : decode cL_law 641 = .ok (.iload_n 3, 1) := by decide +kernel
theorem dL_law_642 : decode cL_law 642 = .ok (.iconst 1, 1) := by decide +kernel
theorem dL_law_643 : decode cL_law 643 = .ok (.iadd, 1) := by decide +kernel
theorem dL_law_644 : decode cL_law 644 = .ok (.iaload, 1) := by decide +kernel
theorem dL_law_645 : decode cL_law 645 = .ok (.aload_n 0, 1) := by decide +kernel
theorem dL_law_646 : decode cL_law 646 = .ok (.iload_n 3, 1) := by decide +kernel
theorem dL_law_647 : decode cL_law 647 = .ok (.iconst 2, 1) := by decide +kernel
theorem dL_law_648 : decode cL_law 648 = .ok (.iadd, 1) := by decide +kernel
theorem dL_law_649 : decode cL_law 649 = .ok (.iaload, 1) := by decide +kernel
theorem dL_law_650 : decode cL_law 650 = .ok (.aload_n 0, 1) := by decide +kernel
theorem dL_law_651 : decode cL_law 651 = .ok (.iload_n 3, 1) := by decide +kernel
theorem dL_law_652 : decode cL_law 652 = .ok (.iconst 3, 1) := by decide +kernel
theorem dL_law_653 : decode cL_law 653 = .ok (.iadd, 1) := by decide +kernel
theorem dL_law_654 : decode cL_law 654 = .ok (.iaload, 1) := by decide +kernel
theorem dL_law_655 : decode cL_law 655 = .ok (.invokevirtual 65, 3) := by decide +kernel
theorem dL_law_658 : decode cL_law 658 = .ok (.aload_n 2, 1) := by decide +kernel
theorem dL_law_659 : decode cL_law 659 = .ok (.aload_n 0, 1) := by decide +kernel
theorem dL_law_660 : decode cL_law 660 = .ok (.iload_n 3, 1) := by decide +kernel
theorem dL_law_661 : decode cL_law 661 = .ok (.iconst 1, 1) := by decide +kernel
theorem dL_law_662 : decode cL_law 662 = .ok (.iadd, 1) := by decide +kernel
theorem dL_law_663 : decode cL_law 663 = .ok (.iaload, 1) := by decide +kernel
theorem dL_law_664 : decode cL_law 664 = .ok (.aload_n 0, 1) := by decide +kernel
theorem dL_law_665 : decode cL_law 665 = .ok (.iload_n 3, 1) := by decide +kernel
theorem dL_law_666 : decode cL_law 666 = .ok (.iconst 2, 1) := by decide +kernel
theorem dL_law_667 : decode cL_law 667 = .ok (.iadd, 1) := by decide +kernel
theorem dL_law_668 : decode cL_law 668 = .ok (.iaload, 1) := by decide +kernel
theorem dL_law_669 : decode cL_law 669 = .ok (.aload_n 0, 1) := by decide +kernel
theorem dL_law_670 : decode cL_law 670 = .ok (.iload_n 3, 1) := by decide +kernel
theorem dL_law_671 : decode cL_law 671 = .ok (.iconst 3, 1) := by decide +kernel
theorem dL_law_672 : decode cL_law 672 = .ok (.iadd, 1) := by decide +kernel
theorem dL_law_673 : decode cL_law 673 = .ok (.iaload, 1) := by decide +kernel
theorem dL_law_674 : decode cL_law 674 = .ok (.invokevirtual 69, 3) := by decide +kernel
theorem dL_law_677 : decode cL_law 677 = .ok (.if_icmp .eq 496, 3) := by decide +kernel
theorem dL_law_680 : decode cL_law 680 = .ok (.iconst 0, 1) := by decide +kernel
theorem dL_law_681 : decode cL_law 681 = .ok (.ireturn, 1) := by decide +kernel
theorem dL_law_682 : decode cL_law 682 = .ok (.aload_n 1, 1) := by decide +kernel
theorem dL_law_683 : decode cL_law 683 = .ok (.aload_n 0, 1) := by decide +kernel
theorem dL_law_684 : decode cL_law 684 = .ok (.iload_n 3, 1) := by decide +kernel
theorem dL_law_685 : decode cL_law 685 = .ok (.iconst 1, 1) := by decide +kernel
theorem dL_law_686 : decode cL_law 686 = .ok (.iadd, 1) := by decide +kernel
theorem dL_law_687 : decode cL_law 687 = .ok (.iaload, 1) := by decide +kernel
theorem dL_law_688 : decode cL_law 688 = .ok (.aload_n 0, 1) := by decide +kernel
theorem dL_law_689 : decode cL_law 689 = .ok (.iload_n 3, 1) := by decide +kernel
theorem dL_law_690 : decode cL_law 690 = .ok (.iconst 2, 1) := by decide +kernel
theorem dL_law_691 : decode cL_law 691 = .ok (.iadd, 1) := by decide +kernel
theorem dL_law_692 : decode cL_law 692 = .ok (.iaload, 1) := by decide +kernel
theorem dL_law_693 : decode cL_law 693 = .ok (.invokevirtual 70, 3) := by decide +kernel
theorem dL_law_696 : decode cL_law 696 = .ok (.aload_n 2, 1) := by decide +kernel
theorem dL_law_697 : decode cL_law 697 = .ok (.aload_n 0, 1) := by decide +kernel
theorem dL_law_698 : decode cL_law 698 = .ok (.iload_n 3, 1) := by decide +kernel
theorem dL_law_699 : decode cL_law 699 = .ok (.iconst 1, 1) := by decide +kernel
theorem dL_law_700 : decode cL_law 700 = .ok (.iadd, 1) := by decide +kernel
theorem dL_law_701 : decode cL_law 701 = .ok (.iaload, 1) := by decide +kernel
theorem dL_law_702 : decode cL_law 702 = .ok (.aload_n 0, 1) := by decide +kernel
theorem dL_law_703 : decode cL_law 703 = .ok (.iload_n 3, 1) := by decide +kernel
theorem dL_law_704 : decode cL_law 704 = .ok (.iconst 2, 1) := by decide +kernel
theorem dL_law_705 : decode cL_law 705 = .ok (.iadd, 1) := by decide +kernel
theorem dL_law_706 : decode cL_law 706 = .ok (.iaload, 1) := by decide +kernel
theorem dL_law_707 : decode cL_law 707 = .ok (.invokevirtual 73, 3) := by decide +kernel
theorem dL_law_710 : decode cL_law 710 = .ok (.if_icmp .eq 463, 3) := by decide +kernel
theorem dL_law_713 : decode cL_law 713 = .ok (.iconst 0, 1) := by decide +kernel
theorem dL_law_714 : decode cL_law 714 = .ok (.ireturn, 1) := by decide +kernel
theorem dL_law_715 : decode cL_law 715 = .ok (.aload_n 1, 1) := by decide +kernel
theorem dL_law_716 : decode cL_law 716 = .ok (.aload_n 0, 1) := by decide +kernel
theorem dL_law_717 : decode cL_law 717 = .ok (.iload_n 3, 1) := by decide +kernel
theorem dL_law_718 : decode cL_law 718 = .ok (.iconst 1, 1) := by decide +kernel
theorem dL_law_719 : decode cL_law 719 = .ok (.iadd, 1) := by decide +kernel
theorem dL_law_720 : decode cL_law 720 = .ok (.iaload, 1) := by decide +kernel
theorem dL_law_721 : decode cL_law 721 = .ok (.aload_n 0, 1) := by decide +kernel
theorem dL_law_722 : decode cL_law 722 = .ok (.iload_n 3, 1) := by decide +kernel
theorem dL_law_723 : decode cL_law 723 = .ok (.iconst 2, 1) := by decide +kernel
theorem dL_law_724 : decode cL_law 724 = .ok (.iadd, 1) := by decide +kernel
theorem dL_law_725 : decode cL_law 725 = .ok (.iaload, 1) := by decide +kernel
theorem dL_law_726 : decode cL_law 726 = .ok (.invokevirtual 74, 3) := by decide +kernel
theorem dL_law_729 : decode cL_law 729 = .ok (.aload_n 2, 1) := by decide +kernel
theorem dL_law_730 : decode cL_law 730 = .ok (.aload_n 0, 1) := by decide +kernel
theorem dL_law_731 : decode cL_law 731 = .ok (.iload_n 3, 1) := by decide +kernel
theorem dL_law_732 : decode cL_law 732 = .ok (.iconst 1, 1) := by decide +kernel
theorem dL_law_733 : decode cL_law 733 = .ok (.iadd, 1) := by decide +kernel
theorem dL_law_734 : decode cL_law 734 = .ok (.iaload, 1) := by decide +kernel
theorem dL_law_735 : decode cL_law 735 = .ok (.aload_n 0, 1) := by decide +kernel
theorem dL_law_736 : decode cL_law 736 = .ok (.iload_n 3, 1) := by decide +kernel
theorem dL_law_737 : decode cL_law 737 = .ok (.iconst 2, 1) := by decide +kernel
theorem dL_law_738 : decode cL_law 738 = .ok (.iadd, 1) := by decide +kernel
theorem dL_law_739 : decode cL_law 739 = .ok (.iaload, 1) := by decide +kernel
theorem dL_law_740 : decode cL_law 740 = .ok (.invokevirtual 77, 3) := by decide +kernel
theorem dL_law_743 : decode cL_law 743 = .ok (.if_icmp .eq 430, 3) := by decide +kernel
theorem dL_law_746 : decode cL_law 746 = .ok (.iconst 0, 1) := by decide +kernel
theorem dL_law_747 : decode cL_law 747 = .ok (.ireturn, 1) := by decide +kernel
theorem dL_law_748 : decode cL_law 748 = .ok (.aload_n 1, 1) := by decide +kernel
theorem dL_law_749 : decode cL_law 749 = .ok (.aload_n 0, 1) := by decide +kernel
theorem dL_law_750 : decode cL_law 750 = .ok (.iload_n 3, 1) := by decide +kernel
theorem dL_law_751 : decode cL_law 751 = .ok (.iconst 1, 1) := by decide +kernel
theorem dL_law_752 : decode cL_law 752 = .ok (.iadd, 1) := by decide +kernel
theorem dL_law_753 : decode cL_law 753 = .ok (.iaload, 1) := by decide +kernel
theorem dL_law_754 : decode cL_law 754 = .ok (.aload_n 0, 1) := by decide +kernel
theorem dL_law_755 : decode cL_law 755 = .ok (.iload_n 3, 1) := by decide +kernel
theorem dL_law_756 : decode cL_law 756 = .ok (.iconst 2, 1) := by decide +kernel
theorem dL_law_757 : decode cL_law 757 = .ok (.iadd, 1) := by decide +kernel
theorem dL_law_758 : decode cL_law 758 = .ok (.iaload, 1) := by decide +kernel
theorem dL_law_759 : decode cL_law 759 = .ok (.aload_n 0, 1) := by decide +kernel
theorem dL_law_760 : decode cL_law 760 = .ok (.iload_n 3, 1) := by decide +kernel
theorem dL_law_761 : decode cL_law 761 = .ok (.iconst 3, 1) := by decide +kernel
theorem dL_law_762 : decode cL_law 762 = .ok (.iadd, 1) := by decide +kernel
theorem dL_law_763 : decode cL_law 763 = .ok (.iaload, 1) := by decide +kernel
theorem dL_law_764 : decode cL_law 764 = .ok (.aload_n 0, 1) := by decide +kernel
theorem dL_law_765 : decode cL_law 765 = .ok (.iload_n 3, 1) := by decide +kernel
theorem dL_law_766 : decode cL_law 766 = .ok (.iconst 4, 1) := by decide +kernel
theorem dL_law_767 : decode cL_law 767 = .ok (.iadd, 1) := by decide +kernel
theorem dL_law_768 : decode cL_law 768 = .ok (.iaload, 1) := by decide +kernel
theorem dL_law_769 : decode cL_law 769 = .ok (.invokevirtual 78, 3) := by decide +kernel
theorem dL_law_772 : decode cL_law 772 = .ok (.aload_n 2, 1) := by decide +kernel
theorem dL_law_773 : decode cL_law 773 = .ok (.aload_n 0, 1) := by decide +kernel
theorem dL_law_774 : decode cL_law 774 = .ok (.iload_n 3, 1) := by decide +kernel
theorem dL_law_775 : decode cL_law 775 = .ok (.iconst 1, 1) := by decide +kernel
theorem dL_law_776 : decode cL_law 776 = .ok (.iadd, 1) := by decide +kernel
theorem dL_law_777 : decode cL_law 777 = .ok (.iaload, 1) := by decide +kernel
theorem dL_law_778 : decode cL_law 778 = .ok (.aload_n 0, 1) := by decide +kernel
theorem dL_law_779 : decode cL_law 779 = .ok (.iload_n 3, 1) := by decide +kernel
theorem dL_law_780 : decode cL_law 780 = .ok (.iconst 2, 1) := by decide +kernel
theorem dL_law_781 : decode cL_law 781 = .ok (.iadd, 1) := by decide +kernel
theorem dL_law_782 : decode cL_law 782 = .ok (.iaload, 1) := by decide +kernel
theorem dL_law_783 : decode cL_law 783 = .ok (.aload_n 0, 1) := by decide +kernel
theorem dL_law_784 : decode cL_law 784 = .ok (.iload_n 3, 1) := by decide +kernel
theorem dL_law_785 : decode cL_law 785 = .ok (.iconst 3, 1) := by decide +kernel
theorem dL_law_786 : decode cL_law 786 = .ok (.iadd, 1) := by decide +kernel
theorem dL_law_787 : decode cL_law 787 = .ok (.iaload, 1) := by decide +kernel
theorem dL_law_788 : decode cL_law 788 = .ok (.aload_n 0, 1) := by decide +kernel
theorem dL_law_789 : decode cL_law 789 = .ok (.iload_n 3, 1) := by decide +kernel
theorem dL_law_790 : decode cL_law 790 = .ok (.iconst 4, 1) := by decide +kernel
theorem dL_law_791 : decode cL_law 791 = .ok (.iadd, 1) := by decide +kernel
theorem dL_law_792 : decode cL_law 792 = .ok (.iaload, 1) := by decide +kernel
theorem dL_law_793 : decode cL_law 793 = .ok (.invokevirtual 82, 3) := by decide +kernel
theorem dL_law_796 : decode cL_law 796 = .ok (.if_icmp .eq 377, 3) := by decide +kernel
theorem dL_law_799 : decode cL_law 799 = .ok (.iconst 0, 1) := by decide +kernel
theorem dL_law_800 : decode cL_law 800 = .ok (.ireturn, 1) := by decide +kernel
theorem dL_law_801 : decode cL_law 801 = .ok (.aload_n 1, 1) := by decide +kernel
theorem dL_law_802 : decode cL_law 802 = .ok (.aload_n 0, 1) := by decide +kernel
theorem dL_law_803 : decode cL_law 803 = .ok (.iload_n 3, 1) := by decide +kernel
theorem dL_law_804 : decode cL_law 804 = .ok (.iconst 1, 1) := by decide +kernel
theorem dL_law_805 : decode cL_law 805 = .ok (.iadd, 1) := by decide +kernel
theorem dL_law_806 : decode cL_law 806 = .ok (.iaload, 1) := by decide +kernel
theorem dL_law_807 : decode cL_law 807 = .ok (.aload_n 0, 1) := by decide +kernel
theorem dL_law_808 : decode cL_law 808 = .ok (.iload_n 3, 1) := by decide +kernel
theorem dL_law_809 : decode cL_law 809 = .ok (.iconst 2, 1) := by decide +kernel
theorem dL_law_810 : decode cL_law 810 = .ok (.iadd, 1) := by decide +kernel
theorem dL_law_811 : decode cL_law 811 = .ok (.iaload, 1) := by decide +kernel
theorem dL_law_812 : decode cL_law 812 = .ok (.invokevirtual 83, 3) := by decide +kernel
theorem dL_law_815 : decode cL_law 815 = .ok (.aload_n 2, 1) := by decide +kernel
theorem dL_law_816 : decode cL_law 816 = .ok (.aload_n 0, 1) := by decide +kernel
theorem dL_law_817 : decode cL_law 817 = .ok (.iload_n 3, 1) := by decide +kernel
theorem dL_law_818 : decode cL_law 818 = .ok (.iconst 1, 1) := by decide +kernel
theorem dL_law_819 : decode cL_law 819 = .ok (.iadd, 1) := by decide +kernel
theorem dL_law_820 : decode cL_law 820 = .ok (.iaload, 1) := by decide +kernel
theorem dL_law_821 : decode cL_law 821 = .ok (.aload_n 0, 1) := by decide +kernel
theorem dL_law_822 : decode cL_law 822 = .ok (.iload_n 3, 1) := by decide +kernel
theorem dL_law_823 : decode cL_law 823 = .ok (.iconst 2, 1) := by decide +kernel
theorem dL_law_824 : decode cL_law 824 = .ok (.iadd, 1) := by decide +kernel
theorem dL_law_825 : decode cL_law 825 = .ok (.iaload, 1) := by decide +kernel
theorem dL_law_826 : decode cL_law 826 = .ok (.invokevirtual 86, 3) := by decide +kernel
theorem dL_law_829 : decode cL_law 829 = .ok (.if_icmp .eq 344, 3) := by decide +kernel
theorem dL_law_832 : decode cL_law 832 = .ok (.iconst 0, 1) := by decide +kernel
theorem dL_law_833 : decode cL_law 833 = .ok (.ireturn, 1) := by decide +kernel
theorem dL_law_834 : decode cL_law 834 = .ok (.aload_n 1, 1) := by decide +kernel
theorem dL_law_835 : decode cL_law 835 = .ok (.aload_n 0, 1) := by decide +kernel
theorem dL_law_836 : decode cL_law 836 = .ok (.iload_n 3, 1) := by decide +kernel
theorem dL_law_837 : decode cL_law 837 = .ok (.iconst 1, 1) := by decide +kernel
theorem dL_law_838 : decode cL_law 838 = .ok (.iadd, 1) := by decide +kernel
theorem dL_law_839 : decode cL_law 839 = .ok (.iaload, 1) := by decide +kernel
theorem dL_law_840 : decode cL_law 840 = .ok (.aload_n 0, 1) := by decide +kernel
theorem dL_law_841 : decode cL_law 841 = .ok (.iload_n 3, 1) := by decide +kernel
theorem dL_law_842 : decode cL_law 842 = .ok (.iconst 2, 1) := by decide +kernel
theorem dL_law_843 : decode cL_law 843 = .ok (.iadd, 1) := by decide +kernel
theorem dL_law_844 : decode cL_law 844 = .ok (.iaload, 1) := by decide +kernel
theorem dL_law_845 : decode cL_law 845 = .ok (.aload_n 0, 1) := by decide +kernel
theorem dL_law_846 : decode cL_law 846 = .ok (.iload_n 3, 1) := by decide +kernel
theorem dL_law_847 : decode cL_law 847 = .ok (.iconst 3, 1) := by decide +kernel
theorem dL_law_848 : decode cL_law 848 = .ok (.iadd, 1) := by decide +kernel
theorem dL_law_849 : decode cL_law 849 = .ok (.iaload, 1) := by decide +kernel
theorem dL_law_850 : decode cL_law 850 = .ok (.invokevirtual 87, 3) := by decide +kernel
theorem dL_law_853 : decode cL_law 853 = .ok (.aload_n 2, 1) := by decide +kernel
theorem dL_law_854 : decode cL_law 854 = .ok (.aload_n 0, 1) := by decide +kernel
theorem dL_law_855 : decode cL_law 855 = .ok (.iload_n 3, 1) := by decide +kernel
theorem dL_law_856 : decode cL_law 856 = .ok (.iconst 1, 1) := by decide +kernel
theorem dL_law_857 : decode cL_law 857 = .ok (.iadd, 1) := by decide +kernel
theorem dL_law_858 : decode cL_law 858 = .ok (.iaload, 1) := by decide +kernel
theorem dL_law_859 : decode cL_law 859 = .ok (.aload_n 0, 1) := by decide +kernel
theorem dL_law_860 : decode cL_law 860 = .ok (.iload_n 3, 1) := by decide +kernel
theorem dL_law_861 : decode cL_law 861 = .ok (.iconst 2, 1) := by decide +kernel
theorem dL_law_862 : decode cL_law 862 = .ok (.iadd, 1) := by decide +kernel
theorem dL_law_863 : decode cL_law 863 = .ok (.iaload, 1) := by decide +kernel
theorem dL_law_864 : decode cL_law 864 = .ok (.aload_n 0, 1) := by decide +kernel
theorem dL_law_865 : decode cL_law 865 = .ok (.iload_n 3, 1) := by decide +kernel
theorem dL_law_866 : decode cL_law 866 = .ok (.iconst 3, 1) := by decide +kernel
theorem dL_law_867 : decode cL_law 867 = .ok (.iadd, 1) := by decide +kernel
theorem dL_law_868 : decode cL_law 868 = .ok (.iaload, 1) := by decide +kernel
theorem dL_law_869 : decode cL_law 869 = .ok (.invokevirtual 90, 3) := by decide +kernel
theorem dL_law_872 : decode cL_law 872 = .ok (.if_icmp .eq 301, 3) := by decide +kernel
theorem dL_law_875 : decode cL_law 875 = .ok (.iconst 0, 1) := by decide +kernel
theorem dL_law_876 : decode cL_law 876 = .ok (.ireturn, 1) := by decide +kernel
theorem dL_law_877 : decode cL_law 877 = .ok (.aload_n 1, 1) := by decide +kernel
theorem dL_law_878 : decode cL_law 878 = .ok (.aload_n 0, 1) := by decide +kernel
theorem dL_law_879 : decode cL_law 879 = .ok (.iload_n 3, 1) := by decide +kernel
theorem dL_law_880 : decode cL_law 880 = .ok (.iconst 1, 1) := by decide +kernel
theorem dL_law_881 : decode cL_law 881 = .ok (.iadd, 1) := by decide +kernel
theorem dL_law_882 : decode cL_law 882 = .ok (.iaload, 1) := by decide +kernel
theorem dL_law_883 : decode cL_law 883 = .ok (.aload_n 0, 1) := by decide +kernel
theorem dL_law_884 : decode cL_law 884 = .ok (.iload_n 3, 1) := by decide +kernel
theorem dL_law_885 : decode cL_law 885 = .ok (.iconst 2, 1) := by decide +kernel
theorem dL_law_886 : decode cL_law 886 = .ok (.iadd, 1) := by decide +kernel
theorem dL_law_887 : decode cL_law 887 = .ok (.iaload, 1) := by decide +kernel
theorem dL_law_888 : decode cL_law 888 = .ok (.invokevirtual 91, 3) := by decide +kernel
theorem dL_law_891 : decode cL_law 891 = .ok (.aload_n 2, 1) := by decide +kernel
theorem dL_law_892 : decode cL_law 892 = .ok (.aload_n 0, 1) := by decide +kernel
theorem dL_law_893 : decode cL_law 893 = .ok (.iload_n 3, 1) := by decide +kernel
theorem dL_law_894 : decode cL_law 894 = .ok (.iconst 1, 1) := by decide +kernel
theorem dL_law_895 : decode cL_law 895 = .ok (.iadd, 1) := by decide +kernel
theorem dL_law_896 : decode cL_law 896 = .ok (.iaload, 1) := by decide +kernel
theorem dL_law_897 : decode cL_law 897 = .ok (.aload_n 0, 1) := by decide +kernel
theorem dL_law_898 : decode cL_law 898 = .ok (.iload_n 3, 1) := by decide +kernel
theorem dL_law_899 : decode cL_law 899 = .ok (.iconst 2, 1) := by decide +kernel
theorem dL_law_900 : decode cL_law 900 = .ok (.iadd, 1) := by decide +kernel
theorem dL_law_901 : decode cL_law 901 = .ok (.iaload, 1) := by decide +kernel
theorem dL_law_902 : decode cL_law 902 = .ok (.invokevirtual 94, 3) := by decide +kernel
theorem dL_law_905 : decode cL_law 905 = .ok (.if_icmp .eq 268, 3) := by decide +kernel
theorem dL_law_908 : decode cL_law 908 = .ok (.iconst 0, 1) := by decide +kernel
theorem dL_law_909 : decode cL_law 909 = .ok (.ireturn, 1) := by decide +kernel
theorem dL_law_910 : decode cL_law 910 = .ok (.aload_n 1, 1) := by decide +kernel
theorem dL_law_911 : decode cL_law 911 = .ok (.aload_n 0, 1) := by decide +kernel
theorem dL_law_912 : decode cL_law 912 = .ok (.iload_n 3, 1) := by decide +kernel
theorem dL_law_913 : decode cL_law 913 = .ok (.iconst 1, 1) := by decide +kernel
theorem dL_law_914 : decode cL_law 914 = .ok (.iadd, 1) := by decide +kernel
theorem dL_law_915 : decode cL_law 915 = .ok (.iaload, 1) := by decide +kernel
theorem dL_law_916 : decode cL_law 916 = .ok (.aload_n 0, 1) := by decide +kernel
theorem dL_law_917 : decode cL_law 917 = .ok (.iload_n 3, 1) := by decide +kernel
theorem dL_law_918 : decode cL_law 918 = .ok (.iconst 2, 1) := by decide +kernel
theorem dL_law_919 : decode cL_law 919 = .ok (.iadd, 1) := by decide +kernel
theorem dL_law_920 : decode cL_law 920 = .ok (.iaload, 1) := by decide +kernel
theorem dL_law_921 : decode cL_law 921 = .ok (.aload_n 0, 1) := by decide +kernel
theorem dL_law_922 : decode cL_law 922 = .ok (.iload_n 3, 1) := by decide +kernel
theorem dL_law_923 : decode cL_law 923 = .ok (.iconst 3, 1) := by decide +kernel
theorem dL_law_924 : decode cL_law 924 = .ok (.iadd, 1) := by decide +kernel
theorem dL_law_925 : decode cL_law 925 = .ok (.iaload, 1) := by decide +kernel
theorem dL_law_926 : decode cL_law 926 = .ok (.invokevirtual 95, 3) := by decide +kernel
theorem dL_law_929 : decode cL_law 929 = .ok (.aload_n 2, 1) := by decide +kernel
theorem dL_law_930 : decode cL_law 930 = .ok (.aload_n 0, 1) := by decide +kernel
theorem dL_law_931 : decode cL_law 931 = .ok (.iload_n 3, 1) := by decide +kernel
theorem dL_law_932 : decode cL_law 932 = .ok (.iconst 1, 1) := by decide +kernel
theorem dL_law_933 : decode cL_law 933 = .ok (.iadd, 1) := by decide +kernel
theorem dL_law_934 : decode cL_law 934 = .ok (.iaload, 1) := by decide +kernel
theorem dL_law_935 : decode cL_law 935 = .ok (.aload_n 0, 1) := by decide +kernel
theorem dL_law_936 : decode cL_law 936 = .ok (.iload_n 3, 1) := by decide +kernel
theorem dL_law_937 : decode cL_law 937 = .ok (.iconst 2, 1) := by decide +kernel
theorem dL_law_938 : decode cL_law 938 = .ok (.iadd, 1) := by decide +kernel
theorem dL_law_939 : decode cL_law 939 = .ok (.iaload, 1) := by decide +kernel
theorem dL_law_940 : decode cL_law 940 = .ok (.aload_n 0, 1) := by decide +kernel
theorem dL_law_941 : decode cL_law 941 = .ok (.iload_n 3, 1) := by decide +kernel
theorem dL_law_942 : decode cL_law 942 = .ok (.iconst 3, 1) := by decide +kernel
theorem dL_law_943 : decode cL_law 943 = .ok (.iadd, 1) := by decide +kernel
theorem dL_law_944 : decode cL_law 944 = .ok (.iaload, 1) := by decide +kernel
theorem dL_law_945 : decode cL_law 945 = .ok (.invokevirtual 98, 3) := by decide +kernel
theorem dL_law_948 : decode cL_law 948 = .ok (.if_icmp .eq 225, 3) := by decide +kernel
theorem dL_law_951 : decode cL_law 951 = .ok (.iconst 0, 1) := by decide +kernel
theorem dL_law_952 : decode cL_law 952 = .ok (.ireturn, 1) := by decide +kernel
theorem dL_law_953 : decode cL_law 953 = .ok (.aload_n 1, 1) := by decide +kernel
theorem dL_law_954 : decode cL_law 954 = .ok (.aload_n 0, 1) := by decide +kernel
theorem dL_law_955 : decode cL_law 955 = .ok (.iload_n 3, 1) := by decide +kernel
theorem dL_law_956 : decode cL_law 956 = .ok (.iconst 1, 1) := by decide +kernel
theorem dL_law_957 : decode cL_law 957 = .ok (.iadd, 1) := by decide +kernel
theorem dL_law_958 : decode cL_law 958 = .ok (.iaload, 1) := by decide +kernel
theorem dL_law_959 : decode cL_law 959 = .ok (.aload_n 0, 1) := by decide +kernel
theorem dL_law_960 : decode cL_law 960 = .ok (.iload_n 3, 1) := by decide +kernel
theorem dL_law_961 : decode cL_law 961 = .ok (.iconst 2, 1) := by decide +kernel
theorem dL_law_962 : decode cL_law 962 = .ok (.iadd, 1) := by decide +kernel
theorem dL_law_963 : decode cL_law 963 = .ok (.iaload, 1) := by decide +kernel
theorem dL_law_964 : decode cL_law 964 = .ok (.invokevirtual 99, 3) := by decide +kernel
theorem dL_law_967 : decode cL_law 967 = .ok (.aload_n 2, 1) := by decide +kernel
theorem dL_law_968 : decode cL_law 968 = .ok (.aload_n 0, 1) := by decide +kernel
theorem dL_law_969 : decode cL_law 969 = .ok (.iload_n 3, 1) := by decide +kernel
theorem dL_law_970 : decode cL_law 970 = .ok (.iconst 1, 1) := by decide +kernel
theorem dL_law_971 : decode cL_law 971 = .ok (.iadd, 1) := by decide +kernel
theorem dL_law_972 : decode cL_law 972 = .ok (.iaload, 1) := by decide +kernel
theorem dL_law_973 : decode cL_law 973 = .ok (.aload_n 0, 1) := by decide +kernel
theorem dL_law_974 : decode cL_law 974 = .ok (.iload_n 3, 1) := by decide +kernel
theorem dL_law_975 : decode cL_law 975 = .ok (.iconst 2, 1) := by decide +kernel
theorem dL_law_976 : decode cL_law 976 = .ok (.iadd, 1) := by decide +kernel
theorem dL_law_977 : decode cL_law 977 = .ok (.iaload, 1) := by decide +kernel
theorem dL_law_978 : decode cL_law 978 = .ok (.invokevirtual 102, 3) := by decide +kernel
theorem dL_law_981 : decode cL_law 981 = .ok (.if_icmp .eq 192, 3) := by decide +kernel
theorem dL_law_984 : decode cL_law 984 = .ok (.iconst 0, 1) := by decide +kernel
theorem dL_law_985 : decode cL_law 985 = .ok (.ireturn, 1) := by decide +kernel
theorem dL_law_986 : decode cL_law 986 = .ok (.aload_n 1, 1) := by decide +kernel
theorem dL_law_987 : decode cL_law 987 = .ok (.aload_n 0, 1) := by decide +kernel
theorem dL_law_988 : decode cL_law 988 = .ok (.iload_n 3, 1) := by decide +kernel
theorem dL_law_989 : decode cL_law 989 = .ok (.iconst 1, 1) := by decide +kernel
theorem dL_law_990 : decode cL_law 990 = .ok (.iadd, 1) := by decide +kernel
theorem dL_law_991 : decode cL_law 991 = .ok (.iaload, 1) := by decide +kernel
theorem dL_law_992 : decode cL_law 992 = .ok (.invokevirtual 103, 3) := by decide +kernel
theorem dL_law_995 : decode cL_law 995 = .ok (.aload_n 2, 1) := by decide +kernel
theorem dL_law_996 : decode cL_law 996 = .ok (.aload_n 0, 1) := by decide +kernel
theorem dL_law_997 : decode cL_law 997 = .ok (.iload_n 3, 1) := by decide +kernel
theorem dL_law_998 : decode cL_law 998 = .ok (.iconst 1, 1) := by decide +kernel
theorem dL_law_999 : decode cL_law 999 = .ok (.iadd, 1) := by decide +kernel
theorem dL_law_1000 : decode cL_law 1000 = .ok (.iaload, 1) := by decide +kernel
theorem dL_law_1001 : decode cL_law 1001 = .ok (.invokevirtual 106, 3) := by decide +kernel
theorem dL_law_1004 : decode cL_law 1004 = .ok (.if_icmp .eq 169, 3) := by decide +kernel
theorem dL_law_1007 : decode cL_law 1007 = .ok (.iconst 0, 1) := by decide +kernel
theorem dL_law_1008 : decode cL_law 1008 = .ok (.ireturn, 1) := by decide +kernel
theorem dL_law_1009 : decode cL_law 1009 = .ok (.aload_n 1, 1) := by decide +kernel
theorem dL_law_1010 : decode cL_law 1010 = .ok (.invokevirtual 107, 3) := by decide +kernel
theorem dL_law_1013 : decode cL_law 1013 = .ok (.aload_n 2, 1) := by decide +kernel
theorem dL_law_1014 : decode cL_law 1014 = .ok (.invokevirtual 111, 3) := by decide +kernel
theorem dL_law_1017 : decode cL_law 1017 = .ok (.if_icmp .eq 156, 3) := by decide +kernel
theorem dL_law_1020 : decode cL_law 1020 = .ok (.iconst 0, 1) := by decide +kernel
theorem dL_law_1021 : decode cL_law 1021 = .ok (.ireturn, 1) := by decide +kernel
theorem dL_law_1022 : decode cL_law 1022 = .ok (.aload_n 1, 1) := by decide +kernel
theorem dL_law_1023 : decode cL_law 1023 = .ok (.aload_n 0, 1) := by decide +kernel
theorem dL_law_1024 : decode cL_law 1024 = .ok (.iload_n 3, 1) := by decide +kernel
theorem dL_law_1025 : decode cL_law 1025 = .ok (.iconst 1, 1) := by decide +kernel
theorem dL_law_1026 : decode cL_law 1026 = .ok (.iadd, 1) := by decide +kernel
theorem dL_law_1027 : decode cL_law 1027 = .ok (.iaload, 1) := by decide +kernel
theorem dL_law_1028 : decode cL_law 1028 = .ok (.invokevirtual 112, 3) := by decide +kernel
theorem dL_law_1031 : decode cL_law 1031 = .ok (.aload_n 2, 1) := by decide +kernel
theorem dL_law_1032 : decode cL_law 1032 = .ok (.aload_n 0, 1) := by decide +kernel
theorem dL_law_1033 : decode cL_law 1033 = .ok (.iload_n 3, 1) := by decide +kernel
theorem dL_law_1034 : decode cL_law 1034 = .ok (.iconst 1, 1) := by decide +kernel
theorem dL_law_1035 : decode cL_law 1035 = .ok (.iadd, 1) := by decide +kernel
theorem dL_law_1036 : decode cL_law 1036 = .ok (.iaload, 1) := by decide +kernel
theorem dL_law_1037 : decode cL_law 1037 = .ok (.invokevirtual 115, 3) := by decide +kernel
theorem dL_law_1040 : decode cL_law 1040 = .ok (.if_icmp .eq 133, 3) := by decide +kernel
theorem dL_law_1043 : decode cL_law 1043 = .ok (.iconst 0, 1) := by decide +kernel
theorem dL_law_1044 : decode cL_law 1044 = .ok (.ireturn, 1) := by decide +kernel
theorem dL_law_1045 : decode cL_law 1045 = .ok (.aload_n 1, 1) := by decide +kernel
theorem dL_law_1046 : decode cL_law 1046 = .ok (.aload_n 0, 1) := by decide +kernel
theorem dL_law_1047 : decode cL_law 1047 = .ok (.iload_n 3, 1) := by decide +kernel
theorem dL_law_1048 : decode cL_law 1048 = .ok (.iconst 1, 1) := by decide +kernel
theorem dL_law_1049 : decode cL_law 1049 = .ok (.iadd, 1) := by decide +kernel
theorem dL_law_1050 : decode cL_law 1050 = .ok (.iaload, 1) := by decide +kernel
theorem dL_law_1051 : decode cL_law 1051 = .ok (.invokevirtual 116, 3) := by decide +kernel
theorem dL_law_1054 : decode cL_law 1054 = .ok (.aload_n 2, 1) := by decide +kernel
theorem dL_law_1055 : decode cL_law 1055 = .ok (.aload_n 0, 1) := by decide +kernel
theorem dL_law_1056 : decode cL_law 1056 = .ok (.iload_n 3, 1) := by decide +kernel
theorem dL_law_1057 : decode cL_law 1057 = .ok (.iconst 1, 1) := by decide +kernel
theorem dL_law_1058 : decode cL_law 1058 = .ok (.iadd, 1) := by decide +kernel
theorem dL_law_1059 : decode cL_law 1059 = .ok (.iaload, 1) := by decide +kernel
theorem dL_law_1060 : decode cL_law 1060 = .ok (.invokevirtual 120, 3) := by decide +kernel
theorem dL_law_1063 : decode cL_law 1063 = .ok (.if_icmp .eq 110, 3) := by decide +kernel
theorem dL_law_1066 : decode cL_law 1066 = .ok (.iconst 0, 1) := by decide +kernel
theorem dL_law_1067 : decode cL_law 1067 = .ok (.ireturn, 1) := by decide +kernel
theorem dL_law_1068 : decode cL_law 1068 = .ok (.aload_n 1, 1) := by decide +kernel
theorem dL_law_1069 : decode cL_law 1069 = .ok (.invokevirtual 121, 3) := by decide +kernel
theorem dL_law_1072 : decode cL_law 1072 = .ok (.aload_n 2, 1) := by decide +kernel
theorem dL_law_1073 : decode cL_law 1073 = .ok (.invokevirtual 124, 3) := by decide +kernel
theorem dL_law_1076 : decode cL_law 1076 = .ok (.if_icmp .eq 97, 3) := by decide +kernel
theorem dL_law_1079 : decode cL_law 1079 = .ok (.iconst 0, 1) := by decide +kernel
theorem dL_law_1080 : decode cL_law 1080 = .ok (.ireturn, 1) := by decide +kernel
theorem dL_law_1081 : decode cL_law 1081 = .ok (.aload_n 1, 1) := by decide +kernel
theorem dL_law_1082 : decode cL_law 1082 = .ok (.invokevirtual 125, 3) := by decide +kernel
theorem dL_law_1085 : decode cL_law 1085 = .ok (.aload_n 2, 1) := by decide +kernel
theorem dL_law_1086 : decode cL_law 1086 = .ok (.invokevirtual 128, 3) := by decide +kernel
theorem dL_law_1089 : decode cL_law 1089 = .ok (.if_icmp .eq 84, 3) := by decide +kernel
theorem dL_law_1092 : decode cL_law 1092 = .ok (.iconst 0, 1) := by decide +kernel
theorem dL_law_1093 : decode cL_law 1093 = .ok (.ireturn, 1) := by decide +kernel
theorem dL_law_1094 : decode cL_law 1094 = .ok (.aload_n 1, 1) := by decide +kernel
theorem dL_law_1095 : decode cL_law 1095 = .ok (.invokevirtual 129, 3) := by decide +kernel
theorem dL_law_1098 : decode cL_law 1098 = .ok (.aload_n 2, 1) := by decide +kernel
theorem dL_law_1099 : decode cL_law 1099 = .ok (.invokevirtual 133, 3) := by decide +kernel
theorem dL_law_1102 : decode cL_law 1102 = .ok (.if_icmp .eq 71, 3) := by decide +kernel
theorem dL_law_1105 : decode cL_law 1105 = .ok (.iconst 0, 1) := by decide +kernel
theorem dL_law_1106 : decode cL_law 1106 = .ok (.ireturn, 1) := by decide +kernel
theorem dL_law_1107 : decode cL_law 1107 = .ok (.aload_n 1, 1) := by decide +kernel
theorem dL_law_1108 : decode cL_law 1108 = .ok (.aload_n 0, 1) := by decide +kernel
theorem dL_law_1109 : decode cL_law 1109 = .ok (.iload_n 3, 1) := by decide +kernel
theorem dL_law_1110 : decode cL_law 1110 = .ok (.iconst 1, 1) := by decide +kernel
theorem dL_law_1111 : decode cL_law 1111 = .ok (.iadd, 1) := by decide +kernel
theorem dL_law_1112 : decode cL_law 1112 = .ok (.iaload, 1) := by decide +kernel
theorem dL_law_1113 : decode cL_law 1113 = .ok (.aload_n 0, 1) := by decide +kernel
theorem dL_law_1114 : decode cL_law 1114 = .ok (.iload_n 3, 1) := by decide +kernel
theorem dL_law_1115 : decode cL_law 1115 = .ok (.iconst 2, 1) := by decide +kernel
theorem dL_law_1116 : decode cL_law 1116 = .ok (.iadd, 1) := by decide +kernel
theorem dL_law_1117 : decode cL_law 1117 = .ok (.iaload, 1) := by decide +kernel
theorem dL_law_1118 : decode cL_law 1118 = .ok (.aload_n 0, 1) := by decide +kernel
theorem dL_law_1119 : decode cL_law 1119 = .ok (.iload_n 3, 1) := by decide +kernel
theorem dL_law_1120 : decode cL_law 1120 = .ok (.iconst 3, 1) := by decide +kernel
theorem dL_law_1121 : decode cL_law 1121 = .ok (.iadd, 1) := by decide +kernel
theorem dL_law_1122 : decode cL_law 1122 = .ok (.iaload, 1) := by decide +kernel
theorem dL_law_1123 : decode cL_law 1123 = .ok (.invokevirtual 134, 3) := by decide +kernel
theorem dL_law_1126 : decode cL_law 1126 = .ok (.aload_n 2, 1) := by decide +kernel
theorem dL_law_1127 : decode cL_law 1127 = .ok (.aload_n 0, 1) := by decide +kernel
theorem dL_law_1128 : decode cL_law 1128 = .ok (.iload_n 3, 1) := by decide +kernel
theorem dL_law_1129 : decode cL_law 1129 = .ok (.iconst 1, 1) := by decide +kernel
theorem dL_law_1130 : decode cL_law 1130 = .ok (.iadd, 1) := by decide +kernel
theorem dL_law_1131 : decode cL_law 1131 = .ok (.iaload, 1) := by decide +kernel
theorem dL_law_1132 : decode cL_law 1132 = .ok (.aload_n 0, 1) := by decide +kernel
theorem dL_law_1133 : decode cL_law 1133 = .ok (.iload_n 3, 1) := by decide +kernel
theorem dL_law_1134 : decode cL_law 1134 = .ok (.iconst 2, 1) := by decide +kernel
theorem dL_law_1135 : decode cL_law 1135 = .ok (.iadd, 1) := by decide +kernel
theorem dL_law_1136 : decode cL_law 1136 = .ok (.iaload, 1) := by decide +kernel
theorem dL_law_1137 : decode cL_law 1137 = .ok (.aload_n 0, 1) := by decide +kernel
theorem dL_law_1138 : decode cL_law 1138 = .ok (.iload_n 3, 1) := by decide +kernel
theorem dL_law_1139 : decode cL_law 1139 = .ok (.iconst 3, 1) := by decide +kernel
theorem dL_law_1140 : decode cL_law 1140 = .ok (.iadd, 1) := by decide +kernel
theorem dL_law_1141 : decode cL_law 1141 = .ok (.iaload, 1) := by decide +kernel
theorem dL_law_1142 : decode cL_law 1142 = .ok (.invokevirtual 137, 3) := by decide +kernel
theorem dL_law_1145 : decode cL_law 1145 = .ok (.if_icmp .eq 28, 3) := by decide +kernel
theorem dL_law_1148 : decode cL_law 1148 = .ok (.iconst 0, 1) := by decide +kernel
theorem dL_law_1149 : decode cL_law 1149 = .ok (.ireturn, 1) := by decide +kernel
theorem dL_law_1150 : decode cL_law 1150 = .ok (.aload_n 1, 1) := by decide +kernel
theorem dL_law_1151 : decode cL_law 1151 = .ok (.aload_n 0, 1) := by decide +kernel
theorem dL_law_1152 : decode cL_law 1152 = .ok (.iload_n 3, 1) := by decide +kernel
theorem dL_law_1153 : decode cL_law 1153 = .ok (.iconst 1, 1) := by decide +kernel
theorem dL_law_1154 : decode cL_law 1154 = .ok (.iadd, 1) := by decide +kernel
theorem dL_law_1155 : decode cL_law 1155 = .ok (.iaload, 1) := by decide +kernel
theorem dL_law_1156 : decode cL_law 1156 = .ok (.invokevirtual 138, 3) := by decide +kernel
theorem dL_law_1159 : decode cL_law 1159 = .ok (.aload_n 2, 1) := by decide +kernel
theorem dL_law_1160 : decode cL_law 1160 = .ok (.aload_n 0, 1) := by decide +kernel
theorem dL_law_1161 : decode cL_law 1161 = .ok (.iload_n 3, 1) := by decide +kernel
theorem dL_law_1162 : decode cL_law 1162 = .ok (.iconst 1, 1) := by decide +kernel
theorem dL_law_1163 : decode cL_law 1163 = .ok (.iadd, 1) := by decide +kernel
theorem dL_law_1164 : decode cL_law 1164 = .ok (.iaload, 1) := by decide +kernel
theorem dL_law_1165 : decode cL_law 1165 = .ok (.invokevirtual 141, 3) := by decide +kernel
theorem dL_law_1168 : decode cL_law 1168 = .ok (.if_icmp .eq 5, 3) := by decide +kernel
theorem dL_law_1171 : decode cL_law 1171 = .ok (.iconst 0, 1) := by decide +kernel
theorem dL_law_1172 : decode cL_law 1172 = .ok (.ireturn, 1) := by decide +kernel
theorem dL_law_1173 : decode cL_law 1173 = .ok (.iinc 3 6, 3) := by decide +kernel
theorem dL_law_1176 : decode cL_law 1176 = .ok (.goto (-1158), 3) := by decide +kernel
theorem dL_law_1179 : decode cL_law 1179 = .ok (.iconst 1, 1) := by decide +kernel
theorem dL_law_1180 : decode cL_law 1180 = .ok (.ireturn, 1) := by decide +kernel
def ok_L_law_18 (K : ro_K)  : ro_Mem → Prop := fun e => ro_X K 1179 [] [] e
def fj_L_law_220 (L : Nat) (xs : Nat → Int32) (rec : (Int32 × ro_Mem) → Option ro_Mem) (v3 : Int32) (t0 : Int32) (t2 : Int32) (t3 : Int32) (t4 : Int32) (μ : ro_Mem) : Option ro_Mem :=
  if ro_in (v3 + 4) L then
  ((fn_X12_seat t2 t3 t4 (xs (v3 + 4).toNatClampNeg) μ).bind fun q15 =>
  if t0 = q15.1 then
  (rec (v3 + 6, q15.2))
  else
  (none)) else none
theorem bj_L_law_220 {K : ro_K} (hK : ro_C K RL cL_law 4 300) {L : Nat} {xs : Nat → Int32} {b : Nat} (hX : va_X b L xs (ks K) (ks K).heap) (hbl : b < (ks K).heap.size) (hbA : ¬ ro_A (kG K) b) {v3 : Int32} {t0 : Int32} {t2 : Int32} {t3 : Int32} {t4 : Int32}  {rec : (Int32 × ro_Mem) → Option ro_Mem} {μ : ro_Mem} (hrec : ∀ (s : Int32 × ro_Mem) (q : ro_Mem), rec s = some q → ok_L_law_18 K q → ro_X K 18 [(0, .ref b), (1, .ref (ro_ad (kG K) 0)), (2, .ref (ro_ad (kG K) 207)), (3, .int s.1)] [] s.2) {out : ro_Mem} (hf : fj_L_law_220 L xs rec v3 t0 t2 t3 t4 μ = some out) (hq : ok_L_law_18 K out) : ro_X K 220 [(0, .ref b), (1, .ref (ro_ad (kG K) 0)), (2, .ref (ro_ad (kG K) 207)), (3, .int v3)] [.int t4, .int t3, .int t2, .ref (ro_ad (kG K) 207), .int t0] μ := by
  unfold fj_L_law_220 at hf
  refine ro_aload_n hK 0 rfl dL_law_220 rfl ?_
  refine ro_iload_n hK 3 rfl dL_law_221 rfl ?_
  refine ro_iconst (v := 4) hK dL_law_222 (by decide) ?_
  refine ro_iadd hK dL_law_223 ?_
  obtain ⟨g14, hf⟩ := ro_gd hf
  refine ro_scl hK hX hbl hbA g14 dL_law_224 ?_
  obtain ⟨q15, e16, hf⟩ := ro_bd hf
  refine ro_callvi hK [.int t2, .int t3, .int t4, .int (xs (v3 + 4).toNatClampNeg)] ml_L_17 mv_X12_seat (mt_X12_seat (kl K) (kG K)  e16) sh_207 ⟨_, rfl, rfl⟩ (by decide) rfl rfl (Nat.le_of_ble_eq_true rfl) dL_law_225 ?_
  refine ro_icmp_eq hK 1173 dL_law_228 (by decide) (fun c17 => ?_) (fun c17 => ?_)
  · have hf := ro_it hf c17
    refine ro_iinc (v := v3 + 6) (L' := [(3, .int (v3 + 6)), (0, .ref b), (1, .ref (ro_ad (kG K) 0)), (2, .ref (ro_ad (kG K) 207))]) hK 3 rfl dL_law_1173 rfl (by decide) rfl ?_
    refine ro_goto hK 18 dL_law_1176 (by decide) ?_
    refine ro_sub (L' := [(0, .ref b), (1, .ref (ro_ad (kG K) 0)), (2, .ref (ro_ad (kG K) 207)), (3, .int (v3 + 6))]) [1, 2, 3, 0] rfl ?_
    exact hrec (v3 + 6, q15.2) _ hf hq
  · have hf := ro_ie hf c17
    cases hf
def fj_L_law_188 (L : Nat) (xs : Nat → Int32) (rec : (Int32 × ro_Mem) → Option ro_Mem) (v3 : Int32) (t1 : Int32) (t2 : Int32) (t3 : Int32) (μ : ro_Mem) : Option ro_Mem :=
  if ro_in (v3 + 4) L then
  ((fn_X11_seat t1 t2 t3 (xs (v3 + 4).toNatClampNeg) μ).bind fun q8 =>
  if ro_in (v3 + 1) L then
  (if ro_in (v3 + 2) L then
  (if ro_in (v3 + 3) L then
  (if (xs (v3 + 3).toNatClampNeg) = 0 then
  (fj_L_law_220 L xs rec v3 q8.1 (xs (v3 + 1).toNatClampNeg) (xs (v3 + 2).toNatClampNeg) 0 q8.2)
  else
  (fj_L_law_220 L xs rec v3 q8.1 (xs (v3 + 1).toNatClampNeg) (xs (v3 + 2).toNatClampNeg) 1 q8.2)) else none) else none) else none) else none
theorem bj_L_law_188 {K : ro_K} (hK : ro_C K RL cL_law 4 300) {L : Nat} {xs : Nat → Int32} {b : Nat} (hX : va_X b L xs (ks K) (ks K).heap) (hbl : b < (ks K).heap.size) (hbA : ¬ ro_A (kG K) b) {v3 : Int32} {t1 : Int32} {t2 : Int32} {t3 : Int32}  {rec : (Int32 × ro_Mem) → Option ro_Mem} {μ : ro_Mem} (hrec : ∀ (s : Int32 × ro_Mem) (q : ro_Mem), rec s = some q → ok_L_law_18 K q → ro_X K 18 [(0, .ref b), (1, .ref (ro_ad (kG K) 0)), (2, .ref (ro_ad (kG K) 207)), (3, .int s.1)] [] s.2) {out : ro_Mem} (hf : fj_L_law_188 L xs rec v3 t1 t2 t3 μ = some out) (hq : ok_L_law_18 K out) : ro_X K 188 [(0, .ref b), (1, .ref (ro_ad (kG K) 0)), (2, .ref (ro_ad (kG K) 207)), (3, .int v3)] [.int t3, .int t2, .int t1, .ref (ro_ad (kG K) 0)] μ := by
  unfold fj_L_law_188 at hf
  refine ro_aload_n hK 0 rfl dL_law_188 rfl ?_
  refine ro_iload_n hK 3 rfl dL_law_189 rfl ?_
  refine ro_iconst (v := 4) hK dL_law_190 (by decide) ?_
  refine ro_iadd hK dL_law_191 ?_
  obtain ⟨g7, hf⟩ := ro_gd hf
  refine ro_scl hK hX hbl hbA g7 dL_law_192 ?_
  obtain ⟨q8, e9, hf⟩ := ro_bd hf
  refine ro_callvi hK [.int t1, .int t2, .int t3, .int (xs (v3 + 4).toNatClampNeg)] ml_L_13 mv_X11_seat (mt_X11_seat (kl K) (kG K)  e9) sh_0 ⟨_, rfl, rfl⟩ (by decide) rfl rfl (Nat.le_of_ble_eq_true rfl) dL_law_193 ?_
  refine ro_aload_n hK 2 rfl dL_law_196 rfl ?_
  refine ro_aload_n hK 0 rfl dL_law_197 rfl ?_
  refine ro_iload_n hK 3 rfl dL_law_198 rfl ?_
  refine ro_iconst (v := 1) hK dL_law_199 (by decide) ?_
  refine ro_iadd hK dL_law_200 ?_
  obtain ⟨g10, hf⟩ := ro_gd hf
  refine ro_scl hK hX hbl hbA g10 dL_law_201 ?_
  refine ro_aload_n hK 0 rfl dL_law_202 rfl ?_
  refine ro_iload_n hK 3 rfl dL_law_203 rfl ?_
  refine ro_iconst (v := 2) hK dL_law_204 (by decide) ?_
  refine ro_iadd hK dL_law_205 ?_
  obtain ⟨g11, hf⟩ := ro_gd hf
  refine ro_scl hK hX hbl hbA g11 dL_law_206 ?_
  refine ro_aload_n hK 0 rfl dL_law_207 rfl ?_
  refine ro_iload_n hK 3 rfl dL_law_208 rfl ?_
  refine ro_iconst (v := 3) hK dL_law_209 (by decide) ?_
  refine ro_iadd hK dL_law_210 ?_
  obtain ⟨g12, hf⟩ := ro_gd hf
  refine ro_scl hK hX hbl hbA g12 dL_law_211 ?_
  refine ro_if_eq hK 219 dL_law_212 (by decide) (fun c13 => ?_) (fun c13 => ?_)
  · have hf := ro_it hf c13
    refine ro_iconst (v := 0) hK dL_law_219 (by decide) ?_
    exact bj_L_law_220 hK hX hbl hbA  hrec hf hq
  · have hf := ro_ie hf c13
    refine ro_iconst (v := 1) hK dL_law_215 (by decide) ?_
    refine ro_goto hK 220 dL_law_216 (by decide) ?_
    exact bj_L_law_220 hK hX hbl hbA  hrec hf hq
def fj_L_law_337 (L : Nat) (xs : Nat → Int32) (rec : (Int32 × ro_Mem) → Option ro_Mem) (v3 : Int32) (t0 : Int32) (t2 : Int32) (t3 : Int32) (μ : ro_Mem) : Option ro_Mem :=
  (fn_X12_nail t2 t3 μ).bind fun q36 =>
  if t0 = q36.1 then
  (rec (v3 + 6, q36.2))
  else
  (none)
theorem bj_L_law_337 {K : ro_K} (hK : ro_C K RL cL_law 4 300) {L : Nat} {xs : Nat → Int32} {b : Nat} (hX : va_X b L xs (ks K) (ks K).heap) (hbl : b < (ks K).heap.size) (hbA : ¬ ro_A (kG K) b) {v3 : Int32} {t0 : Int32} {t2 : Int32} {t3 : Int32}  {rec : (Int32 × ro_Mem) → Option ro_Mem} {μ : ro_Mem} (hrec : ∀ (s : Int32 × ro_Mem) (q : ro_Mem), rec s = some q → ok_L_law_18 K q → ro_X K 18 [(0, .ref b), (1, .ref (ro_ad (kG K) 0)), (2, .ref (ro_ad (kG K) 207)), (3, .int s.1)] [] s.2) {out : ro_Mem} (hf : fj_L_law_337 L xs rec v3 t0 t2 t3 μ = some out) (hq : ok_L_law_18 K out) : ro_X K 337 [(0, .ref b), (1, .ref (ro_ad (kG K) 0)), (2, .ref (ro_ad (kG K) 207)), (3, .int v3)] [.int t3, .int t2, .ref (ro_ad (kG K) 207), .int t0] μ := by
  unfold fj_L_law_337 at hf
  obtain ⟨q36, e37, hf⟩ := ro_bd hf
  refine ro_callvi hK [.int t2, .int t3] ml_L_27 mv_X12_nail (mt_X12_nail (kl K) (kG K)  e37) sh_207 ⟨_, rfl, rfl⟩ (by decide) rfl rfl (Nat.le_of_ble_eq_true rfl) dL_law_337 ?_
  refine ro_icmp_eq hK 1173 dL_law_340 (by decide) (fun c38 => ?_) (fun c38 => ?_)
  · have hf := ro_it hf c38
    refine ro_iinc (v := v3 + 6) (L' := [(3, .int (v3 + 6)), (0, .ref b), (1, .ref (ro_ad (kG K) 0)), (2, .ref (ro_ad (kG K) 207))]) hK 3 rfl dL_law_1173 rfl (by decide) rfl ?_
    refine ro_goto hK 18 dL_law_1176 (by decide) ?_
    refine ro_sub (L' := [(0, .ref b), (1, .ref (ro_ad (kG K) 0)), (2, .ref (ro_ad (kG K) 207)), (3, .int (v3 + 6))]) [1, 2, 3, 0] rfl ?_
    exact hrec (v3 + 6, q36.2) _ hf hq
  · have hf := ro_ie hf c38
    cases hf
def fj_L_law_315 (L : Nat) (xs : Nat → Int32) (rec : (Int32 × ro_Mem) → Option ro_Mem) (v3 : Int32) (t1 : Int32) (t2 : Int32) (μ : ro_Mem) : Option ro_Mem :=
  (fn_X11_nail t1 t2 μ).bind fun q31 =>
  if ro_in (v3 + 1) L then
  (if ro_in (v3 + 2) L then
  (if (xs (v3 + 2).toNatClampNeg) = 0 then
  (fj_L_law_337 L xs rec v3 q31.1 (xs (v3 + 1).toNatClampNeg) 0 q31.2)
  else
  (fj_L_law_337 L xs rec v3 q31.1 (xs (v3 + 1).toNatClampNeg) 1 q31.2)) else none) else none
theorem bj_L_law_315 {K : ro_K} (hK : ro_C K RL cL_law 4 300) {L : Nat} {xs : Nat → Int32} {b : Nat} (hX : va_X b L xs (ks K) (ks K).heap) (hbl : b < (ks K).heap.size) (hbA : ¬ ro_A (kG K) b) {v3 : Int32} {t1 : Int32} {t2 : Int32}  {rec : (Int32 × ro_Mem) → Option ro_Mem} {μ : ro_Mem} (hrec : ∀ (s : Int32 × ro_Mem) (q : ro_Mem), rec s = some q → ok_L_law_18 K q → ro_X K 18 [(0, .ref b), (1, .ref (ro_ad (kG K) 0)), (2, .ref (ro_ad (kG K) 207)), (3, .int s.1)] [] s.2) {out : ro_Mem} (hf : fj_L_law_315 L xs rec v3 t1 t2 μ = some out) (hq : ok_L_law_18 K out) : ro_X K 315 [(0, .ref b), (1, .ref (ro_ad (kG K) 0)), (2, .ref (ro_ad (kG K) 207)), (3, .int v3)] [.int t2, .int t1, .ref (ro_ad (kG K) 0)] μ := by
  unfold fj_L_law_315 at hf
  obtain ⟨q31, e32, hf⟩ := ro_bd hf
  refine ro_callvi hK [.int t1, .int t2] ml_L_23 mv_X11_nail (mt_X11_nail (kl K) (kG K)  e32) sh_0 ⟨_, rfl, rfl⟩ (by decide) rfl rfl (Nat.le_of_ble_eq_true rfl) dL_law_315 ?_
  refine ro_aload_n hK 2 rfl dL_law_318 rfl ?_
  refine ro_aload_n hK 0 rfl dL_law_319 rfl ?_
  refine ro_iload_n hK 3 rfl dL_law_320 rfl ?_
  refine ro_iconst (v := 1) hK dL_law_321 (by decide) ?_
  refine ro_iadd hK dL_law_322 ?_
  obtain ⟨g33, hf⟩ := ro_gd hf
  refine ro_scl hK hX hbl hbA g33 dL_law_323 ?_
  refine ro_aload_n hK 0 rfl dL_law_324 rfl ?_
  refine ro_iload_n hK 3 rfl dL_law_325 rfl ?_
  refine ro_iconst (v := 2) hK dL_law_326 (by decide) ?_
  refine ro_iadd hK dL_law_327 ?_
  obtain ⟨g34, hf⟩ := ro_gd hf
  refine ro_scl hK hX hbl hbA g34 dL_law_328 ?_
  refine ro_if_eq hK 336 dL_law_329 (by decide) (fun c35 => ?_) (fun c35 => ?_)
  · have hf := ro_it hf c35
    refine ro_iconst (v := 0) hK dL_law_336 (by decide) ?_
    exact bj_L_law_337 hK hX hbl hbA  hrec hf hq
  · have hf := ro_ie hf c35
    refine ro_iconst (v := 1) hK dL_law_332 (by decide) ?_
    refine ro_goto hK 337 dL_law_333 (by decide) ?_
    exact bj_L_law_337 hK hX hbl hbA  hrec hf hq
def fb_L_law_18 (L : Nat) (xs : Nat → Int32) (rec : (Int32 × ro_Mem) → Option ro_Mem) (v3 : Int32) (μ : ro_Mem) : Option ro_Mem :=
  if ((nI L) - 6) < v3 then
  (some μ)
  else
  (if ro_in v3 L then
  (if ((xs v3.toNatClampNeg) &&& 31) = 0 then
  (if ro_in (v3 + 1) L then
  (if ro_in (v3 + 2) L then
  (if ro_in (v3 + 3) L then
  (if (xs (v3 + 3).toNatClampNeg) = 0 then
  (fj_L_law_188 L xs rec v3 (xs (v3 + 1).toNatClampNeg) (xs (v3 + 2).toNatClampNeg) 0 μ)
  else
  (fj_L_law_188 L xs rec v3 (xs (v3 + 1).toNatClampNeg) (xs (v3 + 2).toNatClampNeg) 1 μ)) else none) else none) else none)
  else
  (if ((xs v3.toNatClampNeg) &&& 31) = 1 then
  (if ro_in (v3 + 1) L then
  (if ro_in (v3 + 2) L then
  (if ro_in (v3 + 3) L then
  (if ro_in (v3 + 4) L then
  (if ro_in (v3 + 5) L then
  ((fn_X11_slate (xs (v3 + 1).toNatClampNeg) (xs (v3 + 2).toNatClampNeg) (xs (v3 + 3).toNatClampNeg) (xs (v3 + 4).toNatClampNeg) (xs (v3 + 5).toNatClampNeg) μ).bind fun q23 =>
  (fn_X12_slate (xs (v3 + 1).toNatClampNeg) (xs (v3 + 2).toNatClampNeg) (xs (v3 + 3).toNatClampNeg) (xs (v3 + 4).toNatClampNeg) (xs (v3 + 5).toNatClampNeg) q23.2).bind fun q25 =>
  if q23.1 = q25.1 then
  (rec (v3 + 6, q25.2))
  else
  (none)) else none) else none) else none) else none) else none)
  else
  (if ((xs v3.toNatClampNeg) &&& 31) = 2 then
  (if ro_in (v3 + 1) L then
  (if ro_in (v3 + 2) L then
  (if (xs (v3 + 2).toNatClampNeg) = 0 then
  (fj_L_law_315 L xs rec v3 (xs (v3 + 1).toNatClampNeg) 0 μ)
  else
  (fj_L_law_315 L xs rec v3 (xs (v3 + 1).toNatClampNeg) 1 μ)) else none) else none)
  else
  (if ((xs v3.toNatClampNeg) &&& 31) = 3 then
  (if ro_in (v3 + 1) L then
  (if ro_in (v3 + 2) L then
  ((fn_X11_rain (xs (v3 + 1).toNatClampNeg) (xs (v3 + 2).toNatClampNeg) μ).bind fun q41 =>
  (fn_X12_rain (xs (v3 + 1).toNatClampNeg) (xs (v3 + 2).toNatClampNeg) q41.2).bind fun q43 =>
  if q41.1 = q43.1 then
  (rec (v3 + 6, q43.2))
  else
  (none)) else none) else none)
  else
  (if ((xs v3.toNatClampNeg) &&& 31) = 4 then
  (if ro_in (v3 + 1) L then
  (if ro_in (v3 + 2) L then
  ((fn_X11_guest (xs (v3 + 1).toNatClampNeg) (xs (v3 + 2).toNatClampNeg) μ).bind fun q48 =>
  (fn_X12_guest (xs (v3 + 1).toNatClampNeg) (xs (v3 + 2).toNatClampNeg) q48.2).bind fun q50 =>
  if q48.1 = q50.1 then
  (rec (v3 + 6, q50.2))
  else
  (none)) else none) else none)
  else
  (if ((xs v3.toNatClampNeg) &&& 31) = 5 then
  (if ro_in (v3 + 1) L then
  (if ro_in (v3 + 2) L then
  (if ro_in (v3 + 3) L then
  (if ro_in (v3 + 4) L then
  ((fn_X11_sits (xs (v3 + 1).toNatClampNeg) (xs (v3 + 2).toNatClampNeg) (xs (v3 + 3).toNatClampNeg) (xs (v3 + 4).toNatClampNeg) μ).bind fun q57 =>
  (fn_X12_sits (xs (v3 + 1).toNatClampNeg) (xs (v3 + 2).toNatClampNeg) (xs (v3 + 3).toNatClampNeg) (xs (v3 + 4).toNatClampNeg) q57.2).bind fun q59 =>
  if q57.1 = q59.1 then
  (rec (v3 + 6, q59.2))
  else
  (none)) else none) else none) else none) else none)
  else
  (if ((xs v3.toNatClampNeg) &&& 31) = 6 then
  (if ro_in (v3 + 1) L then
  (if ro_in (v3 + 2) L then
  (if ro_in (v3 + 3) L then
  (if ro_in (v3 + 4) L then
  (if ro_in (v3 + 5) L then
  ((fn_X11_feed (xs (v3 + 1).toNatClampNeg) (xs (v3 + 2).toNatClampNeg) (xs (v3 + 3).toNatClampNeg) (xs (v3 + 4).toNatClampNeg) (xs (v3 + 5).toNatClampNeg) μ).bind fun q67 =>
  (fn_X12_feed (xs (v3 + 1).toNatClampNeg) (xs (v3 + 2).toNatClampNeg) (xs (v3 + 3).toNatClampNeg) (xs (v3 + 4).toNatClampNeg) (xs (v3 + 5).toNatClampNeg) q67.2).bind fun q69 =>
  if q67.1 = q69.1 then
  (rec (v3 + 6, q69.2))
  else
  (none)) else none) else none) else none) else none) else none)
  else
  (if ((xs v3.toNatClampNeg) &&& 31) = 7 then
  (if ro_in (v3 + 1) L then
  ((fn_X11_score (xs (v3 + 1).toNatClampNeg) μ).bind fun q73 =>
  (fn_X12_score (xs (v3 + 1).toNatClampNeg) q73.2).bind fun q75 =>
  if q73.1 = q75.1 then
  (rec (v3 + 6, q75.2))
  else
  (none)) else none)
  else
  (if ((xs v3.toNatClampNeg) &&& 31) = 8 then
  (if ro_in (v3 + 1) L then
  ((fn_X11_law (xs (v3 + 1).toNatClampNeg) μ).bind fun q79 =>
  (fn_X12_law (xs (v3 + 1).toNatClampNeg) q79.2).bind fun q81 =>
  if q79.1 = q81.1 then
  (rec (v3 + 6, q81.2))
  else
  (none)) else none)
  else
  (if ((xs v3.toNatClampNeg) &&& 31) = 9 then
  (if ro_in (v3 + 1) L then
  (if ro_in (v3 + 2) L then
  ((fn_X11_note (xs (v3 + 1).toNatClampNeg) (xs (v3 + 2).toNatClampNeg) μ).bind fun q86 =>
  (fn_X12_note (xs (v3 + 1).toNatClampNeg) (xs (v3 + 2).toNatClampNeg) μ).bind fun q88 =>
  if q86 = q88 then
  (rec (v3 + 6, μ))
  else
  (none)) else none) else none)
  else
  (if ((xs v3.toNatClampNeg) &&& 31) = 10 then
  (if ro_in (v3 + 1) L then
  (if ro_in (v3 + 2) L then
  ((fn_X11_drops (xs (v3 + 1).toNatClampNeg) (xs (v3 + 2).toNatClampNeg) μ).bind fun q93 =>
  (fn_X12_drops (xs (v3 + 1).toNatClampNeg) (xs (v3 + 2).toNatClampNeg) q93.2).bind fun q95 =>
  if q93.1 = q95.1 then
  (rec (v3 + 6, q95.2))
  else
  (none)) else none) else none)
  else
  (if ((xs v3.toNatClampNeg) &&& 31) = 11 then
  (if ro_in (v3 + 1) L then
  (if ro_in (v3 + 2) L then
  (if ro_in (v3 + 3) L then
  ((fn_X11_wet (xs (v3 + 1).toNatClampNeg) (xs (v3 + 2).toNatClampNeg) (xs (v3 + 3).toNatClampNeg) μ).bind fun q101 =>
  (fn_X12_wet (xs (v3 + 1).toNatClampNeg) (xs (v3 + 2).toNatClampNeg) (xs (v3 + 3).toNatClampNeg) q101.2).bind fun q103 =>
  if q101.1 = q103.1 then
  (rec (v3 + 6, q103.2))
  else
  (none)) else none) else none) else none)
  else
  (if ((xs v3.toNatClampNeg) &&& 31) = 12 then
  (if ro_in (v3 + 1) L then
  (if ro_in (v3 + 2) L then
  ((fn_X11_guestWet (xs (v3 + 1).toNatClampNeg) (xs (v3 + 2).toNatClampNeg) μ).bind fun q108 =>
  (fn_X12_guestWet (xs (v3 + 1).toNatClampNeg) (xs (v3 + 2).toNatClampNeg) q108.2).bind fun q110 =>
  if q108.1 = q110.1 then
  (rec (v3 + 6, q110.2))
  else
  (none)) else none) else none)
  else
  (if ((xs v3.toNatClampNeg) &&& 31) = 13 then
  (if ro_in (v3 + 1) L then
  (if ro_in (v3 + 2) L then
  ((fn_X11_house (xs (v3 + 1).toNatClampNeg) (xs (v3 + 2).toNatClampNeg) μ).bind fun q115 =>
  (fn_X12_house (xs (v3 + 1).toNatClampNeg) (xs (v3 + 2).toNatClampNeg) q115.2).bind fun q117 =>
  if q115.1 = q117.1 then
  (rec (v3 + 6, q117.2))
  else
  (none)) else none) else none)
  else
  (if ((xs v3.toNatClampNeg) &&& 31) = 14 then
  (if ro_in (v3 + 1) L then
  (if ro_in (v3 + 2) L then
  (if ro_in (v3 + 3) L then
  (if ro_in (v3 + 4) L then
  ((fn_X11_seated (xs (v3 + 1).toNatClampNeg) (xs (v3 + 2).toNatClampNeg) (xs (v3 + 3).toNatClampNeg) (xs (v3 + 4).toNatClampNeg) μ).bind fun q124 =>
  (fn_X12_seated (xs (v3 + 1).toNatClampNeg) (xs (v3 + 2).toNatClampNeg) (xs (v3 + 3).toNatClampNeg) (xs (v3 + 4).toNatClampNeg) q124.2).bind fun q126 =>
  if q124.1 = q126.1 then
  (rec (v3 + 6, q126.2))
  else
  (none)) else none) else none) else none) else none)
  else
  (if ((xs v3.toNatClampNeg) &&& 31) = 15 then
  (if ro_in (v3 + 1) L then
  (if ro_in (v3 + 2) L then
  ((fn_X11_transposed (xs (v3 + 1).toNatClampNeg) (xs (v3 + 2).toNatClampNeg) μ).bind fun q131 =>
  (fn_X12_transposed (xs (v3 + 1).toNatClampNeg) (xs (v3 + 2).toNatClampNeg) q131.2).bind fun q133 =>
  if q131.1 = q133.1 then
  (rec (v3 + 6, q133.2))
  else
  (none)) else none) else none)
  else
  (if ((xs v3.toNatClampNeg) &&& 31) = 16 then
  (if ro_in (v3 + 1) L then
  (if ro_in (v3 + 2) L then
  (if ro_in (v3 + 3) L then
  ((fn_X11_leftOut (xs (v3 + 1).toNatClampNeg) (xs (v3 + 2).toNatClampNeg) (xs (v3 + 3).toNatClampNeg) μ).bind fun q139 =>
  (fn_X12_leftOut (xs (v3 + 1).toNatClampNeg) (xs (v3 + 2).toNatClampNeg) (xs (v3 + 3).toNatClampNeg) q139.2).bind fun q141 =>
  if q139.1 = q141.1 then
  (rec (v3 + 6, q141.2))
  else
  (none)) else none) else none) else none)
  else
  (if ((xs v3.toNatClampNeg) &&& 31) = 17 then
  (if ro_in (v3 + 1) L then
  (if ro_in (v3 + 2) L then
  ((fn_X11_nails (xs (v3 + 1).toNatClampNeg) (xs (v3 + 2).toNatClampNeg) μ).bind fun q146 =>
  (fn_X12_nails (xs (v3 + 1).toNatClampNeg) (xs (v3 + 2).toNatClampNeg) q146.2).bind fun q148 =>
  if q146.1 = q148.1 then
  (rec (v3 + 6, q148.2))
  else
  (none)) else none) else none)
  else
  (if ((xs v3.toNatClampNeg) &&& 31) = 18 then
  (if ro_in (v3 + 1) L then
  (if ro_in (v3 + 2) L then
  (if ro_in (v3 + 3) L then
  ((fn_X11_sung (xs (v3 + 1).toNatClampNeg) (xs (v3 + 2).toNatClampNeg) (xs (v3 + 3).toNatClampNeg) μ).bind fun q154 =>
  (fn_X12_sung (xs (v3 + 1).toNatClampNeg) (xs (v3 + 2).toNatClampNeg) (xs (v3 + 3).toNatClampNeg) q154.2).bind fun q156 =>
  if q154.1 = q156.1 then
  (rec (v3 + 6, q156.2))
  else
  (none)) else none) else none) else none)
  else
  (if ((xs v3.toNatClampNeg) &&& 31) = 19 then
  (if ro_in (v3 + 1) L then
  (if ro_in (v3 + 2) L then
  ((fn_X11_sponge (xs (v3 + 1).toNatClampNeg) (xs (v3 + 2).toNatClampNeg) μ).bind fun q161 =>
  (fn_X12_sponge (xs (v3 + 1).toNatClampNeg) (xs (v3 + 2).toNatClampNeg) q161.2).bind fun q163 =>
  if q161.1 = q163.1 then
  (rec (v3 + 6, q163.2))
  else
  (none)) else none) else none)
  else
  (if ((xs v3.toNatClampNeg) &&& 31) = 20 then
  (if ro_in (v3 + 1) L then
  ((fn_X11_paid (xs (v3 + 1).toNatClampNeg) μ).bind fun q167 =>
  (fn_X12_paid (xs (v3 + 1).toNatClampNeg) q167.2).bind fun q169 =>
  if q167.1 = q169.1 then
  (rec (v3 + 6, q169.2))
  else
  (none)) else none)
  else
  (if ((xs v3.toNatClampNeg) &&& 31) = 21 then
  ((fn_X11_perform μ).bind fun q172 =>
  (fn_X12_perform q172.2).bind fun q174 =>
  if q172.1 = q174.1 then
  (rec (v3 + 6, q174.2))
  else
  (none))
  else
  (if ((xs v3.toNatClampNeg) &&& 31) = 22 then
  (if ro_in (v3 + 1) L then
  ((fn_X11_soFar (xs (v3 + 1).toNatClampNeg) μ).bind fun q178 =>
  (fn_X12_soFar (xs (v3 + 1).toNatClampNeg) μ).bind fun q180 =>
  if q178 = q180 then
  (rec (v3 + 6, μ))
  else
  (none)) else none)
  else
  (if ((xs v3.toNatClampNeg) &&& 31) = 23 then
  (if ro_in (v3 + 1) L then
  ((fn_X11_seed (xs (v3 + 1).toNatClampNeg) μ).bind fun q184 =>
  (fn_X12_seed (xs (v3 + 1).toNatClampNeg) q184.2).bind fun q186 =>
  if q184.1 = q186.1 then
  (rec (v3 + 6, q186.2))
  else
  (none)) else none)
  else
  (if ((xs v3.toNatClampNeg) &&& 31) = 24 then
  ((fn_X11_draw μ).bind fun q189 =>
  (fn_X12_draw q189.2).bind fun q191 =>
  if q189.1 = q191.1 then
  (rec (v3 + 6, q191.2))
  else
  (none))
  else
  (if ((xs v3.toNatClampNeg) &&& 31) = 25 then
  ((fn_X11_keep μ).bind fun q194 =>
  (fn_X12_keep q194.2).bind fun q196 =>
  if q194.1 = q196.1 then
  (rec (v3 + 6, q196.2))
  else
  (none))
  else
  (if ((xs v3.toNatClampNeg) &&& 31) = 26 then
  ((fn_X11_undo μ).bind fun q199 =>
  (fn_X12_undo q199.2).bind fun q201 =>
  if q199.1 = q201.1 then
  (rec (v3 + 6, q201.2))
  else
  (none))
  else
  (if ((xs v3.toNatClampNeg) &&& 31) = 27 then
  (if ro_in (v3 + 1) L then
  (if ro_in (v3 + 2) L then
  (if ro_in (v3 + 3) L then
  ((fn_X11_check (xs (v3 + 1).toNatClampNeg) (xs (v3 + 2).toNatClampNeg) (xs (v3 + 3).toNatClampNeg) μ).bind fun q207 =>
  (fn_X12_check (xs (v3 + 1).toNatClampNeg) (xs (v3 + 2).toNatClampNeg) (xs (v3 + 3).toNatClampNeg) q207.2).bind fun q209 =>
  if q207.1 = q209.1 then
  (rec (v3 + 6, q209.2))
  else
  (none)) else none) else none) else none)
  else
  (if ((xs v3.toNatClampNeg) &&& 31) = 28 then
  (if ro_in (v3 + 1) L then
  ((fn_X11_count (xs (v3 + 1).toNatClampNeg) μ).bind fun q213 =>
  (fn_X12_count (xs (v3 + 1).toNatClampNeg) μ).bind fun q215 =>
  if q213 = q215 then
  (rec (v3 + 6, μ))
  else
  (none)) else none)
  else
  (rec (v3 + 6, μ))))))))))))))))))))))))))))))) else none)
theorem bb_L_law_18 {K : ro_K} (hK : ro_C K RL cL_law 4 300) {L : Nat} {xs : Nat → Int32} {b : Nat} (hX : va_X b L xs (ks K) (ks K).heap) (hbl : b < (ks K).heap.size) (hbA : ¬ ro_A (kG K) b)   {μ : ro_Mem} {rec : (Int32 × ro_Mem) → Option ro_Mem} {v3 : Int32} {q : ro_Mem} (hrec : ∀ (s : Int32 × ro_Mem) (q : ro_Mem), rec s = some q → ok_L_law_18 K q → ro_X K 18 [(0, .ref b), (1, .ref (ro_ad (kG K) 0)), (2, .ref (ro_ad (kG K) 207)), (3, .int s.1)] [] s.2) (hf : fb_L_law_18 L xs rec v3 μ = some q) (hq : ok_L_law_18 K q) : ro_X K 18 [(0, .ref b), (1, .ref (ro_ad (kG K) 0)), (2, .ref (ro_ad (kG K) 207)), (3, .int v3)] [] μ := by
  unfold fb_L_law_18 at hf
  refine ro_iload_n hK 3 rfl dL_law_18 rfl ?_
  refine ro_aload_n hK 0 rfl dL_law_19 rfl ?_
  refine ro_scn hK hX hbl hbA dL_law_20 ?_
  refine ro_bipush (v := 6) hK dL_law_21 (by decide) ?_
  refine ro_isub hK dL_law_23 ?_
  refine ro_icmp_gt hK 1179 dL_law_24 (by decide) (fun c1 => ?_) (fun c1 => ?_)
  · have hf := ro_it hf c1
    refine ro_sub (L' := []) [] rfl ?_
    obtain rfl := Option.some.inj hf
    exact hq
  · have hf := ro_ie hf c1
    refine ro_aload_n hK 0 rfl dL_law_27 rfl ?_
    refine ro_iload_n hK 3 rfl dL_law_28 rfl ?_
    obtain ⟨g2, hf⟩ := ro_gd hf
    refine ro_scl hK hX hbl hbA g2 dL_law_29 ?_
    refine ro_bipush (v := 31) hK dL_law_30 (by decide) ?_
    refine ro_iand hK dL_law_32 ?_
    by_cases c_0 : ((xs v3.toNatClampNeg) &&& 31) = 0
    · have hf := ro_it hf c_0
      refine ro_tabIn hK 0 164 dL_law_33 c_0 (by decide) (by decide) rfl (by decide) ?_
      refine ro_aload_n hK 1 rfl dL_law_164 rfl ?_
      refine ro_aload_n hK 0 rfl dL_law_165 rfl ?_
      refine ro_iload_n hK 3 rfl dL_law_166 rfl ?_
      refine ro_iconst (v := 1) hK dL_law_167 (by decide) ?_
      refine ro_iadd hK dL_law_168 ?_
      obtain ⟨g3, hf⟩ := ro_gd hf
      refine ro_scl hK hX hbl hbA g3 dL_law_169 ?_
      refine ro_aload_n hK 0 rfl dL_law_170 rfl ?_
      refine ro_iload_n hK 3 rfl dL_law_171 rfl ?_
      refine ro_iconst (v := 2) hK dL_law_172 (by decide) ?_
      refine ro_iadd hK dL_law_173 ?_
      obtain ⟨g4, hf⟩ := ro_gd hf
      refine ro_scl hK hX hbl hbA g4 dL_law_174 ?_
      refine ro_aload_n hK 0 rfl dL_law_175 rfl ?_
      refine ro_iload_n hK 3 rfl dL_law_176 rfl ?_
      refine ro_iconst (v := 3) hK dL_law_177 (by decide) ?_
      refine ro_iadd hK dL_law_178 ?_
      obtain ⟨g5, hf⟩ := ro_gd hf
      refine ro_scl hK hX hbl hbA g5 dL_law_179 ?_
      refine ro_if_eq hK 187 dL_law_180 (by decide) (fun c6 => ?_) (fun c6 => ?_)
      · have hf := ro_it hf c6
        refine ro_iconst (v := 0) hK dL_law_187 (by decide) ?_
        exact bj_L_law_188 hK hX hbl hbA  hrec hf hq
      · have hf := ro_ie hf c6
        refine ro_iconst (v := 1) hK dL_law_183 (by decide) ?_
        refine ro_goto hK 188 dL_law_184 (by decide) ?_
        exact bj_L_law_188 hK hX hbl hbA  hrec hf hq
    have hf := ro_ie hf c_0
    by_cases c_1 : ((xs v3.toNatClampNeg) &&& 31) = 1
    · have hf := ro_it hf c_1
      refine ro_tabIn hK 1 233 dL_law_33 c_1 (by decide) (by decide) rfl (by decide) ?_
      refine ro_aload_n hK 1 rfl dL_law_233 rfl ?_
      refine ro_aload_n hK 0 rfl dL_law_234 rfl ?_
      refine ro_iload_n hK 3 rfl dL_law_235 rfl ?_
      refine ro_iconst (v := 1) hK dL_law_236 (by decide) ?_
      refine ro_iadd hK dL_law_237 ?_
      obtain ⟨g18, hf⟩ := ro_gd hf
      refine ro_scl hK hX hbl hbA g18 dL_law_238 ?_
      refine ro_aload_n hK 0 rfl dL_law_239 rfl ?_
      refine ro_iload_n hK 3 rfl dL_law_240 rfl ?_
      refine ro_iconst (v := 2) hK dL_law_241 (by decide) ?_
      refine ro_iadd hK dL_law_242 ?_
      obtain ⟨g19, hf⟩ := ro_gd hf
      refine ro_scl hK hX hbl hbA g19 dL_law_243 ?_
      refine ro_aload_n hK 0 rfl dL_law_244 rfl ?_
      refine ro_iload_n hK 3 rfl dL_law_245 rfl ?_
      refine ro_iconst (v := 3) hK dL_law_246 (by decide) ?_
      refine ro_iadd hK dL_law_247 ?_
      obtain ⟨g20, hf⟩ := ro_gd hf
      refine ro_scl hK hX hbl hbA g20 dL_law_248 ?_
      refine ro_aload_n hK 0 rfl dL_law_249 rfl ?_
      refine ro_iload_n hK 3 rfl dL_law_250 rfl ?_
      refine ro_iconst (v := 4) hK dL_law_251 (by decide) ?_
      refine ro_iadd hK dL_law_252 ?_
      obtain ⟨g21, hf⟩ := ro_gd hf
      refine ro_scl hK hX hbl hbA g21 dL_law_253 ?_
      refine ro_aload_n hK 0 rfl dL_law_254 rfl ?_
      refine ro_iload_n hK 3 rfl dL_law_255 rfl ?_
      refine ro_iconst (v := 5) hK dL_law_256 (by decide) ?_
      refine ro_iadd hK dL_law_257 ?_
      obtain ⟨g22, hf⟩ := ro_gd hf
      refine ro_scl hK hX hbl hbA g22 dL_law_258 ?_
      obtain ⟨q23, e24, hf⟩ := ro_bd hf
      refine ro_callvi hK [.int (xs (v3 + 1).toNatClampNeg), .int (xs (v3 + 2).toNatClampNeg), .int (xs (v3 + 3).toNatClampNeg), .int (xs (v3 + 4).toNatClampNeg), .int (xs (v3 + 5).toNatClampNeg)] ml_L_18 mv_X11_slate (mt_X11_slate (kl K) (kG K)  e24) sh_0 ⟨_, rfl, rfl⟩ (by decide) rfl rfl (Nat.le_of_ble_eq_true rfl) dL_law_259 ?_
      refine ro_aload_n hK 2 rfl dL_law_262 rfl ?_
      refine ro_aload_n hK 0 rfl dL_law_263 rfl ?_
      refine ro_iload_n hK 3 rfl dL_law_264 rfl ?_
      refine ro_iconst (v := 1) hK dL_law_265 (by decide) ?_
      refine ro_iadd hK dL_law_266 ?_
      refine ro_scl hK hX hbl hbA g18 dL_law_267 ?_
      refine ro_aload_n hK 0 rfl dL_law_268 rfl ?_
      refine ro_iload_n hK 3 rfl dL_law_269 rfl ?_
      refine ro_iconst (v := 2) hK dL_law_270 (by decide) ?_
      refine ro_iadd hK dL_law_271 ?_
      refine ro_scl hK hX hbl hbA g19 dL_law_272 ?_
      refine ro_aload_n hK 0 rfl dL_law_273 rfl ?_
      refine ro_iload_n hK 3 rfl dL_law_274 rfl ?_
      refine ro_iconst (v := 3) hK dL_law_275 (by decide) ?_
      refine ro_iadd hK dL_law_276 ?_
      refine ro_scl hK hX hbl hbA g20 dL_law_277 ?_
      refine ro_aload_n hK 0 rfl dL_law_278 rfl ?_
      refine ro_iload_n hK 3 rfl dL_law_279 rfl ?_
      refine ro_iconst (v := 4) hK dL_law_280 (by decide) ?_
      refine ro_iadd hK dL_law_281 ?_
      refine ro_scl hK hX hbl hbA g21 dL_law_282 ?_
      refine ro_aload_n hK 0 rfl dL_law_283 rfl ?_
      refine ro_iload_n hK 3 rfl dL_law_284 rfl ?_
      refine ro_iconst (v := 5) hK dL_law_285 (by decide) ?_
      refine ro_iadd hK dL_law_286 ?_
      refine ro_scl hK hX hbl hbA g22 dL_law_287 ?_
      obtain ⟨q25, e26, hf⟩ := ro_bd hf
      refine ro_callvi hK [.int (xs (v3 + 1).toNatClampNeg), .int (xs (v3 + 2).toNatClampNeg), .int (xs (v3 + 3).toNatClampNeg), .int (xs (v3 + 4).toNatClampNeg), .int (xs (v3 + 5).toNatClampNeg)] ml_L_22 mv_X12_slate (mt_X12_slate (kl K) (kG K)  e26) sh_207 ⟨_, rfl, rfl⟩ (by decide) rfl rfl (Nat.le_of_ble_eq_true rfl) dL_law_288 ?_
      refine ro_icmp_eq hK 1173 dL_law_291 (by decide) (fun c27 => ?_) (fun c27 => ?_)
      · have hf := ro_it hf c27
        refine ro_iinc (v := v3 + 6) (L' := [(3, .int (v3 + 6)), (0, .ref b), (1, .ref (ro_ad (kG K) 0)), (2, .ref (ro_ad (kG K) 207))]) hK 3 rfl dL_law_1173 rfl (by decide) rfl ?_
        refine ro_goto hK 18 dL_law_1176 (by decide) ?_
        refine ro_sub (L' := [(0, .ref b), (1, .ref (ro_ad (kG K) 0)), (2, .ref (ro_ad (kG K) 207)), (3, .int (v3 + 6))]) [1, 2, 3, 0] rfl ?_
        exact hrec (v3 + 6, q25.2) _ hf hq
      · have hf := ro_ie hf c27
        cases hf
    have hf := ro_ie hf c_1
    by_cases c_2 : ((xs v3.toNatClampNeg) &&& 31) = 2
    · have hf := ro_it hf c_2
      refine ro_tabIn hK 2 296 dL_law_33 c_2 (by decide) (by decide) rfl (by decide) ?_
      refine ro_aload_n hK 1 rfl dL_law_296 rfl ?_
      refine ro_aload_n hK 0 rfl dL_law_297 rfl ?_
      refine ro_iload_n hK 3 rfl dL_law_298 rfl ?_
      refine ro_iconst (v := 1) hK dL_law_299 (by decide) ?_
      refine ro_iadd hK dL_law_300 ?_
      obtain ⟨g28, hf⟩ := ro_gd hf
      refine ro_scl hK hX hbl hbA g28 dL_law_301 ?_
      refine ro_aload_n hK 0 rfl dL_law_302 rfl ?_
      refine ro_iload_n hK 3 rfl dL_law_303 rfl ?_
      refine ro_iconst (v := 2) hK dL_law_304 (by decide) ?_
      refine ro_iadd hK dL_law_305 ?_
      obtain ⟨g29, hf⟩ := ro_gd hf
      refine ro_scl hK hX hbl hbA g29 dL_law_306 ?_
      refine ro_if_eq hK 314 dL_law_307 (by decide) (fun c30 => ?_) (fun c30 => ?_)
      · have hf := ro_it hf c30
        refine ro_iconst (v := 0) hK dL_law_314 (by decide) ?_
        exact bj_L_law_315 hK hX hbl hbA  hrec hf hq
      · have hf := ro_ie hf c30
        refine ro_iconst (v := 1) hK dL_law_310 (by decide) ?_
        refine ro_goto hK 315 dL_law_311 (by decide) ?_
        exact bj_L_law_315 hK hX hbl hbA  hrec hf hq
    have hf := ro_ie hf c_2
    by_cases c_3 : ((xs v3.toNatClampNeg) &&& 31) = 3
    · have hf := ro_it hf c_3
      refine ro_tabIn hK 3 345 dL_law_33 c_3 (by decide) (by decide) rfl (by decide) ?_
      refine ro_aload_n hK 1 rfl dL_law_345 rfl ?_
      refine ro_aload_n hK 0 rfl dL_law_346 rfl ?_
      refine ro_iload_n hK 3 rfl dL_law_347 rfl ?_
      refine ro_iconst (v := 1) hK dL_law_348 (by decide) ?_
      refine ro_iadd hK dL_law_349 ?_
      obtain ⟨g39, hf⟩ := ro_gd hf
      refine ro_scl hK hX hbl hbA g39 dL_law_350 ?_
      refine ro_aload_n hK 0 rfl dL_law_351 rfl ?_
      refine ro_iload_n hK 3 rfl dL_law_352 rfl ?_
      refine ro_iconst (v := 2) hK dL_law_353 (by decide) ?_
      refine ro_iadd hK dL_law_354 ?_
      obtain ⟨g40, hf⟩ := ro_gd hf
      refine ro_scl hK hX hbl hbA g40 dL_law_355 ?_
      obtain ⟨q41, e42, hf⟩ := ro_bd hf
      refine ro_callvi hK [.int (xs (v3 + 1).toNatClampNeg), .int (xs (v3 + 2).toNatClampNeg)] ml_L_28 mv_X11_rain (mt_X11_rain (kl K) (kG K)  e42) sh_0 ⟨_, rfl, rfl⟩ (by decide) rfl rfl (Nat.le_of_ble_eq_true rfl) dL_law_356 ?_
      refine ro_aload_n hK 2 rfl dL_law_359 rfl ?_
      refine ro_aload_n hK 0 rfl dL_law_360 rfl ?_
      refine ro_iload_n hK 3 rfl dL_law_361 rfl ?_
      refine ro_iconst (v := 1) hK dL_law_362 (by decide) ?_
      refine ro_iadd hK dL_law_363 ?_
      refine ro_scl hK hX hbl hbA g39 dL_law_364 ?_
      refine ro_aload_n hK 0 rfl dL_law_365 rfl ?_
      refine ro_iload_n hK 3 rfl dL_law_366 rfl ?_
      refine ro_iconst (v := 2) hK dL_law_367 (by decide) ?_
      refine ro_iadd hK dL_law_368 ?_
      refine ro_scl hK hX hbl hbA g40 dL_law_369 ?_
      obtain ⟨q43, e44, hf⟩ := ro_bd hf
      refine ro_callvi hK [.int (xs (v3 + 1).toNatClampNeg), .int (xs (v3 + 2).toNatClampNeg)] ml_L_32 mv_X12_rain (mt_X12_rain (kl K) (kG K)  e44) sh_207 ⟨_, rfl, rfl⟩ (by decide) rfl rfl (Nat.le_of_ble_eq_true rfl) dL_law_370 ?_
      refine ro_icmp_eq hK 1173 dL_law_373 (by decide) (fun c45 => ?_) (fun c45 => ?_)
      · have hf := ro_it hf c45
        refine ro_iinc (v := v3 + 6) (L' := [(3, .int (v3 + 6)), (0, .ref b), (1, .ref (ro_ad (kG K) 0)), (2, .ref (ro_ad (kG K) 207))]) hK 3 rfl dL_law_1173 rfl (by decide) rfl ?_
        refine ro_goto hK 18 dL_law_1176 (by decide) ?_
        refine ro_sub (L' := [(0, .ref b), (1, .ref (ro_ad (kG K) 0)), (2, .ref (ro_ad (kG K) 207)), (3, .int (v3 + 6))]) [1, 2, 3, 0] rfl ?_
        exact hrec (v3 + 6, q43.2) _ hf hq
      · have hf := ro_ie hf c45
        cases hf
    have hf := ro_ie hf c_3
    by_cases c_4 : ((xs v3.toNatClampNeg) &&& 31) = 4
    · have hf := ro_it hf c_4
      refine ro_tabIn hK 4 378 dL_law_33 c_4 (by decide) (by decide) rfl (by decide) ?_
      refine ro_aload_n hK 1 rfl dL_law_378 rfl ?_
      refine ro_aload_n hK 0 rfl dL_law_379 rfl ?_
      refine ro_iload_n hK 3 rfl dL_law_380 rfl ?_
      refine ro_iconst (v := 1) hK dL_law_381 (by decide) ?_
      refine ro_iadd hK dL_law_382 ?_
      obtain ⟨g46, hf⟩ := ro_gd hf
      refine ro_scl hK hX hbl hbA g46 dL_law_383 ?_
      refine ro_aload_n hK 0 rfl dL_law_384 rfl ?_
      refine ro_iload_n hK 3 rfl dL_law_385 rfl ?_
      refine ro_iconst (v := 2) hK dL_law_386 (by decide) ?_
      refine ro_iadd hK dL_law_387 ?_
      obtain ⟨g47, hf⟩ := ro_gd hf
      refine ro_scl hK hX hbl hbA g47 dL_law_388 ?_
      obtain ⟨q48, e49, hf⟩ := ro_bd hf
      refine ro_callvi hK [.int (xs (v3 + 1).toNatClampNeg), .int (xs (v3 + 2).toNatClampNeg)] ml_L_33 mv_X11_guest (mt_X11_guest (kl K) (kG K)  e49) sh_0 ⟨_, rfl, rfl⟩ (by decide) rfl rfl (Nat.le_of_ble_eq_true rfl) dL_law_389 ?_
      refine ro_aload_n hK 2 rfl dL_law_392 rfl ?_
      refine ro_aload_n hK 0 rfl dL_law_393 rfl ?_
      refine ro_iload_n hK 3 rfl dL_law_394 rfl ?_
      refine ro_iconst (v := 1) hK dL_law_395 (by decide) ?_
      refine ro_iadd hK dL_law_396 ?_
      refine ro_scl hK hX hbl hbA g46 dL_law_397 ?_
      refine ro_aload_n hK 0 rfl dL_law_398 rfl ?_
      refine ro_iload_n hK 3 rfl dL_law_399 rfl ?_
      refine ro_iconst (v := 2) hK dL_law_400 (by decide) ?_
      refine ro_iadd hK dL_law_401 ?_
      refine ro_scl hK hX hbl hbA g47 dL_law_402 ?_
      obtain ⟨q50, e51, hf⟩ := ro_bd hf
      refine ro_callvi hK [.int (xs (v3 + 1).toNatClampNeg), .int (xs (v3 + 2).toNatClampNeg)] ml_L_36 mv_X12_guest (mt_X12_guest (kl K) (kG K)  e51) sh_207 ⟨_, rfl, rfl⟩ (by decide) rfl rfl (Nat.le_of_ble_eq_true rfl) dL_law_403 ?_
      refine ro_icmp_eq hK 1173 dL_law_406 (by decide) (fun c52 => ?_) (fun c52 => ?_)
      · have hf := ro_it hf c52
        refine ro_iinc (v := v3 + 6) (L' := [(3, .int (v3 + 6)), (0, .ref b), (1, .ref (ro_ad (kG K) 0)), (2, .ref (ro_ad (kG K) 207))]) hK 3 rfl dL_law_1173 rfl (by decide) rfl ?_
        refine ro_goto hK 18 dL_law_1176 (by decide) ?_
        refine ro_sub (L' := [(0, .ref b), (1, .ref (ro_ad (kG K) 0)), (2, .ref (ro_ad (kG K) 207)), (3, .int (v3 + 6))]) [1, 2, 3, 0] rfl ?_
        exact hrec (v3 + 6, q50.2) _ hf hq
      · have hf := ro_ie hf c52
        cases hf
    have hf := ro_ie hf c_4
    by_cases c_5 : ((xs v3.toNatClampNeg) &&& 31) = 5
    · have hf := ro_it hf c_5
      refine ro_tabIn hK 5 411 dL_law_33 c_5 (by decide) (by decide) rfl (by decide) ?_
      refine ro_aload_n hK 1 rfl dL_law_411 rfl ?_
      refine ro_aload_n hK 0 rfl dL_law_412 rfl ?_
      refine ro_iload_n hK 3 rfl dL_law_413 rfl ?_
      refine ro_iconst (v := 1) hK dL_law_414 (by decide) ?_
      refine ro_iadd hK dL_law_415 ?_
      obtain ⟨g53, hf⟩ := ro_gd hf
      refine ro_scl hK hX hbl hbA g53 dL_law_416 ?_
      refine ro_aload_n hK 0 rfl dL_law_417 rfl ?_
      refine ro_iload_n hK 3 rfl dL_law_418 rfl ?_
      refine ro_iconst (v := 2) hK dL_law_419 (by decide) ?_
      refine ro_iadd hK dL_law_420 ?_
      obtain ⟨g54, hf⟩ := ro_gd hf
      refine ro_scl hK hX hbl hbA g54 dL_law_421 ?_
      refine ro_aload_n hK 0 rfl dL_law_422 rfl ?_
      refine ro_iload_n hK 3 rfl dL_law_423 rfl ?_
      refine ro_iconst (v := 3) hK dL_law_424 (by decide) ?_
      refine ro_iadd hK dL_law_425 ?_
      obtain ⟨g55, hf⟩ := ro_gd hf
      refine ro_scl hK hX hbl hbA g55 dL_law_426 ?_
      refine ro_aload_n hK 0 rfl dL_law_427 rfl ?_
      refine ro_iload_n hK 3 rfl dL_law_428 rfl ?_
      refine ro_iconst (v := 4) hK dL_law_429 (by decide) ?_
      refine ro_iadd hK dL_law_430 ?_
      obtain ⟨g56, hf⟩ := ro_gd hf
      refine ro_scl hK hX hbl hbA g56 dL_law_431 ?_
      obtain ⟨q57, e58, hf⟩ := ro_bd hf
      refine ro_callvi hK [.int (xs (v3 + 1).toNatClampNeg), .int (xs (v3 + 2).toNatClampNeg), .int (xs (v3 + 3).toNatClampNeg), .int (xs (v3 + 4).toNatClampNeg)] ml_L_37 mv_X11_sits (mt_X11_sits (kl K) (kG K)  e58) sh_0 ⟨_, rfl, rfl⟩ (by decide) rfl rfl (Nat.le_of_ble_eq_true rfl) dL_law_432 ?_
      refine ro_aload_n hK 2 rfl dL_law_435 rfl ?_
      refine ro_aload_n hK 0 rfl dL_law_436 rfl ?_
      refine ro_iload_n hK 3 rfl dL_law_437 rfl ?_
      refine ro_iconst (v := 1) hK dL_law_438 (by decide) ?_
      refine ro_iadd hK dL_law_439 ?_
      refine ro_scl hK hX hbl hbA g53 dL_law_440 ?_
      refine ro_aload_n hK 0 rfl dL_law_441 rfl ?_
      refine ro_iload_n hK 3 rfl dL_law_442 rfl ?_
      refine ro_iconst (v := 2) hK dL_law_443 (by decide) ?_
      refine ro_iadd hK dL_law_444 ?_
      refine ro_scl hK hX hbl hbA g54 dL_law_445 ?_
      refine ro_aload_n hK 0 rfl dL_law_446 rfl ?_
      refine ro_iload_n hK 3 rfl dL_law_447 rfl ?_
      refine ro_iconst (v := 3) hK dL_law_448 (by decide) ?_
      refine ro_iadd hK dL_law_449 ?_
      refine ro_scl hK hX hbl hbA g55 dL_law_450 ?_
      refine ro_aload_n hK 0 rfl dL_law_451 rfl ?_
      refine ro_iload_n hK 3 rfl dL_law_452 rfl ?_
      refine ro_iconst (v := 4) hK dL_law_453 (by decide) ?_
      refine ro_iadd hK dL_law_454 ?_
      refine ro_scl hK hX hbl hbA g56 dL_law_455 ?_
      obtain ⟨q59, e60, hf⟩ := ro_bd hf
      refine ro_callvi hK [.int (xs (v3 + 1).toNatClampNeg), .int (xs (v3 + 2).toNatClampNeg), .int (xs (v3 + 3).toNatClampNeg), .int (xs (v3 + 4).toNatClampNeg)] ml_L_41 mv_X12_sits (mt_X12_sits (kl K) (kG K)  e60) sh_207 ⟨_, rfl, rfl⟩ (by decide) rfl rfl (Nat.le_of_ble_eq_true rfl) dL_law_456 ?_
      refine ro_icmp_eq hK 1173 dL_law_459 (by decide) (fun c61 => ?_) (fun c61 => ?_)
      · have hf := ro_it hf c61
        refine ro_iinc (v := v3 + 6) (L' := [(3, .int (v3 + 6)), (0, .ref b), (1, .ref (ro_ad (kG K) 0)), (2, .ref (ro_ad (kG K) 207))]) hK 3 rfl dL_law_1173 rfl (by decide) rfl ?_
        refine ro_goto hK 18 dL_law_1176 (by decide) ?_
        refine ro_sub (L' := [(0, .ref b), (1, .ref (ro_ad (kG K) 0)), (2, .ref (ro_ad (kG K) 207)), (3, .int (v3 + 6))]) [1, 2, 3, 0] rfl ?_
        exact hrec (v3 + 6, q59.2) _ hf hq
      · have hf := ro_ie hf c61
        cases hf
    have hf := ro_ie hf c_5
    by_cases c_6 : ((xs v3.toNatClampNeg) &&& 31) = 6
    · have hf := ro_it hf c_6
      refine ro_tabIn hK 6 464 dL_law_33 c_6 (by decide) (by decide) rfl (by decide) ?_
      refine ro_aload_n hK 1 rfl dL_law_464 rfl ?_
      refine ro_aload_n hK 0 rfl dL_law_465 rfl ?_
      refine ro_iload_n hK 3 rfl dL_law_466 rfl ?_
      refine ro_iconst (v := 1) hK dL_law_467 (by decide) ?_
      refine ro_iadd hK dL_law_468 ?_
      obtain ⟨g62, hf⟩ := ro_gd hf
      refine ro_scl hK hX hbl hbA g62 dL_law_469 ?_
      refine ro_aload_n hK 0 rfl dL_law_470 rfl ?_
      refine ro_iload_n hK 3 rfl dL_law_471 rfl ?_
      refine ro_iconst (v := 2) hK dL_law_472 (by decide) ?_
      refine ro_iadd hK dL_law_473 ?_
      obtain ⟨g63, hf⟩ := ro_gd hf
      refine ro_scl hK hX hbl hbA g63 dL_law_474 ?_
      refine ro_aload_n hK 0 rfl dL_law_475 rfl ?_
      refine ro_iload_n hK 3 rfl dL_law_476 rfl ?_
      refine ro_iconst (v := 3) hK dL_law_477 (by decide) ?_
      refine ro_iadd hK dL_law_478 ?_
      obtain ⟨g64, hf⟩ := ro_gd hf
      refine ro_scl hK hX hbl hbA g64 dL_law_479 ?_
      refine ro_aload_n hK 0 rfl dL_law_480 rfl ?_
      refine ro_iload_n hK 3 rfl dL_law_481 rfl ?_
      refine ro_iconst (v := 4) hK dL_law_482 (by decide) ?_
      refine ro_iadd hK dL_law_483 ?_
      obtain ⟨g65, hf⟩ := ro_gd hf
      refine ro_scl hK hX hbl hbA g65 dL_law_484 ?_
      refine ro_aload_n hK 0 rfl dL_law_485 rfl ?_
      refine ro_iload_n hK 3 rfl dL_law_486 rfl ?_
      refine ro_iconst (v := 5) hK dL_law_487 (by decide) ?_
      refine ro_iadd hK dL_law_488 ?_
      obtain ⟨g66, hf⟩ := ro_gd hf
      refine ro_scl hK hX hbl hbA g66 dL_law_489 ?_
      obtain ⟨q67, e68, hf⟩ := ro_bd hf
      refine ro_callvi hK [.int (xs (v3 + 1).toNatClampNeg), .int (xs (v3 + 2).toNatClampNeg), .int (xs (v3 + 3).toNatClampNeg), .int (xs (v3 + 4).toNatClampNeg), .int (xs (v3 + 5).toNatClampNeg)] ml_L_42 mv_X11_feed (mt_X11_feed (kl K) (kG K)  e68) sh_0 ⟨_, rfl, rfl⟩ (by decide) rfl rfl (Nat.le_of_ble_eq_true rfl) dL_law_490 ?_
      refine ro_aload_n hK 2 rfl dL_law_493 rfl ?_
      refine ro_aload_n hK 0 rfl dL_law_494 rfl ?_
      refine ro_iload_n hK 3 rfl dL_law_495 rfl ?_
      refine ro_iconst (v := 1) hK dL_law_496 (by decide) ?_
      refine ro_iadd hK dL_law_497 ?_
      refine ro_scl hK hX hbl hbA g62 dL_law_498 ?_
      refine ro_aload_n hK 0 rfl dL_law_499 rfl ?_
      refine ro_iload_n hK 3 rfl dL_law_500 rfl ?_
      refine ro_iconst (v := 2) hK dL_law_501 (by decide) ?_
      refine ro_iadd hK dL_law_502 ?_
      refine ro_scl hK hX hbl hbA g63 dL_law_503 ?_
      refine ro_aload_n hK 0 rfl dL_law_504 rfl ?_
      refine ro_iload_n hK 3 rfl dL_law_505 rfl ?_
      refine ro_iconst (v := 3) hK dL_law_506 (by decide) ?_
      refine ro_iadd hK dL_law_507 ?_
      refine ro_scl hK hX hbl hbA g64 dL_law_508 ?_
      refine ro_aload_n hK 0 rfl dL_law_509 rfl ?_
      refine ro_iload_n hK 3 rfl dL_law_510 rfl ?_
      refine ro_iconst (v := 4) hK dL_law_511 (by decide) ?_
      refine ro_iadd hK dL_law_512 ?_
      refine ro_scl hK hX hbl hbA g65 dL_law_513 ?_
      refine ro_aload_n hK 0 rfl dL_law_514 rfl ?_
      refine ro_iload_n hK 3 rfl dL_law_515 rfl ?_
      refine ro_iconst (v := 5) hK dL_law_516 (by decide) ?_
      refine ro_iadd hK dL_law_517 ?_
      refine ro_scl hK hX hbl hbA g66 dL_law_518 ?_
      obtain ⟨q69, e70, hf⟩ := ro_bd hf
      refine ro_callvi hK [.int (xs (v3 + 1).toNatClampNeg), .int (xs (v3 + 2).toNatClampNeg), .int (xs (v3 + 3).toNatClampNeg), .int (xs (v3 + 4).toNatClampNeg), .int (xs (v3 + 5).toNatClampNeg)] ml_L_46 mv_X12_feed (mt_X12_feed (kl K) (kG K)  e70) sh_207 ⟨_, rfl, rfl⟩ (by decide) rfl rfl (Nat.le_of_ble_eq_true rfl) dL_law_519 ?_
      refine ro_icmp_eq hK 1173 dL_law_522 (by decide) (fun c71 => ?_) (fun c71 => ?_)
      · have hf := ro_it hf c71
        refine ro_iinc (v := v3 + 6) (L' := [(3, .int (v3 + 6)), (0, .ref b), (1, .ref (ro_ad (kG K) 0)), (2, .ref (ro_ad (kG K) 207))]) hK 3 rfl dL_law_1173 rfl (by decide) rfl ?_
        refine ro_goto hK 18 dL_law_1176 (by decide) ?_
        refine ro_sub (L' := [(0, .ref b), (1, .ref (ro_ad (kG K) 0)), (2, .ref (ro_ad (kG K) 207)), (3, .int (v3 + 6))]) [1, 2, 3, 0] rfl ?_
        exact hrec (v3 + 6, q69.2) _ hf hq
      · have hf := ro_ie hf c71
        cases hf
    have hf := ro_ie hf c_6
    by_cases c_7 : ((xs v3.toNatClampNeg) &&& 31) = 7
    · have hf := ro_it hf c_7
      refine ro_tabIn hK 7 527 dL_law_33 c_7 (by decide) (by decide) rfl (by decide) ?_
      refine ro_aload_n hK 1 rfl dL_law_527 rfl ?_
      refine ro_aload_n hK 0 rfl dL_law_528 rfl ?_
      refine ro_iload_n hK 3 rfl dL_law_529 rfl ?_
      refine ro_iconst (v := 1) hK dL_law_530 (by decide) ?_
      refine ro_iadd hK dL_law_531 ?_
      obtain ⟨g72, hf⟩ := ro_gd hf
      refine ro_scl hK hX hbl hbA g72 dL_law_532 ?_
      obtain ⟨q73, e74, hf⟩ := ro_bd hf
      refine ro_callvi hK [.int (xs (v3 + 1).toNatClampNeg)] ml_L_47 mv_X11_score (mt_X11_score (kl K) (kG K)  e74) sh_0 ⟨_, rfl, rfl⟩ (by decide) rfl rfl (Nat.le_of_ble_eq_true rfl) dL_law_533 ?_
      refine ro_aload_n hK 2 rfl dL_law_536 rfl ?_
      refine ro_aload_n hK 0 rfl dL_law_537 rfl ?_
      refine ro_iload_n hK 3 rfl dL_law_538 rfl ?_
      refine ro_iconst (v := 1) hK dL_law_539 (by decide) ?_
      refine ro_iadd hK dL_law_540 ?_
      refine ro_scl hK hX hbl hbA g72 dL_law_541 ?_
      obtain ⟨q75, e76, hf⟩ := ro_bd hf
      refine ro_callvi hK [.int (xs (v3 + 1).toNatClampNeg)] ml_L_51 mv_X12_score (mt_X12_score (kl K) (kG K)  e76) sh_207 ⟨_, rfl, rfl⟩ (by decide) rfl rfl (Nat.le_of_ble_eq_true rfl) dL_law_542 ?_
      refine ro_icmp_eq hK 1173 dL_law_545 (by decide) (fun c77 => ?_) (fun c77 => ?_)
      · have hf := ro_it hf c77
        refine ro_iinc (v := v3 + 6) (L' := [(3, .int (v3 + 6)), (0, .ref b), (1, .ref (ro_ad (kG K) 0)), (2, .ref (ro_ad (kG K) 207))]) hK 3 rfl dL_law_1173 rfl (by decide) rfl ?_
        refine ro_goto hK 18 dL_law_1176 (by decide) ?_
        refine ro_sub (L' := [(0, .ref b), (1, .ref (ro_ad (kG K) 0)), (2, .ref (ro_ad (kG K) 207)), (3, .int (v3 + 6))]) [1, 2, 3, 0] rfl ?_
        exact hrec (v3 + 6, q75.2) _ hf hq
      · have hf := ro_ie hf c77
        cases hf
    have hf := ro_ie hf c_7
    by_cases c_8 : ((xs v3.toNatClampNeg) &&& 31) = 8
    · have hf := ro_it hf c_8
      refine ro_tabIn hK 8 550 dL_law_33 c_8 (by decide) (by decide) rfl (by decide) ?_
      refine ro_aload_n hK 1 rfl dL_law_550 rfl ?_
      refine ro_aload_n hK 0 rfl dL_law_551 rfl ?_
      refine ro_iload_n hK 3 rfl dL_law_552 rfl ?_
      refine ro_iconst (v := 1) hK dL_law_553 (by decide) ?_
      refine ro_iadd hK dL_law_554 ?_
      obtain ⟨g78, hf⟩ := ro_gd hf
      refine ro_scl hK hX hbl hbA g78 dL_law_555 ?_
      obtain ⟨q79, e80, hf⟩ := ro_bd hf
      refine ro_callvi hK [.int (xs (v3 + 1).toNatClampNeg)] ml_L_52 mv_X11_law (mt_X11_law (kl K) (kG K)  e80) sh_0 ⟨_, rfl, rfl⟩ (by decide) rfl rfl (Nat.le_of_ble_eq_true rfl) dL_law_556 ?_
      refine ro_aload_n hK 2 rfl dL_law_559 rfl ?_
      refine ro_aload_n hK 0 rfl dL_law_560 rfl ?_
      refine ro_iload_n hK 3 rfl dL_law_561 rfl ?_
      refine ro_iconst (v := 1) hK dL_law_562 (by decide) ?_
      refine ro_iadd hK dL_law_563 ?_
      refine ro_scl hK hX hbl hbA g78 dL_law_564 ?_
      obtain ⟨q81, e82, hf⟩ := ro_bd hf
      refine ro_callvi hK [.int (xs (v3 + 1).toNatClampNeg)] ml_L_55 mv_X12_law (mt_X12_law (kl K) (kG K)  e82) sh_207 ⟨_, rfl, rfl⟩ (by decide) rfl rfl (Nat.le_of_ble_eq_true rfl) dL_law_565 ?_
      refine ro_icmp_eq hK 1173 dL_law_568 (by decide) (fun c83 => ?_) (fun c83 => ?_)
      · have hf := ro_it hf c83
        refine ro_iinc (v := v3 + 6) (L' := [(3, .int (v3 + 6)), (0, .ref b), (1, .ref (ro_ad (kG K) 0)), (2, .ref (ro_ad (kG K) 207))]) hK 3 rfl dL_law_1173 rfl (by decide) rfl ?_
        refine ro_goto hK 18 dL_law_1176 (by decide) ?_
        refine ro_sub (L' := [(0, .ref b), (1, .ref (ro_ad (kG K) 0)), (2, .ref (ro_ad (kG K) 207)), (3, .int (v3 + 6))]) [1, 2, 3, 0] rfl ?_
        exact hrec (v3 + 6, q81.2) _ hf hq
      · have hf := ro_ie hf c83
        cases hf
    have hf := ro_ie hf c_8
    by_cases c_9 : ((xs v3.toNatClampNeg) &&& 31) = 9
    · have hf := ro_it hf c_9
      refine ro_tabIn hK 9 573 dL_law_33 c_9 (by decide) (by decide) rfl (by decide) ?_
      refine ro_aload_n hK 1 rfl dL_law_573 rfl ?_
      refine ro_aload_n hK 0 rfl dL_law_574 rfl ?_
      refine ro_iload_n hK 3 rfl dL_law_575 rfl ?_
      refine ro_iconst (v := 1) hK dL_law_576 (by decide) ?_
      refine ro_iadd hK dL_law_577 ?_
      obtain ⟨g84, hf⟩ := ro_gd hf
      refine ro_scl hK hX hbl hbA g84 dL_law_578 ?_
      refine ro_aload_n hK 0 rfl dL_law_579 rfl ?_
      refine ro_iload_n hK 3 rfl dL_law_580 rfl ?_
      refine ro_iconst (v := 2) hK dL_law_581 (by decide) ?_
      refine ro_iadd hK dL_law_582 ?_
      obtain ⟨g85, hf⟩ := ro_gd hf
      refine ro_scl hK hX hbl hbA g85 dL_law_583 ?_
      obtain ⟨q86, e87, hf⟩ := ro_bd hf
      refine ro_callvi hK [.int (xs (v3 + 1).toNatClampNeg), .int (xs (v3 + 2).toNatClampNeg)] ml_L_56 mv_X11_note (mt_X11_note (kl K) (kG K)  e87) sh_0 ⟨_, rfl, rfl⟩ (by decide) rfl rfl (Nat.le_of_ble_eq_true rfl) dL_law_584 ?_
      refine ro_aload_n hK 2 rfl dL_law_587 rfl ?_
      refine ro_aload_n hK 0 rfl dL_law_588 rfl ?_
      refine ro_iload_n hK 3 rfl dL_law_589 rfl ?_
      refine ro_iconst (v := 1) hK dL_law_590 (by decide) ?_
      refine ro_iadd hK dL_law_591 ?_
      refine ro_scl hK hX hbl hbA g84 dL_law_592 ?_
      refine ro_aload_n hK 0 rfl dL_law_593 rfl ?_
      refine ro_iload_n hK 3 rfl dL_law_594 rfl ?_
      refine ro_iconst (v := 2) hK dL_law_595 (by decide) ?_
      refine ro_iadd hK dL_law_596 ?_
      refine ro_scl hK hX hbl hbA g85 dL_law_597 ?_
      obtain ⟨q88, e89, hf⟩ := ro_bd hf
      refine ro_callvi hK [.int (xs (v3 + 1).toNatClampNeg), .int (xs (v3 + 2).toNatClampNeg)] ml_L_60 mv_X12_note (mt_X12_note (kl K) (kG K)  e89) sh_207 ⟨_, rfl, rfl⟩ (by decide) rfl rfl (Nat.le_of_ble_eq_true rfl) dL_law_598 ?_
      refine ro_icmp_eq hK 1173 dL_law_601 (by decide) (fun c90 => ?_) (fun c90 => ?_)
      · have hf := ro_it hf c90
        refine ro_iinc (v := v3 + 6) (L' := [(3, .int (v3 + 6)), (0, .ref b), (1, .ref (ro_ad (kG K) 0)), (2, .ref (ro_ad (kG K) 207))]) hK 3 rfl dL_law_1173 rfl (by decide) rfl ?_
        refine ro_goto hK 18 dL_law_1176 (by decide) ?_
        refine ro_sub (L' := [(0, .ref b), (1, .ref (ro_ad (kG K) 0)), (2, .ref (ro_ad (kG K) 207)), (3, .int (v3 + 6))]) [1, 2, 3, 0] rfl ?_
        exact hrec (v3 + 6, μ) _ hf hq
      · have hf := ro_ie hf c90
        cases hf
    have hf := ro_ie hf c_9
    by_cases c_10 : ((xs v3.toNatClampNeg) &&& 31) = 10
    · have hf := ro_it hf c_10
      refine ro_tabIn hK 10 606 dL_law_33 c_10 (by decide) (by decide) rfl (by decide) ?_
      refine ro_aload_n hK 1 rfl dL_law_606 rfl ?_
      refine ro_aload_n hK 0 rfl dL_law_607 rfl ?_
      refine ro_iload_n hK 3 rfl dL_law_608 rfl ?_
      refine ro_iconst (v := 1) hK dL_law_609 (by decide) ?_
      refine ro_iadd hK dL_law_610 ?_
      obtain ⟨g91, hf⟩ := ro_gd hf
      refine ro_scl hK hX hbl hbA g91 dL_law_611 ?_
      refine ro_aload_n hK 0 rfl dL_law_612 rfl ?_
      refine ro_iload_n hK 3 rfl dL_law_613 rfl ?_
      refine ro_iconst (v := 2) hK dL_law_614 (by decide) ?_
      refine ro_iadd hK dL_law_615 ?_
      obtain ⟨g92, hf⟩ := ro_gd hf
      refine ro_scl hK hX hbl hbA g92 dL_law_616 ?_
      obtain ⟨q93, e94, hf⟩ := ro_bd hf
      refine ro_callvi hK [.int (xs (v3 + 1).toNatClampNeg), .int (xs (v3 + 2).toNatClampNeg)] ml_L_61 mv_X11_drops (mt_X11_drops (kl K) (kG K)  e94) sh_0 ⟨_, rfl, rfl⟩ (by decide) rfl rfl (Nat.le_of_ble_eq_true rfl) dL_law_617 ?_
      refine ro_aload_n hK 2 rfl dL_law_620 rfl ?_
      refine ro_aload_n hK 0 rfl dL_law_621 rfl ?_
      refine ro_iload_n hK 3 rfl dL_law_622 rfl ?_
      refine ro_iconst (v := 1) hK dL_law_623 (by decide) ?_
      refine ro_iadd hK dL_law_624 ?_
      refine ro_scl hK hX hbl hbA g91 dL_law_625 ?_
      refine ro_aload_n hK 0 rfl dL_law_626 rfl ?_
      refine ro_iload_n hK 3 rfl dL_law_627 rfl ?_
      refine ro_iconst (v := 2) hK dL_law_628 (by decide) ?_
      refine ro_iadd hK dL_law_629 ?_
      refine ro_scl hK hX hbl hbA g92 dL_law_630 ?_
      obtain ⟨q95, e96, hf⟩ := ro_bd hf
      refine ro_callvi hK [.int (xs (v3 + 1).toNatClampNeg), .int (xs (v3 + 2).toNatClampNeg)] ml_L_64 mv_X12_drops (mt_X12_drops (kl K) (kG K)  e96) sh_207 ⟨_, rfl, rfl⟩ (by decide) rfl rfl (Nat.le_of_ble_eq_true rfl) dL_law_631 ?_
      refine ro_icmp_eq hK 1173 dL_law_634 (by decide) (fun c97 => ?_) (fun c97 => ?_)
      · have hf := ro_it hf c97
        refine ro_iinc (v := v3 + 6) (L' := [(3, .int (v3 + 6)), (0, .ref b), (1, .ref (ro_ad (kG K) 0)), (2, .ref (ro_ad (kG K) 207))]) hK 3 rfl dL_law_1173 rfl (by decide) rfl ?_
        refine ro_goto hK 18 dL_law_1176 (by decide) ?_
        refine ro_sub (L' := [(0, .ref b), (1, .ref (ro_ad (kG K) 0)), (2, .ref (ro_ad (kG K) 207)), (3, .int (v3 + 6))]) [1, 2, 3, 0] rfl ?_
        exact hrec (v3 + 6, q95.2) _ hf hq
      · have hf := ro_ie hf c97
        cases hf
    have hf := ro_ie hf c_10
    by_cases c_11 : ((xs v3.toNatClampNeg) &&& 31) = 11
    · have hf := ro_it hf c_11
      refine ro_tabIn hK 11 639 dL_law_33 c_11 (by decide) (by decide) rfl (by decide) ?_
      refine ro_aload_n hK 1 rfl dL_law_639 rfl ?_
      refine ro_aload_n hK 0 rfl dL_law_640 rfl ?_
      refine ro_iload_n hK 3 rfl dL_law_641 rfl ?_
      refine ro_iconst (v := 1) hK dL_law_642 (by decide) ?_
      refine ro_iadd hK dL_law_643 ?_
      obtain ⟨g98, hf⟩ := ro_gd hf
      refine ro_scl hK hX hbl hbA g98 dL_law_644 ?_
      refine ro_aload_n hK 0 rfl dL_law_645 rfl ?_
      refine ro_iload_n hK 3 rfl dL_law_646 rfl ?_
      refine ro_iconst (v := 2) hK dL_law_647 (by decide) ?_
      refine ro_iadd hK dL_law_648 ?_
      obtain ⟨g99, hf⟩ := ro_gd hf
      refine ro_scl hK hX hbl hbA g99 dL_law_649 ?_
      refine ro_aload_n hK 0 rfl dL_law_650 rfl ?_
      refine ro_iload_n hK 3 rfl dL_law_651 rfl ?_
      refine ro_iconst (v := 3) hK dL_law_652 (by decide) ?_
      refine ro_iadd hK dL_law_653 ?_
      obtain ⟨g100, hf⟩ := ro_gd hf
      refine ro_scl hK hX hbl hbA g100 dL_law_654 ?_
      obtain ⟨q101, e102, hf⟩ := ro_bd hf
      refine ro_callvi hK [.int (xs (v3 + 1).toNatClampNeg), .int (xs (v3 + 2).toNatClampNeg), .int (xs (v3 + 3).toNatClampNeg)] ml_L_65 mv_X11_wet (mt_X11_wet (kl K) (kG K)  e102) sh_0 ⟨_, rfl, rfl⟩ (by decide) rfl rfl (Nat.le_of_ble_eq_true rfl) dL_law_655 ?_
      refine ro_aload_n hK 2 rfl dL_law_658 rfl ?_
      refine ro_aload_n hK 0 rfl dL_law_659 rfl ?_
      refine ro_iload_n hK 3 rfl dL_law_660 rfl ?_
      refine ro_iconst (v := 1) hK dL_law_661 (by decide) ?_
      refine ro_iadd hK dL_law_662 ?_
      refine ro_scl hK hX hbl hbA g98 dL_law_663 ?_
      refine ro_aload_n hK 0 rfl dL_law_664 rfl ?_
      refine ro_iload_n hK 3 rfl dL_law_665 rfl ?_
      refine ro_iconst (v := 2) hK dL_law_666 (by decide) ?_
      refine ro_iadd hK dL_law_667 ?_
      refine ro_scl hK hX hbl hbA g99 dL_law_668 ?_
      refine ro_aload_n hK 0 rfl dL_law_669 rfl ?_
      refine ro_iload_n hK 3 rfl dL_law_670 rfl ?_
      refine ro_iconst (v := 3) hK dL_law_671 (by decide) ?_
      refine ro_iadd hK dL_law_672 ?_
      refine ro_scl hK hX hbl hbA g100 dL_law_673 ?_
      obtain ⟨q103, e104, hf⟩ := ro_bd hf
      refine ro_callvi hK [.int (xs (v3 + 1).toNatClampNeg), .int (xs (v3 + 2).toNatClampNeg), .int (xs (v3 + 3).toNatClampNeg)] ml_L_69 mv_X12_wet (mt_X12_wet (kl K) (kG K)  e104) sh_207 ⟨_, rfl, rfl⟩ (by decide) rfl rfl (Nat.le_of_ble_eq_true rfl) dL_law_674 ?_
      refine ro_icmp_eq hK 1173 dL_law_677 (by decide) (fun c105 => ?_) (fun c105 => ?_)
      · have hf := ro_it hf c105
        refine ro_iinc (v := v3 + 6) (L' := [(3, .int (v3 + 6)), (0, .ref b), (1, .ref (ro_ad (kG K) 0)), (2, .ref (ro_ad (kG K) 207))]) hK 3 rfl dL_law_1173 rfl (by decide) rfl ?_
        refine ro_goto hK 18 dL_law_1176 (by decide) ?_
        refine ro_sub (L' := [(0, .ref b), (1, .ref (ro_ad (kG K) 0)), (2, .ref (ro_ad (kG K) 207)), (3, .int (v3 + 6))]) [1, 2, 3, 0] rfl ?_
        exact hrec (v3 + 6, q103.2) _ hf hq
      · have hf := ro_ie hf c105
        cases hf
    have hf := ro_ie hf c_11
    by_cases c_12 : ((xs v3.toNatClampNeg) &&& 31) = 12
    · have hf := ro_it hf c_12
      refine ro_tabIn hK 12 682 dL_law_33 c_12 (by decide) (by decide) rfl (by decide) ?_
      refine ro_aload_n hK 1 rfl dL_law_682 rfl ?_
      refine ro_aload_n hK 0 rfl dL_law_683 rfl ?_
      refine ro_iload_n hK 3 rfl dL_law_684 rfl ?_
      refine ro_iconst (v := 1) hK dL_law_685 (by decide) ?_
      refine ro_iadd hK dL_law_686 ?_
      obtain ⟨g106, hf⟩ := ro_gd hf
      refine ro_scl hK hX hbl hbA g106 dL_law_687 ?_
      refine ro_aload_n hK 0 rfl dL_law_688 rfl ?_
      refine ro_iload_n hK 3 rfl dL_law_689 rfl ?_
      refine ro_iconst (v := 2) hK dL_law_690 (by decide) ?_
      refine ro_iadd hK dL_law_691 ?_
      obtain ⟨g107, hf⟩ := ro_gd hf
      refine ro_scl hK hX hbl hbA g107 dL_law_692 ?_
      obtain ⟨q108, e109, hf⟩ := ro_bd hf
      refine ro_callvi hK [.int (xs (v3 + 1).toNatClampNeg), .int (xs (v3 + 2).toNatClampNeg)] ml_L_70 mv_X11_guestWet (mt_X11_guestWet (kl K) (kG K)  e109) sh_0 ⟨_, rfl, rfl⟩ (by decide) rfl rfl (Nat.le_of_ble_eq_true rfl) dL_law_693 ?_
      refine ro_aload_n hK 2 rfl dL_law_696 rfl ?_
      refine ro_aload_n hK 0 rfl dL_law_697 rfl ?_
      refine ro_iload_n hK 3 rfl dL_law_698 rfl ?_
      refine ro_iconst (v := 1) hK dL_law_699 (by decide) ?_
      refine ro_iadd hK dL_law_700 ?_
      refine ro_scl hK hX hbl hbA g106 dL_law_701 ?_
      refine ro_aload_n hK 0 rfl dL_law_702 rfl ?_
      refine ro_iload_n hK 3 rfl dL_law_703 rfl ?_
      refine ro_iconst (v := 2) hK dL_law_704 (by decide) ?_
      refine ro_iadd hK dL_law_705 ?_
      refine ro_scl hK hX hbl hbA g107 dL_law_706 ?_
      obtain ⟨q110, e111, hf⟩ := ro_bd hf
      refine ro_callvi hK [.int (xs (v3 + 1).toNatClampNeg), .int (xs (v3 + 2).toNatClampNeg)] ml_L_73 mv_X12_guestWet (mt_X12_guestWet (kl K) (kG K)  e111) sh_207 ⟨_, rfl, rfl⟩ (by decide) rfl rfl (Nat.le_of_ble_eq_true rfl) dL_law_707 ?_
      refine ro_icmp_eq hK 1173 dL_law_710 (by decide) (fun c112 => ?_) (fun c112 => ?_)
      · have hf := ro_it hf c112
        refine ro_iinc (v := v3 + 6) (L' := [(3, .int (v3 + 6)), (0, .ref b), (1, .ref (ro_ad (kG K) 0)), (2, .ref (ro_ad (kG K) 207))]) hK 3 rfl dL_law_1173 rfl (by decide) rfl ?_
        refine ro_goto hK 18 dL_law_1176 (by decide) ?_
        refine ro_sub (L' := [(0, .ref b), (1, .ref (ro_ad (kG K) 0)), (2, .ref (ro_ad (kG K) 207)), (3, .int (v3 + 6))]) [1, 2, 3, 0] rfl ?_
        exact hrec (v3 + 6, q110.2) _ hf hq
      · have hf := ro_ie hf c112
        cases hf
    have hf := ro_ie hf c_12
    by_cases c_13 : ((xs v3.toNatClampNeg) &&& 31) = 13
    · have hf := ro_it hf c_13
      refine ro_tabIn hK 13 715 dL_law_33 c_13 (by decide) (by decide) rfl (by decide) ?_
      refine ro_aload_n hK 1 rfl dL_law_715 rfl ?_
      refine ro_aload_n hK 0 rfl dL_law_716 rfl ?_
      refine ro_iload_n hK 3 rfl dL_law_717 rfl ?_
      refine ro_iconst (v := 1) hK dL_law_718 (by decide) ?_
      refine ro_iadd hK dL_law_719 ?_
      obtain ⟨g113, hf⟩ := ro_gd hf
      refine ro_scl hK hX hbl hbA g113 dL_law_720 ?_
      refine ro_aload_n hK 0 rfl dL_law_721 rfl ?_
      refine ro_iload_n hK 3 rfl dL_law_722 rfl ?_
      refine ro_iconst (v := 2) hK dL_law_723 (by decide) ?_
      refine ro_iadd hK dL_law_724 ?_
      obtain ⟨g114, hf⟩ := ro_gd hf
      refine ro_scl hK hX hbl hbA g114 dL_law_725 ?_
      obtain ⟨q115, e116, hf⟩ := ro_bd hf
      refine ro_callvi hK [.int (xs (v3 + 1).toNatClampNeg), .int (xs (v3 + 2).toNatClampNeg)] ml_L_74 mv_X11_house (mt_X11_house (kl K) (kG K)  e116) sh_0 ⟨_, rfl, rfl⟩ (by decide) rfl rfl (Nat.le_of_ble_eq_true rfl) dL_law_726 ?_
      refine ro_aload_n hK 2 rfl dL_law_729 rfl ?_
      refine ro_aload_n hK 0 rfl dL_law_730 rfl ?_
      refine ro_iload_n hK 3 rfl dL_law_731 rfl ?_
      refine ro_iconst (v := 1) hK dL_law_732 (by decide) ?_
      refine ro_iadd hK dL_law_733 ?_
      refine ro_scl hK hX hbl hbA g113 dL_law_734 ?_
      refine ro_aload_n hK 0 rfl dL_law_735 rfl ?_
      refine ro_iload_n hK 3 rfl dL_law_736 rfl ?_
      refine ro_iconst (v := 2) hK dL_law_737 (by decide) ?_
      refine ro_iadd hK dL_law_738 ?_
      refine ro_scl hK hX hbl hbA g114 dL_law_739 ?_
      obtain ⟨q117, e118, hf⟩ := ro_bd hf
      refine ro_callvi hK [.int (xs (v3 + 1).toNatClampNeg), .int (xs (v3 + 2).toNatClampNeg)] ml_L_77 mv_X12_house (mt_X12_house (kl K) (kG K)  e118) sh_207 ⟨_, rfl, rfl⟩ (by decide) rfl rfl (Nat.le_of_ble_eq_true rfl) dL_law_740 ?_
      refine ro_icmp_eq hK 1173 dL_law_743 (by decide) (fun c119 => ?_) (fun c119 => ?_)
      · have hf := ro_it hf c119
        refine ro_iinc (v := v3 + 6) (L' := [(3, .int (v3 + 6)), (0, .ref b), (1, .ref (ro_ad (kG K) 0)), (2, .ref (ro_ad (kG K) 207))]) hK 3 rfl dL_law_1173 rfl (by decide) rfl ?_
        refine ro_goto hK 18 dL_law_1176 (by decide) ?_
        refine ro_sub (L' := [(0, .ref b), (1, .ref (ro_ad (kG K) 0)), (2, .ref (ro_ad (kG K) 207)), (3, .int (v3 + 6))]) [1, 2, 3, 0] rfl ?_
        exact hrec (v3 + 6, q117.2) _ hf hq
      · have hf := ro_ie hf c119
        cases hf
    have hf := ro_ie hf c_13
    by_cases c_14 : ((xs v3.toNatClampNeg) &&& 31) = 14
    · have hf := ro_it hf c_14
      refine ro_tabIn hK 14 748 dL_law_33 c_14 (by decide) (by decide) rfl (by decide) ?_
      refine ro_aload_n hK 1 rfl dL_law_748 rfl ?_
      refine ro_aload_n hK 0 rfl dL_law_749 rfl ?_
      refine ro_iload_n hK 3 rfl dL_law_750 rfl ?_
      refine ro_iconst (v := 1) hK dL_law_751 (by decide) ?_
      refine ro_iadd hK dL_law_752 ?_
      obtain ⟨g120, hf⟩ := ro_gd hf
      refine ro_scl hK hX hbl hbA g120 dL_law_753 ?_
      refine ro_aload_n hK 0 rfl dL_law_754 rfl ?_
      refine ro_iload_n hK 3 rfl dL_law_755 rfl ?_
      refine ro_iconst (v := 2) hK dL_law_756 (by decide) ?_
      refine ro_iadd hK dL_law_757 ?_
      obtain ⟨g121, hf⟩ := ro_gd hf
      refine ro_scl hK hX hbl hbA g121 dL_law_758 ?_
      refine ro_aload_n hK 0 rfl dL_law_759 rfl ?_
      refine ro_iload_n hK 3 rfl dL_law_760 rfl ?_
      refine ro_iconst (v := 3) hK dL_law_761 (by decide) ?_
      refine ro_iadd hK dL_law_762 ?_
      obtain ⟨g122, hf⟩ := ro_gd hf
      refine ro_scl hK hX hbl hbA g122 dL_law_763 ?_
      refine ro_aload_n hK 0 rfl dL_law_764 rfl ?_
      refine ro_iload_n hK 3 rfl dL_law_765 rfl ?_
      refine ro_iconst (v := 4) hK dL_law_766 (by decide) ?_
      refine ro_iadd hK dL_law_767 ?_
      obtain ⟨g123, hf⟩ := ro_gd hf
      refine ro_scl hK hX hbl hbA g123 dL_law_768 ?_
      obtain ⟨q124, e125, hf⟩ := ro_bd hf
      refine ro_callvi hK [.int (xs (v3 + 1).toNatClampNeg), .int (xs (v3 + 2).toNatClampNeg), .int (xs (v3 + 3).toNatClampNeg), .int (xs (v3 + 4).toNatClampNeg)] ml_L_78 mv_X11_seated (mt_X11_seated (kl K) (kG K)  e125) sh_0 ⟨_, rfl, rfl⟩ (by decide) rfl rfl (Nat.le_of_ble_eq_true rfl) dL_law_769 ?_
      refine ro_aload_n hK 2 rfl dL_law_772 rfl ?_
      refine ro_aload_n hK 0 rfl dL_law_773 rfl ?_
      refine ro_iload_n hK 3 rfl dL_law_774 rfl ?_
      refine ro_iconst (v := 1) hK dL_law_775 (by decide) ?_
      refine ro_iadd hK dL_law_776 ?_
      refine ro_scl hK hX hbl hbA g120 dL_law_777 ?_
      refine ro_aload_n hK 0 rfl dL_law_778 rfl ?_
      refine ro_iload_n hK 3 rfl dL_law_779 rfl ?_
      refine ro_iconst (v := 2) hK dL_law_780 (by decide) ?_
      refine ro_iadd hK dL_law_781 ?_
      refine ro_scl hK hX hbl hbA g121 dL_law_782 ?_
      refine ro_aload_n hK 0 rfl dL_law_783 rfl ?_
      refine ro_iload_n hK 3 rfl dL_law_784 rfl ?_
      refine ro_iconst (v := 3) hK dL_law_785 (by decide) ?_
      refine ro_iadd hK dL_law_786 ?_
      refine ro_scl hK hX hbl hbA g122 dL_law_787 ?_
      refine ro_aload_n hK 0 rfl dL_law_788 rfl ?_
      refine ro_iload_n hK 3 rfl dL_law_789 rfl ?_
      refine ro_iconst (v := 4) hK dL_law_790 (by decide) ?_
      refine ro_iadd hK dL_law_791 ?_
      refine ro_scl hK hX hbl hbA g123 dL_law_792 ?_
      obtain ⟨q126, e127, hf⟩ := ro_bd hf
      refine ro_callvi hK [.int (xs (v3 + 1).toNatClampNeg), .int (xs (v3 + 2).toNatClampNeg), .int (xs (v3 + 3).toNatClampNeg), .int (xs (v3 + 4).toNatClampNeg)] ml_L_82 mv_X12_seated (mt_X12_seated (kl K) (kG K)  e127) sh_207 ⟨_, rfl, rfl⟩ (by decide) rfl rfl (Nat.le_of_ble_eq_true rfl) dL_law_793 ?_
      refine ro_icmp_eq hK 1173 dL_law_796 (by decide) (fun c128 => ?_) (fun c128 => ?_)
      · have hf := ro_it hf c128
        refine ro_iinc (v := v3 + 6) (L' := [(3, .int (v3 + 6)), (0, .ref b), (1, .ref (ro_ad (kG K) 0)), (2, .ref (ro_ad (kG K) 207))]) hK 3 rfl dL_law_1173 rfl (by decide) rfl ?_
        refine ro_goto hK 18 dL_law_1176 (by decide) ?_
        refine ro_sub (L' := [(0, .ref b), (1, .ref (ro_ad (kG K) 0)), (2, .ref (ro_ad (kG K) 207)), (3, .int (v3 + 6))]) [1, 2, 3, 0] rfl ?_
        exact hrec (v3 + 6, q126.2) _ hf hq
      · have hf := ro_ie hf c128
        cases hf
    have hf := ro_ie hf c_14
    by_cases c_15 : ((xs v3.toNatClampNeg) &&& 31) = 15
    · have hf := ro_it hf c_15
      refine ro_tabIn hK 15 801 dL_law_33 c_15 (by decide) (by decide) rfl (by decide) ?_
      refine ro_aload_n hK 1 rfl dL_law_801 rfl ?_
      refine ro_aload_n hK 0 rfl dL_law_802 rfl ?_
      refine ro_iload_n hK 3 rfl dL_law_803 rfl ?_
      refine ro_iconst (v := 1) hK dL_law_804 (by decide) ?_
      refine ro_iadd hK dL_law_805 ?_
      obtain ⟨g129, hf⟩ := ro_gd hf
      refine ro_scl hK hX hbl hbA g129 dL_law_806 ?_
      refine ro_aload_n hK 0 rfl dL_law_807 rfl ?_
      refine ro_iload_n hK 3 rfl dL_law_808 rfl ?_
      refine ro_iconst (v := 2) hK dL_law_809 (by decide) ?_
      refine ro_iadd hK dL_law_810 ?_
      obtain ⟨g130, hf⟩ := ro_gd hf
      refine ro_scl hK hX hbl hbA g130 dL_law_811 ?_
      obtain ⟨q131, e132, hf⟩ := ro_bd hf
      refine ro_callvi hK [.int (xs (v3 + 1).toNatClampNeg), .int (xs (v3 + 2).toNatClampNeg)] ml_L_83 mv_X11_transposed (mt_X11_transposed (kl K) (kG K)  e132) sh_0 ⟨_, rfl, rfl⟩ (by decide) rfl rfl (Nat.le_of_ble_eq_true rfl) dL_law_812 ?_
      refine ro_aload_n hK 2 rfl dL_law_815 rfl ?_
      refine ro_aload_n hK 0 rfl dL_law_816 rfl ?_
      refine ro_iload_n hK 3 rfl dL_law_817 rfl ?_
      refine ro_iconst (v := 1) hK dL_law_818 (by decide) ?_
      refine ro_iadd hK dL_law_819 ?_
      refine ro_scl hK hX hbl hbA g129 dL_law_820 ?_
      refine ro_aload_n hK 0 rfl dL_law_821 rfl ?_
      refine ro_iload_n hK 3 rfl dL_law_822 rfl ?_
      refine ro_iconst (v := 2) hK dL_law_823 (by decide) ?_
      refine ro_iadd hK dL_law_824 ?_
      refine ro_scl hK hX hbl hbA g130 dL_law_825 ?_
      obtain ⟨q133, e134, hf⟩ := ro_bd hf
      refine ro_callvi hK [.int (xs (v3 + 1).toNatClampNeg), .int (xs (v3 + 2).toNatClampNeg)] ml_L_86 mv_X12_transposed (mt_X12_transposed (kl K) (kG K)  e134) sh_207 ⟨_, rfl, rfl⟩ (by decide) rfl rfl (Nat.le_of_ble_eq_true rfl) dL_law_826 ?_
      refine ro_icmp_eq hK 1173 dL_law_829 (by decide) (fun c135 => ?_) (fun c135 => ?_)
      · have hf := ro_it hf c135
        refine ro_iinc (v := v3 + 6) (L' := [(3, .int (v3 + 6)), (0, .ref b), (1, .ref (ro_ad (kG K) 0)), (2, .ref (ro_ad (kG K) 207))]) hK 3 rfl dL_law_1173 rfl (by decide) rfl ?_
        refine ro_goto hK 18 dL_law_1176 (by decide) ?_
        refine ro_sub (L' := [(0, .ref b), (1, .ref (ro_ad (kG K) 0)), (2, .ref (ro_ad (kG K) 207)), (3, .int (v3 + 6))]) [1, 2, 3, 0] rfl ?_
        exact hrec (v3 + 6, q133.2) _ hf hq
      · have hf := ro_ie hf c135
        cases hf
    have hf := ro_ie hf c_15
    by_cases c_16 : ((xs v3.toNatClampNeg) &&& 31) = 16
    · have hf := ro_it hf c_16
      refine ro_tabIn hK 16 834 dL_law_33 c_16 (by decide) (by decide) rfl (by decide) ?_
      refine ro_aload_n hK 1 rfl dL_law_834 rfl ?_
      refine ro_aload_n hK 0 rfl dL_law_835 rfl ?_
      refine ro_iload_n hK 3 rfl dL_law_836 rfl ?_
      refine ro_iconst (v := 1) hK dL_law_837 (by decide) ?_
      refine ro_iadd hK dL_law_838 ?_
      obtain ⟨g136, hf⟩ := ro_gd hf
      refine ro_scl hK hX hbl hbA g136 dL_law_839 ?_
      refine ro_aload_n hK 0 rfl dL_law_840 rfl ?_
      refine ro_iload_n hK 3 rfl dL_law_841 rfl ?_
      refine ro_iconst (v := 2) hK dL_law_842 (by decide) ?_
      refine ro_iadd hK dL_law_843 ?_
      obtain ⟨g137, hf⟩ := ro_gd hf
      refine ro_scl hK hX hbl hbA g137 dL_law_844 ?_
      refine ro_aload_n hK 0 rfl dL_law_845 rfl ?_
      refine ro_iload_n hK 3 rfl dL_law_846 rfl ?_
      refine ro_iconst (v := 3) hK dL_law_847 (by decide) ?_
      refine ro_iadd hK dL_law_848 ?_
      obtain ⟨g138, hf⟩ := ro_gd hf
      refine ro_scl hK hX hbl hbA g138 dL_law_849 ?_
      obtain ⟨q139, e140, hf⟩ := ro_bd hf
      refine ro_callvi hK [.int (xs (v3 + 1).toNatClampNeg), .int (xs (v3 + 2).toNatClampNeg), .int (xs (v3 + 3).toNatClampNeg)] ml_L_87 mv_X11_leftOut (mt_X11_leftOut (kl K) (kG K)  e140) sh_0 ⟨_, rfl, rfl⟩ (by decide) rfl rfl (Nat.le_of_ble_eq_true rfl) dL_law_850 ?_
      refine ro_aload_n hK 2 rfl dL_law_853 rfl ?_
      refine ro_aload_n hK 0 rfl dL_law_854 rfl ?_
      refine ro_iload_n hK 3 rfl dL_law_855 rfl ?_
      refine ro_iconst (v := 1) hK dL_law_856 (by decide) ?_
      refine ro_iadd hK dL_law_857 ?_
      refine ro_scl hK hX hbl hbA g136 dL_law_858 ?_
      refine ro_aload_n hK 0 rfl dL_law_859 rfl ?_
      refine ro_iload_n hK 3 rfl dL_law_860 rfl ?_
      refine ro_iconst (v := 2) hK dL_law_861 (by decide) ?_
      refine ro_iadd hK dL_law_862 ?_
      refine ro_scl hK hX hbl hbA g137 dL_law_863 ?_
      refine ro_aload_n hK 0 rfl dL_law_864 rfl ?_
      refine ro_iload_n hK 3 rfl dL_law_865 rfl ?_
      refine ro_iconst (v := 3) hK dL_law_866 (by decide) ?_
      refine ro_iadd hK dL_law_867 ?_
      refine ro_scl hK hX hbl hbA g138 dL_law_868 ?_
      obtain ⟨q141, e142, hf⟩ := ro_bd hf
      refine ro_callvi hK [.int (xs (v3 + 1).toNatClampNeg), .int (xs (v3 + 2).toNatClampNeg), .int (xs (v3 + 3).toNatClampNeg)] ml_L_90 mv_X12_leftOut (mt_X12_leftOut (kl K) (kG K)  e142) sh_207 ⟨_, rfl, rfl⟩ (by decide) rfl rfl (Nat.le_of_ble_eq_true rfl) dL_law_869 ?_
      refine ro_icmp_eq hK 1173 dL_law_872 (by decide) (fun c143 => ?_) (fun c143 => ?_)
      · have hf := ro_it hf c143
        refine ro_iinc (v := v3 + 6) (L' := [(3, .int (v3 + 6)), (0, .ref b), (1, .ref (ro_ad (kG K) 0)), (2, .ref (ro_ad (kG K) 207))]) hK 3 rfl dL_law_1173 rfl (by decide) rfl ?_
        refine ro_goto hK 18 dL_law_1176 (by decide) ?_
        refine ro_sub (L' := [(0, .ref b), (1, .ref (ro_ad (kG K) 0)), (2, .ref (ro_ad (kG K) 207)), (3, .int (v3 + 6))]) [1, 2, 3, 0] rfl ?_
        exact hrec (v3 + 6, q141.2) _ hf hq
      · have hf := ro_ie hf c143
        cases hf
    have hf := ro_ie hf c_16
    by_cases c_17 : ((xs v3.toNatClampNeg) &&& 31) = 17
    · have hf := ro_it hf c_17
      refine ro_tabIn hK 17 877 dL_law_33 c_17 (by decide) (by decide) rfl (by decide) ?_
      refine ro_aload_n hK 1 rfl dL_law_877 rfl ?_
      refine ro_aload_n hK 0 rfl dL_law_878 rfl ?_
      refine ro_iload_n hK 3 rfl dL_law_879 rfl ?_
      refine ro_iconst (v := 1) hK dL_law_880 (by decide) ?_
      refine ro_iadd hK dL_law_881 ?_
      obtain ⟨g144, hf⟩ := ro_gd hf
      refine ro_scl hK hX hbl hbA g144 dL_law_882 ?_
      refine ro_aload_n hK 0 rfl dL_law_883 rfl ?_
      refine ro_iload_n hK 3 rfl dL_law_884 rfl ?_
      refine ro_iconst (v := 2) hK dL_law_885 (by decide) ?_
      refine ro_iadd hK dL_law_886 ?_
      obtain ⟨g145, hf⟩ := ro_gd hf
      refine ro_scl hK hX hbl hbA g145 dL_law_887 ?_
      obtain ⟨q146, e147, hf⟩ := ro_bd hf
      refine ro_callvi hK [.int (xs (v3 + 1).toNatClampNeg), .int (xs (v3 + 2).toNatClampNeg)] ml_L_91 mv_X11_nails (mt_X11_nails (kl K) (kG K)  e147) sh_0 ⟨_, rfl, rfl⟩ (by decide) rfl rfl (Nat.le_of_ble_eq_true rfl) dL_law_888 ?_
      refine ro_aload_n hK 2 rfl dL_law_891 rfl ?_
      refine ro_aload_n hK 0 rfl dL_law_892 rfl ?_
      refine ro_iload_n hK 3 rfl dL_law_893 rfl ?_
      refine ro_iconst (v := 1) hK dL_law_894 (by decide) ?_
      refine ro_iadd hK dL_law_895 ?_
      refine ro_scl hK hX hbl hbA g144 dL_law_896 ?_
      refine ro_aload_n hK 0 rfl dL_law_897 rfl ?_
      refine ro_iload_n hK 3 rfl dL_law_898 rfl ?_
      refine ro_iconst (v := 2) hK dL_law_899 (by decide) ?_
      refine ro_iadd hK dL_law_900 ?_
      refine ro_scl hK hX hbl hbA g145 dL_law_901 ?_
      obtain ⟨q148, e149, hf⟩ := ro_bd hf
      refine ro_callvi hK [.int (xs (v3 + 1).toNatClampNeg), .int (xs (v3 + 2).toNatClampNeg)] ml_L_94 mv_X12_nails (mt_X12_nails (kl K) (kG K)  e149) sh_207 ⟨_, rfl, rfl⟩ (by decide) rfl rfl (Nat.le_of_ble_eq_true rfl) dL_law_902 ?_
      refine ro_icmp_eq hK 1173 dL_law_905 (by decide) (fun c150 => ?_) (fun c150 => ?_)
      · have hf := ro_it hf c150
        refine ro_iinc (v := v3 + 6) (L' := [(3, .int (v3 + 6)), (0, .ref b), (1, .ref (ro_ad (kG K) 0)), (2, .ref (ro_ad (kG K) 207))]) hK 3 rfl dL_law_1173 rfl (by decide) rfl ?_
        refine ro_goto hK 18 dL_law_1176 (by decide) ?_
        refine ro_sub (L' := [(0, .ref b), (1, .ref (ro_ad (kG K) 0)), (2, .ref (ro_ad (kG K) 207)), (3, .int (v3 + 6))]) [1, 2, 3, 0] rfl ?_
        exact hrec (v3 + 6, q148.2) _ hf hq
      · have hf := ro_ie hf c150
        cases hf
    have hf := ro_ie hf c_17
    by_cases c_18 : ((xs v3.toNatClampNeg) &&& 31) = 18
    · have hf := ro_it hf c_18
      refine ro_tabIn hK 18 910 dL_law_33 c_18 (by decide) (by decide) rfl (by decide) ?_
      refine ro_aload_n hK 1 rfl dL_law_910 rfl ?_
      refine ro_aload_n hK 0 rfl dL_law_911 rfl ?_
      refine ro_iload_n hK 3 rfl dL_law_912 rfl ?_
      refine ro_iconst (v := 1) hK dL_law_913 (by decide) ?_
      refine ro_iadd hK dL_law_914 ?_
      obtain ⟨g151, hf⟩ := ro_gd hf
      refine ro_scl hK hX hbl hbA g151 dL_law_915 ?_
      refine ro_aload_n hK 0 rfl dL_law_916 rfl ?_
      refine ro_iload_n hK 3 rfl dL_law_917 rfl ?_
      refine ro_iconst (v := 2) hK dL_law_918 (by decide) ?_
      refine ro_iadd hK dL_law_919 ?_
      obtain ⟨g152, hf⟩ := ro_gd hf
      refine ro_scl hK hX hbl hbA g152 dL_law_920 ?_
      refine ro_aload_n hK 0 rfl dL_law_921 rfl ?_
      refine ro_iload_n hK 3 rfl dL_law_922 rfl ?_
      refine ro_iconst (v := 3) hK dL_law_923 (by decide) ?_
      refine ro_iadd hK dL_law_924 ?_
      obtain ⟨g153, hf⟩ := ro_gd hf
      refine ro_scl hK hX hbl hbA g153 dL_law_925 ?_
      obtain ⟨q154, e155, hf⟩ := ro_bd hf
      refine ro_callvi hK [.int (xs (v3 + 1).toNatClampNeg), .int (xs (v3 + 2).toNatClampNeg), .int (xs (v3 + 3).toNatClampNeg)] ml_L_95 mv_X11_sung (mt_X11_sung (kl K) (kG K)  e155) sh_0 ⟨_, rfl, rfl⟩ (by decide) rfl rfl (Nat.le_of_ble_eq_true rfl) dL_law_926 ?_
      refine ro_aload_n hK 2 rfl dL_law_929 rfl ?_
      refine ro_aload_n hK 0 rfl dL_law_930 rfl ?_
      refine ro_iload_n hK 3 rfl dL_law_931 rfl ?_
      refine ro_iconst (v := 1) hK dL_law_932 (by decide) ?_
      refine ro_iadd hK dL_law_933 ?_
      refine ro_scl hK hX hbl hbA g151 dL_law_934 ?_
      refine ro_aload_n hK 0 rfl dL_law_935 rfl ?_
      refine ro_iload_n hK 3 rfl dL_law_936 rfl ?_
      refine ro_iconst (v := 2) hK dL_law_937 (by decide) ?_
      refine ro_iadd hK dL_law_938 ?_
      refine ro_scl hK hX hbl hbA g152 dL_law_939 ?_
      refine ro_aload_n hK 0 rfl dL_law_940 rfl ?_
      refine ro_iload_n hK 3 rfl dL_law_941 rfl ?_
      refine ro_iconst (v := 3) hK dL_law_942 (by decide) ?_
      refine ro_iadd hK dL_law_943 ?_
      refine ro_scl hK hX hbl hbA g153 dL_law_944 ?_
      obtain ⟨q156, e157, hf⟩ := ro_bd hf
      refine ro_callvi hK [.int (xs (v3 + 1).toNatClampNeg), .int (xs (v3 + 2).toNatClampNeg), .int (xs (v3 + 3).toNatClampNeg)] ml_L_98 mv_X12_sung (mt_X12_sung (kl K) (kG K)  e157) sh_207 ⟨_, rfl, rfl⟩ (by decide) rfl rfl (Nat.le_of_ble_eq_true rfl) dL_law_945 ?_
      refine ro_icmp_eq hK 1173 dL_law_948 (by decide) (fun c158 => ?_) (fun c158 => ?_)
      · have hf := ro_it hf c158
        refine ro_iinc (v := v3 + 6) (L' := [(3, .int (v3 + 6)), (0, .ref b), (1, .ref (ro_ad (kG K) 0)), (2, .ref (ro_ad (kG K) 207))]) hK 3 rfl dL_law_1173 rfl (by decide) rfl ?_
        refine ro_goto hK 18 dL_law_1176 (by decide) ?_
        refine ro_sub (L' := [(0, .ref b), (1, .ref (ro_ad (kG K) 0)), (2, .ref (ro_ad (kG K) 207)), (3, .int (v3 + 6))]) [1, 2, 3, 0] rfl ?_
        exact hrec (v3 + 6, q156.2) _ hf hq
      · have hf := ro_ie hf c158
        cases hf
    have hf := ro_ie hf c_18
    by_cases c_19 : ((xs v3.toNatClampNeg) &&& 31) = 19
    · have hf := ro_it hf c_19
      refine ro_tabIn hK 19 953 dL_law_33 c_19 (by decide) (by decide) rfl (by decide) ?_
      refine ro_aload_n hK 1 rfl dL_law_953 rfl ?_
      refine ro_aload_n hK 0 rfl dL_law_954 rfl ?_
      refine ro_iload_n hK 3 rfl dL_law_955 rfl ?_
      refine ro_iconst (v := 1) hK dL_law_956 (by decide) ?_
      refine ro_iadd hK dL_law_957 ?_
      obtain ⟨g159, hf⟩ := ro_gd hf
      refine ro_scl hK hX hbl hbA g159 dL_law_958 ?_
      refine ro_aload_n hK 0 rfl dL_law_959 rfl ?_
      refine ro_iload_n hK 3 rfl dL_law_960 rfl ?_
      refine ro_iconst (v := 2) hK dL_law_961 (by decide) ?_
      refine ro_iadd hK dL_law_962 ?_
      obtain ⟨g160, hf⟩ := ro_gd hf
      refine ro_scl hK hX hbl hbA g160 dL_law_963 ?_
      obtain ⟨q161, e162, hf⟩ := ro_bd hf
      refine ro_callvi hK [.int (xs (v3 + 1).toNatClampNeg), .int (xs (v3 + 2).toNatClampNeg)] ml_L_99 mv_X11_sponge (mt_X11_sponge (kl K) (kG K)  e162) sh_0 ⟨_, rfl, rfl⟩ (by decide) rfl rfl (Nat.le_of_ble_eq_true rfl) dL_law_964 ?_
      refine ro_aload_n hK 2 rfl dL_law_967 rfl ?_
      refine ro_aload_n hK 0 rfl dL_law_968 rfl ?_
      refine ro_iload_n hK 3 rfl dL_law_969 rfl ?_
      refine ro_iconst (v := 1) hK dL_law_970 (by decide) ?_
      refine ro_iadd hK dL_law_971 ?_
      refine ro_scl hK hX hbl hbA g159 dL_law_972 ?_
      refine ro_aload_n hK 0 rfl dL_law_973 rfl ?_
      refine ro_iload_n hK 3 rfl dL_law_974 rfl ?_
      refine ro_iconst (v := 2) hK dL_law_975 (by decide) ?_
      refine ro_iadd hK dL_law_976 ?_
      refine ro_scl hK hX hbl hbA g160 dL_law_977 ?_
      obtain ⟨q163, e164, hf⟩ := ro_bd hf
      refine ro_callvi hK [.int (xs (v3 + 1).toNatClampNeg), .int (xs (v3 + 2).toNatClampNeg)] ml_L_102 mv_X12_sponge (mt_X12_sponge (kl K) (kG K)  e164) sh_207 ⟨_, rfl, rfl⟩ (by decide) rfl rfl (Nat.le_of_ble_eq_true rfl) dL_law_978 ?_
      refine ro_icmp_eq hK 1173 dL_law_981 (by decide) (fun c165 => ?_) (fun c165 => ?_)
      · have hf := ro_it hf c165
        refine ro_iinc (v := v3 + 6) (L' := [(3, .int (v3 + 6)), (0, .ref b), (1, .ref (ro_ad (kG K) 0)), (2, .ref (ro_ad (kG K) 207))]) hK 3 rfl dL_law_1173 rfl (by decide) rfl ?_
        refine ro_goto hK 18 dL_law_1176 (by decide) ?_
        refine ro_sub (L' := [(0, .ref b), (1, .ref (ro_ad (kG K) 0)), (2, .ref (ro_ad (kG K) 207)), (3, .int (v3 + 6))]) [1, 2, 3, 0] rfl ?_
        exact hrec (v3 + 6, q163.2) _ hf hq
      · have hf := ro_ie hf c165
        cases hf
    have hf := ro_ie hf c_19
    by_cases c_20 : ((xs v3.toNatClampNeg) &&& 31) = 20
    · have hf := ro_it hf c_20
      refine ro_tabIn hK 20 986 dL_law_33 c_20 (by decide) (by decide) rfl (by decide) ?_
      refine ro_aload_n hK 1 rfl dL_law_986 rfl ?_
      refine ro_aload_n hK 0 rfl dL_law_987 rfl ?_
      refine ro_iload_n hK 3 rfl dL_law_988 rfl ?_
      refine ro_iconst (v := 1) hK dL_law_989 (by decide) ?_
      refine ro_iadd hK dL_law_990 ?_
      obtain ⟨g166, hf⟩ := ro_gd hf
      refine ro_scl hK hX hbl hbA g166 dL_law_991 ?_
      obtain ⟨q167, e168, hf⟩ := ro_bd hf
      refine ro_callvi hK [.int (xs (v3 + 1).toNatClampNeg)] ml_L_103 mv_X11_paid (mt_X11_paid (kl K) (kG K)  e168) sh_0 ⟨_, rfl, rfl⟩ (by decide) rfl rfl (Nat.le_of_ble_eq_true rfl) dL_law_992 ?_
      refine ro_aload_n hK 2 rfl dL_law_995 rfl ?_
      refine ro_aload_n hK 0 rfl dL_law_996 rfl ?_
      refine ro_iload_n hK 3 rfl dL_law_997 rfl ?_
      refine ro_iconst (v := 1) hK dL_law_998 (by decide) ?_
      refine ro_iadd hK dL_law_999 ?_
      refine ro_scl hK hX hbl hbA g166 dL_law_1000 ?_
      obtain ⟨q169, e170, hf⟩ := ro_bd hf
      refine ro_callvi hK [.int (xs (v3 + 1).toNatClampNeg)] ml_L_106 mv_X12_paid (mt_X12_paid (kl K) (kG K)  e170) sh_207 ⟨_, rfl, rfl⟩ (by decide) rfl rfl (Nat.le_of_ble_eq_true rfl) dL_law_1001 ?_
      refine ro_icmp_eq hK 1173 dL_law_1004 (by decide) (fun c171 => ?_) (fun c171 => ?_)
      · have hf := ro_it hf c171
        refine ro_iinc (v := v3 + 6) (L' := [(3, .int (v3 + 6)), (0, .ref b), (1, .ref (ro_ad (kG K) 0)), (2, .ref (ro_ad (kG K) 207))]) hK 3 rfl dL_law_1173 rfl (by decide) rfl ?_
        refine ro_goto hK 18 dL_law_1176 (by decide) ?_
        refine ro_sub (L' := [(0, .ref b), (1, .ref (ro_ad (kG K) 0)), (2, .ref (ro_ad (kG K) 207)), (3, .int (v3 + 6))]) [1, 2, 3, 0] rfl ?_
        exact hrec (v3 + 6, q169.2) _ hf hq
      · have hf := ro_ie hf c171
        cases hf
    have hf := ro_ie hf c_20
    by_cases c_21 : ((xs v3.toNatClampNeg) &&& 31) = 21
    · have hf := ro_it hf c_21
      refine ro_tabIn hK 21 1009 dL_law_33 c_21 (by decide) (by decide) rfl (by decide) ?_
      refine ro_aload_n hK 1 rfl dL_law_1009 rfl ?_
      obtain ⟨q172, e173, hf⟩ := ro_bd hf
      refine ro_callvi hK [] ml_L_107 mv_X11_perform (mt_X11_perform (kl K) (kG K)  e173) sh_0 ⟨_, rfl, rfl⟩ (by decide) rfl rfl (Nat.le_of_ble_eq_true rfl) dL_law_1010 ?_
      refine ro_aload_n hK 2 rfl dL_law_1013 rfl ?_
      obtain ⟨q174, e175, hf⟩ := ro_bd hf
      refine ro_callvi hK [] ml_L_111 mv_X12_perform (mt_X12_perform (kl K) (kG K)  e175) sh_207 ⟨_, rfl, rfl⟩ (by decide) rfl rfl (Nat.le_of_ble_eq_true rfl) dL_law_1014 ?_
      refine ro_icmp_eq hK 1173 dL_law_1017 (by decide) (fun c176 => ?_) (fun c176 => ?_)
      · have hf := ro_it hf c176
        refine ro_iinc (v := v3 + 6) (L' := [(3, .int (v3 + 6)), (0, .ref b), (1, .ref (ro_ad (kG K) 0)), (2, .ref (ro_ad (kG K) 207))]) hK 3 rfl dL_law_1173 rfl (by decide) rfl ?_
        refine ro_goto hK 18 dL_law_1176 (by decide) ?_
        refine ro_sub (L' := [(0, .ref b), (1, .ref (ro_ad (kG K) 0)), (2, .ref (ro_ad (kG K) 207)), (3, .int (v3 + 6))]) [1, 2, 3, 0] rfl ?_
        exact hrec (v3 + 6, q174.2) _ hf hq
      · have hf := ro_ie hf c176
        cases hf
    have hf := ro_ie hf c_21
    by_cases c_22 : ((xs v3.toNatClampNeg) &&& 31) = 22
    · have hf := ro_it hf c_22
      refine ro_tabIn hK 22 1022 dL_law_33 c_22 (by decide) (by decide) rfl (by decide) ?_
      refine ro_aload_n hK 1 rfl dL_law_1022 rfl ?_
      refine ro_aload_n hK 0 rfl dL_law_1023 rfl ?_
      refine ro_iload_n hK 3 rfl dL_law_1024 rfl ?_
      refine ro_iconst (v := 1) hK dL_law_1025 (by decide) ?_
      refine ro_iadd hK dL_law_1026 ?_
      obtain ⟨g177, hf⟩ := ro_gd hf
      refine ro_scl hK hX hbl hbA g177 dL_law_1027 ?_
      obtain ⟨q178, e179, hf⟩ := ro_bd hf
      refine ro_callvi hK [.int (xs (v3 + 1).toNatClampNeg)] ml_L_112 mv_X11_soFar (mt_X11_soFar (kl K) (kG K)  e179) sh_0 ⟨_, rfl, rfl⟩ (by decide) rfl rfl (Nat.le_of_ble_eq_true rfl) dL_law_1028 ?_
      refine ro_aload_n hK 2 rfl dL_law_1031 rfl ?_
      refine ro_aload_n hK 0 rfl dL_law_1032 rfl ?_
      refine ro_iload_n hK 3 rfl dL_law_1033 rfl ?_
      refine ro_iconst (v := 1) hK dL_law_1034 (by decide) ?_
      refine ro_iadd hK dL_law_1035 ?_
      refine ro_scl hK hX hbl hbA g177 dL_law_1036 ?_
      obtain ⟨q180, e181, hf⟩ := ro_bd hf
      refine ro_callvi hK [.int (xs (v3 + 1).toNatClampNeg)] ml_L_115 mv_X12_soFar (mt_X12_soFar (kl K) (kG K)  e181) sh_207 ⟨_, rfl, rfl⟩ (by decide) rfl rfl (Nat.le_of_ble_eq_true rfl) dL_law_1037 ?_
      refine ro_icmp_eq hK 1173 dL_law_1040 (by decide) (fun c182 => ?_) (fun c182 => ?_)
      · have hf := ro_it hf c182
        refine ro_iinc (v := v3 + 6) (L' := [(3, .int (v3 + 6)), (0, .ref b), (1, .ref (ro_ad (kG K) 0)), (2, .ref (ro_ad (kG K) 207))]) hK 3 rfl dL_law_1173 rfl (by decide) rfl ?_
        refine ro_goto hK 18 dL_law_1176 (by decide) ?_
        refine ro_sub (L' := [(0, .ref b), (1, .ref (ro_ad (kG K) 0)), (2, .ref (ro_ad (kG K) 207)), (3, .int (v3 + 6))]) [1, 2, 3, 0] rfl ?_
        exact hrec (v3 + 6, μ) _ hf hq
      · have hf := ro_ie hf c182
        cases hf
    have hf := ro_ie hf c_22
    by_cases c_23 : ((xs v3.toNatClampNeg) &&& 31) = 23
    · have hf := ro_it hf c_23
      refine ro_tabIn hK 23 1045 dL_law_33 c_23 (by decide) (by decide) rfl (by decide) ?_
      refine ro_aload_n hK 1 rfl dL_law_1045 rfl ?_
      refine ro_aload_n hK 0 rfl dL_law_1046 rfl ?_
      refine ro_iload_n hK 3 rfl dL_law_1047 rfl ?_
      refine ro_iconst (v := 1) hK dL_law_1048 (by decide) ?_
      refine ro_iadd hK dL_law_1049 ?_
      obtain ⟨g183, hf⟩ := ro_gd hf
      refine ro_scl hK hX hbl hbA g183 dL_law_1050 ?_
      obtain ⟨q184, e185, hf⟩ := ro_bd hf
      refine ro_callvi hK [.int (xs (v3 + 1).toNatClampNeg)] ml_L_116 mv_X11_seed (mt_X11_seed (kl K) (kG K)  e185) sh_0 ⟨_, rfl, rfl⟩ (by decide) rfl rfl (Nat.le_of_ble_eq_true rfl) dL_law_1051 ?_
      refine ro_aload_n hK 2 rfl dL_law_1054 rfl ?_
      refine ro_aload_n hK 0 rfl dL_law_1055 rfl ?_
      refine ro_iload_n hK 3 rfl dL_law_1056 rfl ?_
      refine ro_iconst (v := 1) hK dL_law_1057 (by decide) ?_
      refine ro_iadd hK dL_law_1058 ?_
      refine ro_scl hK hX hbl hbA g183 dL_law_1059 ?_
      obtain ⟨q186, e187, hf⟩ := ro_bd hf
      refine ro_callvi hK [.int (xs (v3 + 1).toNatClampNeg)] ml_L_120 mv_X12_seed (mt_X12_seed (kl K) (kG K)  e187) sh_207 ⟨_, rfl, rfl⟩ (by decide) rfl rfl (Nat.le_of_ble_eq_true rfl) dL_law_1060 ?_
      refine ro_icmp_eq hK 1173 dL_law_1063 (by decide) (fun c188 => ?_) (fun c188 => ?_)
      · have hf := ro_it hf c188
        refine ro_iinc (v := v3 + 6) (L' := [(3, .int (v3 + 6)), (0, .ref b), (1, .ref (ro_ad (kG K) 0)), (2, .ref (ro_ad (kG K) 207))]) hK 3 rfl dL_law_1173 rfl (by decide) rfl ?_
        refine ro_goto hK 18 dL_law_1176 (by decide) ?_
        refine ro_sub (L' := [(0, .ref b), (1, .ref (ro_ad (kG K) 0)), (2, .ref (ro_ad (kG K) 207)), (3, .int (v3 + 6))]) [1, 2, 3, 0] rfl ?_
        exact hrec (v3 + 6, q186.2) _ hf hq
      · have hf := ro_ie hf c188
        cases hf
    have hf := ro_ie hf c_23
    by_cases c_24 : ((xs v3.toNatClampNeg) &&& 31) = 24
    · have hf := ro_it hf c_24
      refine ro_tabIn hK 24 1068 dL_law_33 c_24 (by decide) (by decide) rfl (by decide) ?_
      refine ro_aload_n hK 1 rfl dL_law_1068 rfl ?_
      obtain ⟨q189, e190, hf⟩ := ro_bd hf
      refine ro_callvi hK [] ml_L_121 mv_X11_draw (mt_X11_draw (kl K) (kG K)  e190) sh_0 ⟨_, rfl, rfl⟩ (by decide) rfl rfl (Nat.le_of_ble_eq_true rfl) dL_law_1069 ?_
      refine ro_aload_n hK 2 rfl dL_law_1072 rfl ?_
      obtain ⟨q191, e192, hf⟩ := ro_bd hf
      refine ro_callvi hK [] ml_L_124 mv_X12_draw (mt_X12_draw (kl K) (kG K)  e192) sh_207 ⟨_, rfl, rfl⟩ (by decide) rfl rfl (Nat.le_of_ble_eq_true rfl) dL_law_1073 ?_
      refine ro_icmp_eq hK 1173 dL_law_1076 (by decide) (fun c193 => ?_) (fun c193 => ?_)
      · have hf := ro_it hf c193
        refine ro_iinc (v := v3 + 6) (L' := [(3, .int (v3 + 6)), (0, .ref b), (1, .ref (ro_ad (kG K) 0)), (2, .ref (ro_ad (kG K) 207))]) hK 3 rfl dL_law_1173 rfl (by decide) rfl ?_
        refine ro_goto hK 18 dL_law_1176 (by decide) ?_
        refine ro_sub (L' := [(0, .ref b), (1, .ref (ro_ad (kG K) 0)), (2, .ref (ro_ad (kG K) 207)), (3, .int (v3 + 6))]) [1, 2, 3, 0] rfl ?_
        exact hrec (v3 + 6, q191.2) _ hf hq
      · have hf := ro_ie hf c193
        cases hf
    have hf := ro_ie hf c_24
    by_cases c_25 : ((xs v3.toNatClampNeg) &&& 31) = 25
    · have hf := ro_it hf c_25
      refine ro_tabIn hK 25 1081 dL_law_33 c_25 (by decide) (by decide) rfl (by decide) ?_
      refine ro_aload_n hK 1 rfl dL_law_1081 rfl ?_
      obtain ⟨q194, e195, hf⟩ := ro_bd hf
      refine ro_callvi hK [] ml_L_125 mv_X11_keep (mt_X11_keep (kl K) (kG K)  e195) sh_0 ⟨_, rfl, rfl⟩ (by decide) rfl rfl (Nat.le_of_ble_eq_true rfl) dL_law_1082 ?_
      refine ro_aload_n hK 2 rfl dL_law_1085 rfl ?_
      obtain ⟨q196, e197, hf⟩ := ro_bd hf
      refine ro_callvi hK [] ml_L_128 mv_X12_keep (mt_X12_keep (kl K) (kG K)  e197) sh_207 ⟨_, rfl, rfl⟩ (by decide) rfl rfl (Nat.le_of_ble_eq_true rfl) dL_law_1086 ?_
      refine ro_icmp_eq hK 1173 dL_law_1089 (by decide) (fun c198 => ?_) (fun c198 => ?_)
      · have hf := ro_it hf c198
        refine ro_iinc (v := v3 + 6) (L' := [(3, .int (v3 + 6)), (0, .ref b), (1, .ref (ro_ad (kG K) 0)), (2, .ref (ro_ad (kG K) 207))]) hK 3 rfl dL_law_1173 rfl (by decide) rfl ?_
        refine ro_goto hK 18 dL_law_1176 (by decide) ?_
        refine ro_sub (L' := [(0, .ref b), (1, .ref (ro_ad (kG K) 0)), (2, .ref (ro_ad (kG K) 207)), (3, .int (v3 + 6))]) [1, 2, 3, 0] rfl ?_
        exact hrec (v3 + 6, q196.2) _ hf hq
      · have hf := ro_ie hf c198
        cases hf
    have hf := ro_ie hf c_25
    by_cases c_26 : ((xs v3.toNatClampNeg) &&& 31) = 26
    · have hf := ro_it hf c_26
      refine ro_tabIn hK 26 1094 dL_law_33 c_26 (by decide) (by decide) rfl (by decide) ?_
      refine ro_aload_n hK 1 rfl dL_law_1094 rfl ?_
      obtain ⟨q199, e200, hf⟩ := ro_bd hf
      refine ro_callvi hK [] ml_L_129 mv_X11_undo (mt_X11_undo (kl K) (kG K)  e200) sh_0 ⟨_, rfl, rfl⟩ (by decide) rfl rfl (Nat.le_of_ble_eq_true rfl) dL_law_1095 ?_
      refine ro_aload_n hK 2 rfl dL_law_1098 rfl ?_
      obtain ⟨q201, e202, hf⟩ := ro_bd hf
      refine ro_callvi hK [] ml_L_133 mv_X12_undo (mt_X12_undo (kl K) (kG K)  e202) sh_207 ⟨_, rfl, rfl⟩ (by decide) rfl rfl (Nat.le_of_ble_eq_true rfl) dL_law_1099 ?_
      refine ro_icmp_eq hK 1173 dL_law_1102 (by decide) (fun c203 => ?_) (fun c203 => ?_)
      · have hf := ro_it hf c203
        refine ro_iinc (v := v3 + 6) (L' := [(3, .int (v3 + 6)), (0, .ref b), (1, .ref (ro_ad (kG K) 0)), (2, .ref (ro_ad (kG K) 207))]) hK 3 rfl dL_law_1173 rfl (by decide) rfl ?_
        refine ro_goto hK 18 dL_law_1176 (by decide) ?_
        refine ro_sub (L' := [(0, .ref b), (1, .ref (ro_ad (kG K) 0)), (2, .ref (ro_ad (kG K) 207)), (3, .int (v3 + 6))]) [1, 2, 3, 0] rfl ?_
        exact hrec (v3 + 6, q201.2) _ hf hq
      · have hf := ro_ie hf c203
        cases hf
    have hf := ro_ie hf c_26
    by_cases c_27 : ((xs v3.toNatClampNeg) &&& 31) = 27
    · have hf := ro_it hf c_27
      refine ro_tabIn hK 27 1107 dL_law_33 c_27 (by decide) (by decide) rfl (by decide) ?_
      refine ro_aload_n hK 1 rfl dL_law_1107 rfl ?_
      refine ro_aload_n hK 0 rfl dL_law_1108 rfl ?_
      refine ro_iload_n hK 3 rfl dL_law_1109 rfl ?_
      refine ro_iconst (v := 1) hK dL_law_1110 (by decide) ?_
      refine ro_iadd hK dL_law_1111 ?_
      obtain ⟨g204, hf⟩ := ro_gd hf
      refine ro_scl hK hX hbl hbA g204 dL_law_1112 ?_
      refine ro_aload_n hK 0 rfl dL_law_1113 rfl ?_
      refine ro_iload_n hK 3 rfl dL_law_1114 rfl ?_
      refine ro_iconst (v := 2) hK dL_law_1115 (by decide) ?_
      refine ro_iadd hK dL_law_1116 ?_
      obtain ⟨g205, hf⟩ := ro_gd hf
      refine ro_scl hK hX hbl hbA g205 dL_law_1117 ?_
      refine ro_aload_n hK 0 rfl dL_law_1118 rfl ?_
      refine ro_iload_n hK 3 rfl dL_law_1119 rfl ?_
      refine ro_iconst (v := 3) hK dL_law_1120 (by decide) ?_
      refine ro_iadd hK dL_law_1121 ?_
      obtain ⟨g206, hf⟩ := ro_gd hf
      refine ro_scl hK hX hbl hbA g206 dL_law_1122 ?_
      obtain ⟨q207, e208, hf⟩ := ro_bd hf
      refine ro_callvi hK [.int (xs (v3 + 1).toNatClampNeg), .int (xs (v3 + 2).toNatClampNeg), .int (xs (v3 + 3).toNatClampNeg)] ml_L_134 mv_X11_check (mt_X11_check (kl K) (kG K)  e208) sh_0 ⟨_, rfl, rfl⟩ (by decide) rfl rfl (Nat.le_of_ble_eq_true rfl) dL_law_1123 ?_
      refine ro_aload_n hK 2 rfl dL_law_1126 rfl ?_
      refine ro_aload_n hK 0 rfl dL_law_1127 rfl ?_
      refine ro_iload_n hK 3 rfl dL_law_1128 rfl ?_
      refine ro_iconst (v := 1) hK dL_law_1129 (by decide) ?_
      refine ro_iadd hK dL_law_1130 ?_
      refine ro_scl hK hX hbl hbA g204 dL_law_1131 ?_
      refine ro_aload_n hK 0 rfl dL_law_1132 rfl ?_
      refine ro_iload_n hK 3 rfl dL_law_1133 rfl ?_
      refine ro_iconst (v := 2) hK dL_law_1134 (by decide) ?_
      refine ro_iadd hK dL_law_1135 ?_
      refine ro_scl hK hX hbl hbA g205 dL_law_1136 ?_
      refine ro_aload_n hK 0 rfl dL_law_1137 rfl ?_
      refine ro_iload_n hK 3 rfl dL_law_1138 rfl ?_
      refine ro_iconst (v := 3) hK dL_law_1139 (by decide) ?_
      refine ro_iadd hK dL_law_1140 ?_
      refine ro_scl hK hX hbl hbA g206 dL_law_1141 ?_
      obtain ⟨q209, e210, hf⟩ := ro_bd hf
      refine ro_callvi hK [.int (xs (v3 + 1).toNatClampNeg), .int (xs (v3 + 2).toNatClampNeg), .int (xs (v3 + 3).toNatClampNeg)] ml_L_137 mv_X12_check (mt_X12_check (kl K) (kG K)  e210) sh_207 ⟨_, rfl, rfl⟩ (by decide) rfl rfl (Nat.le_of_ble_eq_true rfl) dL_law_1142 ?_
      refine ro_icmp_eq hK 1173 dL_law_1145 (by decide) (fun c211 => ?_) (fun c211 => ?_)
      · have hf := ro_it hf c211
        refine ro_iinc (v := v3 + 6) (L' := [(3, .int (v3 + 6)), (0, .ref b), (1, .ref (ro_ad (kG K) 0)), (2, .ref (ro_ad (kG K) 207))]) hK 3 rfl dL_law_1173 rfl (by decide) rfl ?_
        refine ro_goto hK 18 dL_law_1176 (by decide) ?_
        refine ro_sub (L' := [(0, .ref b), (1, .ref (ro_ad (kG K) 0)), (2, .ref (ro_ad (kG K) 207)), (3, .int (v3 + 6))]) [1, 2, 3, 0] rfl ?_
        exact hrec (v3 + 6, q209.2) _ hf hq
      · have hf := ro_ie hf c211
        cases hf
    have hf := ro_ie hf c_27
    by_cases c_28 : ((xs v3.toNatClampNeg) &&& 31) = 28
    · have hf := ro_it hf c_28
      refine ro_tabIn hK 28 1150 dL_law_33 c_28 (by decide) (by decide) rfl (by decide) ?_
      refine ro_aload_n hK 1 rfl dL_law_1150 rfl ?_
      refine ro_aload_n hK 0 rfl dL_law_1151 rfl ?_
      refine ro_iload_n hK 3 rfl dL_law_1152 rfl ?_
      refine ro_iconst (v := 1) hK dL_law_1153 (by decide) ?_
      refine ro_iadd hK dL_law_1154 ?_
      obtain ⟨g212, hf⟩ := ro_gd hf
      refine ro_scl hK hX hbl hbA g212 dL_law_1155 ?_
      obtain ⟨q213, e214, hf⟩ := ro_bd hf
      refine ro_callvi hK [.int (xs (v3 + 1).toNatClampNeg)] ml_L_138 mv_X11_count (mt_X11_count (kl K) (kG K)  e214) sh_0 ⟨_, rfl, rfl⟩ (by decide) rfl rfl (Nat.le_of_ble_eq_true rfl) dL_law_1156 ?_
      refine ro_aload_n hK 2 rfl dL_law_1159 rfl ?_
      refine ro_aload_n hK 0 rfl dL_law_1160 rfl ?_
      refine ro_iload_n hK 3 rfl dL_law_1161 rfl ?_
      refine ro_iconst (v := 1) hK dL_law_1162 (by decide) ?_
      refine ro_iadd hK dL_law_1163 ?_
      refine ro_scl hK hX hbl hbA g212 dL_law_1164 ?_
      obtain ⟨q215, e216, hf⟩ := ro_bd hf
      refine ro_callvi hK [.int (xs (v3 + 1).toNatClampNeg)] ml_L_141 mv_X12_count (mt_X12_count (kl K) (kG K)  e216) sh_207 ⟨_, rfl, rfl⟩ (by decide) rfl rfl (Nat.le_of_ble_eq_true rfl) dL_law_1165 ?_
      refine ro_icmp_eq hK 1173 dL_law_1168 (by decide) (fun c217 => ?_) (fun c217 => ?_)
      · have hf := ro_it hf c217
        refine ro_iinc (v := v3 + 6) (L' := [(3, .int (v3 + 6)), (0, .ref b), (1, .ref (ro_ad (kG K) 0)), (2, .ref (ro_ad (kG K) 207))]) hK 3 rfl dL_law_1173 rfl (by decide) rfl ?_
        refine ro_goto hK 18 dL_law_1176 (by decide) ?_
        refine ro_sub (L' := [(0, .ref b), (1, .ref (ro_ad (kG K) 0)), (2, .ref (ro_ad (kG K) 207)), (3, .int (v3 + 6))]) [1, 2, 3, 0] rfl ?_
        exact hrec (v3 + 6, μ) _ hf hq
      · have hf := ro_ie hf c217
        cases hf
    have hf := ro_ie hf c_28
    have tw0 : ¬ ((xs v3.toNatClampNeg) &&& 31).toInt = 0 := lv_neT (a := 0) c_0 rfl
    have tw1 : ¬ ((xs v3.toNatClampNeg) &&& 31).toInt = 1 := lv_neT (a := 1) c_1 rfl
    have tw2 : ¬ ((xs v3.toNatClampNeg) &&& 31).toInt = 2 := lv_neT (a := 2) c_2 rfl
    have tw3 : ¬ ((xs v3.toNatClampNeg) &&& 31).toInt = 3 := lv_neT (a := 3) c_3 rfl
    have tw4 : ¬ ((xs v3.toNatClampNeg) &&& 31).toInt = 4 := lv_neT (a := 4) c_4 rfl
    have tw5 : ¬ ((xs v3.toNatClampNeg) &&& 31).toInt = 5 := lv_neT (a := 5) c_5 rfl
    have tw6 : ¬ ((xs v3.toNatClampNeg) &&& 31).toInt = 6 := lv_neT (a := 6) c_6 rfl
    have tw7 : ¬ ((xs v3.toNatClampNeg) &&& 31).toInt = 7 := lv_neT (a := 7) c_7 rfl
    have tw8 : ¬ ((xs v3.toNatClampNeg) &&& 31).toInt = 8 := lv_neT (a := 8) c_8 rfl
    have tw9 : ¬ ((xs v3.toNatClampNeg) &&& 31).toInt = 9 := lv_neT (a := 9) c_9 rfl
    have tw10 : ¬ ((xs v3.toNatClampNeg) &&& 31).toInt = 10 := lv_neT (a := 10) c_10 rfl
    have tw11 : ¬ ((xs v3.toNatClampNeg) &&& 31).toInt = 11 := lv_neT (a := 11) c_11 rfl
    have tw12 : ¬ ((xs v3.toNatClampNeg) &&& 31).toInt = 12 := lv_neT (a := 12) c_12 rfl
    have tw13 : ¬ ((xs v3.toNatClampNeg) &&& 31).toInt = 13 := lv_neT (a := 13) c_13 rfl
    have tw14 : ¬ ((xs v3.toNatClampNeg) &&& 31).toInt = 14 := lv_neT (a := 14) c_14 rfl
    have tw15 : ¬ ((xs v3.toNatClampNeg) &&& 31).toInt = 15 := lv_neT (a := 15) c_15 rfl
    have tw16 : ¬ ((xs v3.toNatClampNeg) &&& 31).toInt = 16 := lv_neT (a := 16) c_16 rfl
    have tw17 : ¬ ((xs v3.toNatClampNeg) &&& 31).toInt = 17 := lv_neT (a := 17) c_17 rfl
    have tw18 : ¬ ((xs v3.toNatClampNeg) &&& 31).toInt = 18 := lv_neT (a := 18) c_18 rfl
    have tw19 : ¬ ((xs v3.toNatClampNeg) &&& 31).toInt = 19 := lv_neT (a := 19) c_19 rfl
    have tw20 : ¬ ((xs v3.toNatClampNeg) &&& 31).toInt = 20 := lv_neT (a := 20) c_20 rfl
    have tw21 : ¬ ((xs v3.toNatClampNeg) &&& 31).toInt = 21 := lv_neT (a := 21) c_21 rfl
    have tw22 : ¬ ((xs v3.toNatClampNeg) &&& 31).toInt = 22 := lv_neT (a := 22) c_22 rfl
    have tw23 : ¬ ((xs v3.toNatClampNeg) &&& 31).toInt = 23 := lv_neT (a := 23) c_23 rfl
    have tw24 : ¬ ((xs v3.toNatClampNeg) &&& 31).toInt = 24 := lv_neT (a := 24) c_24 rfl
    have tw25 : ¬ ((xs v3.toNatClampNeg) &&& 31).toInt = 25 := lv_neT (a := 25) c_25 rfl
    have tw26 : ¬ ((xs v3.toNatClampNeg) &&& 31).toInt = 26 := lv_neT (a := 26) c_26 rfl
    have tw27 : ¬ ((xs v3.toNatClampNeg) &&& 31).toInt = 27 := lv_neT (a := 27) c_27 rfl
    have tw28 : ¬ ((xs v3.toNatClampNeg) &&& 31).toInt = 28 := lv_neT (a := 28) c_28 rfl
    refine ro_tabOut hK 1173 dL_law_33 (by omega) (by decide) ?_
    refine ro_iinc (v := v3 + 6) (L' := [(3, .int (v3 + 6)), (0, .ref b), (1, .ref (ro_ad (kG K) 0)), (2, .ref (ro_ad (kG K) 207))]) hK 3 rfl dL_law_1173 rfl (by decide) rfl ?_
    refine ro_goto hK 18 dL_law_1176 (by decide) ?_
    refine ro_sub (L' := [(0, .ref b), (1, .ref (ro_ad (kG K) 0)), (2, .ref (ro_ad (kG K) 207)), (3, .int (v3 + 6))]) [1, 2, 3, 0] rfl ?_
    exact hrec (v3 + 6, μ) _ hf hq
def fl_L_law_18 (L : Nat) (xs : Nat → Int32) : (Int32 × ro_Mem) → Option ro_Mem :=
  ro_loop (fun rec s => fb_L_law_18 L xs rec s.1 s.2) ro_FU
theorem lp_L_law_18 {K : ro_K} (hK : ro_C K RL cL_law 4 300) {L : Nat} {xs : Nat → Int32} {b : Nat} (hX : va_X b L xs (ks K) (ks K).heap) (hbl : b < (ks K).heap.size) (hbA : ¬ ro_A (kG K) b)   {s : Int32 × ro_Mem} {q : ro_Mem} (hf : fl_L_law_18 L xs s = some q) (hq : ok_L_law_18 K q) : ro_X K 18 [(0, .ref b), (1, .ref (ro_ad (kG K) 0)), (2, .ref (ro_ad (kG K) 207)), (3, .int s.1)] [] s.2 :=
  ro_loopX (b := fun rec s => fb_L_law_18 L xs rec s.1 s.2) (X := fun s => ro_X K 18 [(0, .ref b), (1, .ref (ro_ad (kG K) 0)), (2, .ref (ro_ad (kG K) 207)), (3, .int s.1)] [] s.2) (OK := ok_L_law_18 K) (fun rec s q hrec hb ho => bb_L_law_18 hK hX hbl hbA  hrec hb ho) ro_FU s q hf hq
