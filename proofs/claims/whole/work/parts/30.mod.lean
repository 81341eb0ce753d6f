-- ===== X12_perform =====
theorem dX12_perform_0 : decode cX12_perform 0 = .ok (.aload_n 0, 1) := by decide +kernel
theorem dX12_perform_1 : decode cX12_perform 1 = .ok (.getfield 300, 3) := by decide +kernel
theorem dX12_perform_4 : decode cX12_perform 4 = .ok (.ifCond .ne 5, 3) := by decide +kernel
theorem dX12_perform_7 : decode cX12_perform 7 = .ok (.iconst (-1), 1) := by decide +kernel
theorem dX12_perform_8 : decode cX12_perform 8 = .ok (.ireturn, 1) := by decide +kernel
theorem dX12_perform_9 : decode cX12_perform 9 = .ok (.aload_n 0, 1) := by decide +kernel
theorem dX12_perform_10 : decode cX12_perform 10 = .ok (.invokevirtual 450, 3) := by decide +kernel
theorem dX12_perform_13 : decode cX12_perform 13 = .ok (.aload_n 0, 1) := by decide +kernel
theorem dX12_perform_14 : decode cX12_perform 14 = .ok (.aload_n 0, 1) := by decide +kernel
theorem dX12_perform_15 : decode cX12_perform 15 = .ok (.getfield 502, 3) := by decide +kernel
theorem dX12_perform_18 : decode cX12_perform 18 = .ok (.aload_n 0, 1) := by decide +kernel
theorem dX12_perform_19 : decode cX12_perform 19 = .ok (.invokevirtual 499, 3) := by decide +kernel
theorem dX12_perform_22 : decode cX12_perform 22 = .ok (.iadd, 1) := by decide +kernel
theorem dX12_perform_23 : decode cX12_perform 23 = .ok (.putfield 502, 3) := by decide +kernel
theorem dX12_perform_26 : decode cX12_perform 26 = .ok (.iconst 0, 1) := by decide +kernel
theorem dX12_perform_27 : decode cX12_perform 27 = .ok (.istore_n 1, 1) := by decide +kernel
theorem dX12_perform_28 : decode cX12_perform 28 = .ok (.iload_n 1, 1) := by decide +kernel
theorem dX12_perform_29 : decode cX12_perform 29 = .ok (.bipush 10, 2) := by decide +kernel
theorem dX12_perform_31 : decode cX12_perform 31 = .ok (.if_icmp .ge 39, 3) := by decide +kernel
theorem dX12_perform_34 : decode cX12_perform 34 = .ok (.aload_n 0, 1) := by decide +kernel
theorem dX12_perform_35 : decode cX12_perform 35 = .ok (.getfield 159, 3) := by decide +kernel
theorem dX12_perform_38 : decode cX12_perform 38 = .ok (.iload_n 1, 1) := by decide +kernel
theorem dX12_perform_39 : decode cX12_perform 39 = .ok (.aload_n 0, 1) := by decide +kernel
theorem dX12_perform_40 : decode cX12_perform 40 = .ok (.getfield 159, 3) := by decide +kernel
theorem dX12_perform_43 : decode cX12_perform 43 = .ok (.iload_n 1, 1) := by decide +kernel
theorem dX12_perform_44 : decode cX12_perform 44 = .ok (.iaload, 1) := by decide +kernel
theorem dX12_perform_45 : decode cX12_perform 45 = .ok (.aload_n 0, 1) := by decide +kernel
theorem dX12_perform_46 : decode cX12_perform 46 = .ok (.iload_n 1, 1) := by decide +kernel
theorem dX12_perform_47 : decode cX12_perform 47 = .ok (.invokevirtual 235, 3) := by decide +kernel
theorem dX12_perform_50 : decode cX12_perform 50 = .ok (.ifCond .eq 11, 3) := by decide +kernel
theorem dX12_perform_53 : decode cX12_perform 53 = .ok (.aload_n 0, 1) := by decide +kernel
theorem dX12_perform_54 : decode cX12_perform 54 = .ok (.iload_n 1, 1) := by decide +kernel
theorem dX12_perform_55 : decode cX12_perform 55 = .ok (.invokevirtual 432, 3) := by decide +kernel
theorem dX12_perform_58 : decode cX12_perform 58 = .ok (.goto 4, 3) := by decide +kernel
theorem dX12_perform_61 : decode cX12_perform 61 = .ok (.iconst 0, 1) := by decide +kernel
theorem dX12_perform_62 : decode cX12_perform 62 = .ok (.iadd, 1) := by decide +kernel
theorem dX12_perform_63 : decode cX12_perform 63 = .ok (.iastore, 1) := by decide +kernel
theorem dX12_perform_64 : decode cX12_perform 64 = .ok (.iinc 1 1, 3) := by decide +kernel
theorem dX12_perform_67 : decode cX12_perform 67 = .ok (.goto (-39), 3) := by decide +kernel
theorem dX12_perform_70 : decode cX12_perform 70 = .ok (.iconst 0, 1) := by decide +kernel
theorem dX12_perform_71 : decode cX12_perform 71 = .ok (.istore_n 1, 1) := by decide +kernel
theorem dX12_perform_72 : decode cX12_perform 72 = .ok (.iload_n 1, 1) := by decide +kernel
theorem dX12_perform_73 : decode cX12_perform 73 = .ok (.bipush 16, 2) := by decide +kernel
theorem dX12_perform_75 : decode cX12_perform 75 = .ok (.if_icmp .ge 28, 3) := by decide +kernel
theorem dX12_perform_78 : decode cX12_perform 78 = .ok (.aload_n 0, 1) := by decide +kernel
theorem dX12_perform_79 : decode cX12_perform 79 = .ok (.getfield 162, 3) := by decide +kernel
theorem dX12_perform_82 : decode cX12_perform 82 = .ok (.iload_n 1, 1) := by decide +kernel
theorem dX12_perform_83 : decode cX12_perform 83 = .ok (.aload_n 0, 1) := by decide +kernel
theorem dX12_perform_84 : decode cX12_perform 84 = .ok (.getfield 162, 3) := by decide +kernel
theorem dX12_perform_87 : decode cX12_perform 87 = .ok (.iload_n 1, 1) := by decide +kernel
theorem dX12_perform_88 : decode cX12_perform 88 = .ok (.iaload, 1) := by decide +kernel
theorem dX12_perform_89 : decode cX12_perform 89 = .ok (.aload_n 0, 1) := by decide +kernel
theorem dX12_perform_90 : decode cX12_perform 90 = .ok (.getfield 126, 3) := by decide +kernel
theorem dX12_perform_93 : decode cX12_perform 93 = .ok (.iload_n 1, 1) := by decide +kernel
theorem dX12_perform_94 : decode cX12_perform 94 = .ok (.iaload, 1) := by decide +kernel
theorem dX12_perform_95 : decode cX12_perform 95 = .ok (.iadd, 1) := by decide +kernel
theorem dX12_perform_96 : decode cX12_perform 96 = .ok (.iastore, 1) := by decide +kernel
theorem dX12_perform_97 : decode cX12_perform 97 = .ok (.iinc 1 1, 3) := by decide +kernel
theorem dX12_perform_100 : decode cX12_perform 100 = .ok (.goto (-28), 3) := by decide +kernel
theorem dX12_perform_103 : decode cX12_perform 103 = .ok (.iconst 0, 1) := by decide +kernel
theorem dX12_perform_104 : decode cX12_perform 104 = .ok (.istore_n 1, 1) := by decide +kernel
theorem dX12_perform_105 : decode cX12_perform 105 = .ok (.iload_n 1, 1) := by decide +kernel
theorem dX12_perform_106 : decode cX12_perform 106 = .ok (.bipush 32, 2) := by decide +kernel
theorem dX12_perform_108 : decode cX12_perform 108 = .ok (.if_icmp .ge 28, 3) := by decide +kernel
theorem dX12_perform_111 : decode cX12_perform 111 = .ok (.aload_n 0, 1) := by decide +kernel
theorem dX12_perform_112 : decode cX12_perform 112 = .ok (.getfield 165, 3) := by decide +kernel
theorem dX12_perform_115 : decode cX12_perform 115 = .ok (.iload_n 1, 1) := by decide +kernel
theorem dX12_perform_116 : decode cX12_perform 116 = .ok (.aload_n 0, 1) := by decide +kernel
theorem dX12_perform_117 : decode cX12_perform 117 = .ok (.getfield 165, 3) := by decide +kernel
theorem dX12_perform_120 : decode cX12_perform 120 = .ok (.iload_n 1, 1) := by decide +kernel
theorem dX12_perform_121 : decode cX12_perform 121 = .ok (.iaload, 1) := by decide +kernel
theorem dX12_perform_122 : decode cX12_perform 122 = .ok (.aload_n 0, 1) := by decide +kernel
theorem dX12_perform_123 : decode cX12_perform 123 = .ok (.getfield 123, 3) := by decide +kernel
theorem dX12_perform_126 : decode cX12_perform 126 = .ok (.iload_n 1, 1) := by decide +kernel
theorem dX12_perform_127 : decode cX12_perform 127 = .ok (.iaload, 1) := by decide +kernel
theorem dX12_perform_128 : decode cX12_perform 128 = .ok (.iadd, 1) := by decide +kernel
theorem dX12_perform_129 : decode cX12_perform 129 = .ok (.iastore, 1) := by decide +kernel
theorem dX12_perform_130 : decode cX12_perform 130 = .ok (.iinc 1 1, 3) := by decide +kernel
theorem dX12_perform_133 : decode cX12_perform 133 = .ok (.goto (-28), 3) := by decide +kernel
theorem dX12_perform_136 : decode cX12_perform 136 = .ok (.iconst 0, 1) := by decide +kernel
theorem dX12_perform_137 : decode cX12_perform 137 = .ok (.istore_n 1, 1) := by decide +kernel
theorem dX12_perform_138 : decode cX12_perform 138 = .ok (.iload_n 1, 1) := by decide +kernel
theorem dX12_perform_139 : decode cX12_perform 139 = .ok (.bipush 96, 2) := by decide +kernel
theorem dX12_perform_141 : decode cX12_perform 141 = .ok (.if_icmp .ge 73, 3) := by decide +kernel
theorem dX12_perform_144 : decode cX12_perform 144 = .ok (.aload_n 0, 1) := by decide +kernel
theorem dX12_perform_145 : decode cX12_perform 145 = .ok (.iload_n 1, 1) := by decide +kernel
theorem dX12_perform_146 : decode cX12_perform 146 = .ok (.invokevirtual 385, 3) := by decide +kernel
theorem dX12_perform_149 : decode cX12_perform 149 = .ok (.aload_n 0, 1) := by decide +kernel
theorem dX12_perform_150 : decode cX12_perform 150 = .ok (.getfield 108, 3) := by decide +kernel
theorem dX12_perform_153 : decode cX12_perform 153 = .ok (.bipush 11, 2) := by decide +kernel
theorem dX12_perform_155 : decode cX12_perform 155 = .ok (.aload_n 0, 1) := by decide +kernel
theorem dX12_perform_156 : decode cX12_perform 156 = .ok (.getfield 120, 3) := by decide +kernel
theorem dX12_perform_159 : decode cX12_perform 159 = .ok (.iload_n 1, 1) := by decide +kernel
theorem dX12_perform_160 : decode cX12_perform 160 = .ok (.iaload, 1) := by decide +kernel
theorem dX12_perform_161 : decode cX12_perform 161 = .ok (.aload_n 0, 1) := by decide +kernel
theorem dX12_perform_162 : decode cX12_perform 162 = .ok (.getfield 120, 3) := by decide +kernel
theorem dX12_perform_165 : decode cX12_perform 165 = .ok (.bipush 96, 2) := by decide +kernel
theorem dX12_perform_167 : decode cX12_perform 167 = .ok (.iload_n 1, 1) := by decide +kernel
theorem dX12_perform_168 : decode cX12_perform 168 = .ok (.iadd, 1) := by decide +kernel
theorem dX12_perform_169 : decode cX12_perform 169 = .ok (.iaload, 1) := by decide +kernel
theorem dX12_perform_170 : decode cX12_perform 170 = .ok (.iadd, 1) := by decide +kernel
theorem dX12_perform_171 : decode cX12_perform 171 = .ok (.aload_n 0, 1) := by decide +kernel
theorem dX12_perform_172 : decode cX12_perform 172 = .ok (.getfield 120, 3) := by decide +kernel
theorem dX12_perform_175 : decode cX12_perform 175 = .ok (.sipush 192, 3) := by decide +kernel
theorem dX12_perform_178 : decode cX12_perform 178 = .ok (.iload_n 1, 1) := by decide +kernel
theorem dX12_perform_179 : decode cX12_perform 179 = .ok (.iadd, 1) := by decide +kernel
theorem dX12_perform_180 : decode cX12_perform 180 = .ok (.iaload, 1) := by decide +kernel
theorem dX12_perform_181 : decode cX12_perform 181 = .ok (.iadd, 1) := by decide +kernel
theorem dX12_perform_182 : decode cX12_perform 182 = .ok (.aload_n 0, 1) := by decide +kernel
theorem dX12_perform_183 : decode cX12_perform 183 = .ok (.getfield 120, 3) := by decide +kernel
theorem dX12_perform_186 : decode cX12_perform 186 = .ok (.sipush 288, 3) := by decide +kernel
theorem dX12_perform_189 : decode cX12_perform 189 = .ok (.iload_n 1, 1) := by decide +kernel
theorem dX12_perform_190 : decode cX12_perform 190 = .ok (.iadd, 1) := by decide +kernel
theorem dX12_perform_191 : decode cX12_perform 191 = .ok (.iaload, 1) := by decide +kernel
theorem dX12_perform_192 : decode cX12_perform 192 = .ok (.iadd, 1) := by decide +kernel
theorem dX12_perform_193 : decode cX12_perform 193 = .ok (.iastore, 1) := by decide +kernel
theorem dX12_perform_194 : decode cX12_perform 194 = .ok (.aload_n 0, 1) := by decide +kernel
theorem dX12_perform_195 : decode cX12_perform 195 = .ok (.getfield 168, 3) := by decide +kernel
theorem dX12_perform_198 : decode cX12_perform 198 = .ok (.iload_n 1, 1) := by decide +kernel
theorem dX12_perform_199 : decode cX12_perform 199 = .ok (.aload_n 0, 1) := by decide +kernel
theorem dX12_perform_200 : decode cX12_perform 200 = .ok (.bipush 109, 2) := by decide +kernel
theorem dX12_perform_202 : decode cX12_perform 202 = .ok (.bipush 9, 2) := by decide +kernel
theorem dX12_perform_204 : decode cX12_perform 204 = .ok (.invokevirtual 394, 3) := by decide +kernel
theorem dX12_perform_207 : decode cX12_perform 207 = .ok (.iastore, 1) := by decide +kernel
theorem dX12_perform_208 : decode cX12_perform 208 = .ok (.iinc 1 1, 3) := by decide +kernel
theorem dX12_perform_211 : decode cX12_perform 211 = .ok (.goto (-73), 3) := by decide +kernel
theorem dX12_perform_214 : decode cX12_perform 214 = .ok (.iconst 0, 1) := by decide +kernel
theorem dX12_perform_215 : decode cX12_perform 215 = .ok (.istore_n 1, 1) := by decide +kernel
theorem dX12_perform_216 : decode cX12_perform 216 = .ok (.iload_n 1, 1) := by decide +kernel
theorem dX12_perform_217 : decode cX12_perform 217 = .ok (.bipush 96, 2) := by decide +kernel
theorem dX12_perform_219 : decode cX12_perform 219 = .ok (.if_icmp .ge 33, 3) := by decide +kernel
theorem dX12_perform_222 : decode cX12_perform 222 = .ok (.aload_n 0, 1) := by decide +kernel
theorem dX12_perform_223 : decode cX12_perform 223 = .ok (.getfield 17, 3) := by decide +kernel
theorem dX12_perform_226 : decode cX12_perform 226 = .ok (.iload_n 1, 1) := by decide +kernel
theorem dX12_perform_227 : decode cX12_perform 227 = .ok (.bipush 99, 2) := by decide +kernel
theorem dX12_perform_229 : decode cX12_perform 229 = .ok (.aload_n 0, 1) := by decide +kernel
theorem dX12_perform_230 : decode cX12_perform 230 = .ok (.getfield 17, 3) := by decide +kernel
theorem dX12_perform_233 : decode cX12_perform 233 = .ok (.iload_n 1, 1) := by decide +kernel
theorem dX12_perform_234 : decode cX12_perform 234 = .ok (.iaload, 1) := by decide +kernel
theorem dX12_perform_235 : decode cX12_perform 235 = .ok (.aload_n 0, 1) := by decide +kernel
theorem dX12_perform_236 : decode cX12_perform 236 = .ok (.getfield 168, 3) := by decide +kernel
theorem dX12_perform_239 : decode cX12_perform 239 = .ok (.iload_n 1, 1) := by decide +kernel
theorem dX12_perform_240 : decode cX12_perform 240 = .ok (.iaload, 1) := by decide +kernel
theorem dX12_perform_241 : decode cX12_perform 241 = .ok (.iadd, 1) := by decide +kernel
theorem dX12_perform_242 : decode cX12_perform 242 = .ok (.invokestatic 435, 3) := by decide +kernel
theorem dX12_perform_245 : decode cX12_perform 245 = .ok (.iastore, 1) := by decide +kernel
theorem dX12_perform_246 : decode cX12_perform 246 = .ok (.iinc 1 1, 3) := by decide +kernel
theorem dX12_perform_249 : decode cX12_perform 249 = .ok (.goto (-33), 3) := by decide +kernel
theorem dX12_perform_252 : decode cX12_perform 252 = .ok (.aload_n 0, 1) := by decide +kernel
theorem dX12_perform_253 : decode cX12_perform 253 = .ok (.aload_n 0, 1) := by decide +kernel
theorem dX12_perform_254 : decode cX12_perform 254 = .ok (.getfield 505, 3) := by decide +kernel
theorem dX12_perform_257 : decode cX12_perform 257 = .ok (.iconst 1, 1) := by decide +kernel
theorem dX12_perform_258 : decode cX12_perform 258 = .ok (.iadd, 1) := by decide +kernel
theorem dX12_perform_259 : decode cX12_perform 259 = .ok (.putfield 505, 3) := by decide +kernel
theorem dX12_perform_262 : decode cX12_perform 262 = .ok (.aload_n 0, 1) := by decide +kernel
theorem dX12_perform_263 : decode cX12_perform 263 = .ok (.invokevirtual 508, 3) := by decide +kernel
theorem dX12_perform_266 : decode cX12_perform 266 = .ok (.ireturn, 1) := by decide +kernel
def ok_X12_perform_28 (K : ro_K)  : ro_Mem → Prop := fun e => ro_X K 70 [(0, .ref (ro_ad (kG K) 207))] [] e
def fb_X12_perform_28  (rec : (Int32 × ro_Mem) → Option ro_Mem) (v1 : Int32) (μ : ro_Mem) : Option ro_Mem :=
  if 10 ≤ v1 then
  (some μ)
  else
  (if ro_in v1 10 then
  ((fn_X12_isGuest v1 μ).bind fun q10 =>
  if q10 = 0 then
  (ro_lt (ro_set μ 257 v1.toNatClampNeg ((μ 257 v1.toNatClampNeg) + 0)) fun m13 =>
  rec (v1 + 1, m13))
  else
  ((fn_X12_guestWetAll v1 μ).bind fun q15 =>
  ro_lt (ro_set μ 257 v1.toNatClampNeg ((μ 257 v1.toNatClampNeg) + q15)) fun m17 =>
  rec (v1 + 1, m17))) else none)
theorem bb_X12_perform_28 {K : ro_K} (hK : ro_C K RX12 cX12_perform 2 7) (hR : ro_R K (some .int))   {μ : ro_Mem} {rec : (Int32 × ro_Mem) → Option ro_Mem} {v1 : Int32} {q : ro_Mem} (hrec : ∀ (s : Int32 × ro_Mem) (q : ro_Mem), rec s = some q → ok_X12_perform_28 K q → ro_X K 28 [(0, .ref (ro_ad (kG K) 207)), (1, .int s.1)] [] s.2) (hf : fb_X12_perform_28 rec v1 μ = some q) (hq : ok_X12_perform_28 K q) : ro_X K 28 [(0, .ref (ro_ad (kG K) 207)), (1, .int v1)] [] μ := by
  unfold fb_X12_perform_28 at hf
  refine ro_iload_n hK 1 rfl dX12_perform_28 rfl ?_
  refine ro_bipush (v := 10) hK dX12_perform_29 (by decide) ?_
  refine ro_icmp_ge hK 70 dX12_perform_31 (by decide) (fun c8 => ?_) (fun c8 => ?_)
  · have hf := ro_it hf c8
    refine ro_sub (L' := [(0, .ref (ro_ad (kG K) 207))]) [0] rfl ?_
    obtain rfl := Option.some.inj hf
    exact hq
  · have hf := ro_ie hf c8
    refine ro_aload_n hK 0 rfl dX12_perform_34 rfl ?_
    refine ro_getr hK fl_X12_159 sh_207 dX12_perform_35 ?_
    refine ro_iload_n hK 1 rfl dX12_perform_38 rfl ?_
    refine ro_aload_n hK 0 rfl dX12_perform_39 rfl ?_
    refine ro_getr hK fl_X12_159 sh_207 dX12_perform_40 ?_
    refine ro_iload_n hK 1 rfl dX12_perform_43 rfl ?_
    obtain ⟨g9, hf⟩ := ro_gd hf
    refine ro_iald hK sh_257 g9 dX12_perform_44 ?_
    refine ro_aload_n hK 0 rfl dX12_perform_45 rfl ?_
    refine ro_iload_n hK 1 rfl dX12_perform_46 rfl ?_
    obtain ⟨q10, e11, hf⟩ := ro_bd hf
    refine ro_callvi hK [.int v1] ml_X12_235 mv_X12_isGuest (mt_X12_isGuest (kl K) (kG K)  e11) sh_207 ⟨_, rfl, rfl⟩ (by decide) rfl rfl (Nat.le_of_ble_eq_true rfl) dX12_perform_47 ?_
    refine ro_if_eq hK 61 dX12_perform_50 (by decide) (fun c12 => ?_) (fun c12 => ?_)
    · have hf := ro_it hf c12
      refine ro_iconst (v := 0) hK dX12_perform_61 (by decide) ?_
      refine ro_iadd hK dX12_perform_62 ?_
      obtain ⟨m13, e14, hf⟩ := ro_ld hf
      refine ro_iast hK sh_257 g9 dX12_perform_63 ?_
      refine ro_mv e14 ?_
      refine ro_iinc (v := v1 + 1) (L' := [(1, .int (v1 + 1)), (0, .ref (ro_ad (kG K) 207))]) hK 1 rfl dX12_perform_64 rfl (by decide) rfl ?_
      refine ro_goto hK 28 dX12_perform_67 (by decide) ?_
      refine ro_sub (L' := [(0, .ref (ro_ad (kG K) 207)), (1, .int (v1 + 1))]) [1, 0] rfl ?_
      exact hrec (v1 + 1, m13) _ hf hq
    · have hf := ro_ie hf c12
      refine ro_aload_n hK 0 rfl dX12_perform_53 rfl ?_
      refine ro_iload_n hK 1 rfl dX12_perform_54 rfl ?_
      obtain ⟨q15, e16, hf⟩ := ro_bd hf
      refine ro_callvi hK [.int v1] ml_X12_432 mv_X12_guestWetAll (mt_X12_guestWetAll (kl K) (kG K)  e16) sh_207 ⟨_, rfl, rfl⟩ (by decide) rfl rfl (Nat.le_of_ble_eq_true rfl) dX12_perform_55 ?_
      refine ro_goto hK 62 dX12_perform_58 (by decide) ?_
      refine ro_iadd hK dX12_perform_62 ?_
      obtain ⟨m17, e18, hf⟩ := ro_ld hf
      refine ro_iast hK sh_257 g9 dX12_perform_63 ?_
      refine ro_mv e18 ?_
      refine ro_iinc (v := v1 + 1) (L' := [(1, .int (v1 + 1)), (0, .ref (ro_ad (kG K) 207))]) hK 1 rfl dX12_perform_64 rfl (by decide) rfl ?_
      refine ro_goto hK 28 dX12_perform_67 (by decide) ?_
      refine ro_sub (L' := [(0, .ref (ro_ad (kG K) 207)), (1, .int (v1 + 1))]) [1, 0] rfl ?_
      exact hrec (v1 + 1, m17) _ hf hq
def fl_X12_perform_28  : (Int32 × ro_Mem) → Option ro_Mem :=
  ro_loop (fun rec s => fb_X12_perform_28 rec s.1 s.2) ro_FU
theorem lp_X12_perform_28 {K : ro_K} (hK : ro_C K RX12 cX12_perform 2 7) (hR : ro_R K (some .int))   {s : Int32 × ro_Mem} {q : ro_Mem} (hf : fl_X12_perform_28 s = some q) (hq : ok_X12_perform_28 K q) : ro_X K 28 [(0, .ref (ro_ad (kG K) 207)), (1, .int s.1)] [] s.2 :=
  ro_loopX (b := fun rec s => fb_X12_perform_28 rec s.1 s.2) (X := fun s => ro_X K 28 [(0, .ref (ro_ad (kG K) 207)), (1, .int s.1)] [] s.2) (OK := ok_X12_perform_28 K) (fun rec s q hrec hb ho => bb_X12_perform_28 hK hR  hrec hb ho) ro_FU s q hf hq
def ok_X12_perform_72 (K : ro_K)  : ro_Mem → Prop := fun e => ro_X K 103 [(0, .ref (ro_ad (kG K) 207))] [] e
def fb_X12_perform_72  (rec : (Int32 × ro_Mem) → Option ro_Mem) (v1 : Int32) (μ : ro_Mem) : Option ro_Mem :=
  if 16 ≤ v1 then
  (some μ)
  else
  (if ro_in v1 16 then
  (ro_lt (ro_set μ 258 v1.toNatClampNeg ((μ 258 v1.toNatClampNeg) + (μ 246 v1.toNatClampNeg))) fun m23 =>
  rec (v1 + 1, m23)) else none)
theorem bb_X12_perform_72 {K : ro_K} (hK : ro_C K RX12 cX12_perform 2 7) (hR : ro_R K (some .int))   {μ : ro_Mem} {rec : (Int32 × ro_Mem) → Option ro_Mem} {v1 : Int32} {q : ro_Mem} (hrec : ∀ (s : Int32 × ro_Mem) (q : ro_Mem), rec s = some q → ok_X12_perform_72 K q → ro_X K 72 [(0, .ref (ro_ad (kG K) 207)), (1, .int s.1)] [] s.2) (hf : fb_X12_perform_72 rec v1 μ = some q) (hq : ok_X12_perform_72 K q) : ro_X K 72 [(0, .ref (ro_ad (kG K) 207)), (1, .int v1)] [] μ := by
  unfold fb_X12_perform_72 at hf
  refine ro_iload_n hK 1 rfl dX12_perform_72 rfl ?_
  refine ro_bipush (v := 16) hK dX12_perform_73 (by decide) ?_
  refine ro_icmp_ge hK 103 dX12_perform_75 (by decide) (fun c21 => ?_) (fun c21 => ?_)
  · have hf := ro_it hf c21
    refine ro_sub (L' := [(0, .ref (ro_ad (kG K) 207))]) [0] rfl ?_
    obtain rfl := Option.some.inj hf
    exact hq
  · have hf := ro_ie hf c21
    refine ro_aload_n hK 0 rfl dX12_perform_78 rfl ?_
    refine ro_getr hK fl_X12_162 sh_207 dX12_perform_79 ?_
    refine ro_iload_n hK 1 rfl dX12_perform_82 rfl ?_
    refine ro_aload_n hK 0 rfl dX12_perform_83 rfl ?_
    refine ro_getr hK fl_X12_162 sh_207 dX12_perform_84 ?_
    refine ro_iload_n hK 1 rfl dX12_perform_87 rfl ?_
    obtain ⟨g22, hf⟩ := ro_gd hf
    refine ro_iald hK sh_258 g22 dX12_perform_88 ?_
    refine ro_aload_n hK 0 rfl dX12_perform_89 rfl ?_
    refine ro_getr hK fl_X12_126 sh_207 dX12_perform_90 ?_
    refine ro_iload_n hK 1 rfl dX12_perform_93 rfl ?_
    refine ro_iald hK sh_246 g22 dX12_perform_94 ?_
    refine ro_iadd hK dX12_perform_95 ?_
    obtain ⟨m23, e24, hf⟩ := ro_ld hf
    refine ro_iast hK sh_258 g22 dX12_perform_96 ?_
    refine ro_mv e24 ?_
    refine ro_iinc (v := v1 + 1) (L' := [(1, .int (v1 + 1)), (0, .ref (ro_ad (kG K) 207))]) hK 1 rfl dX12_perform_97 rfl (by decide) rfl ?_
    refine ro_goto hK 72 dX12_perform_100 (by decide) ?_
    refine ro_sub (L' := [(0, .ref (ro_ad (kG K) 207)), (1, .int (v1 + 1))]) [1, 0] rfl ?_
    exact hrec (v1 + 1, m23) _ hf hq
def fl_X12_perform_72  : (Int32 × ro_Mem) → Option ro_Mem :=
  ro_loop (fun rec s => fb_X12_perform_72 rec s.1 s.2) ro_FU
theorem lp_X12_perform_72 {K : ro_K} (hK : ro_C K RX12 cX12_perform 2 7) (hR : ro_R K (some .int))   {s : Int32 × ro_Mem} {q : ro_Mem} (hf : fl_X12_perform_72 s = some q) (hq : ok_X12_perform_72 K q) : ro_X K 72 [(0, .ref (ro_ad (kG K) 207)), (1, .int s.1)] [] s.2 :=
  ro_loopX (b := fun rec s => fb_X12_perform_72 rec s.1 s.2) (X := fun s => ro_X K 72 [(0, .ref (ro_ad (kG K) 207)), (1, .int s.1)] [] s.2) (OK := ok_X12_perform_72 K) (fun rec s q hrec hb ho => bb_X12_perform_72 hK hR  hrec hb ho) ro_FU s q hf hq
def ok_X12_perform_105 (K : ro_K)  : ro_Mem → Prop := fun e => ro_X K 136 [(0, .ref (ro_ad (kG K) 207))] [] e
def fb_X12_perform_105  (rec : (Int32 × ro_Mem) → Option ro_Mem) (v1 : Int32) (μ : ro_Mem) : Option ro_Mem :=
  if 32 ≤ v1 then
  (some μ)
  else
  (if ro_in v1 32 then
  (ro_lt (ro_set μ 259 v1.toNatClampNeg ((μ 259 v1.toNatClampNeg) + (μ 245 v1.toNatClampNeg))) fun m29 =>
  rec (v1 + 1, m29)) else none)
theorem bb_X12_perform_105 {K : ro_K} (hK : ro_C K RX12 cX12_perform 2 7) (hR : ro_R K (some .int))   {μ : ro_Mem} {rec : (Int32 × ro_Mem) → Option ro_Mem} {v1 : Int32} {q : ro_Mem} (hrec : ∀ (s : Int32 × ro_Mem) (q : ro_Mem), rec s = some q → ok_X12_perform_105 K q → ro_X K 105 [(0, .ref (ro_ad (kG K) 207)), (1, .int s.1)] [] s.2) (hf : fb_X12_perform_105 rec v1 μ = some q) (hq : ok_X12_perform_105 K q) : ro_X K 105 [(0, .ref (ro_ad (kG K) 207)), (1, .int v1)] [] μ := by
  unfold fb_X12_perform_105 at hf
  refine ro_iload_n hK 1 rfl dX12_perform_105 rfl ?_
  refine ro_bipush (v := 32) hK dX12_perform_106 (by decide) ?_
  refine ro_icmp_ge hK 136 dX12_perform_108 (by decide) (fun c27 => ?_) (fun c27 => ?_)
  · have hf := ro_it hf c27
    refine ro_sub (L' := [(0, .ref (ro_ad (kG K) 207))]) [0] rfl ?_
    obtain rfl := Option.some.inj hf
    exact hq
  · have hf := ro_ie hf c27
    refine ro_aload_n hK 0 rfl dX12_perform_111 rfl ?_
    refine ro_getr hK fl_X12_165 sh_207 dX12_perform_112 ?_
    refine ro_iload_n hK 1 rfl dX12_perform_115 rfl ?_
    refine ro_aload_n hK 0 rfl dX12_perform_116 rfl ?_
    refine ro_getr hK fl_X12_165 sh_207 dX12_perform_117 ?_
    refine ro_iload_n hK 1 rfl dX12_perform_120 rfl ?_
    obtain ⟨g28, hf⟩ := ro_gd hf
    refine ro_iald hK sh_259 g28 dX12_perform_121 ?_
    refine ro_aload_n hK 0 rfl dX12_perform_122 rfl ?_
    refine ro_getr hK fl_X12_123 sh_207 dX12_perform_123 ?_
    refine ro_iload_n hK 1 rfl dX12_perform_126 rfl ?_
    refine ro_iald hK sh_245 g28 dX12_perform_127 ?_
    refine ro_iadd hK dX12_perform_128 ?_
    obtain ⟨m29, e30, hf⟩ := ro_ld hf
    refine ro_iast hK sh_259 g28 dX12_perform_129 ?_
    refine ro_mv e30 ?_
    refine ro_iinc (v := v1 + 1) (L' := [(1, .int (v1 + 1)), (0, .ref (ro_ad (kG K) 207))]) hK 1 rfl dX12_perform_130 rfl (by decide) rfl ?_
    refine ro_goto hK 105 dX12_perform_133 (by decide) ?_
    refine ro_sub (L' := [(0, .ref (ro_ad (kG K) 207)), (1, .int (v1 + 1))]) [1, 0] rfl ?_
    exact hrec (v1 + 1, m29) _ hf hq
def fl_X12_perform_105  : (Int32 × ro_Mem) → Option ro_Mem :=
  ro_loop (fun rec s => fb_X12_perform_105 rec s.1 s.2) ro_FU
theorem lp_X12_perform_105 {K : ro_K} (hK : ro_C K RX12 cX12_perform 2 7) (hR : ro_R K (some .int))   {s : Int32 × ro_Mem} {q : ro_Mem} (hf : fl_X12_perform_105 s = some q) (hq : ok_X12_perform_105 K q) : ro_X K 105 [(0, .ref (ro_ad (kG K) 207)), (1, .int s.1)] [] s.2 :=
  ro_loopX (b := fun rec s => fb_X12_perform_105 rec s.1 s.2) (X := fun s => ro_X K 105 [(0, .ref (ro_ad (kG K) 207)), (1, .int s.1)] [] s.2) (OK := ok_X12_perform_105 K) (fun rec s q hrec hb ho => bb_X12_perform_105 hK hR  hrec hb ho) ro_FU s q hf hq
def ok_X12_perform_138 (K : ro_K)  : ro_Mem → Prop := fun e => ro_X K 214 [(0, .ref (ro_ad (kG K) 207))] [] e
def fb_X12_perform_138  (rec : (Int32 × ro_Mem) → Option ro_Mem) (v1 : Int32) (μ : ro_Mem) : Option ro_Mem :=
  if 96 ≤ v1 then
  (some μ)
  else
  ((fn_X12_feels v1 μ).bind fun q34 =>
  if ro_in v1 384 then
  (if ro_in (96 + v1) 384 then
  (if ro_in (192 + v1) 384 then
  (if ro_in (288 + v1) 384 then
  (ro_lt (ro_set q34 240 (11 : Int32).toNatClampNeg ((((q34 244 v1.toNatClampNeg) + (q34 244 (96 + v1).toNatClampNeg)) + (q34 244 (192 + v1).toNatClampNeg)) + (q34 244 (288 + v1).toNatClampNeg))) fun m40 =>
  (fn_X12_byLaw 109 9 m40).bind fun q42 =>
  if ro_in v1 96 then
  (ro_lt (ro_set q42.2 260 v1.toNatClampNeg q42.1) fun m45 =>
  rec (v1 + 1, m45)) else none) else none) else none) else none) else none)
theorem bb_X12_perform_138 {K : ro_K} (hK : ro_C K RX12 cX12_perform 2 7) (hR : ro_R K (some .int))   {μ : ro_Mem} {rec : (Int32 × ro_Mem) → Option ro_Mem} {v1 : Int32} {q : ro_Mem} (hrec : ∀ (s : Int32 × ro_Mem) (q : ro_Mem), rec s = some q → ok_X12_perform_138 K q → ro_X K 138 [(0, .ref (ro_ad (kG K) 207)), (1, .int s.1)] [] s.2) (hf : fb_X12_perform_138 rec v1 μ = some q) (hq : ok_X12_perform_138 K q) : ro_X K 138 [(0, .ref (ro_ad (kG K) 207)), (1, .int v1)] [] μ := by
  unfold fb_X12_perform_138 at hf
  refine ro_iload_n hK 1 rfl dX12_perform_138 rfl ?_
  refine ro_bipush (v := 96) hK dX12_perform_139 (by decide) ?_
  refine ro_icmp_ge hK 214 dX12_perform_141 (by decide) (fun c33 => ?_) (fun c33 => ?_)
  · have hf := ro_it hf c33
    refine ro_sub (L' := [(0, .ref (ro_ad (kG K) 207))]) [0] rfl ?_
    obtain rfl := Option.some.inj hf
    exact hq
  · have hf := ro_ie hf c33
    refine ro_aload_n hK 0 rfl dX12_perform_144 rfl ?_
    refine ro_iload_n hK 1 rfl dX12_perform_145 rfl ?_
    obtain ⟨q34, e35, hf⟩ := ro_bd hf
    refine ro_callvv hK [.int v1] ml_X12_385 mv_X12_feels (mt_X12_feels (kl K) (kG K)  e35) sh_207 ⟨_, rfl, rfl⟩ (by decide) rfl rfl (Nat.le_of_ble_eq_true rfl) dX12_perform_146 ?_
    refine ro_aload_n hK 0 rfl dX12_perform_149 rfl ?_
    refine ro_getr hK fl_X12_108 sh_207 dX12_perform_150 ?_
    refine ro_bipush (v := 11) hK dX12_perform_153 (by decide) ?_
    refine ro_aload_n hK 0 rfl dX12_perform_155 rfl ?_
    refine ro_getr hK fl_X12_120 sh_207 dX12_perform_156 ?_
    refine ro_iload_n hK 1 rfl dX12_perform_159 rfl ?_
    obtain ⟨g36, hf⟩ := ro_gd hf
    refine ro_iald hK sh_244 g36 dX12_perform_160 ?_
    refine ro_aload_n hK 0 rfl dX12_perform_161 rfl ?_
    refine ro_getr hK fl_X12_120 sh_207 dX12_perform_162 ?_
    refine ro_bipush (v := 96) hK dX12_perform_165 (by decide) ?_
    refine ro_iload_n hK 1 rfl dX12_perform_167 rfl ?_
    refine ro_iadd hK dX12_perform_168 ?_
    obtain ⟨g37, hf⟩ := ro_gd hf
    refine ro_iald hK sh_244 g37 dX12_perform_169 ?_
    refine ro_iadd hK dX12_perform_170 ?_
    refine ro_aload_n hK 0 rfl dX12_perform_171 rfl ?_
    refine ro_getr hK fl_X12_120 sh_207 dX12_perform_172 ?_
    refine ro_sipush (v := 192) hK dX12_perform_175 (by decide) ?_
    refine ro_iload_n hK 1 rfl dX12_perform_178 rfl ?_
    refine ro_iadd hK dX12_perform_179 ?_
    obtain ⟨g38, hf⟩ := ro_gd hf
    refine ro_iald hK sh_244 g38 dX12_perform_180 ?_
    refine ro_iadd hK dX12_perform_181 ?_
    refine ro_aload_n hK 0 rfl dX12_perform_182 rfl ?_
    refine ro_getr hK fl_X12_120 sh_207 dX12_perform_183 ?_
    refine ro_sipush (v := 288) hK dX12_perform_186 (by decide) ?_
    refine ro_iload_n hK 1 rfl dX12_perform_189 rfl ?_
    refine ro_iadd hK dX12_perform_190 ?_
    obtain ⟨g39, hf⟩ := ro_gd hf
    refine ro_iald hK sh_244 g39 dX12_perform_191 ?_
    refine ro_iadd hK dX12_perform_192 ?_
    obtain ⟨m40, e41, hf⟩ := ro_ld hf
    refine ro_iast hK sh_240 (by decide) dX12_perform_193 ?_
    refine ro_mv e41 ?_
    refine ro_aload_n hK 0 rfl dX12_perform_194 rfl ?_
    refine ro_getr hK fl_X12_168 sh_207 dX12_perform_195 ?_
    refine ro_iload_n hK 1 rfl dX12_perform_198 rfl ?_
    refine ro_aload_n hK 0 rfl dX12_perform_199 rfl ?_
    refine ro_bipush (v := 109) hK dX12_perform_200 (by decide) ?_
    refine ro_bipush (v := 9) hK dX12_perform_202 (by decide) ?_
    obtain ⟨q42, e43, hf⟩ := ro_bd hf
    refine ro_callvi hK [.int 109, .int 9] ml_X12_394 mv_X12_byLaw (mt_X12_byLaw (kl K) (kG K)  e43) sh_207 ⟨_, rfl, rfl⟩ (by decide) rfl rfl (Nat.le_of_ble_eq_true rfl) dX12_perform_204 ?_
    obtain ⟨g44, hf⟩ := ro_gd hf
    obtain ⟨m45, e46, hf⟩ := ro_ld hf
    refine ro_iast hK sh_260 g44 dX12_perform_207 ?_
    refine ro_mv e46 ?_
    refine ro_iinc (v := v1 + 1) (L' := [(1, .int (v1 + 1)), (0, .ref (ro_ad (kG K) 207))]) hK 1 rfl dX12_perform_208 rfl (by decide) rfl ?_
    refine ro_goto hK 138 dX12_perform_211 (by decide) ?_
    refine ro_sub (L' := [(0, .ref (ro_ad (kG K) 207)), (1, .int (v1 + 1))]) [1, 0] rfl ?_
    exact hrec (v1 + 1, m45) _ hf hq
def fl_X12_perform_138  : (Int32 × ro_Mem) → Option ro_Mem :=
  ro_loop (fun rec s => fb_X12_perform_138 rec s.1 s.2) ro_FU
theorem lp_X12_perform_138 {K : ro_K} (hK : ro_C K RX12 cX12_perform 2 7) (hR : ro_R K (some .int))   {s : Int32 × ro_Mem} {q : ro_Mem} (hf : fl_X12_perform_138 s = some q) (hq : ok_X12_perform_138 K q) : ro_X K 138 [(0, .ref (ro_ad (kG K) 207)), (1, .int s.1)] [] s.2 :=
  ro_loopX (b := fun rec s => fb_X12_perform_138 rec s.1 s.2) (X := fun s => ro_X K 138 [(0, .ref (ro_ad (kG K) 207)), (1, .int s.1)] [] s.2) (OK := ok_X12_perform_138 K) (fun rec s q hrec hb ho => bb_X12_perform_138 hK hR  hrec hb ho) ro_FU s q hf hq
def ok_X12_perform_216 (K : ro_K)  : ro_Mem → Prop := fun e => ro_X K 252 [(0, .ref (ro_ad (kG K) 207))] [] e
def fb_X12_perform_216  (rec : (Int32 × ro_Mem) → Option ro_Mem) (v1 : Int32) (μ : ro_Mem) : Option ro_Mem :=
  if 96 ≤ v1 then
  (some μ)
  else
  (if ro_in v1 96 then
  ((fn_X12_min 99 ((μ 210 v1.toNatClampNeg) + (μ 260 v1.toNatClampNeg))).bind fun q51 =>
  ro_lt (ro_set μ 210 v1.toNatClampNeg q51) fun m53 =>
  rec (v1 + 1, m53)) else none)
theorem bb_X12_perform_216 {K : ro_K} (hK : ro_C K RX12 cX12_perform 2 7) (hR : ro_R K (some .int))   {μ : ro_Mem} {rec : (Int32 × ro_Mem) → Option ro_Mem} {v1 : Int32} {q : ro_Mem} (hrec : ∀ (s : Int32 × ro_Mem) (q : ro_Mem), rec s = some q → ok_X12_perform_216 K q → ro_X K 216 [(0, .ref (ro_ad (kG K) 207)), (1, .int s.1)] [] s.2) (hf : fb_X12_perform_216 rec v1 μ = some q) (hq : ok_X12_perform_216 K q) : ro_X K 216 [(0, .ref (ro_ad (kG K) 207)), (1, .int v1)] [] μ := by
  unfold fb_X12_perform_216 at hf
  refine ro_iload_n hK 1 rfl dX12_perform_216 rfl ?_
  refine ro_bipush (v := 96) hK dX12_perform_217 (by decide) ?_
  refine ro_icmp_ge hK 252 dX12_perform_219 (by decide) (fun c49 => ?_) (fun c49 => ?_)
  · have hf := ro_it hf c49
    refine ro_sub (L' := [(0, .ref (ro_ad (kG K) 207))]) [0] rfl ?_
    obtain rfl := Option.some.inj hf
    exact hq
  · have hf := ro_ie hf c49
    refine ro_aload_n hK 0 rfl dX12_perform_222 rfl ?_
    refine ro_getr hK fl_X12_17 sh_207 dX12_perform_223 ?_
    refine ro_iload_n hK 1 rfl dX12_perform_226 rfl ?_
    refine ro_bipush (v := 99) hK dX12_perform_227 (by decide) ?_
    refine ro_aload_n hK 0 rfl dX12_perform_229 rfl ?_
    refine ro_getr hK fl_X12_17 sh_207 dX12_perform_230 ?_
    refine ro_iload_n hK 1 rfl dX12_perform_233 rfl ?_
    obtain ⟨g50, hf⟩ := ro_gd hf
    refine ro_iald hK sh_210 g50 dX12_perform_234 ?_
    refine ro_aload_n hK 0 rfl dX12_perform_235 rfl ?_
    refine ro_getr hK fl_X12_168 sh_207 dX12_perform_236 ?_
    refine ro_iload_n hK 1 rfl dX12_perform_239 rfl ?_
    refine ro_iald hK sh_260 g50 dX12_perform_240 ?_
    refine ro_iadd hK dX12_perform_241 ?_
    obtain ⟨q51, e52, hf⟩ := ro_bd hf
    refine ro_callsi hK [.int 99, .int ((μ 210 v1.toNatClampNeg) + (μ 260 v1.toNatClampNeg))] ml_X12_435 ms_X12_min (mt_X12_min (kl K) (kG K)  e52) (by decide) rfl rfl (Nat.le_of_ble_eq_true rfl) dX12_perform_242 ?_
    obtain ⟨m53, e54, hf⟩ := ro_ld hf
    refine ro_iast hK sh_210 g50 dX12_perform_245 ?_
    refine ro_mv e54 ?_
    refine ro_iinc (v := v1 + 1) (L' := [(1, .int (v1 + 1)), (0, .ref (ro_ad (kG K) 207))]) hK 1 rfl dX12_perform_246 rfl (by decide) rfl ?_
    refine ro_goto hK 216 dX12_perform_249 (by decide) ?_
    refine ro_sub (L' := [(0, .ref (ro_ad (kG K) 207)), (1, .int (v1 + 1))]) [1, 0] rfl ?_
    exact hrec (v1 + 1, m53) _ hf hq
def fl_X12_perform_216  : (Int32 × ro_Mem) → Option ro_Mem :=
  ro_loop (fun rec s => fb_X12_perform_216 rec s.1 s.2) ro_FU
theorem lp_X12_perform_216 {K : ro_K} (hK : ro_C K RX12 cX12_perform 2 7) (hR : ro_R K (some .int))   {s : Int32 × ro_Mem} {q : ro_Mem} (hf : fl_X12_perform_216 s = some q) (hq : ok_X12_perform_216 K q) : ro_X K 216 [(0, .ref (ro_ad (kG K) 207)), (1, .int s.1)] [] s.2 :=
  ro_loopX (b := fun rec s => fb_X12_perform_216 rec s.1 s.2) (X := fun s => ro_X K 216 [(0, .ref (ro_ad (kG K) 207)), (1, .int s.1)] [] s.2) (OK := ok_X12_perform_216 K) (fun rec s q hrec hb ho => bb_X12_perform_216 hK hR  hrec hb ho) ro_FU s q hf hq
def fn_X12_perform (μ : ro_Mem) : Option (Int32 × ro_Mem) :=
  if (μ 207 18) = 0 then
  (some ((-1), μ))
  else
  ((fn_X12_evening μ).bind fun q2 =>
  (fn_X12_paidAll q2).bind fun q4 =>
  ro_lt (ro_set q4.2 207 71 ((q2 207 71) + q4.1)) fun m6 =>
  (fl_X12_perform_28  (0, m6)).bind fun q19 =>
  (fl_X12_perform_72  (0, q19)).bind fun q25 =>
  (fl_X12_perform_105  (0, q25)).bind fun q31 =>
  (fl_X12_perform_138  (0, q31)).bind fun q47 =>
  (fl_X12_perform_216  (0, q47)).bind fun q55 =>
  ro_lt (ro_set q55 207 70 ((q55 207 70) + 1)) fun m57 =>
  (fn_X12_houseAll m57).bind fun q59 =>
  some (q59, m57))
theorem be_X12_perform {K : ro_K} (hK : ro_C K RX12 cX12_perform 2 7) (hR : ro_R K (some .int))   {μ : ro_Mem} {out : Int32 × ro_Mem} (hf : fn_X12_perform μ = some out) (hq : kQ K (some (.int out.1)) out.2) : ro_X K 0 [(0, .ref (ro_ad (kG K) 207))] [] μ := by
  unfold fn_X12_perform at hf
  refine ro_aload_n hK 0 rfl dX12_perform_0 rfl ?_
  refine ro_geti hK fl_X12_300 sh_207 dX12_perform_1 ?_
  refine ro_if_ne hK 9 dX12_perform_4 (by decide) (fun c1 => ?_) (fun c1 => ?_)
  · have hf := ro_ie hf c1
    refine ro_aload_n hK 0 rfl dX12_perform_9 rfl ?_
    obtain ⟨q2, e3, hf⟩ := ro_bd hf
    refine ro_callvv hK [] ml_X12_450 mv_X12_evening (mt_X12_evening (kl K) (kG K)  e3) sh_207 ⟨_, rfl, rfl⟩ (by decide) rfl rfl (Nat.le_of_ble_eq_true rfl) dX12_perform_10 ?_
    refine ro_aload_n hK 0 rfl dX12_perform_13 rfl ?_
    refine ro_aload_n hK 0 rfl dX12_perform_14 rfl ?_
    refine ro_geti hK fl_X12_502 sh_207 dX12_perform_15 ?_
    refine ro_aload_n hK 0 rfl dX12_perform_18 rfl ?_
    obtain ⟨q4, e5, hf⟩ := ro_bd hf
    refine ro_callvi hK [] ml_X12_499 mv_X12_paidAll (mt_X12_paidAll (kl K) (kG K)  e5) sh_207 ⟨_, rfl, rfl⟩ (by decide) rfl rfl (Nat.le_of_ble_eq_true rfl) dX12_perform_19 ?_
    refine ro_iadd hK dX12_perform_22 ?_
    obtain ⟨m6, e7, hf⟩ := ro_ld hf
    refine ro_puti hK fl_X12_502 sh_207 rfl rfl dX12_perform_23 ?_
    refine ro_mv e7 ?_
    refine ro_iconst (v := 0) hK dX12_perform_26 (by decide) ?_
    refine ro_istore_n (L' := [(1, .int 0), (0, .ref (ro_ad (kG K) 207))]) hK dX12_perform_27 rfl (by decide) rfl ?_
    obtain ⟨q19, e20, hf⟩ := ro_bd hf
    refine ro_sub (L' := [(0, .ref (ro_ad (kG K) 207)), (1, .int 0)]) [1, 0] rfl ?_
    refine lp_X12_perform_28 hK hR  e20 ?_
    show ro_X K 70 [(0, .ref (ro_ad (kG K) 207))] [] q19
    refine ro_iconst (v := 0) hK dX12_perform_70 (by decide) ?_
    refine ro_istore_n (L' := [(1, .int 0), (0, .ref (ro_ad (kG K) 207))]) hK dX12_perform_71 rfl (by decide) rfl ?_
    obtain ⟨q25, e26, hf⟩ := ro_bd hf
    refine ro_sub (L' := [(0, .ref (ro_ad (kG K) 207)), (1, .int 0)]) [1, 0] rfl ?_
    refine lp_X12_perform_72 hK hR  e26 ?_
    show ro_X K 103 [(0, .ref (ro_ad (kG K) 207))] [] q25
    refine ro_iconst (v := 0) hK dX12_perform_103 (by decide) ?_
    refine ro_istore_n (L' := [(1, .int 0), (0, .ref (ro_ad (kG K) 207))]) hK dX12_perform_104 rfl (by decide) rfl ?_
    obtain ⟨q31, e32, hf⟩ := ro_bd hf
    refine ro_sub (L' := [(0, .ref (ro_ad (kG K) 207)), (1, .int 0)]) [1, 0] rfl ?_
    refine lp_X12_perform_105 hK hR  e32 ?_
    show ro_X K 136 [(0, .ref (ro_ad (kG K) 207))] [] q31
    refine ro_iconst (v := 0) hK dX12_perform_136 (by decide) ?_
    refine ro_istore_n (L' := [(1, .int 0), (0, .ref (ro_ad (kG K) 207))]) hK dX12_perform_137 rfl (by decide) rfl ?_
    obtain ⟨q47, e48, hf⟩ := ro_bd hf
    refine ro_sub (L' := [(0, .ref (ro_ad (kG K) 207)), (1, .int 0)]) [1, 0] rfl ?_
    refine lp_X12_perform_138 hK hR  e48 ?_
    show ro_X K 214 [(0, .ref (ro_ad (kG K) 207))] [] q47
    refine ro_iconst (v := 0) hK dX12_perform_214 (by decide) ?_
    refine ro_istore_n (L' := [(1, .int 0), (0, .ref (ro_ad (kG K) 207))]) hK dX12_perform_215 rfl (by decide) rfl ?_
    obtain ⟨q55, e56, hf⟩ := ro_bd hf
    refine ro_sub (L' := [(0, .ref (ro_ad (kG K) 207)), (1, .int 0)]) [1, 0] rfl ?_
    refine lp_X12_perform_216 hK hR  e56 ?_
    show ro_X K 252 [(0, .ref (ro_ad (kG K) 207))] [] q55
    refine ro_aload_n hK 0 rfl dX12_perform_252 rfl ?_
    refine ro_aload_n hK 0 rfl dX12_perform_253 rfl ?_
    refine ro_geti hK fl_X12_505 sh_207 dX12_perform_254 ?_
    refine ro_iconst (v := 1) hK dX12_perform_257 (by decide) ?_
    refine ro_iadd hK dX12_perform_258 ?_
    obtain ⟨m57, e58, hf⟩ := ro_ld hf
    refine ro_puti hK fl_X12_505 sh_207 rfl rfl dX12_perform_259 ?_
    refine ro_mv e58 ?_
    refine ro_aload_n hK 0 rfl dX12_perform_262 rfl ?_
    obtain ⟨q59, e60, hf⟩ := ro_bd hf
    refine ro_callvi hK [] ml_X12_508 mv_X12_houseAll (mt_X12_houseAll (kl K) (kG K)  e60) sh_207 ⟨_, rfl, rfl⟩ (by decide) rfl rfl (Nat.le_of_ble_eq_true rfl) dX12_perform_263 ?_
    obtain rfl := Option.some.inj hf
    exact ro_iret hK hR dX12_perform_266 hq
  · have hf := ro_it hf c1
    refine ro_iconst (v := (-1)) hK dX12_perform_7 (by decide) ?_
    obtain rfl := Option.some.inj hf
    exact ro_iret hK hR dX12_perform_8 hq
theorem mt_X12_perform (l : Launch) (G : ro_G)   {μ : ro_Mem} {out : Int32 × ro_Mem} (hf : fn_X12_perform μ = some out) : ro_MX l G yX12_perform cX12_perform 2 (some .int) 7 [.ref (ro_ad G 207)] μ (some (.int out.1)) out.2 := by
  refine ro_MX.of (by decide +kernel) (Nat.le_of_ble_eq_true rfl) (fun K hG hl hq hK hR => ?_)
  subst hG
  exact be_X12_perform hK hR  hf hq
-- ===== X12_soFar =====
theorem dX12_soFar_0 : decode cX12_soFar 0 = .ok (.iload_n 1, 1) := by decide +kernel
theorem dX12_soFar_1 : decode cX12_soFar 1 = .ok (.ifCond .ne 8, 3) := by decide +kernel
theorem dX12_soFar_4 : decode cX12_soFar 4 = .ok (.aload_n 0, 1) := by decide +kernel
theorem dX12_soFar_5 : decode cX12_soFar 5 = .ok (.getfield 505, 3) := by decide +kernel
theorem dX12_soFar_8 : decode cX12_soFar 8 = .ok (.ireturn, 1) := by decide +kernel
theorem dX12_soFar_9 : decode cX12_soFar 9 = .ok (.iload_n 1, 1) := by decide +kernel
theorem dX12_soFar_10 : decode cX12_soFar 10 = .ok (.iconst 1, 1) := by decide +kernel
theorem dX12_soFar_11 : decode cX12_soFar 11 = .ok (.if_icmp .ne 8, 3) := by decide +kernel
theorem dX12_soFar_14 : decode cX12_soFar 14 = .ok (.aload_n 0, 1) := by decide +kernel
theorem dX12_soFar_15 : decode cX12_soFar 15 = .ok (.getfield 502, 3) := by decide +kernel
theorem dX12_soFar_18 : decode cX12_soFar 18 = .ok (.ireturn, 1) := by decide +kernel
theorem dX12_soFar_19 : decode cX12_soFar 19 = .ok (.iload_n 1, 1) := by decide +kernel
theorem dX12_soFar_20 : decode cX12_soFar 20 = .ok (.bipush 10, 2) := by decide +kernel
theorem dX12_soFar_22 : decode cX12_soFar 22 = .ok (.bipush 19, 2) := by decide +kernel
theorem dX12_soFar_24 : decode cX12_soFar 24 = .ok (.invokestatic 215, 3) := by decide +kernel
theorem dX12_soFar_27 : decode cX12_soFar 27 = .ok (.ifCond .eq 28, 3) := by decide +kernel
theorem dX12_soFar_30 : decode cX12_soFar 30 = .ok (.aload_n 0, 1) := by decide +kernel
theorem dX12_soFar_31 : decode cX12_soFar 31 = .ok (.iload_n 1, 1) := by decide +kernel
theorem dX12_soFar_32 : decode cX12_soFar 32 = .ok (.bipush 10, 2) := by decide +kernel
theorem dX12_soFar_34 : decode cX12_soFar 34 = .ok (.isub, 1) := by decide +kernel
theorem dX12_soFar_35 : decode cX12_soFar 35 = .ok (.invokevirtual 235, 3) := by decide +kernel
theorem dX12_soFar_38 : decode cX12_soFar 38 = .ok (.ifCond .eq 15, 3) := by decide +kernel
theorem dX12_soFar_41 : decode cX12_soFar 41 = .ok (.aload_n 0, 1) := by decide +kernel
theorem dX12_soFar_42 : decode cX12_soFar 42 = .ok (.getfield 159, 3) := by decide +kernel
theorem dX12_soFar_45 : decode cX12_soFar 45 = .ok (.iload_n 1, 1) := by decide +kernel
theorem dX12_soFar_46 : decode cX12_soFar 46 = .ok (.bipush 10, 2) := by decide +kernel
theorem dX12_soFar_48 : decode cX12_soFar 48 = .ok (.isub, 1) := by decide +kernel
theorem dX12_soFar_49 : decode cX12_soFar 49 = .ok (.iaload, 1) := by decide +kernel
theorem dX12_soFar_50 : decode cX12_soFar 50 = .ok (.goto 4, 3) := by decide +kernel
theorem dX12_soFar_53 : decode cX12_soFar 53 = .ok (.iconst (-1), 1) := by decide +kernel
theorem dX12_soFar_54 : decode cX12_soFar 54 = .ok (.ireturn, 1) := by decide +kernel
theorem dX12_soFar_55 : decode cX12_soFar 55 = .ok (.iload_n 1, 1) := by decide +kernel
theorem dX12_soFar_56 : decode cX12_soFar 56 = .ok (.bipush 20, 2) := by decide +kernel
theorem dX12_soFar_58 : decode cX12_soFar 58 = .ok (.bipush 35, 2) := by decide +kernel
theorem dX12_soFar_60 : decode cX12_soFar 60 = .ok (.invokestatic 215, 3) := by decide +kernel
theorem dX12_soFar_63 : decode cX12_soFar 63 = .ok (.ifCond .eq 13, 3) := by decide +kernel
theorem dX12_soFar_66 : decode cX12_soFar 66 = .ok (.aload_n 0, 1) := by decide +kernel
theorem dX12_soFar_67 : decode cX12_soFar 67 = .ok (.getfield 162, 3) := by decide +kernel
theorem dX12_soFar_70 : decode cX12_soFar 70 = .ok (.iload_n 1, 1) := by decide +kernel
theorem dX12_soFar_71 : decode cX12_soFar 71 = .ok (.bipush 20, 2) := by decide +kernel
theorem dX12_soFar_73 : decode cX12_soFar 73 = .ok (.isub, 1) := by decide +kernel
theorem dX12_soFar_74 : decode cX12_soFar 74 = .ok (.iaload, 1) := by decide +kernel
theorem dX12_soFar_75 : decode cX12_soFar 75 = .ok (.ireturn, 1) := by decide +kernel
theorem dX12_soFar_76 : decode cX12_soFar 76 = .ok (.iload_n 1, 1) := by decide +kernel
theorem dX12_soFar_77 : decode cX12_soFar 77 = .ok (.bipush 40, 2) := by decide +kernel
theorem dX12_soFar_79 : decode cX12_soFar 79 = .ok (.bipush 71, 2) := by decide +kernel
theorem dX12_soFar_81 : decode cX12_soFar 81 = .ok (.invokestatic 215, 3) := by decide +kernel
theorem dX12_soFar_84 : decode cX12_soFar 84 = .ok (.ifCond .eq 15, 3) := by decide +kernel
theorem dX12_soFar_87 : decode cX12_soFar 87 = .ok (.aload_n 0, 1) := by decide +kernel
theorem dX12_soFar_88 : decode cX12_soFar 88 = .ok (.getfield 165, 3) := by decide +kernel
theorem dX12_soFar_91 : decode cX12_soFar 91 = .ok (.iload_n 1, 1) := by decide +kernel
theorem dX12_soFar_92 : decode cX12_soFar 92 = .ok (.bipush 40, 2) := by decide +kernel
theorem dX12_soFar_94 : decode cX12_soFar 94 = .ok (.isub, 1) := by decide +kernel
theorem dX12_soFar_95 : decode cX12_soFar 95 = .ok (.iaload, 1) := by decide +kernel
theorem dX12_soFar_96 : decode cX12_soFar 96 = .ok (.goto 4, 3) := by decide +kernel
theorem dX12_soFar_99 : decode cX12_soFar 99 = .ok (.iconst (-1), 1) := by decide +kernel
theorem dX12_soFar_100 : decode cX12_soFar 100 = .ok (.ireturn, 1) := by decide +kernel
def fn_X12_soFar (v1 : Int32) (μ : ro_Mem) : Option Int32 :=
  if v1 = 0 then
  (some (μ 207 70))
  else
  (if v1 = 1 then
  (some (μ 207 71))
  else
  ((fn_X12_in v1 10 19).bind fun q3 =>
  if q3 = 0 then
  ((fn_X12_in v1 20 35).bind fun q6 =>
  if q6 = 0 then
  ((fn_X12_in v1 40 71).bind fun q9 =>
  if q9 = 0 then
  (some (-1))
  else
  (if ro_in (v1 - 40) 32 then
  (some (μ 259 (v1 - 40).toNatClampNeg)) else none))
  else
  (if ro_in (v1 - 20) 16 then
  (some (μ 258 (v1 - 20).toNatClampNeg)) else none))
  else
  ((fn_X12_isGuest (v1 - 10) μ).bind fun q14 =>
  if q14 = 0 then
  (some (-1))
  else
  (if ro_in (v1 - 10) 10 then
  (some (μ 257 (v1 - 10).toNatClampNeg)) else none))))
theorem be_X12_soFar {K : ro_K} (hK : ro_C K RX12 cX12_soFar 2 2) (hR : ro_R K (some .int)) {v1 : Int32}  {μ : ro_Mem} {out : Int32} (hf : fn_X12_soFar v1 μ = some out) (hq : kQ K (some (.int out)) μ) : ro_X K 0 [(0, .ref (ro_ad (kG K) 207)), (1, .int v1)] [] μ := by
  unfold fn_X12_soFar at hf
  refine ro_iload_n hK 1 rfl dX12_soFar_0 rfl ?_
  refine ro_if_ne hK 9 dX12_soFar_1 (by decide) (fun c1 => ?_) (fun c1 => ?_)
  · have hf := ro_ie hf c1
    refine ro_iload_n hK 1 rfl dX12_soFar_9 rfl ?_
    refine ro_iconst (v := 1) hK dX12_soFar_10 (by decide) ?_
    refine ro_icmp_ne hK 19 dX12_soFar_11 (by decide) (fun c2 => ?_) (fun c2 => ?_)
    · have hf := ro_ie hf c2
      refine ro_iload_n hK 1 rfl dX12_soFar_19 rfl ?_
      refine ro_bipush (v := 10) hK dX12_soFar_20 (by decide) ?_
      refine ro_bipush (v := 19) hK dX12_soFar_22 (by decide) ?_
      obtain ⟨q3, e4, hf⟩ := ro_bd hf
      refine ro_callsi hK [.int v1, .int 10, .int 19] ml_X12_215 ms_X12_in (mt_X12_in (kl K) (kG K)  e4) (by decide) rfl rfl (Nat.le_of_ble_eq_true rfl) dX12_soFar_24 ?_
      refine ro_if_eq hK 55 dX12_soFar_27 (by decide) (fun c5 => ?_) (fun c5 => ?_)
      · have hf := ro_it hf c5
        refine ro_iload_n hK 1 rfl dX12_soFar_55 rfl ?_
        refine ro_bipush (v := 20) hK dX12_soFar_56 (by decide) ?_
        refine ro_bipush (v := 35) hK dX12_soFar_58 (by decide) ?_
        obtain ⟨q6, e7, hf⟩ := ro_bd hf
        refine ro_callsi hK [.int v1, .int 20, .int 35] ml_X12_215 ms_X12_in (mt_X12_in (kl K) (kG K)  e7) (by decide) rfl rfl (Nat.le_of_ble_eq_true rfl) dX12_soFar_60 ?_
        refine ro_if_eq hK 76 dX12_soFar_63 (by decide) (fun c8 => ?_) (fun c8 => ?_)
        · have hf := ro_it hf c8
          refine ro_iload_n hK 1 rfl dX12_soFar_76 rfl ?_
          refine ro_bipush (v := 40) hK dX12_soFar_77 (by decide) ?_
          refine ro_bipush (v := 71) hK dX12_soFar_79 (by decide) ?_
          obtain ⟨q9, e10, hf⟩ := ro_bd hf
          refine ro_callsi hK [.int v1, .int 40, .int 71] ml_X12_215 ms_X12_in (mt_X12_in (kl K) (kG K)  e10) (by decide) rfl rfl (Nat.le_of_ble_eq_true rfl) dX12_soFar_81 ?_
          refine ro_if_eq hK 99 dX12_soFar_84 (by decide) (fun c11 => ?_) (fun c11 => ?_)
          · have hf := ro_it hf c11
            refine ro_iconst (v := (-1)) hK dX12_soFar_99 (by decide) ?_
            obtain rfl := Option.some.inj hf
            exact ro_iret hK hR dX12_soFar_100 hq
          · have hf := ro_ie hf c11
            refine ro_aload_n hK 0 rfl dX12_soFar_87 rfl ?_
            refine ro_getr hK fl_X12_165 sh_207 dX12_soFar_88 ?_
            refine ro_iload_n hK 1 rfl dX12_soFar_91 rfl ?_
            refine ro_bipush (v := 40) hK dX12_soFar_92 (by decide) ?_
            refine ro_isub hK dX12_soFar_94 ?_
            obtain ⟨g12, hf⟩ := ro_gd hf
            refine ro_iald hK sh_259 g12 dX12_soFar_95 ?_
            refine ro_goto hK 100 dX12_soFar_96 (by decide) ?_
            obtain rfl := Option.some.inj hf
            exact ro_iret hK hR dX12_soFar_100 hq
        · have hf := ro_ie hf c8
          refine ro_aload_n hK 0 rfl dX12_soFar_66 rfl ?_
          refine ro_getr hK fl_X12_162 sh_207 dX12_soFar_67 ?_
          refine ro_iload_n hK 1 rfl dX12_soFar_70 rfl ?_
          refine ro_bipush (v := 20) hK dX12_soFar_71 (by decide) ?_
          refine ro_isub hK dX12_soFar_73 ?_
          obtain ⟨g13, hf⟩ := ro_gd hf
          refine ro_iald hK sh_258 g13 dX12_soFar_74 ?_
          obtain rfl := Option.some.inj hf
          exact ro_iret hK hR dX12_soFar_75 hq
      · have hf := ro_ie hf c5
        refine ro_aload_n hK 0 rfl dX12_soFar_30 rfl ?_
        refine ro_iload_n hK 1 rfl dX12_soFar_31 rfl ?_
        refine ro_bipush (v := 10) hK dX12_soFar_32 (by decide) ?_
        refine ro_isub hK dX12_soFar_34 ?_
        obtain ⟨q14, e15, hf⟩ := ro_bd hf
        refine ro_callvi hK [.int (v1 - 10)] ml_X12_235 mv_X12_isGuest (mt_X12_isGuest (kl K) (kG K)  e15) sh_207 ⟨_, rfl, rfl⟩ (by decide) rfl rfl (Nat.le_of_ble_eq_true rfl) dX12_soFar_35 ?_
        refine ro_if_eq hK 53 dX12_soFar_38 (by decide) (fun c16 => ?_) (fun c16 => ?_)
        · have hf := ro_it hf c16
          refine ro_iconst (v := (-1)) hK dX12_soFar_53 (by decide) ?_
          obtain rfl := Option.some.inj hf
          exact ro_iret hK hR dX12_soFar_54 hq
        · have hf := ro_ie hf c16
          refine ro_aload_n hK 0 rfl dX12_soFar_41 rfl ?_
          refine ro_getr hK fl_X12_159 sh_207 dX12_soFar_42 ?_
          refine ro_iload_n hK 1 rfl dX12_soFar_45 rfl ?_
          refine ro_bipush (v := 10) hK dX12_soFar_46 (by decide) ?_
          refine ro_isub hK dX12_soFar_48 ?_
          obtain ⟨g17, hf⟩ := ro_gd hf
          refine ro_iald hK sh_257 g17 dX12_soFar_49 ?_
          refine ro_goto hK 54 dX12_soFar_50 (by decide) ?_
          obtain rfl := Option.some.inj hf
          exact ro_iret hK hR dX12_soFar_54 hq
    · have hf := ro_it hf c2
      refine ro_aload_n hK 0 rfl dX12_soFar_14 rfl ?_
      refine ro_geti hK fl_X12_502 sh_207 dX12_soFar_15 ?_
      obtain rfl := Option.some.inj hf
      exact ro_iret hK hR dX12_soFar_18 hq
  · have hf := ro_it hf c1
    refine ro_aload_n hK 0 rfl dX12_soFar_4 rfl ?_
    refine ro_geti hK fl_X12_505 sh_207 dX12_soFar_5 ?_
    obtain rfl := Option.some.inj hf
    exact ro_iret hK hR dX12_soFar_8 hq
theorem mt_X12_soFar (l : Launch) (G : ro_G) {v1 : Int32}  {μ : ro_Mem} {out : Int32} (hf : fn_X12_soFar v1 μ = some out) : ro_MX l G yX12_soFar cX12_soFar 2 (some .int) 2 [.ref (ro_ad G 207), .int v1] μ (some (.int out)) μ := by
  refine ro_MX.of (by decide +kernel) (Nat.le_of_ble_eq_true rfl) (fun K hG hl hq hK hR => ?_)
  subst hG
  exact be_X12_soFar hK hR  hf hq
-- ===== X12_seed =====
theorem dX12_seed_0 : decode cX12_seed 0 = .ok (.iload_n 1, 1) := by decide +kernel
theorem dX12_seed_1 : decode cX12_seed 1 = .ok (.iconst 0, 1) := by decide +kernel
theorem dX12_seed_2 : decode cX12_seed 2 = .ok (.ldc_w 511, 3) := by decide +kernel
theorem dX12_seed_5 : decode cX12_seed 5 = .ok (.invokestatic 215, 3) := by decide +kernel
theorem dX12_seed_8 : decode cX12_seed 8 = .ok (.ifCond .ne 5, 3) := by decide +kernel
theorem dX12_seed_11 : decode cX12_seed 11 = .ok (.iconst 0, 1) := by decide +kernel
theorem dX12_seed_12 : decode cX12_seed 12 = .ok (.ireturn, 1) := by decide +kernel
theorem dX12_seed_13 : decode cX12_seed 13 = .ok (.aload_n 0, 1) := by decide +kernel
theorem dX12_seed_14 : decode cX12_seed 14 = .ok (.iload_n 1, 1) := by decide +kernel
theorem dX12_seed_15 : decode cX12_seed 15 = .ok (.putfield 207, 3) := by decide +kernel
theorem dX12_seed_18 : decode cX12_seed 18 = .ok (.iconst 1, 1) := by decide +kernel
theorem dX12_seed_19 : decode cX12_seed 19 = .ok (.ireturn, 1) := by decide +kernel
def fn_X12_seed (v1 : Int32) (μ : ro_Mem) : Option (Int32 × ro_Mem) :=
  (fn_X12_in v1 0 65535).bind fun q1 =>
  if q1 = 0 then
  (some (0, μ))
  else
  (ro_lt (ro_set μ 207 0 v1) fun m4 =>
  some (1, m4))
theorem be_X12_seed {K : ro_K} (hK : ro_C K RX12 cX12_seed 2 1) (hR : ro_R K (some .boolean)) {v1 : Int32}  {μ : ro_Mem} {out : Int32 × ro_Mem} (hf : fn_X12_seed v1 μ = some out) (hq : kQ K (some (.int out.1)) out.2) : ro_X K 0 [(0, .ref (ro_ad (kG K) 207)), (1, .int v1)] [] μ := by
  unfold fn_X12_seed at hf
  refine ro_iload_n hK 1 rfl dX12_seed_0 rfl ?_
  refine ro_iconst (v := 0) hK dX12_seed_1 (by decide) ?_
  refine ro_ldcw hK kc_X12_511 dX12_seed_2 ?_
  obtain ⟨q1, e2, hf⟩ := ro_bd hf
  refine ro_callsi hK [.int v1, .int 0, .int 65535] ml_X12_215 ms_X12_in (mt_X12_in (kl K) (kG K)  e2) (by decide) rfl rfl (Nat.le_of_ble_eq_true rfl) dX12_seed_5 ?_
  refine ro_if_ne hK 13 dX12_seed_8 (by decide) (fun c3 => ?_) (fun c3 => ?_)
  · have hf := ro_ie hf c3
    refine ro_aload_n hK 0 rfl dX12_seed_13 rfl ?_
    refine ro_iload_n hK 1 rfl dX12_seed_14 rfl ?_
    obtain ⟨m4, e5, hf⟩ := ro_ld hf
    refine ro_puti hK fl_X12_207 sh_207 rfl rfl dX12_seed_15 ?_
    refine ro_mv e5 ?_
    refine ro_iconst (v := 1) hK dX12_seed_18 (by decide) ?_
    obtain rfl := Option.some.inj hf
    exact ro_zret hK hR dX12_seed_19 (by decide) hq
  · have hf := ro_it hf c3
    refine ro_iconst (v := 0) hK dX12_seed_11 (by decide) ?_
    obtain rfl := Option.some.inj hf
    exact ro_zret hK hR dX12_seed_12 (by decide) hq
theorem mt_X12_seed (l : Launch) (G : ro_G) {v1 : Int32}  {μ : ro_Mem} {out : Int32 × ro_Mem} (hf : fn_X12_seed v1 μ = some out) : ro_MX l G yX12_seed cX12_seed 2 (some .boolean) 1 [.ref (ro_ad G 207), .int v1] μ (some (.int out.1)) out.2 := by
  refine ro_MX.of (by decide +kernel) (Nat.le_of_ble_eq_true rfl) (fun K hG hl hq hK hR => ?_)
  subst hG
  exact be_X12_seed hK hR  hf hq
-- ===== X12_draw =====
theorem dX12_draw_0 : decode cX12_draw 0 = .ok (.iconst 0, 1) := by decide +kernel
theorem dX12_draw_1 : decode cX12_draw 1 = .ok (.istore_n 1, 1) := by decide +kernel
theorem dX12_draw_2 : decode cX12_draw 2 = .ok (.iconst 0, 1) := by decide +kernel
theorem dX12_draw_3 : decode cX12_draw 3 = .ok (.istore_n 2, 1) := by decide +kernel
theorem dX12_draw_4 : decode cX12_draw 4 = .ok (.iload_n 2, 1) := by decide +kernel
theorem dX12_draw_5 : decode cX12_draw 5 = .ok (.iconst 4, 1) := by decide +kernel
theorem dX12_draw_6 : decode cX12_draw 6 = .ok (.if_icmp .ge 51, 3) := by decide +kernel
theorem dX12_draw_9 : decode cX12_draw 9 = .ok (.aload_n 0, 1) := by decide +kernel
theorem dX12_draw_10 : decode cX12_draw 10 = .ok (.sipush 25173, 3) := by decide +kernel
theorem dX12_draw_13 : decode cX12_draw 13 = .ok (.aload_n 0, 1) := by decide +kernel
theorem dX12_draw_14 : decode cX12_draw 14 = .ok (.getfield 207, 3) := by decide +kernel
theorem dX12_draw_17 : decode cX12_draw 17 = .ok (.imul, 1) := by decide +kernel
theorem dX12_draw_18 : decode cX12_draw 18 = .ok (.sipush 13849, 3) := by decide +kernel
theorem dX12_draw_21 : decode cX12_draw 21 = .ok (.iadd, 1) := by decide +kernel
theorem dX12_draw_22 : decode cX12_draw 22 = .ok (.ldc_w 512, 3) := by decide +kernel
theorem dX12_draw_25 : decode cX12_draw 25 = .ok (.irem, 1) := by decide +kernel
theorem dX12_draw_26 : decode cX12_draw 26 = .ok (.putfield 207, 3) := by decide +kernel
theorem dX12_draw_29 : decode cX12_draw 29 = .ok (.aload_n 0, 1) := by decide +kernel
theorem dX12_draw_30 : decode cX12_draw 30 = .ok (.getfield 29, 3) := by decide +kernel
theorem dX12_draw_33 : decode cX12_draw 33 = .ok (.iload_n 2, 1) := by decide +kernel
theorem dX12_draw_34 : decode cX12_draw 34 = .ok (.aload_n 0, 1) := by decide +kernel
theorem dX12_draw_35 : decode cX12_draw 35 = .ok (.getfield 207, 3) := by decide +kernel
theorem dX12_draw_38 : decode cX12_draw 38 = .ok (.bipush 10, 2) := by decide +kernel
theorem dX12_draw_40 : decode cX12_draw 40 = .ok (.irem, 1) := by decide +kernel
theorem dX12_draw_41 : decode cX12_draw 41 = .ok (.iastore, 1) := by decide +kernel
theorem dX12_draw_42 : decode cX12_draw 42 = .ok (.iload_n 1, 1) := by decide +kernel
theorem dX12_draw_43 : decode cX12_draw 43 = .ok (.aload_n 0, 1) := by decide +kernel
theorem dX12_draw_44 : decode cX12_draw 44 = .ok (.getfield 29, 3) := by decide +kernel
theorem dX12_draw_47 : decode cX12_draw 47 = .ok (.iload_n 2, 1) := by decide +kernel
theorem dX12_draw_48 : decode cX12_draw 48 = .ok (.iaload, 1) := by decide +kernel
theorem dX12_draw_49 : decode cX12_draw 49 = .ok (.iadd, 1) := by decide +kernel
theorem dX12_draw_50 : decode cX12_draw 50 = .ok (.istore_n 1, 1) := by decide +kernel
theorem dX12_draw_51 : decode cX12_draw 51 = .ok (.iinc 2 1, 3) := by decide +kernel
theorem dX12_draw_54 : decode cX12_draw 54 = .ok (.goto (-50), 3) := by decide +kernel
theorem dX12_draw_57 : decode cX12_draw 57 = .ok (.iload_n 1, 1) := by decide +kernel
theorem dX12_draw_58 : decode cX12_draw 58 = .ok (.ireturn, 1) := by decide +kernel
def ok_X12_draw_4 (K : ro_K)  : (Int32 × ro_Mem) → Prop := fun e => ro_X K 57 [(1, .int e.1)] [] e.2
def fb_X12_draw_4  (rec : (Int32 × Int32 × ro_Mem) → Option (Int32 × ro_Mem)) (v1 : Int32) (v2 : Int32) (μ : ro_Mem) : Option (Int32 × ro_Mem) :=
  if 4 ≤ v2 then
  (some (v1, μ))
  else
  (ro_lt (ro_set μ 207 0 (ro_rem ((25173 * (μ 207 0)) + 13849) 65536)) fun m2 =>
  if ro_in v2 4 then
  (ro_lt (ro_set m2 214 v2.toNatClampNeg (ro_rem (m2 207 0) 10)) fun m5 =>
  ro_lt (v1 + (m5 214 v2.toNatClampNeg)) fun z7 =>
  rec (z7, v2 + 1, m5)) else none)
theorem bb_X12_draw_4 {K : ro_K} (hK : ro_C K RX12 cX12_draw 3 0) (hR : ro_R K (some .int))   {μ : ro_Mem} {rec : (Int32 × Int32 × ro_Mem) → Option (Int32 × ro_Mem)} {v1 : Int32} {v2 : Int32} {q : (Int32 × ro_Mem)} (hrec : ∀ (s : Int32 × Int32 × ro_Mem) (q : (Int32 × ro_Mem)), rec s = some q → ok_X12_draw_4 K q → ro_X K 4 [(0, .ref (ro_ad (kG K) 207)), (1, .int s.1), (2, .int s.2.1)] [] s.2.2) (hf : fb_X12_draw_4 rec v1 v2 μ = some q) (hq : ok_X12_draw_4 K q) : ro_X K 4 [(0, .ref (ro_ad (kG K) 207)), (1, .int v1), (2, .int v2)] [] μ := by
  unfold fb_X12_draw_4 at hf
  refine ro_iload_n hK 2 rfl dX12_draw_4 rfl ?_
  refine ro_iconst (v := 4) hK dX12_draw_5 (by decide) ?_
  refine ro_icmp_ge hK 57 dX12_draw_6 (by decide) (fun c1 => ?_) (fun c1 => ?_)
  · have hf := ro_it hf c1
    refine ro_sub (L' := [(1, .int v1)]) [1] rfl ?_
    obtain rfl := Option.some.inj hf
    exact hq
  · have hf := ro_ie hf c1
    refine ro_aload_n hK 0 rfl dX12_draw_9 rfl ?_
    refine ro_sipush (v := 25173) hK dX12_draw_10 (by decide) ?_
    refine ro_aload_n hK 0 rfl dX12_draw_13 rfl ?_
    refine ro_geti hK fl_X12_207 sh_207 dX12_draw_14 ?_
    refine ro_imul hK dX12_draw_17 ?_
    refine ro_sipush (v := 13849) hK dX12_draw_18 (by decide) ?_
    refine ro_iadd hK dX12_draw_21 ?_
    refine ro_ldcw hK kc_X12_512 dX12_draw_22 ?_
    refine ro_irem hK dX12_draw_25 (by decide) ?_
    obtain ⟨m2, e3, hf⟩ := ro_ld hf
    refine ro_puti hK fl_X12_207 sh_207 rfl rfl dX12_draw_26 ?_
    refine ro_mv e3 ?_
    refine ro_aload_n hK 0 rfl dX12_draw_29 rfl ?_
    refine ro_getr hK fl_X12_29 sh_207 dX12_draw_30 ?_
    refine ro_iload_n hK 2 rfl dX12_draw_33 rfl ?_
    refine ro_aload_n hK 0 rfl dX12_draw_34 rfl ?_
    refine ro_geti hK fl_X12_207 sh_207 dX12_draw_35 ?_
    refine ro_bipush (v := 10) hK dX12_draw_38 (by decide) ?_
    refine ro_irem hK dX12_draw_40 (by decide) ?_
    obtain ⟨g4, hf⟩ := ro_gd hf
    obtain ⟨m5, e6, hf⟩ := ro_ld hf
    refine ro_iast hK sh_214 g4 dX12_draw_41 ?_
    refine ro_mv e6 ?_
    refine ro_iload_n hK 1 rfl dX12_draw_42 rfl ?_
    refine ro_aload_n hK 0 rfl dX12_draw_43 rfl ?_
    refine ro_getr hK fl_X12_29 sh_207 dX12_draw_44 ?_
    refine ro_iload_n hK 2 rfl dX12_draw_47 rfl ?_
    refine ro_iald hK sh_214 g4 dX12_draw_48 ?_
    refine ro_iadd hK dX12_draw_49 ?_
    obtain ⟨z7, e8, hf⟩ := ro_ld hf
    refine ro_iv e8 ?_
    refine ro_istore_n (L' := [(1, .int z7), (0, .ref (ro_ad (kG K) 207)), (2, .int v2)]) hK dX12_draw_50 rfl (by decide) rfl ?_
    refine ro_iinc (v := v2 + 1) (L' := [(2, .int (v2 + 1)), (1, .int z7), (0, .ref (ro_ad (kG K) 207))]) hK 2 rfl dX12_draw_51 rfl (by decide) rfl ?_
    refine ro_goto hK 4 dX12_draw_54 (by decide) ?_
    refine ro_sub (L' := [(0, .ref (ro_ad (kG K) 207)), (1, .int z7), (2, .int (v2 + 1))]) [2, 1, 0] rfl ?_
    exact hrec (z7, v2 + 1, m5) _ hf hq
def fl_X12_draw_4  : (Int32 × Int32 × ro_Mem) → Option (Int32 × ro_Mem) :=
  ro_loop (fun rec s => fb_X12_draw_4 rec s.1 s.2.1 s.2.2) ro_FU
theorem lp_X12_draw_4 {K : ro_K} (hK : ro_C K RX12 cX12_draw 3 0) (hR : ro_R K (some .int))   {s : Int32 × Int32 × ro_Mem} {q : (Int32 × ro_Mem)} (hf : fl_X12_draw_4 s = some q) (hq : ok_X12_draw_4 K q) : ro_X K 4 [(0, .ref (ro_ad (kG K) 207)), (1, .int s.1), (2, .int s.2.1)] [] s.2.2 :=
  ro_loopX (b := fun rec s => fb_X12_draw_4 rec s.1 s.2.1 s.2.2) (X := fun s => ro_X K 4 [(0, .ref (ro_ad (kG K) 207)), (1, .int s.1), (2, .int s.2.1)] [] s.2.2) (OK := ok_X12_draw_4 K) (fun rec s q hrec hb ho => bb_X12_draw_4 hK hR  hrec hb ho) ro_FU s q hf hq
def fn_X12_draw (μ : ro_Mem) : Option (Int32 × ro_Mem) :=
  (fl_X12_draw_4  (0, 0, μ)).bind fun q9 =>
  some (q9.1, q9.2)
theorem be_X12_draw {K : ro_K} (hK : ro_C K RX12 cX12_draw 3 0) (hR : ro_R K (some .int))   {μ : ro_Mem} {out : Int32 × ro_Mem} (hf : fn_X12_draw μ = some out) (hq : kQ K (some (.int out.1)) out.2) : ro_X K 0 [(0, .ref (ro_ad (kG K) 207))] [] μ := by
  unfold fn_X12_draw at hf
  refine ro_iconst (v := 0) hK dX12_draw_0 (by decide) ?_
  refine ro_istore_n (L' := [(1, .int 0), (0, .ref (ro_ad (kG K) 207))]) hK dX12_draw_1 rfl (by decide) rfl ?_
  refine ro_iconst (v := 0) hK dX12_draw_2 (by decide) ?_
  refine ro_istore_n (L' := [(2, .int 0), (1, .int 0), (0, .ref (ro_ad (kG K) 207))]) hK dX12_draw_3 rfl (by decide) rfl ?_
  obtain ⟨q9, e10, hf⟩ := ro_bd hf
  refine ro_sub (L' := [(0, .ref (ro_ad (kG K) 207)), (1, .int 0), (2, .int 0)]) [2, 1, 0] rfl ?_
  refine lp_X12_draw_4 hK hR  e10 ?_
  show ro_X K 57 [(1, .int q9.1)] [] q9.2
  refine ro_iload_n hK 0 rfl dX12_draw_57 rfl ?_
  obtain rfl := Option.some.inj hf
  exact ro_iret hK hR dX12_draw_58 hq
theorem mt_X12_draw (l : Launch) (G : ro_G)   {μ : ro_Mem} {out : Int32 × ro_Mem} (hf : fn_X12_draw μ = some out) : ro_MX l G yX12_draw cX12_draw 3 (some .int) 0 [.ref (ro_ad G 207)] μ (some (.int out.1)) out.2 := by
  refine ro_MX.of (by decide +kernel) (Nat.le_of_ble_eq_true rfl) (fun K hG hl hq hK hR => ?_)
  subst hG
  exact be_X12_draw hK hR  hf hq
-- ===== X12_copies =====
theorem dX12_copies_0 : decode cX12_copies 0 = .ok (.iconst 0, 1) := by decide +kernel
theorem dX12_copies_1 : decode cX12_copies 1 = .ok (.istore_n 3, 1) := by decide +kernel
theorem dX12_copies_2 : decode cX12_copies 2 = .ok (.iload_n 3, 1) := by decide +kernel
theorem dX12_copies_3 : decode cX12_copies 3 = .ok (.iload_n 2, 1) := by decide +kernel
theorem dX12_copies_4 : decode cX12_copies 4 = .ok (.if_icmp .ge 15, 3) := by decide +kernel
theorem dX12_copies_7 : decode cX12_copies 7 = .ok (.aload_n 1, 1) := by decide +kernel
theorem dX12_copies_8 : decode cX12_copies 8 = .ok (.iload_n 3, 1) := by decide +kernel
theorem dX12_copies_9 : decode cX12_copies 9 = .ok (.aload_n 0, 1) := by decide +kernel
theorem dX12_copies_10 : decode cX12_copies 10 = .ok (.iload_n 3, 1) := by decide +kernel
theorem dX12_copies_11 : decode cX12_copies 11 = .ok (.iaload, 1) := by decide +kernel
theorem dX12_copies_12 : decode cX12_copies 12 = .ok (.iastore, 1) := by decide +kernel
theorem dX12_copies_13 : decode cX12_copies 13 = .ok (.iinc 3 1, 3) := by decide +kernel
theorem dX12_copies_16 : decode cX12_copies 16 = .ok (.goto (-14), 3) := by decide +kernel
theorem dX12_copies_19 : decode cX12_copies 19 = .ok (.return_, 1) := by decide +kernel
def ok_X12_copies_2 (K : ro_K) (o0 : Nat) (o1 : Nat) (v2 : Int32) : ro_Mem → Prop := fun e => ro_X K 19 [] [] e
def fb_X12_copies_2 (o0 : Nat) (o1 : Nat) (v2 : Int32) (rec : (Int32 × ro_Mem) → Option ro_Mem) (v3 : Int32) (μ : ro_Mem) : Option ro_Mem :=
  if v2 ≤ v3 then
  (some μ)
  else
  (if ro_in v3 (ro_len o0) then
  (if ro_in v3 (ro_len o1) then
  (ro_lt (ro_set μ o1 v3.toNatClampNeg (μ o0 v3.toNatClampNeg)) fun m4 =>
  rec (v3 + 1, m4)) else none) else none)
theorem bb_X12_copies_2 {K : ro_K} (hK : ro_C K RX12 cX12_copies 4 0) (hR : ro_R K none) {o0 : Nat} {o1 : Nat} {v2 : Int32} (h0 : ro_sh o0 = (1, (ro_len o0))) (h1 : ro_sh o1 = (1, (ro_len o1))) {μ : ro_Mem} {rec : (Int32 × ro_Mem) → Option ro_Mem} {v3 : Int32} {q : ro_Mem} (hrec : ∀ (s : Int32 × ro_Mem) (q : ro_Mem), rec s = some q → ok_X12_copies_2 K o0 o1 v2 q → ro_X K 2 [(0, .ref (ro_ad (kG K) o0)), (1, .ref (ro_ad (kG K) o1)), (2, .int v2), (3, .int s.1)] [] s.2) (hf : fb_X12_copies_2 o0 o1 v2 rec v3 μ = some q) (hq : ok_X12_copies_2 K o0 o1 v2 q) : ro_X K 2 [(0, .ref (ro_ad (kG K) o0)), (1, .ref (ro_ad (kG K) o1)), (2, .int v2), (3, .int v3)] [] μ := by
  unfold fb_X12_copies_2 at hf
  refine ro_iload_n hK 3 rfl dX12_copies_2 rfl ?_
  refine ro_iload_n hK 2 rfl dX12_copies_3 rfl ?_
  refine ro_icmp_ge hK 19 dX12_copies_4 (by decide) (fun c1 => ?_) (fun c1 => ?_)
  · have hf := ro_it hf c1
    refine ro_sub (L' := []) [] rfl ?_
    obtain rfl := Option.some.inj hf
    exact hq
  · have hf := ro_ie hf c1
    refine ro_aload_n hK 1 rfl dX12_copies_7 rfl ?_
    refine ro_iload_n hK 3 rfl dX12_copies_8 rfl ?_
    refine ro_aload_n hK 0 rfl dX12_copies_9 rfl ?_
    refine ro_iload_n hK 3 rfl dX12_copies_10 rfl ?_
    obtain ⟨g2, hf⟩ := ro_gd hf
    refine ro_iald hK h0 g2 dX12_copies_11 ?_
    obtain ⟨g3, hf⟩ := ro_gd hf
    obtain ⟨m4, e5, hf⟩ := ro_ld hf
    refine ro_iast hK h1 g3 dX12_copies_12 ?_
    refine ro_mv e5 ?_
    refine ro_iinc (v := v3 + 1) (L' := [(3, .int (v3 + 1)), (0, .ref (ro_ad (kG K) o0)), (1, .ref (ro_ad (kG K) o1)), (2, .int v2)]) hK 3 rfl dX12_copies_13 rfl (by decide) rfl ?_
    refine ro_goto hK 2 dX12_copies_16 (by decide) ?_
    refine ro_sub (L' := [(0, .ref (ro_ad (kG K) o0)), (1, .ref (ro_ad (kG K) o1)), (2, .int v2), (3, .int (v3 + 1))]) [1, 2, 3, 0] rfl ?_
    exact hrec (v3 + 1, m4) _ hf hq
def fl_X12_copies_2 (o0 : Nat) (o1 : Nat) (v2 : Int32) : (Int32 × ro_Mem) → Option ro_Mem :=
  ro_loop (fun rec s => fb_X12_copies_2 o0 o1 v2 rec s.1 s.2) ro_FU
theorem lp_X12_copies_2 {K : ro_K} (hK : ro_C K RX12 cX12_copies 4 0) (hR : ro_R K none) {o0 : Nat} {o1 : Nat} {v2 : Int32} (h0 : ro_sh o0 = (1, (ro_len o0))) (h1 : ro_sh o1 = (1, (ro_len o1))) {s : Int32 × ro_Mem} {q : ro_Mem} (hf : fl_X12_copies_2 o0 o1 v2 s = some q) (hq : ok_X12_copies_2 K o0 o1 v2 q) : ro_X K 2 [(0, .ref (ro_ad (kG K) o0)), (1, .ref (ro_ad (kG K) o1)), (2, .int v2), (3, .int s.1)] [] s.2 :=
  ro_loopX (b := fun rec s => fb_X12_copies_2 o0 o1 v2 rec s.1 s.2) (X := fun s => ro_X K 2 [(0, .ref (ro_ad (kG K) o0)), (1, .ref (ro_ad (kG K) o1)), (2, .int v2), (3, .int s.1)] [] s.2) (OK := ok_X12_copies_2 K o0 o1 v2) (fun rec s q hrec hb ho => bb_X12_copies_2 hK hR h0 h1 hrec hb ho) ro_FU s q hf hq
def fn_X12_copies (o0 : Nat) (o1 : Nat) (v2 : Int32) (μ : ro_Mem) : Option ro_Mem :=
  (fl_X12_copies_2 o0 o1 v2 (0, μ)).bind fun q6 =>
  some q6
theorem be_X12_copies {K : ro_K} (hK : ro_C K RX12 cX12_copies 4 0) (hR : ro_R K none) {o0 : Nat} {o1 : Nat} {v2 : Int32} (h0 : ro_sh o0 = (1, ro_len o0)) (h1 : ro_sh o1 = (1, ro_len o1)) {μ : ro_Mem} {out : ro_Mem} (hf : fn_X12_copies o0 o1 v2 μ = some out) (hq : kQ K none out) : ro_X K 0 [(0, .ref (ro_ad (kG K) o0)), (1, .ref (ro_ad (kG K) o1)), (2, .int v2)] [] μ := by
  unfold fn_X12_copies at hf
  refine ro_iconst (v := 0) hK dX12_copies_0 (by decide) ?_
  refine ro_istore_n (L' := [(3, .int 0), (0, .ref (ro_ad (kG K) o0)), (1, .ref (ro_ad (kG K) o1)), (2, .int v2)]) hK dX12_copies_1 rfl (by decide) rfl ?_
  obtain ⟨q6, e7, hf⟩ := ro_bd hf
  refine ro_sub (L' := [(0, .ref (ro_ad (kG K) o0)), (1, .ref (ro_ad (kG K) o1)), (2, .int v2), (3, .int 0)]) [1, 2, 3, 0] rfl ?_
  refine lp_X12_copies_2 hK hR h0 h1 e7 ?_
  show ro_X K 19 [] [] q6
  obtain rfl := Option.some.inj hf
  exact ro_vret hK hR dX12_copies_19 hq
theorem mt_X12_copies (l : Launch) (G : ro_G) {o0 : Nat} {o1 : Nat} {v2 : Int32} (h0 : ro_sh o0 = (1, ro_len o0)) (h1 : ro_sh o1 = (1, ro_len o1)) {μ : ro_Mem} {out : ro_Mem} (hf : fn_X12_copies o0 o1 v2 μ = some out) : ro_MX l G yX12_copies cX12_copies 4 none 0 [.ref (ro_ad G o0), .ref (ro_ad G o1), .int v2] μ none out := by
  refine ro_MX.of (by decide +kernel) (Nat.le_of_ble_eq_true rfl) (fun K hG hl hq hK hR => ?_)
  subst hG
  exact be_X12_copies hK hR h0 h1 hf hq
-- ===== X12_keep =====
theorem dX12_keep_0 : decode cX12_keep 0 = .ok (.aload_n 0, 1) := by decide +kernel
theorem dX12_keep_1 : decode cX12_keep 1 = .ok (.iconst 1, 1) := by decide +kernel
theorem dX12_keep_2 : decode cX12_keep 2 = .ok (.putfield 513, 3) := by decide +kernel
theorem dX12_keep_5 : decode cX12_keep 5 = .ok (.aload_n 0, 1) := by decide +kernel
theorem dX12_keep_6 : decode cX12_keep 6 = .ok (.aload_n 0, 1) := by decide +kernel
theorem dX12_keep_7 : decode cX12_keep 7 = .ok (.getfield 207, 3) := by decide +kernel
theorem dX12_keep_10 : decode cX12_keep 10 = .ok (.putfield 517, 3) := by decide +kernel
theorem dX12_keep_13 : decode cX12_keep 13 = .ok (.aload_n 0, 1) := by decide +kernel
theorem dX12_keep_14 : decode cX12_keep 14 = .ok (.aload_n 0, 1) := by decide +kernel
theorem dX12_keep_15 : decode cX12_keep 15 = .ok (.getfield 219, 3) := by decide +kernel
theorem dX12_keep_18 : decode cX12_keep 18 = .ok (.putfield 520, 3) := by decide +kernel
theorem dX12_keep_21 : decode cX12_keep 21 = .ok (.aload_n 0, 1) := by decide +kernel
theorem dX12_keep_22 : decode cX12_keep 22 = .ok (.aload_n 0, 1) := by decide +kernel
theorem dX12_keep_23 : decode cX12_keep 23 = .ok (.getfield 232, 3) := by decide +kernel
theorem dX12_keep_26 : decode cX12_keep 26 = .ok (.putfield 523, 3) := by decide +kernel
theorem dX12_keep_29 : decode cX12_keep 29 = .ok (.aload_n 0, 1) := by decide +kernel
theorem dX12_keep_30 : decode cX12_keep 30 = .ok (.aload_n 0, 1) := by decide +kernel
theorem dX12_keep_31 : decode cX12_keep 31 = .ok (.getfield 505, 3) := by decide +kernel
theorem dX12_keep_34 : decode cX12_keep 34 = .ok (.putfield 526, 3) := by decide +kernel
theorem dX12_keep_37 : decode cX12_keep 37 = .ok (.aload_n 0, 1) := by decide +kernel
theorem dX12_keep_38 : decode cX12_keep 38 = .ok (.aload_n 0, 1) := by decide +kernel
theorem dX12_keep_39 : decode cX12_keep 39 = .ok (.getfield 502, 3) := by decide +kernel
theorem dX12_keep_42 : decode cX12_keep 42 = .ok (.putfield 529, 3) := by decide +kernel
theorem dX12_keep_45 : decode cX12_keep 45 = .ok (.iconst 0, 1) := by decide +kernel
theorem dX12_keep_46 : decode cX12_keep 46 = .ok (.istore_n 1, 1) := by decide +kernel
theorem dX12_keep_47 : decode cX12_keep 47 = .ok (.iload_n 1, 1) := by decide +kernel
theorem dX12_keep_48 : decode cX12_keep 48 = .ok (.bipush 96, 2) := by decide +kernel
theorem dX12_keep_50 : decode cX12_keep 50 = .ok (.if_icmp .ge 21, 3) := by decide +kernel
theorem dX12_keep_53 : decode cX12_keep 53 = .ok (.aload_n 0, 1) := by decide +kernel
theorem dX12_keep_54 : decode cX12_keep 54 = .ok (.getfield 171, 3) := by decide +kernel
theorem dX12_keep_57 : decode cX12_keep 57 = .ok (.iload_n 1, 1) := by decide +kernel
theorem dX12_keep_58 : decode cX12_keep 58 = .ok (.aload_n 0, 1) := by decide +kernel
theorem dX12_keep_59 : decode cX12_keep 59 = .ok (.getfield 7, 3) := by decide +kernel
theorem dX12_keep_62 : decode cX12_keep 62 = .ok (.iload_n 1, 1) := by decide +kernel
theorem dX12_keep_63 : decode cX12_keep 63 = .ok (.baload, 1) := by decide +kernel
theorem dX12_keep_64 : decode cX12_keep 64 = .ok (.bastore, 1) := by decide +kernel
theorem dX12_keep_65 : decode cX12_keep 65 = .ok (.iinc 1 1, 3) := by decide +kernel
theorem dX12_keep_68 : decode cX12_keep 68 = .ok (.goto (-21), 3) := by decide +kernel
theorem dX12_keep_71 : decode cX12_keep 71 = .ok (.aload_n 0, 1) := by decide +kernel
theorem dX12_keep_72 : decode cX12_keep 72 = .ok (.getfield 13, 3) := by decide +kernel
theorem dX12_keep_75 : decode cX12_keep 75 = .ok (.aload_n 0, 1) := by decide +kernel
theorem dX12_keep_76 : decode cX12_keep 76 = .ok (.getfield 174, 3) := by decide +kernel
theorem dX12_keep_79 : decode cX12_keep 79 = .ok (.bipush 96, 2) := by decide +kernel
theorem dX12_keep_81 : decode cX12_keep 81 = .ok (.invokestatic 532, 3) := by decide +kernel
theorem dX12_keep_84 : decode cX12_keep 84 = .ok (.aload_n 0, 1) := by decide +kernel
theorem dX12_keep_85 : decode cX12_keep 85 = .ok (.getfield 17, 3) := by decide +kernel
theorem dX12_keep_88 : decode cX12_keep 88 = .ok (.aload_n 0, 1) := by decide +kernel
theorem dX12_keep_89 : decode cX12_keep 89 = .ok (.getfield 177, 3) := by decide +kernel
theorem dX12_keep_92 : decode cX12_keep 92 = .ok (.bipush 96, 2) := by decide +kernel
theorem dX12_keep_94 : decode cX12_keep 94 = .ok (.invokestatic 532, 3) := by decide +kernel
theorem dX12_keep_97 : decode cX12_keep 97 = .ok (.aload_n 0, 1) := by decide +kernel
theorem dX12_keep_98 : decode cX12_keep 98 = .ok (.getfield 20, 3) := by decide +kernel
theorem dX12_keep_101 : decode cX12_keep 101 = .ok (.aload_n 0, 1) := by decide +kernel
theorem dX12_keep_102 : decode cX12_keep 102 = .ok (.getfield 180, 3) := by decide +kernel
theorem dX12_keep_105 : decode cX12_keep 105 = .ok (.bipush 16, 2) := by decide +kernel
theorem dX12_keep_107 : decode cX12_keep 107 = .ok (.invokestatic 532, 3) := by decide +kernel
theorem dX12_keep_110 : decode cX12_keep 110 = .ok (.aload_n 0, 1) := by decide +kernel
theorem dX12_keep_111 : decode cX12_keep 111 = .ok (.getfield 23, 3) := by decide +kernel
theorem dX12_keep_114 : decode cX12_keep 114 = .ok (.aload_n 0, 1) := by decide +kernel
theorem dX12_keep_115 : decode cX12_keep 115 = .ok (.getfield 183, 3) := by decide +kernel
theorem dX12_keep_118 : decode cX12_keep 118 = .ok (.bipush 16, 2) := by decide +kernel
theorem dX12_keep_120 : decode cX12_keep 120 = .ok (.invokestatic 532, 3) := by decide +kernel
theorem dX12_keep_123 : decode cX12_keep 123 = .ok (.aload_n 0, 1) := by decide +kernel
theorem dX12_keep_124 : decode cX12_keep 124 = .ok (.getfield 26, 3) := by decide +kernel
theorem dX12_keep_127 : decode cX12_keep 127 = .ok (.aload_n 0, 1) := by decide +kernel
theorem dX12_keep_128 : decode cX12_keep 128 = .ok (.getfield 186, 3) := by decide +kernel
theorem dX12_keep_131 : decode cX12_keep 131 = .ok (.bipush 16, 2) := by decide +kernel
theorem dX12_keep_133 : decode cX12_keep 133 = .ok (.invokestatic 532, 3) := by decide +kernel
theorem dX12_keep_136 : decode cX12_keep 136 = .ok (.aload_n 0, 1) := by decide +kernel
theorem dX12_keep_137 : decode cX12_keep 137 = .ok (.getfield 29, 3) := by decide +kernel
theorem dX12_keep_140 : decode cX12_keep 140 = .ok (.aload_n 0, 1) := by decide +kernel
theorem dX12_keep_141 : decode cX12_keep 141 = .ok (.getfield 189, 3) := by decide +kernel
theorem dX12_keep_144 : decode cX12_keep 144 = .ok (.iconst 4, 1) := by decide +kernel
theorem dX12_keep_145 : decode cX12_keep 145 = .ok (.invokestatic 532, 3) := by decide +kernel
theorem dX12_keep_148 : decode cX12_keep 148 = .ok (.aload_n 0, 1) := by decide +kernel
theorem dX12_keep_149 : decode cX12_keep 149 = .ok (.getfield 32, 3) := by decide +kernel
theorem dX12_keep_152 : decode cX12_keep 152 = .ok (.aload_n 0, 1) := by decide +kernel
theorem dX12_keep_153 : decode cX12_keep 153 = .ok (.getfield 192, 3) := by decide +kernel
theorem dX12_keep_156 : decode cX12_keep 156 = .ok (.bipush 10, 2) := by decide +kernel
theorem dX12_keep_158 : decode cX12_keep 158 = .ok (.invokestatic 532, 3) := by decide +kernel
theorem dX12_keep_161 : decode cX12_keep 161 = .ok (.aload_n 0, 1) := by decide +kernel
theorem dX12_keep_162 : decode cX12_keep 162 = .ok (.getfield 35, 3) := by decide +kernel
theorem dX12_keep_165 : decode cX12_keep 165 = .ok (.aload_n 0, 1) := by decide +kernel
theorem dX12_keep_166 : decode cX12_keep 166 = .ok (.getfield 195, 3) := by decide +kernel
theorem dX12_keep_169 : decode cX12_keep 169 = .ok (.bipush 40, 2) := by decide +kernel
theorem dX12_keep_171 : decode cX12_keep 171 = .ok (.invokestatic 532, 3) := by decide +kernel
theorem dX12_keep_174 : decode cX12_keep 174 = .ok (.aload_n 0, 1) := by decide +kernel
theorem dX12_keep_175 : decode cX12_keep 175 = .ok (.getfield 159, 3) := by decide +kernel
theorem dX12_keep_178 : decode cX12_keep 178 = .ok (.aload_n 0, 1) := by decide +kernel
theorem dX12_keep_179 : decode cX12_keep 179 = .ok (.getfield 198, 3) := by decide +kernel
theorem dX12_keep_182 : decode cX12_keep 182 = .ok (.bipush 10, 2) := by decide +kernel
theorem dX12_keep_184 : decode cX12_keep 184 = .ok (.invokestatic 532, 3) := by decide +kernel
theorem dX12_keep_187 : decode cX12_keep 187 = .ok (.aload_n 0, 1) := by decide +kernel
theorem dX12_keep_188 : decode cX12_keep 188 = .ok (.getfield 162, 3) := by decide +kernel
theorem dX12_keep_191 : decode cX12_keep 191 = .ok (.aload_n 0, 1) := by decide +kernel
theorem dX12_keep_192 : decode cX12_keep 192 = .ok (.getfield 201, 3) := by decide +kernel
theorem dX12_keep_195 : decode cX12_keep 195 = .ok (.bipush 16, 2) := by decide +kernel
theorem dX12_keep_197 : decode cX12_keep 197 = .ok (.invokestatic 532, 3) := by decide +kernel
theorem dX12_keep_200 : decode cX12_keep 200 = .ok (.aload_n 0, 1) := by decide +kernel
theorem dX12_keep_201 : decode cX12_keep 201 = .ok (.getfield 165, 3) := by decide +kernel
theorem dX12_keep_204 : decode cX12_keep 204 = .ok (.aload_n 0, 1) := by decide +kernel
theorem dX12_keep_205 : decode cX12_keep 205 = .ok (.getfield 204, 3) := by decide +kernel
theorem dX12_keep_208 : decode cX12_keep 208 = .ok (.bipush 32, 2) := by decide +kernel
theorem dX12_keep_210 : decode cX12_keep 210 = .ok (.invokestatic 532, 3) := by decide +kernel
theorem dX12_keep_213 : decode cX12_keep 213 = .ok (.aload_n 0, 1) := by decide +kernel
theorem dX12_keep_214 : decode cX12_keep 214 = .ok (.getfield 505, 3) := by decide +kernel
theorem dX12_keep_217 : decode cX12_keep 217 = .ok (.ireturn, 1) := by decide +kernel
def ok_X12_keep_47 (K : ro_K)  : ro_Mem → Prop := fun e => ro_X K 71 [(0, .ref (ro_ad (kG K) 207))] [] e
def fb_X12_keep_47  (rec : (Int32 × ro_Mem) → Option ro_Mem) (v1 : Int32) (μ : ro_Mem) : Option ro_Mem :=
  if 96 ≤ v1 then
  (some μ)
  else
  (if ro_in v1 96 then
  (ro_lt (ro_set μ 261 v1.toNatClampNeg (vp_nar .boolean (μ 208 v1.toNatClampNeg))) fun m15 =>
  rec (v1 + 1, m15)) else none)
theorem bb_X12_keep_47 {K : ro_K} (hK : ro_C K RX12 cX12_keep 2 1) (hR : ro_R K (some .int))   {μ : ro_Mem} {rec : (Int32 × ro_Mem) → Option ro_Mem} {v1 : Int32} {q : ro_Mem} (hrec : ∀ (s : Int32 × ro_Mem) (q : ro_Mem), rec s = some q → ok_X12_keep_47 K q → ro_X K 47 [(0, .ref (ro_ad (kG K) 207)), (1, .int s.1)] [] s.2) (hf : fb_X12_keep_47 rec v1 μ = some q) (hq : ok_X12_keep_47 K q) : ro_X K 47 [(0, .ref (ro_ad (kG K) 207)), (1, .int v1)] [] μ := by
  unfold fb_X12_keep_47 at hf
  refine ro_iload_n hK 1 rfl dX12_keep_47 rfl ?_
  refine ro_bipush (v := 96) hK dX12_keep_48 (by decide) ?_
  refine ro_icmp_ge hK 71 dX12_keep_50 (by decide) (fun c13 => ?_) (fun c13 => ?_)
  · have hf := ro_it hf c13
    refine ro_sub (L' := [(0, .ref (ro_ad (kG K) 207))]) [0] rfl ?_
    obtain rfl := Option.some.inj hf
    exact hq
  · have hf := ro_ie hf c13
    refine ro_aload_n hK 0 rfl dX12_keep_53 rfl ?_
    refine ro_getr hK fl_X12_171 sh_207 dX12_keep_54 ?_
    refine ro_iload_n hK 1 rfl dX12_keep_57 rfl ?_
    refine ro_aload_n hK 0 rfl dX12_keep_58 rfl ?_
    refine ro_getr hK fl_X12_7 sh_207 dX12_keep_59 ?_
    refine ro_iload_n hK 1 rfl dX12_keep_62 rfl ?_
    obtain ⟨g14, hf⟩ := ro_gd hf
    refine ro_zald hK sh_208 g14 dX12_keep_63 ?_
    obtain ⟨m15, e16, hf⟩ := ro_ld hf
    refine ro_zast hK sh_261 g14 dX12_keep_64 ?_
    refine ro_mv e16 ?_
    refine ro_iinc (v := v1 + 1) (L' := [(1, .int (v1 + 1)), (0, .ref (ro_ad (kG K) 207))]) hK 1 rfl dX12_keep_65 rfl (by decide) rfl ?_
    refine ro_goto hK 47 dX12_keep_68 (by decide) ?_
    refine ro_sub (L' := [(0, .ref (ro_ad (kG K) 207)), (1, .int (v1 + 1))]) [1, 0] rfl ?_
    exact hrec (v1 + 1, m15) _ hf hq
def fl_X12_keep_47  : (Int32 × ro_Mem) → Option ro_Mem :=
  ro_loop (fun rec s => fb_X12_keep_47 rec s.1 s.2) ro_FU
theorem lp_X12_keep_47 {K : ro_K} (hK : ro_C K RX12 cX12_keep 2 1) (hR : ro_R K (some .int))   {s : Int32 × ro_Mem} {q : ro_Mem} (hf : fl_X12_keep_47 s = some q) (hq : ok_X12_keep_47 K q) : ro_X K 47 [(0, .ref (ro_ad (kG K) 207)), (1, .int s.1)] [] s.2 :=
  ro_loopX (b := fun rec s => fb_X12_keep_47 rec s.1 s.2) (X := fun s => ro_X K 47 [(0, .ref (ro_ad (kG K) 207)), (1, .int s.1)] [] s.2) (OK := ok_X12_keep_47 K) (fun rec s q hrec hb ho => bb_X12_keep_47 hK hR  hrec hb ho) ro_FU s q hf hq
def fn_X12_keep (μ : ro_Mem) : Option (Int32 × ro_Mem) :=
  ro_lt (ro_set μ 207 76 1) fun m1 =>
  ro_lt (ro_set m1 207 77 (m1 207 0)) fun m3 =>
  ro_lt (ro_set m3 207 78 (m3 207 1)) fun m5 =>
  ro_lt (ro_set m5 207 79 (m5 207 2)) fun m7 =>
  ro_lt (ro_set m7 207 80 (m7 207 70)) fun m9 =>
  ro_lt (ro_set m9 207 81 (m9 207 71)) fun m11 =>
  (fl_X12_keep_47  (0, m11)).bind fun q17 =>
  (fn_X12_copies 209 262 96 q17).bind fun q19 =>
  (fn_X12_copies 210 263 96 q19).bind fun q21 =>
  (fn_X12_copies 211 264 16 q21).bind fun q23 =>
  (fn_X12_copies 212 265 16 q23).bind fun q25 =>
  (fn_X12_copies 213 266 16 q25).bind fun q27 =>
  (fn_X12_copies 214 267 4 q27).bind fun q29 =>
  (fn_X12_copies 215 268 10 q29).bind fun q31 =>
  (fn_X12_copies 216 269 40 q31).bind fun q33 =>
  (fn_X12_copies 257 270 10 q33).bind fun q35 =>
  (fn_X12_copies 258 271 16 q35).bind fun q37 =>
  (fn_X12_copies 259 272 32 q37).bind fun q39 =>
  some (q39 207 70, q39)
theorem be_X12_keep {K : ro_K} (hK : ro_C K RX12 cX12_keep 2 1) (hR : ro_R K (some .int))   {μ : ro_Mem} {out : Int32 × ro_Mem} (hf : fn_X12_keep μ = some out) (hq : kQ K (some (.int out.1)) out.2) : ro_X K 0 [(0, .ref (ro_ad (kG K) 207))] [] μ := by
  unfold fn_X12_keep at hf
  refine ro_aload_n hK 0 rfl dX12_keep_0 rfl ?_
  refine ro_iconst (v := 1) hK dX12_keep_1 (by decide) ?_
  obtain ⟨m1, e2, hf⟩ := ro_ld hf
  refine ro_putz hK fl_X12_513 sh_207 (by decide) dX12_keep_2 ?_
  refine ro_mv e2 ?_
  refine ro_aload_n hK 0 rfl dX12_keep_5 rfl ?_
  refine ro_aload_n hK 0 rfl dX12_keep_6 rfl ?_
  refine ro_geti hK fl_X12_207 sh_207 dX12_keep_7 ?_
  obtain ⟨m3, e4, hf⟩ := ro_ld hf
  refine ro_puti hK fl_X12_517 sh_207 rfl rfl dX12_keep_10 ?_
  refine ro_mv e4 ?_
  refine ro_aload_n hK 0 rfl dX12_keep_13 rfl ?_
  refine ro_aload_n hK 0 rfl dX12_keep_14 rfl ?_
  refine ro_geti hK fl_X12_219 sh_207 dX12_keep_15 ?_
  obtain ⟨m5, e6, hf⟩ := ro_ld hf
  refine ro_puti hK fl_X12_520 sh_207 rfl rfl dX12_keep_18 ?_
  refine ro_mv e6 ?_
  refine ro_aload_n hK 0 rfl dX12_keep_21 rfl ?_
  refine ro_aload_n hK 0 rfl dX12_keep_22 rfl ?_
  refine ro_geti hK fl_X12_232 sh_207 dX12_keep_23 ?_
  obtain ⟨m7, e8, hf⟩ := ro_ld hf
  refine ro_puti hK fl_X12_523 sh_207 rfl rfl dX12_keep_26 ?_
  refine ro_mv e8 ?_
  refine ro_aload_n hK 0 rfl dX12_keep_29 rfl ?_
  refine ro_aload_n hK 0 rfl dX12_keep_30 rfl ?_
  refine ro_geti hK fl_X12_505 sh_207 dX12_keep_31 ?_
  obtain ⟨m9, e10, hf⟩ := ro_ld hf
  refine ro_puti hK fl_X12_526 sh_207 rfl rfl dX12_keep_34 ?_
  refine ro_mv e10 ?_
  refine ro_aload_n hK 0 rfl dX12_keep_37 rfl ?_
  refine ro_aload_n hK 0 rfl dX12_keep_38 rfl ?_
  refine ro_geti hK fl_X12_502 sh_207 dX12_keep_39 ?_
  obtain ⟨m11, e12, hf⟩ := ro_ld hf
  refine ro_puti hK fl_X12_529 sh_207 rfl rfl dX12_keep_42 ?_
  refine ro_mv e12 ?_
  refine ro_iconst (v := 0) hK dX12_keep_45 (by decide) ?_
  refine ro_istore_n (L' := [(1, .int 0), (0, .ref (ro_ad (kG K) 207))]) hK dX12_keep_46 rfl (by decide) rfl ?_
  obtain ⟨q17, e18, hf⟩ := ro_bd hf
  refine ro_sub (L' := [(0, .ref (ro_ad (kG K) 207)), (1, .int 0)]) [1, 0] rfl ?_
  refine lp_X12_keep_47 hK hR  e18 ?_
  show ro_X K 71 [(0, .ref (ro_ad (kG K) 207))] [] q17
  refine ro_aload_n hK 0 rfl dX12_keep_71 rfl ?_
  refine ro_getr hK fl_X12_13 sh_207 dX12_keep_72 ?_
  refine ro_aload_n hK 0 rfl dX12_keep_75 rfl ?_
  refine ro_getr hK fl_X12_174 sh_207 dX12_keep_76 ?_
  refine ro_bipush (v := 96) hK dX12_keep_79 (by decide) ?_
  obtain ⟨q19, e20, hf⟩ := ro_bd hf
  refine ro_callsv hK [.ref (ro_ad (kG K) 209), .ref (ro_ad (kG K) 262), .int 96] ml_X12_532 ms_X12_copies (mt_X12_copies (kl K) (kG K) (ro_shl sh_209) (ro_shl sh_262) e20) (by decide) rfl rfl (Nat.le_of_ble_eq_true rfl) dX12_keep_81 ?_
  refine ro_aload_n hK 0 rfl dX12_keep_84 rfl ?_
  refine ro_getr hK fl_X12_17 sh_207 dX12_keep_85 ?_
  refine ro_aload_n hK 0 rfl dX12_keep_88 rfl ?_
  refine ro_getr hK fl_X12_177 sh_207 dX12_keep_89 ?_
  refine ro_bipush (v := 96) hK dX12_keep_92 (by decide) ?_
  obtain ⟨q21, e22, hf⟩ := ro_bd hf
  refine ro_callsv hK [.ref (ro_ad (kG K) 210), .ref (ro_ad (kG K) 263), .int 96] ml_X12_532 ms_X12_copies (mt_X12_copies (kl K) (kG K) (ro_shl sh_210) (ro_shl sh_263) e22) (by decide) rfl rfl (Nat.le_of_ble_eq_true rfl) dX12_keep_94 ?_
  refine ro_aload_n hK 0 rfl dX12_keep_97 rfl ?_
  refine ro_getr hK fl_X12_20 sh_207 dX12_keep_98 ?_
  refine ro_aload_n hK 0 rfl dX12_keep_101 rfl ?_
  refine ro_getr hK fl_X12_180 sh_207 dX12_keep_102 ?_
  refine ro_bipush (v := 16) hK dX12_keep_105 (by decide) ?_
  obtain ⟨q23, e24, hf⟩ := ro_bd hf
  refine ro_callsv hK [.ref (ro_ad (kG K) 211), .ref (ro_ad (kG K) 264), .int 16] ml_X12_532 ms_X12_copies (mt_X12_copies (kl K) (kG K) (ro_shl sh_211) (ro_shl sh_264) e24) (by decide) rfl rfl (Nat.le_of_ble_eq_true rfl) dX12_keep_107 ?_
  refine ro_aload_n hK 0 rfl dX12_keep_110 rfl ?_
  refine ro_getr hK fl_X12_23 sh_207 dX12_keep_111 ?_
  refine ro_aload_n hK 0 rfl dX12_keep_114 rfl ?_
  refine ro_getr hK fl_X12_183 sh_207 dX12_keep_115 ?_
  refine ro_bipush (v := 16) hK dX12_keep_118 (by decide) ?_
  obtain ⟨q25, e26, hf⟩ := ro_bd hf
  refine ro_callsv hK [.ref (ro_ad (kG K) 212), .ref (ro_ad (kG K) 265), .int 16] ml_X12_532 ms_X12_copies (mt_X12_copies (kl K) (kG K) (ro_shl sh_212) (ro_shl sh_265) e26) (by decide) rfl rfl (Nat.le_of_ble_eq_true rfl) dX12_keep_120 ?_
  refine ro_aload_n hK 0 rfl dX12_keep_123 rfl ?_
  refine ro_getr hK fl_X12_26 sh_207 dX12_keep_124 ?_
  refine ro_aload_n hK 0 rfl dX12_keep_127 rfl ?_
  refine ro_getr hK fl_X12_186 sh_207 dX12_keep_128 ?_
  refine ro_bipush (v := 16) hK dX12_keep_131 (by decide) ?_
  obtain ⟨q27, e28, hf⟩ := ro_bd hf
  refine ro_callsv hK [.ref (ro_ad (kG K) 213), .ref (ro_ad (kG K) 266), .int 16] ml_X12_532 ms_X12_copies (mt_X12_copies (kl K) (kG K) (ro_shl sh_213) (ro_shl sh_266) e28) (by decide) rfl rfl (Nat.le_of_ble_eq_true rfl) dX12_keep_133 ?_
  refine ro_aload_n hK 0 rfl dX12_keep_136 rfl ?_
  refine ro_getr hK fl_X12_29 sh_207 dX12_keep_137 ?_
  refine ro_aload_n hK 0 rfl dX12_keep_140 rfl ?_
  refine ro_getr hK fl_X12_189 sh_207 dX12_keep_141 ?_
  refine ro_iconst (v := 4) hK dX12_keep_144 (by decide) ?_
  obtain ⟨q29, e30, hf⟩ := ro_bd hf
  refine ro_callsv hK [.ref (ro_ad (kG K) 214), .ref (ro_ad (kG K) 267), .int 4] ml_X12_532 ms_X12_copies (mt_X12_copies (kl K) (kG K) (ro_shl sh_214) (ro_shl sh_267) e30) (by decide) rfl rfl (Nat.le_of_ble_eq_true rfl) dX12_keep_145 ?_
  refine ro_aload_n hK 0 rfl dX12_keep_148 rfl ?_
  refine ro_getr hK fl_X12_32 sh_207 dX12_keep_149 ?_
  refine ro_aload_n hK 0 rfl dX12_keep_152 rfl ?_
  refine ro_getr hK fl_X12_192 sh_207 dX12_keep_153 ?_
  refine ro_bipush (v := 10) hK dX12_keep_156 (by decide) ?_
  obtain ⟨q31, e32, hf⟩ := ro_bd hf
  refine ro_callsv hK [.ref (ro_ad (kG K) 215), .ref (ro_ad (kG K) 268), .int 10] ml_X12_532 ms_X12_copies (mt_X12_copies (kl K) (kG K) (ro_shl sh_215) (ro_shl sh_268) e32) (by decide) rfl rfl (Nat.le_of_ble_eq_true rfl) dX12_keep_158 ?_
  refine ro_aload_n hK 0 rfl dX12_keep_161 rfl ?_
  refine ro_getr hK fl_X12_35 sh_207 dX12_keep_162 ?_
  refine ro_aload_n hK 0 rfl dX12_keep_165 rfl ?_
  refine ro_getr hK fl_X12_195 sh_207 dX12_keep_166 ?_
  refine ro_bipush (v := 40) hK dX12_keep_169 (by decide) ?_
  obtain ⟨q33, e34, hf⟩ := ro_bd hf
  refine ro_callsv hK [.ref (ro_ad (kG K) 216), .ref (ro_ad (kG K) 269), .int 40] ml_X12_532 ms_X12_copies (mt_X12_copies (kl K) (kG K) (ro_shl sh_216) (ro_shl sh_269) e34) (by decide) rfl rfl (Nat.le_of_ble_eq_true rfl) dX12_keep_171 ?_
  refine ro_aload_n hK 0 rfl dX12_keep_174 rfl ?_
  refine ro_getr hK fl_X12_159 sh_207 dX12_keep_175 ?_
  refine ro_aload_n hK 0 rfl dX12_keep_178 rfl ?_
  refine ro_getr hK fl_X12_198 sh_207 dX12_keep_179 ?_
  refine ro_bipush (v := 10) hK dX12_keep_182 (by decide) ?_
  obtain ⟨q35, e36, hf⟩ := ro_bd hf
  refine ro_callsv hK [.ref (ro_ad (kG K) 257), .ref (ro_ad (kG K) 270), .int 10] ml_X12_532 ms_X12_copies (mt_X12_copies (kl K) (kG K) (ro_shl sh_257) (ro_shl sh_270) e36) (by decide) rfl rfl (Nat.le_of_ble_eq_true rfl) dX12_keep_184 ?_
  refine ro_aload_n hK 0 rfl dX12_keep_187 rfl ?_
  refine ro_getr hK fl_X12_162 sh_207 dX12_keep_188 ?_
  refine ro_aload_n hK 0 rfl dX12_keep_191 rfl ?_
  refine ro_getr hK fl_X12_201 sh_207 dX12_keep_192 ?_
  refine ro_bipush (v := 16) hK dX12_keep_195 (by decide) ?_
  obtain ⟨q37, e38, hf⟩ := ro_bd hf
  refine ro_callsv hK [.ref (ro_ad (kG K) 258), .ref (ro_ad (kG K) 271), .int 16] ml_X12_532 ms_X12_copies (mt_X12_copies (kl K) (kG K) (ro_shl sh_258) (ro_shl sh_271) e38) (by decide) rfl rfl (Nat.le_of_ble_eq_true rfl) dX12_keep_197 ?_
  refine ro_aload_n hK 0 rfl dX12_keep_200 rfl ?_
  refine ro_getr hK fl_X12_165 sh_207 dX12_keep_201 ?_
  refine ro_aload_n hK 0 rfl dX12_keep_204 rfl ?_
  refine ro_getr hK fl_X12_204 sh_207 dX12_keep_205 ?_
  refine ro_bipush (v := 32) hK dX12_keep_208 (by decide) ?_
  obtain ⟨q39, e40, hf⟩ := ro_bd hf
  refine ro_callsv hK [.ref (ro_ad (kG K) 259), .ref (ro_ad (kG K) 272), .int 32] ml_X12_532 ms_X12_copies (mt_X12_copies (kl K) (kG K) (ro_shl sh_259) (ro_shl sh_272) e40) (by decide) rfl rfl (Nat.le_of_ble_eq_true rfl) dX12_keep_210 ?_
  refine ro_aload_n hK 0 rfl dX12_keep_213 rfl ?_
  refine ro_geti hK fl_X12_505 sh_207 dX12_keep_214 ?_
  obtain rfl := Option.some.inj hf
  exact ro_iret hK hR dX12_keep_217 hq
theorem mt_X12_keep (l : Launch) (G : ro_G)   {μ : ro_Mem} {out : Int32 × ro_Mem} (hf : fn_X12_keep μ = some out) : ro_MX l G yX12_keep cX12_keep 2 (some .int) 1 [.ref (ro_ad G 207)] μ (some (.int out.1)) out.2 := by
  refine ro_MX.of (by decide +kernel) (Nat.le_of_ble_eq_true rfl) (fun K hG hl hq hK hR => ?_)
  subst hG
  exact be_X12_keep hK hR  hf hq
-- ===== X12_undo =====
theorem dX12_undo_0 : decode cX12_undo 0 = .ok (.aload_n 0, 1) := by decide +kernel
theorem dX12_undo_1 : decode cX12_undo 1 = .ok (.getfield 513, 3) := by decide +kernel
theorem dX12_undo_4 : decode cX12_undo 4 = .ok (.ifCond .ne 5, 3) := by decide +kernel
theorem dX12_undo_7 : decode cX12_undo 7 = .ok (.iconst 0, 1) := by decide +kernel
theorem dX12_undo_8 : decode cX12_undo 8 = .ok (.ireturn, 1) := by decide +kernel
theorem dX12_undo_9 : decode cX12_undo 9 = .ok (.aload_n 0, 1) := by decide +kernel
theorem dX12_undo_10 : decode cX12_undo 10 = .ok (.aload_n 0, 1) := by decide +kernel
theorem dX12_undo_11 : decode cX12_undo 11 = .ok (.getfield 517, 3) := by decide +kernel
theorem dX12_undo_14 : decode cX12_undo 14 = .ok (.putfield 207, 3) := by decide +kernel
theorem dX12_undo_17 : decode cX12_undo 17 = .ok (.aload_n 0, 1) := by decide +kernel
theorem dX12_undo_18 : decode cX12_undo 18 = .ok (.aload_n 0, 1) := by decide +kernel
theorem dX12_undo_19 : decode cX12_undo 19 = .ok (.getfield 520, 3) := by decide +kernel
theorem dX12_undo_22 : decode cX12_undo 22 = .ok (.putfield 219, 3) := by decide +kernel
theorem dX12_undo_25 : decode cX12_undo 25 = .ok (.aload_n 0, 1) := by decide +kernel
theorem dX12_undo_26 : decode cX12_undo 26 = .ok (.aload_n 0, 1) := by decide +kernel
theorem dX12_undo_27 : decode cX12_undo 27 = .ok (.getfield 523, 3) := by decide +kernel
theorem dX12_undo_30 : decode cX12_undo 30 = .ok (.putfield 232, 3) := by decide +kernel
theorem dX12_undo_33 : decode cX12_undo 33 = .ok (.aload_n 0, 1) := by decide +kernel
theorem dX12_undo_34 : decode cX12_undo 34 = .ok (.aload_n 0, 1) := by decide +kernel
theorem dX12_undo_35 : decode cX12_undo 35 = .ok (.getfield 526, 3) := by decide +kernel
theorem dX12_undo_38 : decode cX12_undo 38 = .ok (.putfield 505, 3) := by decide +kernel
theorem dX12_undo_41 : decode cX12_undo 41 = .ok (.aload_n 0, 1) := by decide +kernel
theorem dX12_undo_42 : decode cX12_undo 42 = .ok (.aload_n 0, 1) := by decide +kernel
theorem dX12_undo_43 : decode cX12_undo 43 = .ok (.getfield 529, 3) := by decide +kernel
theorem dX12_undo_46 : decode cX12_undo 46 = .ok (.putfield 502, 3) := by decide +kernel
theorem dX12_undo_49 : decode cX12_undo 49 = .ok (.iconst 0, 1) := by decide +kernel
theorem dX12_undo_50 : decode cX12_undo 50 = .ok (.istore_n 1, 1) := by decide +kernel
theorem dX12_undo_51 : decode cX12_undo 51 = .ok (.iload_n 1, 1) := by decide +kernel
theorem dX12_undo_52 : decode cX12_undo 52 = .ok (.bipush 96, 2) := by decide +kernel
theorem dX12_undo_54 : decode cX12_undo 54 = .ok (.if_icmp .ge 21, 3) := by decide +kernel
theorem dX12_undo_57 : decode cX12_undo 57 = .ok (.aload_n 0, 1) := by decide +kernel
theorem dX12_undo_58 : decode cX12_undo 58 = .ok (.getfield 7, 3) := by decide +kernel
theorem dX12_undo_61 : decode cX12_undo 61 = .ok (.iload_n 1, 1) := by decide +kernel
theorem dX12_undo_62 : decode cX12_undo 62 = .ok (.aload_n 0, 1) := by decide +kernel
theorem dX12_undo_63 : decode cX12_undo 63 = .ok (.getfield 171, 3) := by decide +kernel
theorem dX12_undo_66 : decode cX12_undo 66 = .ok (.iload_n 1, 1) := by decide +kernel
theorem dX12_undo_67 : decode cX12_undo 67 = .ok (.baload, 1) := by decide +kernel
theorem dX12_undo_68 : decode cX12_undo 68 = .ok (.bastore, 1) := by decide +kernel
theorem dX12_undo_69 : decode cX12_undo 69 = .ok (.iinc 1 1, 3) := by decide +kernel
theorem dX12_undo_72 : decode cX12_undo 72 = .ok (.goto (-21), 3) := by decide +kernel
theorem dX12_undo_75 : decode cX12_undo 75 = .ok (.aload_n 0, 1) := by decide +kernel
theorem dX12_undo_76 : decode cX12_undo 76 = .ok (.getfield 174, 3) := by decide +kernel
theorem dX12_undo_79 : decode cX12_undo 79 = .ok (.aload_n 0, 1) := by decide +kernel
theorem dX12_undo_80 : decode cX12_undo 80 = .ok (.getfield 13, 3) := by decide +kernel
theorem dX12_undo_83 : decode cX12_undo 83 = .ok (.bipush 96, 2) := by decide +kernel
theorem dX12_undo_85 : decode cX12_undo 85 = .ok (.invokestatic 532, 3) := by decide +kernel
theorem dX12_undo_88 : decode cX12_undo 88 = .ok (.aload_n 0, 1) := by decide +kernel
theorem dX12_undo_89 : decode cX12_undo 89 = .ok (.getfield 177, 3) := by decide +kernel
theorem dX12_undo_92 : decode cX12_undo 92 = .ok (.aload_n 0, 1) := by decide +kernel
theorem dX12_undo_93 : decode cX12_undo 93 = .ok (.getfield 17, 3) := by decide +kernel
theorem dX12_undo_96 : decode cX12_undo 96 = .ok (.bipush 96, 2) := by decide +kernel
theorem dX12_undo_98 : decode cX12_undo 98 = .ok (.invokestatic 532, 3) := by decide +kernel
theorem dX12_undo_101 : decode cX12_undo 101 = .ok (.aload_n 0, 1) := by decide +kernel
theorem dX12_undo_102 : decode cX12_undo 102 = .ok (.getfield 180, 3) := by decide +kernel
theorem dX12_undo_105 : decode cX12_undo 105 = .ok (.aload_n 0, 1) := by decide +kernel
theorem dX12_undo_106 : decode cX12_undo 106 = .ok (.getfield 20, 3) := by decide +kernel
theorem dX12_undo_109 : decode cX12_undo 109 = .ok (.bipush 16, 2) := by decide +kernel
theorem dX12_undo_111 : decode cX12_undo 111 = .ok (.invokestatic 532, 3) := by decide +kernel
theorem dX12_undo_114 : decode cX12_undo 114 = .ok (.aload_n 0, 1) := by decide +kernel
theorem dX12_undo_115 : decode cX12_undo 115 = .ok (.getfield 183, 3) := by decide +kernel
theorem dX12_undo_118 : decode cX12_undo 118 = .ok (.aload_n 0, 1) := by decide +kernel
theorem dX12_undo_119 : decode cX12_undo 119 = .ok (.getfield 23, 3) := by decide +kernel
theorem dX12_undo_122 : decode cX12_undo 122 = .ok (.bipush 16, 2) := by decide +kernel
theorem dX12_undo_124 : decode cX12_undo 124 = .ok (.invokestatic 532, 3) := by decide +kernel
theorem dX12_undo_127 : decode cX12_undo 127 = .ok (.aload_n 0, 1) := by decide +kernel
theorem dX12_undo_128 : decode cX12_undo 128 = .ok (.getfield 186, 3) := by decide +kernel
theorem dX12_undo_131 : decode cX12_undo 131 = .ok (.aload_n 0, 1) := by decide +kernel
theorem dX12_undo_132 : decode cX12_undo 132 = .ok (.getfield 26, 3) := by decide +kernel
theorem dX12_undo_135 : decode cX12_undo 135 = .ok (.bipush 16, 2) := by decide +kernel
theorem dX12_undo_137 : decode cX12_undo 137 = .ok (.invokestatic 532, 3) := by decide +kernel
theorem dX12_undo_140 : decode cX12_undo 140 = .ok (.aload_n 0, 1) := by decide +kernel
theorem dX12_undo_141 : decode cX12_undo 141 = .ok (.getfield 189, 3) := by decide +kernel
theorem dX12_undo_144 : decode cX12_undo 144 = .ok (.aload_n 0, 1) := by decide +kernel
theorem dX12_undo_145 : decode cX12_undo 145 = .ok (.getfield 29, 3) := by decide +kernel
theorem dX12_undo_148 : decode cX12_undo 148 = .ok (.iconst 4, 1) := by decide +kernel
theorem dX12_undo_149 : decode cX12_undo 149 = .ok (.invokestatic 532, 3) := by decide +kernel
theorem dX12_undo_152 : decode cX12_undo 152 = .ok (.aload_n 0, 1) := by decide +kernel
theorem dX12_undo_153 : decode cX12_undo 153 = .ok (.getfield 192, 3) := by decide +kernel
theorem dX12_undo_156 : decode cX12_undo 156 = .ok (.aload_n 0, 1) := by decide +kernel
theorem dX12_undo_157 : decode cX12_undo 157 = .ok (.getfield 32, 3) := by decide +kernel
theorem dX12_undo_160 : decode cX12_undo 160 = .ok (.bipush 10, 2) := by decide +kernel
theorem dX12_undo_162 : decode cX12_undo 162 = .ok (.invokestatic 532, 3) := by decide +kernel
theorem dX12_undo_165 : decode cX12_undo 165 = .ok (.aload_n 0, 1) := by decide +kernel
theorem dX12_undo_166 : decode cX12_undo 166 = .ok (.getfield 195, 3) := by decide +kernel
theorem dX12_undo_169 : decode cX12_undo 169 = .ok (.aload_n 0, 1) := by decide +kernel
theorem dX12_undo_170 : decode cX12_undo 170 = .ok (.getfield 35, 3) := by decide +kernel
theorem dX12_undo_173 : decode cX12_undo 173 = .ok (.bipush 40, 2) := by decide +kernel
theorem dX12_undo_175 : decode cX12_undo 175 = .ok (.invokestatic 532, 3) := by decide +kernel
theorem dX12_undo_178 : decode cX12_undo 178 = .ok (.aload_n 0, 1) := by decide +kernel
theorem dX12_undo_179 : decode cX12_undo 179 = .ok (.getfield 198, 3) := by decide +kernel
theorem dX12_undo_182 : decode cX12_undo 182 = .ok (.aload_n 0, 1) := by decide +kernel
theorem dX12_undo_183 : decode cX12_undo 183 = .ok (.getfield 159, 3) := by decide +kernel
theorem dX12_undo_186 : decode cX12_undo 186 = .ok (.bipush 10, 2) := by decide +kernel
theorem dX12_undo_188 : decode cX12_undo 188 = .ok (.invokestatic 532, 3) := by decide +kernel
theorem dX12_undo_191 : decode cX12_undo 191 = .ok (.aload_n 0, 1) := by decide +kernel
theorem dX12_undo_192 : decode cX12_undo 192 = .ok (.getfield 201, 3) := by decide +kernel
theorem dX12_undo_195 : decode cX12_undo 195 = .ok (.aload_n 0, 1) := by decide +kernel
theorem dX12_undo_196 : decode cX12_undo 196 = .ok (.getfield 162, 3) := by decide +kernel
theorem dX12_undo_199 : decode cX12_undo 199 = .ok (.bipush 16, 2) := by decide +kernel
theorem dX12_undo_201 : decode cX12_undo 201 = .ok (.invokestatic 532, 3) := by decide +kernel
theorem dX12_undo_204 : decode cX12_undo 204 = .ok (.aload_n 0, 1) := by decide +kernel
theorem dX12_undo_205 : decode cX12_undo 205 = .ok (.getfield 204, 3) := by decide +kernel
theorem dX12_undo_208 : decode cX12_undo 208 = .ok (.aload_n 0, 1) := by decide +kernel
theorem dX12_undo_209 : decode cX12_undo 209 = .ok (.getfield 165, 3) := by decide +kernel
theorem dX12_undo_212 : decode cX12_undo 212 = .ok (.bipush 32, 2) := by decide +kernel
theorem dX12_undo_214 : decode cX12_undo 214 = .ok (.invokestatic 532, 3) := by decide +kernel
theorem dX12_undo_217 : decode cX12_undo 217 = .ok (.iconst 1, 1) := by decide +kernel
theorem dX12_undo_218 : decode cX12_undo 218 = .ok (.ireturn, 1) := by decide +kernel
def ok_X12_undo_51 (K : ro_K)  : ro_Mem → Prop := fun e => ro_X K 75 [(0, .ref (ro_ad (kG K) 207))] [] e
def fb_X12_undo_51  (rec : (Int32 × ro_Mem) → Option ro_Mem) (v1 : Int32) (μ : ro_Mem) : Option ro_Mem :=
  if 96 ≤ v1 then
  (some μ)
  else
  (if ro_in v1 96 then
  (ro_lt (ro_set μ 208 v1.toNatClampNeg (vp_nar .boolean (μ 261 v1.toNatClampNeg))) fun m14 =>
  rec (v1 + 1, m14)) else none)
theorem bb_X12_undo_51 {K : ro_K} (hK : ro_C K RX12 cX12_undo 2 1) (hR : ro_R K (some .boolean))   {μ : ro_Mem} {rec : (Int32 × ro_Mem) → Option ro_Mem} {v1 : Int32} {q : ro_Mem} (hrec : ∀ (s : Int32 × ro_Mem) (q : ro_Mem), rec s = some q → ok_X12_undo_51 K q → ro_X K 51 [(0, .ref (ro_ad (kG K) 207)), (1, .int s.1)] [] s.2) (hf : fb_X12_undo_51 rec v1 μ = some q) (hq : ok_X12_undo_51 K q) : ro_X K 51 [(0, .ref (ro_ad (kG K) 207)), (1, .int v1)] [] μ := by
  unfold fb_X12_undo_51 at hf
  refine ro_iload_n hK 1 rfl dX12_undo_51 rfl ?_
  refine ro_bipush (v := 96) hK dX12_undo_52 (by decide) ?_
  refine ro_icmp_ge hK 75 dX12_undo_54 (by decide) (fun c12 => ?_) (fun c12 => ?_)
  · have hf := ro_it hf c12
    refine ro_sub (L' := [(0, .ref (ro_ad (kG K) 207))]) [0] rfl ?_
    obtain rfl := Option.some.inj hf
    exact hq
  · have hf := ro_ie hf c12
    refine ro_aload_n hK 0 rfl dX12_undo_57 rfl ?_
    refine ro_getr hK fl_X12_7 sh_207 dX12_undo_58 ?_
    refine ro_iload_n hK 1 rfl dX12_undo_61 rfl ?_
    refine ro_aload_n hK 0 rfl dX12_undo_62 rfl ?_
    refine ro_getr hK fl_X12_171 sh_207 dX12_undo_63 ?_
    refine ro_iload_n hK 1 rfl dX12_undo_66 rfl ?_
    obtain ⟨g13, hf⟩ := ro_gd hf
    refine ro_zald hK sh_261 g13 dX12_undo_67 ?_
    obtain ⟨m14, e15, hf⟩ := ro_ld hf
    refine ro_zast hK sh_208 g13 dX12_undo_68 ?_
    refine ro_mv e15 ?_
    refine ro_iinc (v := v1 + 1) (L' := [(1, .int (v1 + 1)), (0, .ref (ro_ad (kG K) 207))]) hK 1 rfl dX12_undo_69 rfl (by decide) rfl ?_
    refine ro_goto hK 51 dX12_undo_72 (by decide) ?_
    refine ro_sub (L' := [(0, .ref (ro_ad (kG K) 207)), (1, .int (v1 + 1))]) [1, 0] rfl ?_
    exact hrec (v1 + 1, m14) _ hf hq
def fl_X12_undo_51  : (Int32 × ro_Mem) → Option ro_Mem :=
  ro_loop (fun rec s => fb_X12_undo_51 rec s.1 s.2) ro_FU
theorem lp_X12_undo_51 {K : ro_K} (hK : ro_C K RX12 cX12_undo 2 1) (hR : ro_R K (some .boolean))   {s : Int32 × ro_Mem} {q : ro_Mem} (hf : fl_X12_undo_51 s = some q) (hq : ok_X12_undo_51 K q) : ro_X K 51 [(0, .ref (ro_ad (kG K) 207)), (1, .int s.1)] [] s.2 :=
  ro_loopX (b := fun rec s => fb_X12_undo_51 rec s.1 s.2) (X := fun s => ro_X K 51 [(0, .ref (ro_ad (kG K) 207)), (1, .int s.1)] [] s.2) (OK := ok_X12_undo_51 K) (fun rec s q hrec hb ho => bb_X12_undo_51 hK hR  hrec hb ho) ro_FU s q hf hq
def fn_X12_undo (μ : ro_Mem) : Option (Int32 × ro_Mem) :=
  if (μ 207 76) = 0 then
  (some (0, μ))
  else
  (ro_lt (ro_set μ 207 0 (μ 207 77)) fun m2 =>
  ro_lt (ro_set m2 207 1 (m2 207 78)) fun m4 =>
  ro_lt (ro_set m4 207 2 (m4 207 79)) fun m6 =>
  ro_lt (ro_set m6 207 70 (m6 207 80)) fun m8 =>
  ro_lt (ro_set m8 207 71 (m8 207 81)) fun m10 =>
  (fl_X12_undo_51  (0, m10)).bind fun q16 =>
  (fn_X12_copies 262 209 96 q16).bind fun q18 =>
  (fn_X12_copies 263 210 96 q18).bind fun q20 =>
  (fn_X12_copies 264 211 16 q20).bind fun q22 =>
  (fn_X12_copies 265 212 16 q22).bind fun q24 =>
  (fn_X12_copies 266 213 16 q24).bind fun q26 =>
  (fn_X12_copies 267 214 4 q26).bind fun q28 =>
  (fn_X12_copies 268 215 10 q28).bind fun q30 =>
  (fn_X12_copies 269 216 40 q30).bind fun q32 =>
  (fn_X12_copies 270 257 10 q32).bind fun q34 =>
  (fn_X12_copies 271 258 16 q34).bind fun q36 =>
  (fn_X12_copies 272 259 32 q36).bind fun q38 =>
  some (1, q38))
theorem be_X12_undo {K : ro_K} (hK : ro_C K RX12 cX12_undo 2 1) (hR : ro_R K (some .boolean))   {μ : ro_Mem} {out : Int32 × ro_Mem} (hf : fn_X12_undo μ = some out) (hq : kQ K (some (.int out.1)) out.2) : ro_X K 0 [(0, .ref (ro_ad (kG K) 207))] [] μ := by
  unfold fn_X12_undo at hf
  refine ro_aload_n hK 0 rfl dX12_undo_0 rfl ?_
  refine ro_geti hK fl_X12_513 sh_207 dX12_undo_1 ?_
  refine ro_if_ne hK 9 dX12_undo_4 (by decide) (fun c1 => ?_) (fun c1 => ?_)
  · have hf := ro_ie hf c1
    refine ro_aload_n hK 0 rfl dX12_undo_9 rfl ?_
    refine ro_aload_n hK 0 rfl dX12_undo_10 rfl ?_
    refine ro_geti hK fl_X12_517 sh_207 dX12_undo_11 ?_
    obtain ⟨m2, e3, hf⟩ := ro_ld hf
    refine ro_puti hK fl_X12_207 sh_207 rfl rfl dX12_undo_14 ?_
    refine ro_mv e3 ?_
    refine ro_aload_n hK 0 rfl dX12_undo_17 rfl ?_
    refine ro_aload_n hK 0 rfl dX12_undo_18 rfl ?_
    refine ro_geti hK fl_X12_520 sh_207 dX12_undo_19 ?_
    obtain ⟨m4, e5, hf⟩ := ro_ld hf
    refine ro_puti hK fl_X12_219 sh_207 rfl rfl dX12_undo_22 ?_
    refine ro_mv e5 ?_
    refine ro_aload_n hK 0 rfl dX12_undo_25 rfl ?_
    refine ro_aload_n hK 0 rfl dX12_undo_26 rfl ?_
    refine ro_geti hK fl_X12_523 sh_207 dX12_undo_27 ?_
    obtain ⟨m6, e7, hf⟩ := ro_ld hf
    refine ro_puti hK fl_X12_232 sh_207 rfl rfl dX12_undo_30 ?_
    refine ro_mv e7 ?_
    refine ro_aload_n hK 0 rfl dX12_undo_33 rfl ?_
    refine ro_aload_n hK 0 rfl dX12_undo_34 rfl ?_
    refine ro_geti hK fl_X12_526 sh_207 dX12_undo_35 ?_
    obtain ⟨m8, e9, hf⟩ := ro_ld hf
    refine ro_puti hK fl_X12_505 sh_207 rfl rfl dX12_undo_38 ?_
    refine ro_mv e9 ?_
    refine ro_aload_n hK 0 rfl dX12_undo_41 rfl ?_
    refine ro_aload_n hK 0 rfl dX12_undo_42 rfl ?_
    refine ro_geti hK fl_X12_529 sh_207 dX12_undo_43 ?_
    obtain ⟨m10, e11, hf⟩ := ro_ld hf
    refine ro_puti hK fl_X12_502 sh_207 rfl rfl dX12_undo_46 ?_
    refine ro_mv e11 ?_
    refine ro_iconst (v := 0) hK dX12_undo_49 (by decide) ?_
    refine ro_istore_n (L' := [(1, .int 0), (0, .ref (ro_ad (kG K) 207))]) hK dX12_undo_50 rfl (by decide) rfl ?_
    obtain ⟨q16, e17, hf⟩ := ro_bd hf
    refine ro_sub (L' := [(0, .ref (ro_ad (kG K) 207)), (1, .int 0)]) [1, 0] rfl ?_
    refine lp_X12_undo_51 hK hR  e17 ?_
    show ro_X K 75 [(0, .ref (ro_ad (kG K) 207))] [] q16
    refine ro_aload_n hK 0 rfl dX12_undo_75 rfl ?_
    refine ro_getr hK fl_X12_174 sh_207 dX12_undo_76 ?_
    refine ro_aload_n hK 0 rfl dX12_undo_79 rfl ?_
    refine ro_getr hK fl_X12_13 sh_207 dX12_undo_80 ?_
    refine ro_bipush (v := 96) hK dX12_undo_83 (by decide) ?_
    obtain ⟨q18, e19, hf⟩ := ro_bd hf
    refine ro_callsv hK [.ref (ro_ad (kG K) 262), .ref (ro_ad (kG K) 209), .int 96] ml_X12_532 ms_X12_copies (mt_X12_copies (kl K) (kG K) (ro_shl sh_262) (ro_shl sh_209) e19) (by decide) rfl rfl (Nat.le_of_ble_eq_true rfl) dX12_undo_85 ?_
    refine ro_aload_n hK 0 rfl dX12_undo_88 rfl ?_
    refine ro_getr hK fl_X12_177 sh_207 dX12_undo_89 ?_
    refine ro_aload_n hK 0 rfl dX12_undo_92 rfl ?_
    refine ro_getr hK fl_X12_17 sh_207 dX12_undo_93 ?_
    refine ro_bipush (v := 96) hK dX12_undo_96 (by decide) ?_
    obtain ⟨q20, e21, hf⟩ := ro_bd hf
    refine ro_callsv hK [.ref (ro_ad (kG K) 263), .ref (ro_ad (kG K) 210), .int 96] ml_X12_532 ms_X12_copies (mt_X12_copies (kl K) (kG K) (ro_shl sh_263) (ro_shl sh_210) e21) (by decide) rfl rfl (Nat.le_of_ble_eq_true rfl) dX12_undo_98 ?_
    refine ro_aload_n hK 0 rfl dX12_undo_101 rfl ?_
    refine ro_getr hK fl_X12_180 sh_207 dX12_undo_102 ?_
    refine ro_aload_n hK 0 rfl dX12_undo_105 rfl ?_
    refine ro_getr hK fl_X12_20 sh_207 dX12_undo_106 ?_
    refine ro_bipush (v := 16) hK dX12_undo_109 (by decide) ?_
    obtain ⟨q22, e23, hf⟩ := ro_bd hf
    refine ro_callsv hK [.ref (ro_ad (kG K) 264), .ref (ro_ad (kG K) 211), .int 16] ml_X12_532 ms_X12_copies (mt_X12_copies (kl K) (kG K) (ro_shl sh_264) (ro_shl sh_211) e23) (by decide) rfl rfl (Nat.le_of_ble_eq_true rfl) dX12_undo_111 ?_
    refine ro_aload_n hK 0 rfl dX12_undo_114 rfl ?_
    refine ro_getr hK fl_X12_183 sh_207 dX12_undo_115 ?_
    refine ro_aload_n hK 0 rfl dX12_undo_118 rfl ?_
    refine ro_getr hK fl_X12_23 sh_207 dX12_undo_119 ?_
    refine ro_bipush (v := 16) hK dX12_undo_122 (by decide) ?_
    obtain ⟨q24, e25, hf⟩ := ro_bd hf
    refine ro_callsv hK [.ref (ro_ad (kG K) 265), .ref (ro_ad (kG K) 212), .int 16] ml_X12_532 ms_X12_copies (mt_X12_copies (kl K) (kG K) (ro_shl sh_265) (ro_shl sh_212) e25) (by decide) rfl rfl (Nat.le_of_ble_eq_true rfl) dX12_undo_124 ?_
    refine ro_aload_n hK 0 rfl dX12_undo_127 rfl ?_
    refine ro_getr hK fl_X12_186 sh_207 dX12_undo_128 ?_
    refine ro_aload_n hK 0 rfl dX12_undo_131 rfl ?_
    refine ro_getr hK fl_X12_26 sh_207 dX12_undo_132 ?_
    refine ro_bipush (v := 16) hK dX12_undo_135 (by decide) ?_
    obtain ⟨q26, e27, hf⟩ := ro_bd hf
    refine ro_callsv hK [.ref (ro_ad (kG K) 266), .ref (ro_ad (kG K) 213), .int 16] ml_X12_532 ms_X12_copies (mt_X12_copies (kl K) (kG K) (ro_shl sh_266) (ro_shl sh_213) e27) (by decide) rfl rfl (Nat.le_of_ble_eq_true rfl) dX12_undo_137 ?_
    refine ro_aload_n hK 0 rfl dX12_undo_140 rfl ?_
    refine ro_getr hK fl_X12_189 sh_207 dX12_undo_141 ?_
    refine ro_aload_n hK 0 rfl dX12_undo_144 rfl ?_
    refine ro_getr hK fl_X12_29 sh_207 dX12_undo_145 ?_
    refine ro_iconst (v := 4) hK dX12_undo_148 (by decide) ?_
    obtain ⟨q28, e29, hf⟩ := ro_bd hf
    refine ro_callsv hK [.ref (ro_ad (kG K) 267), .ref (ro_ad (kG K) 214), .int 4] ml_X12_532 ms_X12_copies (mt_X12_copies (kl K) (kG K) (ro_shl sh_267) (ro_shl sh_214) e29) (by decide) rfl rfl (Nat.le_of_ble_eq_true rfl) dX12_undo_149 ?_
    refine ro_aload_n hK 0 rfl dX12_undo_152 rfl ?_
    refine ro_getr hK fl_X12_192 sh_207 dX12_undo_153 ?_
    refine ro_aload_n hK 0 rfl dX12_undo_156 rfl ?_
    refine ro_getr hK fl_X12_32 sh_207 dX12_undo_157 ?_
    refine ro_bipush (v := 10) hK dX12_undo_160 (by decide) ?_
    obtain ⟨q30, e31, hf⟩ := ro_bd hf
    refine ro_callsv hK [.ref (ro_ad (kG K) 268), .ref (ro_ad (kG K) 215), .int 10] ml_X12_532 ms_X12_copies (mt_X12_copies (kl K) (kG K) (ro_shl sh_268) (ro_shl sh_215) e31) (by decide) rfl rfl (Nat.le_of_ble_eq_true rfl) dX12_undo_162 ?_
    refine ro_aload_n hK 0 rfl dX12_undo_165 rfl ?_
    refine ro_getr hK fl_X12_195 sh_207 dX12_undo_166 ?_
    refine ro_aload_n hK 0 rfl dX12_undo_169 rfl ?_
    refine ro_getr hK fl_X12_35 sh_207 dX12_undo_170 ?_
    refine ro_bipush (v := 40) hK dX12_undo_173 (by decide) ?_
    obtain ⟨q32, e33, hf⟩ := ro_bd hf
    refine ro_callsv hK [.ref (ro_ad (kG K) 269), .ref (ro_ad (kG K) 216), .int 40] ml_X12_532 ms_X12_copies (mt_X12_copies (kl K) (kG K) (ro_shl sh_269) (ro_shl sh_216) e33) (by decide) rfl rfl (Nat.le_of_ble_eq_true rfl) dX12_undo_175 ?_
    refine ro_aload_n hK 0 rfl dX12_undo_178 rfl ?_
    refine ro_getr hK fl_X12_198 sh_207 dX12_undo_179 ?_
    refine ro_aload_n hK 0 rfl dX12_undo_182 rfl ?_
    refine ro_getr hK fl_X12_159 sh_207 dX12_undo_183 ?_
    refine ro_bipush (v := 10) hK dX12_undo_186 (by decide) ?_
    obtain ⟨q34, e35, hf⟩ := ro_bd hf
    refine ro_callsv hK [.ref (ro_ad (kG K) 270), .ref (ro_ad (kG K) 257), .int 10] ml_X12_532 ms_X12_copies (mt_X12_copies (kl K) (kG K) (ro_shl sh_270) (ro_shl sh_257) e35) (by decide) rfl rfl (Nat.le_of_ble_eq_true rfl) dX12_undo_188 ?_
    refine ro_aload_n hK 0 rfl dX12_undo_191 rfl ?_
    refine ro_getr hK fl_X12_201 sh_207 dX12_undo_192 ?_
    refine ro_aload_n hK 0 rfl dX12_undo_195 rfl ?_
    refine ro_getr hK fl_X12_162 sh_207 dX12_undo_196 ?_
    refine ro_bipush (v := 16) hK dX12_undo_199 (by decide) ?_
    obtain ⟨q36, e37, hf⟩ := ro_bd hf
    refine ro_callsv hK [.ref (ro_ad (kG K) 271), .ref (ro_ad (kG K) 258), .int 16] ml_X12_532 ms_X12_copies (mt_X12_copies (kl K) (kG K) (ro_shl sh_271) (ro_shl sh_258) e37) (by decide) rfl rfl (Nat.le_of_ble_eq_true rfl) dX12_undo_201 ?_
    refine ro_aload_n hK 0 rfl dX12_undo_204 rfl ?_
    refine ro_getr hK fl_X12_204 sh_207 dX12_undo_205 ?_
    refine ro_aload_n hK 0 rfl dX12_undo_208 rfl ?_
    refine ro_getr hK fl_X12_165 sh_207 dX12_undo_209 ?_
    refine ro_bipush (v := 32) hK dX12_undo_212 (by decide) ?_
    obtain ⟨q38, e39, hf⟩ := ro_bd hf
    refine ro_callsv hK [.ref (ro_ad (kG K) 272), .ref (ro_ad (kG K) 259), .int 32] ml_X12_532 ms_X12_copies (mt_X12_copies (kl K) (kG K) (ro_shl sh_272) (ro_shl sh_259) e39) (by decide) rfl rfl (Nat.le_of_ble_eq_true rfl) dX12_undo_214 ?_
    refine ro_iconst (v := 1) hK dX12_undo_217 (by decide) ?_
    obtain rfl := Option.some.inj hf
    exact ro_zret hK hR dX12_undo_218 (by decide) hq
  · have hf := ro_it hf c1
    refine ro_iconst (v := 0) hK dX12_undo_7 (by decide) ?_
    obtain rfl := Option.some.inj hf
    exact ro_zret hK hR dX12_undo_8 (by decide) hq
theorem mt_X12_undo (l : Launch) (G : ro_G)   {μ : ro_Mem} {out : Int32 × ro_Mem} (hf : fn_X12_undo μ = some out) : ro_MX l G yX12_undo cX12_undo 2 (some .boolean) 1 [.ref (ro_ad G 207)] μ (some (.int out.1)) out.2 := by
  refine ro_MX.of (by decide +kernel) (Nat.le_of_ble_eq_true rfl) (fun K hG hl hq hK hR => ?_)
  subst hG
  exact be_X12_undo hK hR  hf hq
-- ===== X12_tapeNumber =====
theorem dX12_tapeNumber_0 : decode cX12_tapeNumber 0 = .ok (.iconst 0, 1) := by decide +kernel
theorem dX12_tapeNumber_1 : decode cX12_tapeNumber 1 = .ok (.istore_n 2, 1) := by decide +kernel
theorem dX12_tapeNumber_2 : decode cX12_tapeNumber 2 = .ok (.iconst 4, 1) := by decide +kernel
theorem dX12_tapeNumber_3 : decode cX12_tapeNumber 3 = .ok (.iload_n 1, 1) := by decide +kernel
theorem dX12_tapeNumber_4 : decode cX12_tapeNumber 4 = .ok (.imul, 1) := by decide +kernel
theorem dX12_tapeNumber_5 : decode cX12_tapeNumber 5 = .ok (.istore_n 3, 1) := by decide +kernel
theorem dX12_tapeNumber_6 : decode cX12_tapeNumber 6 = .ok (.iload_n 3, 1) := by decide +kernel
theorem dX12_tapeNumber_7 : decode cX12_tapeNumber 7 = .ok (.iconst 4, 1) := by decide +kernel
theorem dX12_tapeNumber_8 : decode cX12_tapeNumber 8 = .ok (.iload_n 1, 1) := by decide +kernel
theorem dX12_tapeNumber_9 : decode cX12_tapeNumber 9 = .ok (.imul, 1) := by decide +kernel
theorem dX12_tapeNumber_10 : decode cX12_tapeNumber 10 = .ok (.iconst 4, 1) := by decide +kernel
theorem dX12_tapeNumber_11 : decode cX12_tapeNumber 11 = .ok (.iadd, 1) := by decide +kernel
theorem dX12_tapeNumber_12 : decode cX12_tapeNumber 12 = .ok (.if_icmp .ge 25, 3) := by decide +kernel
theorem dX12_tapeNumber_15 : decode cX12_tapeNumber 15 = .ok (.iload_n 2, 1) := by decide +kernel
theorem dX12_tapeNumber_16 : decode cX12_tapeNumber 16 = .ok (.bipush 8, 2) := by decide +kernel
theorem dX12_tapeNumber_18 : decode cX12_tapeNumber 18 = .ok (.ishl, 1) := by decide +kernel
theorem dX12_tapeNumber_19 : decode cX12_tapeNumber 19 = .ok (.aload_n 0, 1) := by decide +kernel
theorem dX12_tapeNumber_20 : decode cX12_tapeNumber 20 = .ok (.getfield 38, 3) := by decide +kernel
theorem dX12_tapeNumber_23 : decode cX12_tapeNumber 23 = .ok (.iload_n 3, 1) := by decide +kernel
theorem dX12_tapeNumber_24 : decode cX12_tapeNumber 24 = .ok (.baload, 1) := by decide +kernel
theorem dX12_tapeNumber_25 : decode cX12_tapeNumber 25 = .ok (.sipush 255, 3) := by decide +kernel
theorem dX12_tapeNumber_28 : decode cX12_tapeNumber 28 = .ok (.iand, 1) := by decide +kernel
theorem dX12_tapeNumber_29 : decode cX12_tapeNumber 29 = .ok (.ior, 1) := by decide +kernel
theorem dX12_tapeNumber_30 : decode cX12_tapeNumber 30 = .ok (.istore_n 2, 1) := by decide +kernel
theorem dX12_tapeNumber_31 : decode cX12_tapeNumber 31 = .ok (.iinc 3 1, 3) := by decide +kernel
theorem dX12_tapeNumber_34 : decode cX12_tapeNumber 34 = .ok (.goto (-28), 3) := by decide +kernel
theorem dX12_tapeNumber_37 : decode cX12_tapeNumber 37 = .ok (.iload_n 2, 1) := by decide +kernel
theorem dX12_tapeNumber_38 : decode cX12_tapeNumber 38 = .ok (.ireturn, 1) := by decide +kernel
def ok_X12_tapeNumber_6 (K : ro_K) (v1 : Int32) (μ : ro_Mem) : Int32 → Prop := fun e => ro_X K 37 [(2, .int e)] [] μ
def fb_X12_tapeNumber_6 (v1 : Int32) (μ : ro_Mem) (rec : (Int32 × Int32) → Option Int32) (v2 : Int32) (v3 : Int32) : Option Int32 :=
  if ((4 * v1) + 4) ≤ v3 then
  (some v2)
  else
  (if ro_in v3 220 then
  (ro_lt ((v2 <<< (8 &&& 31)) ||| ((μ 217 v3.toNatClampNeg) &&& 255)) fun z5 =>
  rec (z5, v3 + 1)) else none)
theorem bb_X12_tapeNumber_6 {K : ro_K} (hK : ro_C K RX12 cX12_tapeNumber 4 0) (hR : ro_R K (some .int)) {v1 : Int32}  {μ : ro_Mem} {rec : (Int32 × Int32) → Option Int32} {v2 : Int32} {v3 : Int32} {q : Int32} (hrec : ∀ (s : Int32 × Int32) (q : Int32), rec s = some q → ok_X12_tapeNumber_6 K v1 μ q → ro_X K 6 [(0, .ref (ro_ad (kG K) 207)), (1, .int v1), (2, .int s.1), (3, .int s.2)] [] μ) (hf : fb_X12_tapeNumber_6 v1 μ rec v2 v3 = some q) (hq : ok_X12_tapeNumber_6 K v1 μ q) : ro_X K 6 [(0, .ref (ro_ad (kG K) 207)), (1, .int v1), (2, .int v2), (3, .int v3)] [] μ := by
  unfold fb_X12_tapeNumber_6 at hf
  refine ro_iload_n hK 3 rfl dX12_tapeNumber_6 rfl ?_
  refine ro_iconst (v := 4) hK dX12_tapeNumber_7 (by decide) ?_
  refine ro_iload_n hK 1 rfl dX12_tapeNumber_8 rfl ?_
  refine ro_imul hK dX12_tapeNumber_9 ?_
  refine ro_iconst (v := 4) hK dX12_tapeNumber_10 (by decide) ?_
  refine ro_iadd hK dX12_tapeNumber_11 ?_
  refine ro_icmp_ge hK 37 dX12_tapeNumber_12 (by decide) (fun c3 => ?_) (fun c3 => ?_)
  · have hf := ro_it hf c3
    refine ro_sub (L' := [(2, .int v2)]) [2] rfl ?_
    obtain rfl := Option.some.inj hf
    exact hq
  · have hf := ro_ie hf c3
    refine ro_iload_n hK 2 rfl dX12_tapeNumber_15 rfl ?_
    refine ro_bipush (v := 8) hK dX12_tapeNumber_16 (by decide) ?_
    refine ro_ishl hK dX12_tapeNumber_18 ?_
    refine ro_aload_n hK 0 rfl dX12_tapeNumber_19 rfl ?_
    refine ro_getr hK fl_X12_38 sh_207 dX12_tapeNumber_20 ?_
    refine ro_iload_n hK 3 rfl dX12_tapeNumber_23 rfl ?_
    obtain ⟨g4, hf⟩ := ro_gd hf
    refine ro_bald hK sh_217 g4 dX12_tapeNumber_24 ?_
    refine ro_sipush (v := 255) hK dX12_tapeNumber_25 (by decide) ?_
    refine ro_iand hK dX12_tapeNumber_28 ?_
    refine ro_ior hK dX12_tapeNumber_29 ?_
    obtain ⟨z5, e6, hf⟩ := ro_ld hf
    refine ro_iv e6 ?_
    refine ro_istore_n (L' := [(2, .int z5), (0, .ref (ro_ad (kG K) 207)), (1, .int v1), (3, .int v3)]) hK dX12_tapeNumber_30 rfl (by decide) rfl ?_
    refine ro_iinc (v := v3 + 1) (L' := [(3, .int (v3 + 1)), (2, .int z5), (0, .ref (ro_ad (kG K) 207)), (1, .int v1)]) hK 3 rfl dX12_tapeNumber_31 rfl (by decide) rfl ?_
    refine ro_goto hK 6 dX12_tapeNumber_34 (by decide) ?_
    refine ro_sub (L' := [(0, .ref (ro_ad (kG K) 207)), (1, .int v1), (2, .int z5), (3, .int (v3 + 1))]) [2, 3, 1, 0] rfl ?_
    exact hrec (z5, v3 + 1) _ hf hq
def fl_X12_tapeNumber_6 (v1 : Int32) (μ : ro_Mem) : (Int32 × Int32) → Option Int32 :=
  ro_loop (fun rec s => fb_X12_tapeNumber_6 v1 μ rec s.1 s.2) ro_FU
theorem lp_X12_tapeNumber_6 {K : ro_K} (hK : ro_C K RX12 cX12_tapeNumber 4 0) (hR : ro_R K (some .int)) {v1 : Int32}  {μ : ro_Mem} {s : Int32 × Int32} {q : Int32} (hf : fl_X12_tapeNumber_6 v1 μ s = some q) (hq : ok_X12_tapeNumber_6 K v1 μ q) : ro_X K 6 [(0, .ref (ro_ad (kG K) 207)), (1, .int v1), (2, .int s.1), (3, .int s.2)] [] μ :=
  ro_loopX (b := fun rec s => fb_X12_tapeNumber_6 v1 μ rec s.1 s.2) (X := fun s => ro_X K 6 [(0, .ref (ro_ad (kG K) 207)), (1, .int v1), (2, .int s.1), (3, .int s.2)] [] μ) (OK := ok_X12_tapeNumber_6 K v1 μ) (fun rec s q hrec hb ho => bb_X12_tapeNumber_6 hK hR  hrec hb ho) ro_FU s q hf hq
def fn_X12_tapeNumber (v1 : Int32) (μ : ro_Mem) : Option Int32 :=
  ro_lt (4 * v1) fun z1 =>
  (fl_X12_tapeNumber_6 v1 μ (0, z1)).bind fun q7 =>
  some q7
theorem be_X12_tapeNumber {K : ro_K} (hK : ro_C K RX12 cX12_tapeNumber 4 0) (hR : ro_R K (some .int)) {v1 : Int32}  {μ : ro_Mem} {out : Int32} (hf : fn_X12_tapeNumber v1 μ = some out) (hq : kQ K (some (.int out)) μ) : ro_X K 0 [(0, .ref (ro_ad (kG K) 207)), (1, .int v1)] [] μ := by
  unfold fn_X12_tapeNumber at hf
  refine ro_iconst (v := 0) hK dX12_tapeNumber_0 (by decide) ?_
  refine ro_istore_n (L' := [(2, .int 0), (0, .ref (ro_ad (kG K) 207)), (1, .int v1)]) hK dX12_tapeNumber_1 rfl (by decide) rfl ?_
  refine ro_iconst (v := 4) hK dX12_tapeNumber_2 (by decide) ?_
  refine ro_iload_n hK 2 rfl dX12_tapeNumber_3 rfl ?_
  refine ro_imul hK dX12_tapeNumber_4 ?_
  obtain ⟨z1, e2, hf⟩ := ro_ld hf
  refine ro_iv e2 ?_
  refine ro_istore_n (L' := [(3, .int z1), (2, .int 0), (0, .ref (ro_ad (kG K) 207)), (1, .int v1)]) hK dX12_tapeNumber_5 rfl (by decide) rfl ?_
  obtain ⟨q7, e8, hf⟩ := ro_bd hf
  refine ro_sub (L' := [(0, .ref (ro_ad (kG K) 207)), (1, .int v1), (2, .int 0), (3, .int z1)]) [2, 3, 1, 0] rfl ?_
  refine lp_X12_tapeNumber_6 hK hR  e8 ?_
  show ro_X K 37 [(2, .int q7)] [] μ
  refine ro_iload_n hK 0 rfl dX12_tapeNumber_37 rfl ?_
  obtain rfl := Option.some.inj hf
  exact ro_iret hK hR dX12_tapeNumber_38 hq
theorem mt_X12_tapeNumber (l : Launch) (G : ro_G) {v1 : Int32}  {μ : ro_Mem} {out : Int32} (hf : fn_X12_tapeNumber v1 μ = some out) : ro_MX l G yX12_tapeNumber cX12_tapeNumber 4 (some .int) 0 [.ref (ro_ad G 207), .int v1] μ (some (.int out)) μ := by
  refine ro_MX.of (by decide +kernel) (Nat.le_of_ble_eq_true rfl) (fun K hG hl hq hK hR => ?_)
  subst hG
  exact be_X12_tapeNumber hK hR  hf hq
-- ===== X12_check =====
theorem dX12_check_0 : decode cX12_check 0 = .ok (.iload_n 1, 1) := by decide +kernel
theorem dX12_check_1 : decode cX12_check 1 = .ok (.invokestatic 229, 3) := by decide +kernel
theorem dX12_check_4 : decode cX12_check 4 = .ok (.ifCond .eq 33, 3) := by decide +kernel
theorem dX12_check_7 : decode cX12_check 7 = .ok (.iload_n 2, 1) := by decide +kernel
theorem dX12_check_8 : decode cX12_check 8 = .ok (.iconst 0, 1) := by decide +kernel
theorem dX12_check_9 : decode cX12_check 9 = .ok (.bipush 7, 2) := by decide +kernel
theorem dX12_check_11 : decode cX12_check 11 = .ok (.invokestatic 215, 3) := by decide +kernel
theorem dX12_check_14 : decode cX12_check 14 = .ok (.ifCond .eq 23, 3) := by decide +kernel
theorem dX12_check_17 : decode cX12_check 17 = .ok (.iload_n 3, 1) := by decide +kernel
theorem dX12_check_18 : decode cX12_check 18 = .ok (.iconst 0, 1) := by decide +kernel
theorem dX12_check_19 : decode cX12_check 19 = .ok (.bipush 12, 2) := by decide +kernel
theorem dX12_check_21 : decode cX12_check 21 = .ok (.invokestatic 215, 3) := by decide +kernel
theorem dX12_check_24 : decode cX12_check 24 = .ok (.ifCond .eq 13, 3) := by decide +kernel
theorem dX12_check_27 : decode cX12_check 27 = .ok (.iload_n 3, 1) := by decide +kernel
theorem dX12_check_28 : decode cX12_check 28 = .ok (.aload_n 0, 1) := by decide +kernel
theorem dX12_check_29 : decode cX12_check 29 = .ok (.getfield 242, 3) := by decide +kernel
theorem dX12_check_32 : decode cX12_check 32 = .ok (.iconst 4, 1) := by decide +kernel
theorem dX12_check_33 : decode cX12_check 33 = .ok (.idiv, 1) := by decide +kernel
theorem dX12_check_34 : decode cX12_check 34 = .ok (.if_icmp .le 6, 3) := by decide +kernel
theorem dX12_check_37 : decode cX12_check 37 = .ok (.bipush (-2), 2) := by decide +kernel
theorem dX12_check_39 : decode cX12_check 39 = .ok (.ireturn, 1) := by decide +kernel
theorem dX12_check_40 : decode cX12_check 40 = .ok (.aload_n 0, 1) := by decide +kernel
theorem dX12_check_41 : decode cX12_check 41 = .ok (.iconst 0, 1) := by decide +kernel
theorem dX12_check_42 : decode cX12_check 42 = .ok (.putfield 242, 3) := by decide +kernel
theorem dX12_check_45 : decode cX12_check 45 = .ok (.aload_n 0, 1) := by decide +kernel
theorem dX12_check_46 : decode cX12_check 46 = .ok (.invokevirtual 426, 3) := by decide +kernel
theorem dX12_check_49 : decode cX12_check 49 = .ok (.iconst 0, 1) := by decide +kernel
theorem dX12_check_50 : decode cX12_check 50 = .ok (.istore 4, 2) := by decide +kernel
theorem dX12_check_52 : decode cX12_check 52 = .ok (.iload 4, 2) := by decide +kernel
theorem dX12_check_54 : decode cX12_check 54 = .ok (.iload_n 3, 1) := by decide +kernel
theorem dX12_check_55 : decode cX12_check 55 = .ok (.if_icmp .ge 33, 3) := by decide +kernel
theorem dX12_check_58 : decode cX12_check 58 = .ok (.aload_n 0, 1) := by decide +kernel
theorem dX12_check_59 : decode cX12_check 59 = .ok (.iload 4, 2) := by decide +kernel
theorem dX12_check_61 : decode cX12_check 61 = .ok (.invokevirtual 536, 3) := by decide +kernel
theorem dX12_check_64 : decode cX12_check 64 = .ok (.aload_n 0, 1) := by decide +kernel
theorem dX12_check_65 : decode cX12_check 65 = .ok (.iload_n 1, 1) := by decide +kernel
theorem dX12_check_66 : decode cX12_check 66 = .ok (.bipush 12, 2) := by decide +kernel
theorem dX12_check_68 : decode cX12_check 68 = .ok (.iload_n 2, 1) := by decide +kernel
theorem dX12_check_69 : decode cX12_check 69 = .ok (.imul, 1) := by decide +kernel
theorem dX12_check_70 : decode cX12_check 70 = .ok (.iload 4, 2) := by decide +kernel
theorem dX12_check_72 : decode cX12_check 72 = .ok (.iadd, 1) := by decide +kernel
theorem dX12_check_73 : decode cX12_check 73 = .ok (.invokevirtual 423, 3) := by decide +kernel
theorem dX12_check_76 : decode cX12_check 76 = .ok (.if_icmp .eq 6, 3) := by decide +kernel
theorem dX12_check_79 : decode cX12_check 79 = .ok (.iload 4, 2) := by decide +kernel
theorem dX12_check_81 : decode cX12_check 81 = .ok (.ireturn, 1) := by decide +kernel
theorem dX12_check_82 : decode cX12_check 82 = .ok (.iinc 4 1, 3) := by decide +kernel
theorem dX12_check_85 : decode cX12_check 85 = .ok (.goto (-33), 3) := by decide +kernel
theorem dX12_check_88 : decode cX12_check 88 = .ok (.iconst (-1), 1) := by decide +kernel
theorem dX12_check_89 : decode cX12_check 89 = .ok (.ireturn, 1) := by decide +kernel
def ok_X12_check_52 (K : ro_K) (v1 : Int32) (v2 : Int32) (v3 : Int32) (μ : ro_Mem) : (Int32 ⊕ Unit) → Prop := Sum.elim (fun e => ro_X K 79 [(4, .int e)] [] μ) (fun e => ro_X K 88 [] [] μ)
def fb_X12_check_52 (v1 : Int32) (v2 : Int32) (v3 : Int32) (μ : ro_Mem) (rec : Int32 → Option (Int32 ⊕ Unit)) (v4 : Int32) : Option (Int32 ⊕ Unit) :=
  if v3 ≤ v4 then
  (some (.inr ()))
  else
  ((fn_X12_tapeNumber v4 μ).bind fun q16 =>
  (fn_X12_wetOn v1 ((12 * v2) + v4) μ).bind fun q18 =>
  if q16 = q18 then
  (rec (v4 + 1))
  else
  (some (.inl v4)))
theorem bb_X12_check_52 {K : ro_K} (hK : ro_C K RX12 cX12_check 5 5) (hR : ro_R K (some .int)) {v1 : Int32} {v2 : Int32} {v3 : Int32}  {μ : ro_Mem} {rec : Int32 → Option (Int32 ⊕ Unit)} {v4 : Int32} {q : (Int32 ⊕ Unit)} (hrec : ∀ (s : Int32) (q : (Int32 ⊕ Unit)), rec s = some q → ok_X12_check_52 K v1 v2 v3 μ q → ro_X K 52 [(0, .ref (ro_ad (kG K) 207)), (1, .int v1), (2, .int v2), (3, .int v3), (4, .int s)] [] μ) (hf : fb_X12_check_52 v1 v2 v3 μ rec v4 = some q) (hq : ok_X12_check_52 K v1 v2 v3 μ q) : ro_X K 52 [(0, .ref (ro_ad (kG K) 207)), (1, .int v1), (2, .int v2), (3, .int v3), (4, .int v4)] [] μ := by
  unfold fb_X12_check_52 at hf
  refine ro_iload hK 4 rfl dX12_check_52 ?_
  refine ro_iload_n hK 3 rfl dX12_check_54 rfl ?_
  refine ro_icmp_ge hK 88 dX12_check_55 (by decide) (fun c15 => ?_) (fun c15 => ?_)
  · have hf := ro_it hf c15
    refine ro_sub (L' := []) [] rfl ?_
    obtain rfl := Option.some.inj hf
    exact hq
  · have hf := ro_ie hf c15
    refine ro_aload_n hK 0 rfl dX12_check_58 rfl ?_
    refine ro_iload hK 4 rfl dX12_check_59 ?_
    obtain ⟨q16, e17, hf⟩ := ro_bd hf
    refine ro_callvi hK [.int v4] ml_X12_536 mv_X12_tapeNumber (mt_X12_tapeNumber (kl K) (kG K)  e17) sh_207 ⟨_, rfl, rfl⟩ (by decide) rfl rfl (Nat.le_of_ble_eq_true rfl) dX12_check_61 ?_
    refine ro_aload_n hK 0 rfl dX12_check_64 rfl ?_
    refine ro_iload_n hK 1 rfl dX12_check_65 rfl ?_
    refine ro_bipush (v := 12) hK dX12_check_66 (by decide) ?_
    refine ro_iload_n hK 2 rfl dX12_check_68 rfl ?_
    refine ro_imul hK dX12_check_69 ?_
    refine ro_iload hK 4 rfl dX12_check_70 ?_
    refine ro_iadd hK dX12_check_72 ?_
    obtain ⟨q18, e19, hf⟩ := ro_bd hf
    refine ro_callvi hK [.int v1, .int ((12 * v2) + v4)] ml_X12_423 mv_X12_wetOn (mt_X12_wetOn (kl K) (kG K)  e19) sh_207 ⟨_, rfl, rfl⟩ (by decide) rfl rfl (Nat.le_of_ble_eq_true rfl) dX12_check_73 ?_
    refine ro_icmp_eq hK 82 dX12_check_76 (by decide) (fun c20 => ?_) (fun c20 => ?_)
    · have hf := ro_it hf c20
      refine ro_iinc (v := v4 + 1) (L' := [(4, .int (v4 + 1)), (0, .ref (ro_ad (kG K) 207)), (1, .int v1), (2, .int v2), (3, .int v3)]) hK 4 rfl dX12_check_82 rfl (by decide) rfl ?_
      refine ro_goto hK 52 dX12_check_85 (by decide) ?_
      refine ro_sub (L' := [(0, .ref (ro_ad (kG K) 207)), (1, .int v1), (2, .int v2), (3, .int v3), (4, .int (v4 + 1))]) [1, 2, 3, 4, 0] rfl ?_
      exact hrec (v4 + 1) _ hf hq
    · have hf := ro_ie hf c20
      refine ro_sub (L' := [(4, .int v4)]) [4] rfl ?_
      obtain rfl := Option.some.inj hf
      exact hq
def fl_X12_check_52 (v1 : Int32) (v2 : Int32) (v3 : Int32) (μ : ro_Mem) : Int32 → Option (Int32 ⊕ Unit) :=
  ro_loop (fun rec s => fb_X12_check_52 v1 v2 v3 μ rec s) ro_FU
theorem lp_X12_check_52 {K : ro_K} (hK : ro_C K RX12 cX12_check 5 5) (hR : ro_R K (some .int)) {v1 : Int32} {v2 : Int32} {v3 : Int32}  {μ : ro_Mem} {s : Int32} {q : (Int32 ⊕ Unit)} (hf : fl_X12_check_52 v1 v2 v3 μ s = some q) (hq : ok_X12_check_52 K v1 v2 v3 μ q) : ro_X K 52 [(0, .ref (ro_ad (kG K) 207)), (1, .int v1), (2, .int v2), (3, .int v3), (4, .int s)] [] μ :=
  ro_loopX (b := fun rec s => fb_X12_check_52 v1 v2 v3 μ rec s) (X := fun s => ro_X K 52 [(0, .ref (ro_ad (kG K) 207)), (1, .int v1), (2, .int v2), (3, .int v3), (4, .int s)] [] μ) (OK := ok_X12_check_52 K v1 v2 v3 μ) (fun rec s q hrec hb ho => bb_X12_check_52 hK hR  hrec hb ho) ro_FU s q hf hq
def fn_X12_check (v1 : Int32) (v2 : Int32) (v3 : Int32) (μ : ro_Mem) : Option (Int32 × ro_Mem) :=
  (fn_X12_isAct v1).bind fun q1 =>
  if q1 = 0 then
  (some ((-2), μ))
  else
  ((fn_X12_in v2 0 7).bind fun q4 =>
  if q4 = 0 then
  (some ((-2), μ))
  else
  ((fn_X12_in v3 0 12).bind fun q7 =>
  if q7 = 0 then
  (some ((-2), μ))
  else
  (if v3 ≤ ((μ 207 13) / 4) then
  (ro_lt (ro_set μ 207 13 0) fun m11 =>
  (fn_X12_laysDrops m11).bind fun q13 =>
  (fl_X12_check_52 v1 v2 v3 q13 0).bind fun q21 =>
  q21.elim (fun e23 => some (e23, q13)) (fun e24 => some ((-1), q13)))
  else
  (some ((-2), μ)))))
theorem be_X12_check {K : ro_K} (hK : ro_C K RX12 cX12_check 5 5) (hR : ro_R K (some .int)) {v1 : Int32} {v2 : Int32} {v3 : Int32}  {μ : ro_Mem} {out : Int32 × ro_Mem} (hf : fn_X12_check v1 v2 v3 μ = some out) (hq : kQ K (some (.int out.1)) out.2) : ro_X K 0 [(0, .ref (ro_ad (kG K) 207)), (1, .int v1), (2, .int v2), (3, .int v3)] [] μ := by
  unfold fn_X12_check at hf
  refine ro_iload_n hK 1 rfl dX12_check_0 rfl ?_
  obtain ⟨q1, e2, hf⟩ := ro_bd hf
  refine ro_callsi hK [.int v1] ml_X12_229 ms_X12_isAct (mt_X12_isAct (kl K) (kG K)  e2) (by decide) rfl rfl (Nat.le_of_ble_eq_true rfl) dX12_check_1 ?_
  refine ro_if_eq hK 37 dX12_check_4 (by decide) (fun c3 => ?_) (fun c3 => ?_)
  · have hf := ro_it hf c3
    refine ro_bipush (v := (-2)) hK dX12_check_37 (by decide) ?_
    obtain rfl := Option.some.inj hf
    exact ro_iret hK hR dX12_check_39 hq
  · have hf := ro_ie hf c3
    refine ro_iload_n hK 2 rfl dX12_check_7 rfl ?_
    refine ro_iconst (v := 0) hK dX12_check_8 (by decide) ?_
    refine ro_bipush (v := 7) hK dX12_check_9 (by decide) ?_
    obtain ⟨q4, e5, hf⟩ := ro_bd hf
    refine ro_callsi hK [.int v2, .int 0, .int 7] ml_X12_215 ms_X12_in (mt_X12_in (kl K) (kG K)  e5) (by decide) rfl rfl (Nat.le_of_ble_eq_true rfl) dX12_check_11 ?_
    refine ro_if_eq hK 37 dX12_check_14 (by decide) (fun c6 => ?_) (fun c6 => ?_)
    · have hf := ro_it hf c6
      refine ro_bipush (v := (-2)) hK dX12_check_37 (by decide) ?_
      obtain rfl := Option.some.inj hf
      exact ro_iret hK hR dX12_check_39 hq
    · have hf := ro_ie hf c6
      refine ro_iload_n hK 3 rfl dX12_check_17 rfl ?_
      refine ro_iconst (v := 0) hK dX12_check_18 (by decide) ?_
      refine ro_bipush (v := 12) hK dX12_check_19 (by decide) ?_
      obtain ⟨q7, e8, hf⟩ := ro_bd hf
      refine ro_callsi hK [.int v3, .int 0, .int 12] ml_X12_215 ms_X12_in (mt_X12_in (kl K) (kG K)  e8) (by decide) rfl rfl (Nat.le_of_ble_eq_true rfl) dX12_check_21 ?_
      refine ro_if_eq hK 37 dX12_check_24 (by decide) (fun c9 => ?_) (fun c9 => ?_)
      · have hf := ro_it hf c9
        refine ro_bipush (v := (-2)) hK dX12_check_37 (by decide) ?_
        obtain rfl := Option.some.inj hf
        exact ro_iret hK hR dX12_check_39 hq
      · have hf := ro_ie hf c9
        refine ro_iload_n hK 3 rfl dX12_check_27 rfl ?_
        refine ro_aload_n hK 0 rfl dX12_check_28 rfl ?_
        refine ro_geti hK fl_X12_242 sh_207 dX12_check_29 ?_
        refine ro_iconst (v := 4) hK dX12_check_32 (by decide) ?_
        refine ro_idiv hK dX12_check_33 (by decide) ?_
        refine ro_icmp_le hK 40 dX12_check_34 (by decide) (fun c10 => ?_) (fun c10 => ?_)
        · have hf := ro_it hf c10
          refine ro_aload_n hK 0 rfl dX12_check_40 rfl ?_
          refine ro_iconst (v := 0) hK dX12_check_41 (by decide) ?_
          obtain ⟨m11, e12, hf⟩ := ro_ld hf
          refine ro_puti hK fl_X12_242 sh_207 rfl rfl dX12_check_42 ?_
          refine ro_mv e12 ?_
          refine ro_aload_n hK 0 rfl dX12_check_45 rfl ?_
          obtain ⟨q13, e14, hf⟩ := ro_bd hf
          refine ro_callvv hK [] ml_X12_426 mv_X12_laysDrops (mt_X12_laysDrops (kl K) (kG K)  e14) sh_207 ⟨_, rfl, rfl⟩ (by decide) rfl rfl (Nat.le_of_ble_eq_true rfl) dX12_check_46 ?_
          refine ro_iconst (v := 0) hK dX12_check_49 (by decide) ?_
          refine ro_istore (L' := [(4, .int 0), (0, .ref (ro_ad (kG K) 207)), (1, .int v1), (2, .int v2), (3, .int v3)]) hK dX12_check_50 (by decide) rfl ?_
          obtain ⟨q21, e22, hf⟩ := ro_bd hf
          refine ro_sub (L' := [(0, .ref (ro_ad (kG K) 207)), (1, .int v1), (2, .int v2), (3, .int v3), (4, .int 0)]) [1, 2, 3, 4, 0] rfl ?_
          refine lp_X12_check_52 hK hR  e22 ?_
          rcases q21 with e23 | e24
          · have hf := ro_el hf
            show ro_X K 79 [(4, .int e23)] [] q13
            refine ro_iload hK 0 rfl dX12_check_79 ?_
            obtain rfl := Option.some.inj hf
            exact ro_iret hK hR dX12_check_81 hq
          · have hf := ro_er hf
            show ro_X K 88 [] [] q13
            refine ro_iconst (v := (-1)) hK dX12_check_88 (by decide) ?_
            obtain rfl := Option.some.inj hf
            exact ro_iret hK hR dX12_check_89 hq
        · have hf := ro_ie hf c10
          refine ro_bipush (v := (-2)) hK dX12_check_37 (by decide) ?_
          obtain rfl := Option.some.inj hf
          exact ro_iret hK hR dX12_check_39 hq
theorem mt_X12_check (l : Launch) (G : ro_G) {v1 : Int32} {v2 : Int32} {v3 : Int32}  {μ : ro_Mem} {out : Int32 × ro_Mem} (hf : fn_X12_check v1 v2 v3 μ = some out) : ro_MX l G yX12_check cX12_check 5 (some .int) 5 [.ref (ro_ad G 207), .int v1, .int v2, .int v3] μ (some (.int out.1)) out.2 := by
  refine ro_MX.of (by decide +kernel) (Nat.le_of_ble_eq_true rfl) (fun K hG hl hq hK hR => ?_)
  subst hG
  exact be_X12_check hK hR  hf hq
-- ===== X12_slateBits =====
theorem dX12_slateBits_0 : decode cX12_slateBits 0 = .ok (.iconst 0, 1) := by decide +kernel
theorem dX12_slateBits_1 : decode cX12_slateBits 1 = .ok (.istore_n 1, 1) := by decide +kernel
theorem dX12_slateBits_2 : decode cX12_slateBits 2 = .ok (.iconst 0, 1) := by decide +kernel
theorem dX12_slateBits_3 : decode cX12_slateBits 3 = .ok (.istore_n 2, 1) := by decide +kernel
theorem dX12_slateBits_4 : decode cX12_slateBits 4 = .ok (.iload_n 2, 1) := by decide +kernel
theorem dX12_slateBits_5 : decode cX12_slateBits 5 = .ok (.bipush 16, 2) := by decide +kernel
theorem dX12_slateBits_7 : decode cX12_slateBits 7 = .ok (.if_icmp .ge 23, 3) := by decide +kernel
theorem dX12_slateBits_10 : decode cX12_slateBits 10 = .ok (.aload_n 0, 1) := by decide +kernel
theorem dX12_slateBits_11 : decode cX12_slateBits 11 = .ok (.iload_n 2, 1) := by decide +kernel
theorem dX12_slateBits_12 : decode cX12_slateBits 12 = .ok (.invokevirtual 222, 3) := by decide +kernel
theorem dX12_slateBits_15 : decode cX12_slateBits 15 = .ok (.ifCond .eq 9, 3) := by decide +kernel
theorem dX12_slateBits_18 : decode cX12_slateBits 18 = .ok (.iload_n 1, 1) := by decide +kernel
theorem dX12_slateBits_19 : decode cX12_slateBits 19 = .ok (.iconst 1, 1) := by decide +kernel
theorem dX12_slateBits_20 : decode cX12_slateBits 20 = .ok (.iload_n 2, 1) := by decide +kernel
theorem dX12_slateBits_21 : decode cX12_slateBits 21 = .ok (.ishl, 1) := by decide +kernel
theorem dX12_slateBits_22 : decode cX12_slateBits 22 = .ok (.ior, 1) := by decide +kernel
theorem dX12_slateBits_23 : decode cX12_slateBits 23 = .ok (.istore_n 1, 1) := by decide +kernel
theorem dX12_slateBits_24 : decode cX12_slateBits 24 = .ok (.iinc 2 1, 3) := by decide +kernel
theorem dX12_slateBits_27 : decode cX12_slateBits 27 = .ok (.goto (-23), 3) := by decide +kernel
theorem dX12_slateBits_30 : decode cX12_slateBits 30 = .ok (.iload_n 1, 1) := by decide +kernel
theorem dX12_slateBits_31 : decode cX12_slateBits 31 = .ok (.ireturn, 1) := by decide +kernel
def ok_X12_slateBits_4 (K : ro_K)  (μ : ro_Mem) : Int32 → Prop := fun e => ro_X K 30 [(1, .int e)] [] μ
def fb_X12_slateBits_4 (μ : ro_Mem) (rec : (Int32 × Int32) → Option Int32) (v1 : Int32) (v2 : Int32) : Option Int32 :=
  if 16 ≤ v2 then
  (some v1)
  else
  ((fn_X12_isSlate v2 μ).bind fun q2 =>
  if q2 = 0 then
  (rec (v1, v2 + 1))
  else
  (ro_lt (v1 ||| ((1 : Int32) <<< (v2 &&& 31))) fun z5 =>
  rec (z5, v2 + 1)))
theorem bb_X12_slateBits_4 {K : ro_K} (hK : ro_C K RX12 cX12_slateBits 3 1) (hR : ro_R K (some .int))   {μ : ro_Mem} {rec : (Int32 × Int32) → Option Int32} {v1 : Int32} {v2 : Int32} {q : Int32} (hrec : ∀ (s : Int32 × Int32) (q : Int32), rec s = some q → ok_X12_slateBits_4 K μ q → ro_X K 4 [(0, .ref (ro_ad (kG K) 207)), (1, .int s.1), (2, .int s.2)] [] μ) (hf : fb_X12_slateBits_4 μ rec v1 v2 = some q) (hq : ok_X12_slateBits_4 K μ q) : ro_X K 4 [(0, .ref (ro_ad (kG K) 207)), (1, .int v1), (2, .int v2)] [] μ := by
  unfold fb_X12_slateBits_4 at hf
  refine ro_iload_n hK 2 rfl dX12_slateBits_4 rfl ?_
  refine ro_bipush (v := 16) hK dX12_slateBits_5 (by decide) ?_
  refine ro_icmp_ge hK 30 dX12_slateBits_7 (by decide) (fun c1 => ?_) (fun c1 => ?_)
  · have hf := ro_it hf c1
    refine ro_sub (L' := [(1, .int v1)]) [1] rfl ?_
    obtain rfl := Option.some.inj hf
    exact hq
  · have hf := ro_ie hf c1
    refine ro_aload_n hK 0 rfl dX12_slateBits_10 rfl ?_
    refine ro_iload_n hK 2 rfl dX12_slateBits_11 rfl ?_
    obtain ⟨q2, e3, hf⟩ := ro_bd hf
    refine ro_callvi hK [.int v2] ml_X12_222 mv_X12_isSlate (mt_X12_isSlate (kl K) (kG K)  e3) sh_207 ⟨_, rfl, rfl⟩ (by decide) rfl rfl (Nat.le_of_ble_eq_true rfl) dX12_slateBits_12 ?_
    refine ro_if_eq hK 24 dX12_slateBits_15 (by decide) (fun c4 => ?_) (fun c4 => ?_)
    · have hf := ro_it hf c4
      refine ro_iinc (v := v2 + 1) (L' := [(2, .int (v2 + 1)), (0, .ref (ro_ad (kG K) 207)), (1, .int v1)]) hK 2 rfl dX12_slateBits_24 rfl (by decide) rfl ?_
      refine ro_goto hK 4 dX12_slateBits_27 (by decide) ?_
      refine ro_sub (L' := [(0, .ref (ro_ad (kG K) 207)), (1, .int v1), (2, .int (v2 + 1))]) [1, 2, 0] rfl ?_
      exact hrec (v1, v2 + 1) _ hf hq
    · have hf := ro_ie hf c4
      refine ro_iload_n hK 1 rfl dX12_slateBits_18 rfl ?_
      refine ro_iconst (v := 1) hK dX12_slateBits_19 (by decide) ?_
      refine ro_iload_n hK 2 rfl dX12_slateBits_20 rfl ?_
      refine ro_ishl hK dX12_slateBits_21 ?_
      refine ro_ior hK dX12_slateBits_22 ?_
      obtain ⟨z5, e6, hf⟩ := ro_ld hf
      refine ro_iv e6 ?_
      refine ro_istore_n (L' := [(1, .int z5), (0, .ref (ro_ad (kG K) 207)), (2, .int v2)]) hK dX12_slateBits_23 rfl (by decide) rfl ?_
      refine ro_iinc (v := v2 + 1) (L' := [(2, .int (v2 + 1)), (1, .int z5), (0, .ref (ro_ad (kG K) 207))]) hK 2 rfl dX12_slateBits_24 rfl (by decide) rfl ?_
      refine ro_goto hK 4 dX12_slateBits_27 (by decide) ?_
      refine ro_sub (L' := [(0, .ref (ro_ad (kG K) 207)), (1, .int z5), (2, .int (v2 + 1))]) [2, 1, 0] rfl ?_
      exact hrec (z5, v2 + 1) _ hf hq
def fl_X12_slateBits_4 (μ : ro_Mem) : (Int32 × Int32) → Option Int32 :=
  ro_loop (fun rec s => fb_X12_slateBits_4 μ rec s.1 s.2) ro_FU
theorem lp_X12_slateBits_4 {K : ro_K} (hK : ro_C K RX12 cX12_slateBits 3 1) (hR : ro_R K (some .int))   {μ : ro_Mem} {s : Int32 × Int32} {q : Int32} (hf : fl_X12_slateBits_4 μ s = some q) (hq : ok_X12_slateBits_4 K μ q) : ro_X K 4 [(0, .ref (ro_ad (kG K) 207)), (1, .int s.1), (2, .int s.2)] [] μ :=
  ro_loopX (b := fun rec s => fb_X12_slateBits_4 μ rec s.1 s.2) (X := fun s => ro_X K 4 [(0, .ref (ro_ad (kG K) 207)), (1, .int s.1), (2, .int s.2)] [] μ) (OK := ok_X12_slateBits_4 K μ) (fun rec s q hrec hb ho => bb_X12_slateBits_4 hK hR  hrec hb ho) ro_FU s q hf hq
def fn_X12_slateBits (μ : ro_Mem) : Option Int32 :=
  (fl_X12_slateBits_4 μ (0, 0)).bind fun q7 =>
  some q7
theorem be_X12_slateBits {K : ro_K} (hK : ro_C K RX12 cX12_slateBits 3 1) (hR : ro_R K (some .int))   {μ : ro_Mem} {out : Int32} (hf : fn_X12_slateBits μ = some out) (hq : kQ K (some (.int out)) μ) : ro_X K 0 [(0, .ref (ro_ad (kG K) 207))] [] μ := by
  unfold fn_X12_slateBits at hf
  refine ro_iconst (v := 0) hK dX12_slateBits_0 (by decide) ?_
  refine ro_istore_n (L' := [(1, .int 0), (0, .ref (ro_ad (kG K) 207))]) hK dX12_slateBits_1 rfl (by decide) rfl ?_
  refine ro_iconst (v := 0) hK dX12_slateBits_2 (by decide) ?_
  refine ro_istore_n (L' := [(2, .int 0), (1, .int 0), (0, .ref (ro_ad (kG K) 207))]) hK dX12_slateBits_3 rfl (by decide) rfl ?_
  obtain ⟨q7, e8, hf⟩ := ro_bd hf
  refine ro_sub (L' := [(0, .ref (ro_ad (kG K) 207)), (1, .int 0), (2, .int 0)]) [2, 1, 0] rfl ?_
  refine lp_X12_slateBits_4 hK hR  e8 ?_
  show ro_X K 30 [(1, .int q7)] [] μ
  refine ro_iload_n hK 0 rfl dX12_slateBits_30 rfl ?_
  obtain rfl := Option.some.inj hf
  exact ro_iret hK hR dX12_slateBits_31 hq
theorem mt_X12_slateBits (l : Launch) (G : ro_G)   {μ : ro_Mem} {out : Int32} (hf : fn_X12_slateBits μ = some out) : ro_MX l G yX12_slateBits cX12_slateBits 3 (some .int) 1 [.ref (ro_ad G 207)] μ (some (.int out)) μ := by
  refine ro_MX.of (by decide +kernel) (Nat.le_of_ble_eq_true rfl) (fun K hG hl hq hK hR => ?_)
  subst hG
  exact be_X12_slateBits hK hR  hf hq
