-- ===== X12_count =====
theorem dX12_count_0 : decode cX12_count 0 = .ok (.iload_n 1, 1) := by decide +kernel
theorem dX12_count_1 : decode cX12_count 1 = .ok (.tableswitch 96 0 8 #[51, 56, 61, 66, 71, 76, 81, 86, 91], 51) := by decide +kernel
theorem dX12_count_52 : decode cX12_count 52 = .ok (.aload_n 0, 1) := by decide +kernel
theorem dX12_count_53 : decode cX12_count 53 = .ok (.getfield 300, 3) := by decide +kernel
theorem dX12_count_56 : decode cX12_count 56 = .ok (.ireturn, 1) := by decide +kernel
theorem dX12_count_57 : decode cX12_count 57 = .ok (.aload_n 0, 1) := by decide +kernel
theorem dX12_count_58 : decode cX12_count 58 = .ok (.getfield 303, 3) := by decide +kernel
theorem dX12_count_61 : decode cX12_count 61 = .ok (.ireturn, 1) := by decide +kernel
theorem dX12_count_62 : decode cX12_count 62 = .ok (.aload_n 0, 1) := by decide +kernel
theorem dX12_count_63 : decode cX12_count 63 = .ok (.getfield 306, 3) := by decide +kernel
theorem dX12_count_66 : decode cX12_count 66 = .ok (.ireturn, 1) := by decide +kernel
theorem dX12_count_67 : decode cX12_count 67 = .ok (.aload_n 0, 1) := by decide +kernel
theorem dX12_count_68 : decode cX12_count 68 = .ok (.getfield 375, 3) := by decide +kernel
theorem dX12_count_71 : decode cX12_count 71 = .ok (.ireturn, 1) := by decide +kernel
theorem dX12_count_72 : decode cX12_count 72 = .ok (.aload_n 0, 1) := by decide +kernel
theorem dX12_count_73 : decode cX12_count 73 = .ok (.getfield 242, 3) := by decide +kernel
theorem dX12_count_76 : decode cX12_count 76 = .ok (.ireturn, 1) := by decide +kernel
theorem dX12_count_77 : decode cX12_count 77 = .ok (.aload_n 0, 1) := by decide +kernel
theorem dX12_count_78 : decode cX12_count 78 = .ok (.getfield 207, 3) := by decide +kernel
theorem dX12_count_81 : decode cX12_count 81 = .ok (.ireturn, 1) := by decide +kernel
theorem dX12_count_82 : decode cX12_count 82 = .ok (.aload_n 0, 1) := by decide +kernel
theorem dX12_count_83 : decode cX12_count 83 = .ok (.invokevirtual 539, 3) := by decide +kernel
theorem dX12_count_86 : decode cX12_count 86 = .ok (.ireturn, 1) := by decide +kernel
theorem dX12_count_87 : decode cX12_count 87 = .ok (.aload_n 0, 1) := by decide +kernel
theorem dX12_count_88 : decode cX12_count 88 = .ok (.getfield 219, 3) := by decide +kernel
theorem dX12_count_91 : decode cX12_count 91 = .ok (.ireturn, 1) := by decide +kernel
theorem dX12_count_92 : decode cX12_count 92 = .ok (.aload_n 0, 1) := by decide +kernel
theorem dX12_count_93 : decode cX12_count 93 = .ok (.getfield 232, 3) := by decide +kernel
theorem dX12_count_96 : decode cX12_count 96 = .ok (.ireturn, 1) := by decide +kernel
theorem dX12_count_97 : decode cX12_count 97 = .ok (.iload_n 1, 1) := by decide +kernel
theorem dX12_count_98 : decode cX12_count 98 = .ok (.bipush 10, 2) := by decide +kernel
theorem dX12_count_100 : decode cX12_count 100 = .ok (.bipush 13, 2) := by decide +kernel
theorem dX12_count_102 : decode cX12_count 102 = .ok (.invokestatic 215, 3) := by decide +kernel
theorem dX12_count_105 : decode cX12_count 105 = .ok (.ifCond .eq 13, 3) := by decide +kernel
theorem dX12_count_108 : decode cX12_count 108 = .ok (.aload_n 0, 1) := by decide +kernel
theorem dX12_count_109 : decode cX12_count 109 = .ok (.getfield 29, 3) := by decide +kernel
theorem dX12_count_112 : decode cX12_count 112 = .ok (.iload_n 1, 1) := by decide +kernel
theorem dX12_count_113 : decode cX12_count 113 = .ok (.bipush 10, 2) := by decide +kernel
theorem dX12_count_115 : decode cX12_count 115 = .ok (.isub, 1) := by decide +kernel
theorem dX12_count_116 : decode cX12_count 116 = .ok (.iaload, 1) := by decide +kernel
theorem dX12_count_117 : decode cX12_count 117 = .ok (.ireturn, 1) := by decide +kernel
theorem dX12_count_118 : decode cX12_count 118 = .ok (.iload_n 1, 1) := by decide +kernel
theorem dX12_count_119 : decode cX12_count 119 = .ok (.bipush 100, 2) := by decide +kernel
theorem dX12_count_121 : decode cX12_count 121 = .ok (.sipush 195, 3) := by decide +kernel
theorem dX12_count_124 : decode cX12_count 124 = .ok (.invokestatic 215, 3) := by decide +kernel
theorem dX12_count_127 : decode cX12_count 127 = .ok (.ifCond .eq 13, 3) := by decide +kernel
theorem dX12_count_130 : decode cX12_count 130 = .ok (.aload_n 0, 1) := by decide +kernel
theorem dX12_count_131 : decode cX12_count 131 = .ok (.getfield 17, 3) := by decide +kernel
theorem dX12_count_134 : decode cX12_count 134 = .ok (.iload_n 1, 1) := by decide +kernel
theorem dX12_count_135 : decode cX12_count 135 = .ok (.bipush 100, 2) := by decide +kernel
theorem dX12_count_137 : decode cX12_count 137 = .ok (.isub, 1) := by decide +kernel
theorem dX12_count_138 : decode cX12_count 138 = .ok (.iaload, 1) := by decide +kernel
theorem dX12_count_139 : decode cX12_count 139 = .ok (.ireturn, 1) := by decide +kernel
theorem dX12_count_140 : decode cX12_count 140 = .ok (.iload_n 1, 1) := by decide +kernel
theorem dX12_count_141 : decode cX12_count 141 = .ok (.sipush 200, 3) := by decide +kernel
theorem dX12_count_144 : decode cX12_count 144 = .ok (.sipush 295, 3) := by decide +kernel
theorem dX12_count_147 : decode cX12_count 147 = .ok (.invokestatic 215, 3) := by decide +kernel
theorem dX12_count_150 : decode cX12_count 150 = .ok (.ifCond .eq 35, 3) := by decide +kernel
theorem dX12_count_153 : decode cX12_count 153 = .ok (.aload_n 0, 1) := by decide +kernel
theorem dX12_count_154 : decode cX12_count 154 = .ok (.getfield 13, 3) := by decide +kernel
theorem dX12_count_157 : decode cX12_count 157 = .ok (.iload_n 1, 1) := by decide +kernel
theorem dX12_count_158 : decode cX12_count 158 = .ok (.sipush 200, 3) := by decide +kernel
theorem dX12_count_161 : decode cX12_count 161 = .ok (.isub, 1) := by decide +kernel
theorem dX12_count_162 : decode cX12_count 162 = .ok (.iaload, 1) := by decide +kernel
theorem dX12_count_163 : decode cX12_count 163 = .ok (.aload_n 0, 1) := by decide +kernel
theorem dX12_count_164 : decode cX12_count 164 = .ok (.getfield 7, 3) := by decide +kernel
theorem dX12_count_167 : decode cX12_count 167 = .ok (.iload_n 1, 1) := by decide +kernel
theorem dX12_count_168 : decode cX12_count 168 = .ok (.sipush 200, 3) := by decide +kernel
theorem dX12_count_171 : decode cX12_count 171 = .ok (.isub, 1) := by decide +kernel
theorem dX12_count_172 : decode cX12_count 172 = .ok (.baload, 1) := by decide +kernel
theorem dX12_count_173 : decode cX12_count 173 = .ok (.ifCond .eq 9, 3) := by decide +kernel
theorem dX12_count_176 : decode cX12_count 176 = .ok (.sipush 1000, 3) := by decide +kernel
theorem dX12_count_179 : decode cX12_count 179 = .ok (.goto 4, 3) := by decide +kernel
theorem dX12_count_182 : decode cX12_count 182 = .ok (.iconst 0, 1) := by decide +kernel
theorem dX12_count_183 : decode cX12_count 183 = .ok (.iadd, 1) := by decide +kernel
theorem dX12_count_184 : decode cX12_count 184 = .ok (.ireturn, 1) := by decide +kernel
theorem dX12_count_185 : decode cX12_count 185 = .ok (.iload_n 1, 1) := by decide +kernel
theorem dX12_count_186 : decode cX12_count 186 = .ok (.sipush 300, 3) := by decide +kernel
theorem dX12_count_189 : decode cX12_count 189 = .ok (.sipush 339, 3) := by decide +kernel
theorem dX12_count_192 : decode cX12_count 192 = .ok (.invokestatic 215, 3) := by decide +kernel
theorem dX12_count_195 : decode cX12_count 195 = .ok (.ifCond .eq 27, 3) := by decide +kernel
theorem dX12_count_198 : decode cX12_count 198 = .ok (.aload_n 0, 1) := by decide +kernel
theorem dX12_count_199 : decode cX12_count 199 = .ok (.iload_n 1, 1) := by decide +kernel
theorem dX12_count_200 : decode cX12_count 200 = .ok (.bipush 10, 2) := by decide +kernel
theorem dX12_count_202 : decode cX12_count 202 = .ok (.irem, 1) := by decide +kernel
theorem dX12_count_203 : decode cX12_count 203 = .ok (.invokevirtual 235, 3) := by decide +kernel
theorem dX12_count_206 : decode cX12_count 206 = .ok (.ifCond .eq 16, 3) := by decide +kernel
theorem dX12_count_209 : decode cX12_count 209 = .ok (.aload_n 0, 1) := by decide +kernel
theorem dX12_count_210 : decode cX12_count 210 = .ok (.getfield 35, 3) := by decide +kernel
theorem dX12_count_213 : decode cX12_count 213 = .ok (.iload_n 1, 1) := by decide +kernel
theorem dX12_count_214 : decode cX12_count 214 = .ok (.sipush 300, 3) := by decide +kernel
theorem dX12_count_217 : decode cX12_count 217 = .ok (.isub, 1) := by decide +kernel
theorem dX12_count_218 : decode cX12_count 218 = .ok (.iaload, 1) := by decide +kernel
theorem dX12_count_219 : decode cX12_count 219 = .ok (.goto 4, 3) := by decide +kernel
theorem dX12_count_222 : decode cX12_count 222 = .ok (.iconst (-1), 1) := by decide +kernel
theorem dX12_count_223 : decode cX12_count 223 = .ok (.ireturn, 1) := by decide +kernel
def fn_X12_count (v1 : Int32) (μ : ro_Mem) : Option Int32 :=
  if v1 = 0 then
  (some (μ 207 18))
  else
  (if v1 = 1 then
  (some (μ 207 19))
  else
  (if v1 = 2 then
  (some (μ 207 20))
  else
  (if v1 = 3 then
  (some (μ 207 38))
  else
  (if v1 = 4 then
  (some (μ 207 13))
  else
  (if v1 = 5 then
  (some (μ 207 0))
  else
  (if v1 = 6 then
  ((fn_X12_slateBits μ).bind fun q1 =>
  some q1)
  else
  (if v1 = 7 then
  (some (μ 207 1))
  else
  (if v1 = 8 then
  (some (μ 207 2))
  else
  ((fn_X12_in v1 10 13).bind fun q3 =>
  if q3 = 0 then
  ((fn_X12_in v1 100 195).bind fun q6 =>
  if q6 = 0 then
  ((fn_X12_in v1 200 295).bind fun q9 =>
  if q9 = 0 then
  ((fn_X12_in v1 300 339).bind fun q12 =>
  if q12 = 0 then
  (some (-1))
  else
  ((fn_X12_isGuest (ro_rem v1 10) μ).bind fun q15 =>
  if q15 = 0 then
  (some (-1))
  else
  (if ro_in (v1 - 300) 40 then
  (some (μ 216 (v1 - 300).toNatClampNeg)) else none)))
  else
  (if ro_in (v1 - 200) 96 then
  (if (μ 208 (v1 - 200).toNatClampNeg) = 0 then
  (some ((μ 209 (v1 - 200).toNatClampNeg) + 0))
  else
  (some ((μ 209 (v1 - 200).toNatClampNeg) + 1000))) else none))
  else
  (if ro_in (v1 - 100) 96 then
  (some (μ 210 (v1 - 100).toNatClampNeg)) else none))
  else
  (if ro_in (v1 - 10) 4 then
  (some (μ 214 (v1 - 10).toNatClampNeg)) else none))))))))))
theorem be_X12_count {K : ro_K} (hK : ro_C K RX12 cX12_count 2 2) (hR : ro_R K (some .int)) {v1 : Int32}  {μ : ro_Mem} {out : Int32} (hf : fn_X12_count v1 μ = some out) (hq : kQ K (some (.int out)) μ) : ro_X K 0 [(0, .ref (ro_ad (kG K) 207)), (1, .int v1)] [] μ := by
  unfold fn_X12_count at hf
  refine ro_iload_n hK 1 rfl dX12_count_0 rfl ?_
  by_cases c_0 : v1 = 0
  · have hf := ro_it hf c_0
    refine ro_tabIn hK 0 52 dX12_count_1 c_0 (by decide) (by decide) rfl (by decide) ?_
    refine ro_aload_n hK 0 rfl dX12_count_52 rfl ?_
    refine ro_geti hK fl_X12_300 sh_207 dX12_count_53 ?_
    obtain rfl := Option.some.inj hf
    exact ro_iret hK hR dX12_count_56 hq
  have hf := ro_ie hf c_0
  by_cases c_1 : v1 = 1
  · have hf := ro_it hf c_1
    refine ro_tabIn hK 1 57 dX12_count_1 c_1 (by decide) (by decide) rfl (by decide) ?_
    refine ro_aload_n hK 0 rfl dX12_count_57 rfl ?_
    refine ro_geti hK fl_X12_303 sh_207 dX12_count_58 ?_
    obtain rfl := Option.some.inj hf
    exact ro_iret hK hR dX12_count_61 hq
  have hf := ro_ie hf c_1
  by_cases c_2 : v1 = 2
  · have hf := ro_it hf c_2
    refine ro_tabIn hK 2 62 dX12_count_1 c_2 (by decide) (by decide) rfl (by decide) ?_
    refine ro_aload_n hK 0 rfl dX12_count_62 rfl ?_
    refine ro_geti hK fl_X12_306 sh_207 dX12_count_63 ?_
    obtain rfl := Option.some.inj hf
    exact ro_iret hK hR dX12_count_66 hq
  have hf := ro_ie hf c_2
  by_cases c_3 : v1 = 3
  · have hf := ro_it hf c_3
    refine ro_tabIn hK 3 67 dX12_count_1 c_3 (by decide) (by decide) rfl (by decide) ?_
    refine ro_aload_n hK 0 rfl dX12_count_67 rfl ?_
    refine ro_geti hK fl_X12_375 sh_207 dX12_count_68 ?_
    obtain rfl := Option.some.inj hf
    exact ro_iret hK hR dX12_count_71 hq
  have hf := ro_ie hf c_3
  by_cases c_4 : v1 = 4
  · have hf := ro_it hf c_4
    refine ro_tabIn hK 4 72 dX12_count_1 c_4 (by decide) (by decide) rfl (by decide) ?_
    refine ro_aload_n hK 0 rfl dX12_count_72 rfl ?_
    refine ro_geti hK fl_X12_242 sh_207 dX12_count_73 ?_
    obtain rfl := Option.some.inj hf
    exact ro_iret hK hR dX12_count_76 hq
  have hf := ro_ie hf c_4
  by_cases c_5 : v1 = 5
  · have hf := ro_it hf c_5
    refine ro_tabIn hK 5 77 dX12_count_1 c_5 (by decide) (by decide) rfl (by decide) ?_
    refine ro_aload_n hK 0 rfl dX12_count_77 rfl ?_
    refine ro_geti hK fl_X12_207 sh_207 dX12_count_78 ?_
    obtain rfl := Option.some.inj hf
    exact ro_iret hK hR dX12_count_81 hq
  have hf := ro_ie hf c_5
  by_cases c_6 : v1 = 6
  · have hf := ro_it hf c_6
    refine ro_tabIn hK 6 82 dX12_count_1 c_6 (by decide) (by decide) rfl (by decide) ?_
    refine ro_aload_n hK 0 rfl dX12_count_82 rfl ?_
    obtain ⟨q1, e2, hf⟩ := ro_bd hf
    refine ro_callvi hK [] ml_X12_539 mv_X12_slateBits (mt_X12_slateBits (kl K) (kG K)  e2) sh_207 ⟨_, rfl, rfl⟩ (by decide) rfl rfl (Nat.le_of_ble_eq_true rfl) dX12_count_83 ?_
    obtain rfl := Option.some.inj hf
    exact ro_iret hK hR dX12_count_86 hq
  have hf := ro_ie hf c_6
  by_cases c_7 : v1 = 7
  · have hf := ro_it hf c_7
    refine ro_tabIn hK 7 87 dX12_count_1 c_7 (by decide) (by decide) rfl (by decide) ?_
    refine ro_aload_n hK 0 rfl dX12_count_87 rfl ?_
    refine ro_geti hK fl_X12_219 sh_207 dX12_count_88 ?_
    obtain rfl := Option.some.inj hf
    exact ro_iret hK hR dX12_count_91 hq
  have hf := ro_ie hf c_7
  by_cases c_8 : v1 = 8
  · have hf := ro_it hf c_8
    refine ro_tabIn hK 8 92 dX12_count_1 c_8 (by decide) (by decide) rfl (by decide) ?_
    refine ro_aload_n hK 0 rfl dX12_count_92 rfl ?_
    refine ro_geti hK fl_X12_232 sh_207 dX12_count_93 ?_
    obtain rfl := Option.some.inj hf
    exact ro_iret hK hR dX12_count_96 hq
  have hf := ro_ie hf c_8
  have tw0 : ¬ v1.toInt = 0 := lv_neT (a := 0) c_0 rfl
  have tw1 : ¬ v1.toInt = 1 := lv_neT (a := 1) c_1 rfl
  have tw2 : ¬ v1.toInt = 2 := lv_neT (a := 2) c_2 rfl
  have tw3 : ¬ v1.toInt = 3 := lv_neT (a := 3) c_3 rfl
  have tw4 : ¬ v1.toInt = 4 := lv_neT (a := 4) c_4 rfl
  have tw5 : ¬ v1.toInt = 5 := lv_neT (a := 5) c_5 rfl
  have tw6 : ¬ v1.toInt = 6 := lv_neT (a := 6) c_6 rfl
  have tw7 : ¬ v1.toInt = 7 := lv_neT (a := 7) c_7 rfl
  have tw8 : ¬ v1.toInt = 8 := lv_neT (a := 8) c_8 rfl
  refine ro_tabOut hK 97 dX12_count_1 (by omega) (by decide) ?_
  refine ro_iload_n hK 1 rfl dX12_count_97 rfl ?_
  refine ro_bipush (v := 10) hK dX12_count_98 (by decide) ?_
  refine ro_bipush (v := 13) hK dX12_count_100 (by decide) ?_
  obtain ⟨q3, e4, hf⟩ := ro_bd hf
  refine ro_callsi hK [.int v1, .int 10, .int 13] ml_X12_215 ms_X12_in (mt_X12_in (kl K) (kG K)  e4) (by decide) rfl rfl (Nat.le_of_ble_eq_true rfl) dX12_count_102 ?_
  refine ro_if_eq hK 118 dX12_count_105 (by decide) (fun c5 => ?_) (fun c5 => ?_)
  · have hf := ro_it hf c5
    refine ro_iload_n hK 1 rfl dX12_count_118 rfl ?_
    refine ro_bipush (v := 100) hK dX12_count_119 (by decide) ?_
    refine ro_sipush (v := 195) hK dX12_count_121 (by decide) ?_
    obtain ⟨q6, e7, hf⟩ := ro_bd hf
    refine ro_callsi hK [.int v1, .int 100, .int 195] ml_X12_215 ms_X12_in (mt_X12_in (kl K) (kG K)  e7) (by decide) rfl rfl (Nat.le_of_ble_eq_true rfl) dX12_count_124 ?_
    refine ro_if_eq hK 140 dX12_count_127 (by decide) (fun c8 => ?_) (fun c8 => ?_)
    · have hf := ro_it hf c8
      refine ro_iload_n hK 1 rfl dX12_count_140 rfl ?_
      refine ro_sipush (v := 200) hK dX12_count_141 (by decide) ?_
      refine ro_sipush (v := 295) hK dX12_count_144 (by decide) ?_
      obtain ⟨q9, e10, hf⟩ := ro_bd hf
      refine ro_callsi hK [.int v1, .int 200, .int 295] ml_X12_215 ms_X12_in (mt_X12_in (kl K) (kG K)  e10) (by decide) rfl rfl (Nat.le_of_ble_eq_true rfl) dX12_count_147 ?_
      refine ro_if_eq hK 185 dX12_count_150 (by decide) (fun c11 => ?_) (fun c11 => ?_)
      · have hf := ro_it hf c11
        refine ro_iload_n hK 1 rfl dX12_count_185 rfl ?_
        refine ro_sipush (v := 300) hK dX12_count_186 (by decide) ?_
        refine ro_sipush (v := 339) hK dX12_count_189 (by decide) ?_
        obtain ⟨q12, e13, hf⟩ := ro_bd hf
        refine ro_callsi hK [.int v1, .int 300, .int 339] ml_X12_215 ms_X12_in (mt_X12_in (kl K) (kG K)  e13) (by decide) rfl rfl (Nat.le_of_ble_eq_true rfl) dX12_count_192 ?_
        refine ro_if_eq hK 222 dX12_count_195 (by decide) (fun c14 => ?_) (fun c14 => ?_)
        · have hf := ro_it hf c14
          refine ro_iconst (v := (-1)) hK dX12_count_222 (by decide) ?_
          obtain rfl := Option.some.inj hf
          exact ro_iret hK hR dX12_count_223 hq
        · have hf := ro_ie hf c14
          refine ro_aload_n hK 0 rfl dX12_count_198 rfl ?_
          refine ro_iload_n hK 1 rfl dX12_count_199 rfl ?_
          refine ro_bipush (v := 10) hK dX12_count_200 (by decide) ?_
          refine ro_irem hK dX12_count_202 (by decide) ?_
          obtain ⟨q15, e16, hf⟩ := ro_bd hf
          refine ro_callvi hK [.int (ro_rem v1 10)] ml_X12_235 mv_X12_isGuest (mt_X12_isGuest (kl K) (kG K)  e16) sh_207 ⟨_, rfl, rfl⟩ (by decide) rfl rfl (Nat.le_of_ble_eq_true rfl) dX12_count_203 ?_
          refine ro_if_eq hK 222 dX12_count_206 (by decide) (fun c17 => ?_) (fun c17 => ?_)
          · have hf := ro_it hf c17
            refine ro_iconst (v := (-1)) hK dX12_count_222 (by decide) ?_
            obtain rfl := Option.some.inj hf
            exact ro_iret hK hR dX12_count_223 hq
          · have hf := ro_ie hf c17
            refine ro_aload_n hK 0 rfl dX12_count_209 rfl ?_
            refine ro_getr hK fl_X12_35 sh_207 dX12_count_210 ?_
            refine ro_iload_n hK 1 rfl dX12_count_213 rfl ?_
            refine ro_sipush (v := 300) hK dX12_count_214 (by decide) ?_
            refine ro_isub hK dX12_count_217 ?_
            obtain ⟨g18, hf⟩ := ro_gd hf
            refine ro_iald hK sh_216 g18 dX12_count_218 ?_
            refine ro_goto hK 223 dX12_count_219 (by decide) ?_
            obtain rfl := Option.some.inj hf
            exact ro_iret hK hR dX12_count_223 hq
      · have hf := ro_ie hf c11
        refine ro_aload_n hK 0 rfl dX12_count_153 rfl ?_
        refine ro_getr hK fl_X12_13 sh_207 dX12_count_154 ?_
        refine ro_iload_n hK 1 rfl dX12_count_157 rfl ?_
        refine ro_sipush (v := 200) hK dX12_count_158 (by decide) ?_
        refine ro_isub hK dX12_count_161 ?_
        obtain ⟨g19, hf⟩ := ro_gd hf
        refine ro_iald hK sh_209 g19 dX12_count_162 ?_
        refine ro_aload_n hK 0 rfl dX12_count_163 rfl ?_
        refine ro_getr hK fl_X12_7 sh_207 dX12_count_164 ?_
        refine ro_iload_n hK 1 rfl dX12_count_167 rfl ?_
        refine ro_sipush (v := 200) hK dX12_count_168 (by decide) ?_
        refine ro_isub hK dX12_count_171 ?_
        refine ro_zald hK sh_208 g19 dX12_count_172 ?_
        refine ro_if_eq hK 182 dX12_count_173 (by decide) (fun c20 => ?_) (fun c20 => ?_)
        · have hf := ro_it hf c20
          refine ro_iconst (v := 0) hK dX12_count_182 (by decide) ?_
          refine ro_iadd hK dX12_count_183 ?_
          obtain rfl := Option.some.inj hf
          exact ro_iret hK hR dX12_count_184 hq
        · have hf := ro_ie hf c20
          refine ro_sipush (v := 1000) hK dX12_count_176 (by decide) ?_
          refine ro_goto hK 183 dX12_count_179 (by decide) ?_
          refine ro_iadd hK dX12_count_183 ?_
          obtain rfl := Option.some.inj hf
          exact ro_iret hK hR dX12_count_184 hq
    · have hf := ro_ie hf c8
      refine ro_aload_n hK 0 rfl dX12_count_130 rfl ?_
      refine ro_getr hK fl_X12_17 sh_207 dX12_count_131 ?_
      refine ro_iload_n hK 1 rfl dX12_count_134 rfl ?_
      refine ro_bipush (v := 100) hK dX12_count_135 (by decide) ?_
      refine ro_isub hK dX12_count_137 ?_
      obtain ⟨g21, hf⟩ := ro_gd hf
      refine ro_iald hK sh_210 g21 dX12_count_138 ?_
      obtain rfl := Option.some.inj hf
      exact ro_iret hK hR dX12_count_139 hq
  · have hf := ro_ie hf c5
    refine ro_aload_n hK 0 rfl dX12_count_108 rfl ?_
    refine ro_getr hK fl_X12_29 sh_207 dX12_count_109 ?_
    refine ro_iload_n hK 1 rfl dX12_count_112 rfl ?_
    refine ro_bipush (v := 10) hK dX12_count_113 (by decide) ?_
    refine ro_isub hK dX12_count_115 ?_
    obtain ⟨g22, hf⟩ := ro_gd hf
    refine ro_iald hK sh_214 g22 dX12_count_116 ?_
    obtain rfl := Option.some.inj hf
    exact ro_iret hK hR dX12_count_117 hq
theorem mt_X12_count (l : Launch) (G : ro_G) {v1 : Int32}  {μ : ro_Mem} {out : Int32} (hf : fn_X12_count v1 μ = some out) : ro_MX l G yX12_count cX12_count 2 (some .int) 2 [.ref (ro_ad G 207), .int v1] μ (some (.int out)) μ := by
  refine ro_MX.of (by decide +kernel) (Nat.le_of_ble_eq_true rfl) (fun K hG hl hq hK hR => ?_)
  subst hG
  exact be_X12_count hK hR  hf hq
