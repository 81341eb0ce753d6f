-- ===== X12_laysThrough =====
theorem dX12_laysThrough_0 : decode cX12_laysThrough 0 = .ok (.iconst 0, 1) := by decide +kernel
theorem dX12_laysThrough_1 : decode cX12_laysThrough 1 = .ok (.istore_n 2, 1) := by decide +kernel
theorem dX12_laysThrough_2 : decode cX12_laysThrough 2 = .ok (.iload_n 2, 1) := by decide +kernel
theorem dX12_laysThrough_3 : decode cX12_laysThrough 3 = .ok (.iconst 4, 1) := by decide +kernel
theorem dX12_laysThrough_4 : decode cX12_laysThrough 4 = .ok (.if_icmp .ge 200, 3) := by decide +kernel
theorem dX12_laysThrough_7 : decode cX12_laysThrough 7 = .ok (.iconst 0, 1) := by decide +kernel
theorem dX12_laysThrough_8 : decode cX12_laysThrough 8 = .ok (.istore_n 3, 1) := by decide +kernel
theorem dX12_laysThrough_9 : decode cX12_laysThrough 9 = .ok (.iload_n 3, 1) := by decide +kernel
theorem dX12_laysThrough_10 : decode cX12_laysThrough 10 = .ok (.bipush 10, 2) := by decide +kernel
theorem dX12_laysThrough_12 : decode cX12_laysThrough 12 = .ok (.if_icmp .ge 186, 3) := by decide +kernel
theorem dX12_laysThrough_15 : decode cX12_laysThrough 15 = .ok (.iload_n 1, 1) := by decide +kernel
theorem dX12_laysThrough_16 : decode cX12_laysThrough 16 = .ok (.iload_n 3, 1) := by decide +kernel
theorem dX12_laysThrough_17 : decode cX12_laysThrough 17 = .ok (.invokestatic 226, 3) := by decide +kernel
theorem dX12_laysThrough_20 : decode cX12_laysThrough 20 = .ok (.ifCond .eq 17, 3) := by decide +kernel
theorem dX12_laysThrough_23 : decode cX12_laysThrough 23 = .ok (.aload_n 0, 1) := by decide +kernel
theorem dX12_laysThrough_24 : decode cX12_laysThrough 24 = .ok (.getfield 35, 3) := by decide +kernel
theorem dX12_laysThrough_27 : decode cX12_laysThrough 27 = .ok (.bipush 10, 2) := by decide +kernel
theorem dX12_laysThrough_29 : decode cX12_laysThrough 29 = .ok (.iload_n 2, 1) := by decide +kernel
theorem dX12_laysThrough_30 : decode cX12_laysThrough 30 = .ok (.imul, 1) := by decide +kernel
theorem dX12_laysThrough_31 : decode cX12_laysThrough 31 = .ok (.iload_n 3, 1) := by decide +kernel
theorem dX12_laysThrough_32 : decode cX12_laysThrough 32 = .ok (.iadd, 1) := by decide +kernel
theorem dX12_laysThrough_33 : decode cX12_laysThrough 33 = .ok (.iaload, 1) := by decide +kernel
theorem dX12_laysThrough_34 : decode cX12_laysThrough 34 = .ok (.goto 6, 3) := by decide +kernel
theorem dX12_laysThrough_37 : decode cX12_laysThrough 37 = .ok (.sipush 255, 3) := by decide +kernel
theorem dX12_laysThrough_40 : decode cX12_laysThrough 40 = .ok (.istore 4, 2) := by decide +kernel
theorem dX12_laysThrough_42 : decode cX12_laysThrough 42 = .ok (.aload_n 0, 1) := by decide +kernel
theorem dX12_laysThrough_43 : decode cX12_laysThrough 43 = .ok (.getfield 147, 3) := by decide +kernel
theorem dX12_laysThrough_46 : decode cX12_laysThrough 46 = .ok (.bipush 10, 2) := by decide +kernel
theorem dX12_laysThrough_48 : decode cX12_laysThrough 48 = .ok (.iload_n 2, 1) := by decide +kernel
theorem dX12_laysThrough_49 : decode cX12_laysThrough 49 = .ok (.imul, 1) := by decide +kernel
theorem dX12_laysThrough_50 : decode cX12_laysThrough 50 = .ok (.iload_n 3, 1) := by decide +kernel
theorem dX12_laysThrough_51 : decode cX12_laysThrough 51 = .ok (.iadd, 1) := by decide +kernel
theorem dX12_laysThrough_52 : decode cX12_laysThrough 52 = .ok (.iload 4, 2) := by decide +kernel
theorem dX12_laysThrough_54 : decode cX12_laysThrough 54 = .ok (.sipush 255, 3) := by decide +kernel
theorem dX12_laysThrough_57 : decode cX12_laysThrough 57 = .ok (.if_icmp .ne 9, 3) := by decide +kernel
theorem dX12_laysThrough_60 : decode cX12_laysThrough 60 = .ok (.ldc_w 456, 3) := by decide +kernel
theorem dX12_laysThrough_63 : decode cX12_laysThrough 63 = .ok (.goto 10, 3) := by decide +kernel
theorem dX12_laysThrough_66 : decode cX12_laysThrough 66 = .ok (.aload_n 0, 1) := by decide +kernel
theorem dX12_laysThrough_67 : decode cX12_laysThrough 67 = .ok (.getfield 13, 3) := by decide +kernel
theorem dX12_laysThrough_70 : decode cX12_laysThrough 70 = .ok (.iload 4, 2) := by decide +kernel
theorem dX12_laysThrough_72 : decode cX12_laysThrough 72 = .ok (.iaload, 1) := by decide +kernel
theorem dX12_laysThrough_73 : decode cX12_laysThrough 73 = .ok (.iastore, 1) := by decide +kernel
theorem dX12_laysThrough_74 : decode cX12_laysThrough 74 = .ok (.iconst 0, 1) := by decide +kernel
theorem dX12_laysThrough_75 : decode cX12_laysThrough 75 = .ok (.istore 5, 2) := by decide +kernel
theorem dX12_laysThrough_77 : decode cX12_laysThrough 77 = .ok (.iload 5, 2) := by decide +kernel
theorem dX12_laysThrough_79 : decode cX12_laysThrough 79 = .ok (.bipush 16, 2) := by decide +kernel
theorem dX12_laysThrough_81 : decode cX12_laysThrough 81 = .ok (.if_icmp .ge 111, 3) := by decide +kernel
theorem dX12_laysThrough_84 : decode cX12_laysThrough 84 = .ok (.iconst 0, 1) := by decide +kernel
theorem dX12_laysThrough_85 : decode cX12_laysThrough 85 = .ok (.istore 6, 2) := by decide +kernel
theorem dX12_laysThrough_87 : decode cX12_laysThrough 87 = .ok (.iconst 0, 1) := by decide +kernel
theorem dX12_laysThrough_88 : decode cX12_laysThrough 88 = .ok (.istore 7, 2) := by decide +kernel
theorem dX12_laysThrough_90 : decode cX12_laysThrough 90 = .ok (.iload 7, 2) := by decide +kernel
theorem dX12_laysThrough_92 : decode cX12_laysThrough 92 = .ok (.aload_n 0, 1) := by decide +kernel
theorem dX12_laysThrough_93 : decode cX12_laysThrough 93 = .ok (.getfield 300, 3) := by decide +kernel
theorem dX12_laysThrough_96 : decode cX12_laysThrough 96 = .ok (.if_icmp .ge 71, 3) := by decide +kernel
theorem dX12_laysThrough_99 : decode cX12_laysThrough 99 = .ok (.iload 4, 2) := by decide +kernel
theorem dX12_laysThrough_101 : decode cX12_laysThrough 101 = .ok (.sipush 255, 3) := by decide +kernel
theorem dX12_laysThrough_104 : decode cX12_laysThrough 104 = .ok (.if_icmp .eq 63, 3) := by decide +kernel
theorem dX12_laysThrough_107 : decode cX12_laysThrough 107 = .ok (.aload_n 0, 1) := by decide +kernel
theorem dX12_laysThrough_108 : decode cX12_laysThrough 108 = .ok (.getfield 111, 3) := by decide +kernel
theorem dX12_laysThrough_111 : decode cX12_laysThrough 111 = .ok (.bipush 16, 2) := by decide +kernel
theorem dX12_laysThrough_113 : decode cX12_laysThrough 113 = .ok (.iload 7, 2) := by decide +kernel
theorem dX12_laysThrough_115 : decode cX12_laysThrough 115 = .ok (.imul, 1) := by decide +kernel
theorem dX12_laysThrough_116 : decode cX12_laysThrough 116 = .ok (.iload 5, 2) := by decide +kernel
theorem dX12_laysThrough_118 : decode cX12_laysThrough 118 = .ok (.iadd, 1) := by decide +kernel
theorem dX12_laysThrough_119 : decode cX12_laysThrough 119 = .ok (.iaload, 1) := by decide +kernel
theorem dX12_laysThrough_120 : decode cX12_laysThrough 120 = .ok (.ifCond .le 41, 3) := by decide +kernel
theorem dX12_laysThrough_123 : decode cX12_laysThrough 123 = .ok (.aload_n 0, 1) := by decide +kernel
theorem dX12_laysThrough_124 : decode cX12_laysThrough 124 = .ok (.iload 7, 2) := by decide +kernel
theorem dX12_laysThrough_126 : decode cX12_laysThrough 126 = .ok (.iload 5, 2) := by decide +kernel
theorem dX12_laysThrough_128 : decode cX12_laysThrough 128 = .ok (.invokevirtual 409, 3) := by decide +kernel
theorem dX12_laysThrough_131 : decode cX12_laysThrough 131 = .ok (.iload_n 2, 1) := by decide +kernel
theorem dX12_laysThrough_132 : decode cX12_laysThrough 132 = .ok (.if_icmp .ne 29, 3) := by decide +kernel
theorem dX12_laysThrough_135 : decode cX12_laysThrough 135 = .ok (.iload 6, 2) := by decide +kernel
theorem dX12_laysThrough_137 : decode cX12_laysThrough 137 = .ok (.aload_n 0, 1) := by decide +kernel
theorem dX12_laysThrough_138 : decode cX12_laysThrough 138 = .ok (.iload 5, 2) := by decide +kernel
theorem dX12_laysThrough_140 : decode cX12_laysThrough 140 = .ok (.iload 4, 2) := by decide +kernel
theorem dX12_laysThrough_142 : decode cX12_laysThrough 142 = .ok (.aload_n 0, 1) := by decide +kernel
theorem dX12_laysThrough_143 : decode cX12_laysThrough 143 = .ok (.getfield 111, 3) := by decide +kernel
theorem dX12_laysThrough_146 : decode cX12_laysThrough 146 = .ok (.bipush 16, 2) := by decide +kernel
theorem dX12_laysThrough_148 : decode cX12_laysThrough 148 = .ok (.iload 7, 2) := by decide +kernel
theorem dX12_laysThrough_150 : decode cX12_laysThrough 150 = .ok (.imul, 1) := by decide +kernel
theorem dX12_laysThrough_151 : decode cX12_laysThrough 151 = .ok (.iload 5, 2) := by decide +kernel
theorem dX12_laysThrough_153 : decode cX12_laysThrough 153 = .ok (.iadd, 1) := by decide +kernel
theorem dX12_laysThrough_154 : decode cX12_laysThrough 154 = .ok (.iaload, 1) := by decide +kernel
theorem dX12_laysThrough_155 : decode cX12_laysThrough 155 = .ok (.invokevirtual 412, 3) := by decide +kernel
theorem dX12_laysThrough_158 : decode cX12_laysThrough 158 = .ok (.iadd, 1) := by decide +kernel
theorem dX12_laysThrough_159 : decode cX12_laysThrough 159 = .ok (.istore 6, 2) := by decide +kernel
theorem dX12_laysThrough_161 : decode cX12_laysThrough 161 = .ok (.iinc 7 1, 3) := by decide +kernel
theorem dX12_laysThrough_164 : decode cX12_laysThrough 164 = .ok (.goto (-74), 3) := by decide +kernel
theorem dX12_laysThrough_167 : decode cX12_laysThrough 167 = .ok (.aload_n 0, 1) := by decide +kernel
theorem dX12_laysThrough_168 : decode cX12_laysThrough 168 = .ok (.getfield 144, 3) := by decide +kernel
theorem dX12_laysThrough_171 : decode cX12_laysThrough 171 = .ok (.bipush 16, 2) := by decide +kernel
theorem dX12_laysThrough_173 : decode cX12_laysThrough 173 = .ok (.bipush 10, 2) := by decide +kernel
theorem dX12_laysThrough_175 : decode cX12_laysThrough 175 = .ok (.iload_n 2, 1) := by decide +kernel
theorem dX12_laysThrough_176 : decode cX12_laysThrough 176 = .ok (.imul, 1) := by decide +kernel
theorem dX12_laysThrough_177 : decode cX12_laysThrough 177 = .ok (.iload_n 3, 1) := by decide +kernel
theorem dX12_laysThrough_178 : decode cX12_laysThrough 178 = .ok (.iadd, 1) := by decide +kernel
theorem dX12_laysThrough_179 : decode cX12_laysThrough 179 = .ok (.imul, 1) := by decide +kernel
theorem dX12_laysThrough_180 : decode cX12_laysThrough 180 = .ok (.iload 5, 2) := by decide +kernel
theorem dX12_laysThrough_182 : decode cX12_laysThrough 182 = .ok (.iadd, 1) := by decide +kernel
theorem dX12_laysThrough_183 : decode cX12_laysThrough 183 = .ok (.iload 6, 2) := by decide +kernel
theorem dX12_laysThrough_185 : decode cX12_laysThrough 185 = .ok (.iastore, 1) := by decide +kernel
theorem dX12_laysThrough_186 : decode cX12_laysThrough 186 = .ok (.iinc 5 1, 3) := by decide +kernel
theorem dX12_laysThrough_189 : decode cX12_laysThrough 189 = .ok (.goto (-112), 3) := by decide +kernel
theorem dX12_laysThrough_192 : decode cX12_laysThrough 192 = .ok (.iinc 3 1, 3) := by decide +kernel
theorem dX12_laysThrough_195 : decode cX12_laysThrough 195 = .ok (.goto (-186), 3) := by decide +kernel
theorem dX12_laysThrough_198 : decode cX12_laysThrough 198 = .ok (.iinc 2 1, 3) := by decide +kernel
theorem dX12_laysThrough_201 : decode cX12_laysThrough 201 = .ok (.goto (-199), 3) := by decide +kernel
theorem dX12_laysThrough_204 : decode cX12_laysThrough 204 = .ok (.return_, 1) := by decide +kernel
def ok_X12_laysThrough_2 (K : ro_K) (v1 : Int32) : ro_Mem → Prop := fun e => ro_X K 204 [] [] e
def ok_X12_laysThrough_9 (K : ro_K) (v1 : Int32) (v2 : Int32) : ro_Mem → Prop := fun e => ro_X K 198 [(0, .ref (ro_ad (kG K) 207)), (1, .int v1), (2, .int v2)] [] e
def ok_X12_laysThrough_77 (K : ro_K) (v1 : Int32) (v2 : Int32) (v3 : Int32) (v4 : Int32) : ro_Mem → Prop := fun e => ro_X K 192 [(0, .ref (ro_ad (kG K) 207)), (1, .int v1), (2, .int v2), (3, .int v3)] [] e
def ok_X12_laysThrough_90 (K : ro_K) (v1 : Int32) (v2 : Int32) (v3 : Int32) (v4 : Int32) (v5 : Int32) (μ : ro_Mem) : Int32 → Prop := fun e => ro_X K 167 [(0, .ref (ro_ad (kG K) 207)), (1, .int v1), (2, .int v2), (3, .int v3), (4, .int v4), (5, .int v5), (6, .int e)] [] μ
def fb_X12_laysThrough_90 (v1 : Int32) (v2 : Int32) (v3 : Int32) (v4 : Int32) (v5 : Int32) (μ : ro_Mem) (rec : (Int32 × Int32) → Option Int32) (v6 : Int32) (v7 : Int32) : Option Int32 :=
  if (μ 207 18) ≤ v7 then
  (some v6)
  else
  (if v4 = 255 then
  (some v6)
  else
  (if ro_in ((16 * v7) + v5) 512 then
  (if (μ 241 ((16 * v7) + v5).toNatClampNeg) ≤ 0 then
  (rec (v6, v7 + 1))
  else
  ((fn_X12_fallsIn v7 v5 μ).bind fun q16 =>
  if q16 = v2 then
  ((fn_X12_lands_ v5 v4 (μ 241 ((16 * v7) + v5).toNatClampNeg) μ).bind fun q19 =>
  ro_lt (v6 + q19) fun z21 =>
  rec (z21, v7 + 1))
  else
  (rec (v6, v7 + 1)))) else none))
theorem bb_X12_laysThrough_90 {K : ro_K} (hK : ro_C K RX12 cX12_laysThrough 8 2) (hR : ro_R K none) {v1 : Int32} {v2 : Int32} {v3 : Int32} {v4 : Int32} {v5 : Int32}  {μ : ro_Mem} {rec : (Int32 × Int32) → Option Int32} {v6 : Int32} {v7 : Int32} {q : Int32} (hrec : ∀ (s : Int32 × Int32) (q : Int32), rec s = some q → ok_X12_laysThrough_90 K v1 v2 v3 v4 v5 μ q → ro_X K 90 [(0, .ref (ro_ad (kG K) 207)), (1, .int v1), (2, .int v2), (3, .int v3), (4, .int v4), (5, .int v5), (6, .int s.1), (7, .int s.2)] [] μ) (hf : fb_X12_laysThrough_90 v1 v2 v3 v4 v5 μ rec v6 v7 = some q) (hq : ok_X12_laysThrough_90 K v1 v2 v3 v4 v5 μ q) : ro_X K 90 [(0, .ref (ro_ad (kG K) 207)), (1, .int v1), (2, .int v2), (3, .int v3), (4, .int v4), (5, .int v5), (6, .int v6), (7, .int v7)] [] μ := by
  unfold fb_X12_laysThrough_90 at hf
  refine ro_iload hK 7 rfl dX12_laysThrough_90 ?_
  refine ro_aload_n hK 0 rfl dX12_laysThrough_92 rfl ?_
  refine ro_geti hK fl_X12_300 sh_207 dX12_laysThrough_93 ?_
  refine ro_icmp_ge hK 167 dX12_laysThrough_96 (by decide) (fun c12 => ?_) (fun c12 => ?_)
  · have hf := ro_it hf c12
    refine ro_sub (L' := [(0, .ref (ro_ad (kG K) 207)), (1, .int v1), (2, .int v2), (3, .int v3), (4, .int v4), (5, .int v5), (6, .int v6)]) [0, 1, 2, 3, 4, 5, 6] rfl ?_
    obtain rfl := Option.some.inj hf
    exact hq
  · have hf := ro_ie hf c12
    refine ro_iload hK 4 rfl dX12_laysThrough_99 ?_
    refine ro_sipush (v := 255) hK dX12_laysThrough_101 (by decide) ?_
    refine ro_icmp_eq hK 167 dX12_laysThrough_104 (by decide) (fun c13 => ?_) (fun c13 => ?_)
    · have hf := ro_it hf c13
      refine ro_sub (L' := [(0, .ref (ro_ad (kG K) 207)), (1, .int v1), (2, .int v2), (3, .int v3), (4, .int v4), (5, .int v5), (6, .int v6)]) [0, 1, 2, 3, 4, 5, 6] rfl ?_
      obtain rfl := Option.some.inj hf
      exact hq
    · have hf := ro_ie hf c13
      refine ro_aload_n hK 0 rfl dX12_laysThrough_107 rfl ?_
      refine ro_getr hK fl_X12_111 sh_207 dX12_laysThrough_108 ?_
      refine ro_bipush (v := 16) hK dX12_laysThrough_111 (by decide) ?_
      refine ro_iload hK 7 rfl dX12_laysThrough_113 ?_
      refine ro_imul hK dX12_laysThrough_115 ?_
      refine ro_iload hK 5 rfl dX12_laysThrough_116 ?_
      refine ro_iadd hK dX12_laysThrough_118 ?_
      obtain ⟨g14, hf⟩ := ro_gd hf
      refine ro_iald hK sh_241 g14 dX12_laysThrough_119 ?_
      refine ro_if_le hK 161 dX12_laysThrough_120 (by decide) (fun c15 => ?_) (fun c15 => ?_)
      · have hf := ro_it hf c15
        refine ro_iinc (v := v7 + 1) (L' := [(7, .int (v7 + 1)), (0, .ref (ro_ad (kG K) 207)), (1, .int v1), (2, .int v2), (3, .int v3), (4, .int v4), (5, .int v5), (6, .int v6)]) hK 7 rfl dX12_laysThrough_161 rfl (by decide) rfl ?_
        refine ro_goto hK 90 dX12_laysThrough_164 (by decide) ?_
        refine ro_sub (L' := [(0, .ref (ro_ad (kG K) 207)), (1, .int v1), (2, .int v2), (3, .int v3), (4, .int v4), (5, .int v5), (6, .int v6), (7, .int (v7 + 1))]) [1, 2, 3, 4, 5, 6, 7, 0] rfl ?_
        exact hrec (v6, v7 + 1) _ hf hq
      · have hf := ro_ie hf c15
        refine ro_aload_n hK 0 rfl dX12_laysThrough_123 rfl ?_
        refine ro_iload hK 7 rfl dX12_laysThrough_124 ?_
        refine ro_iload hK 5 rfl dX12_laysThrough_126 ?_
        obtain ⟨q16, e17, hf⟩ := ro_bd hf
        refine ro_callvi hK [.int v7, .int v5] ml_X12_409 mv_X12_fallsIn (mt_X12_fallsIn (kl K) (kG K)  e17) sh_207 ⟨_, rfl, rfl⟩ (by decide) rfl rfl (Nat.le_of_ble_eq_true rfl) dX12_laysThrough_128 ?_
        refine ro_iload_n hK 2 rfl dX12_laysThrough_131 rfl ?_
        refine ro_icmp_ne hK 161 dX12_laysThrough_132 (by decide) (fun c18 => ?_) (fun c18 => ?_)
        · have hf := ro_ie hf c18
          refine ro_iinc (v := v7 + 1) (L' := [(7, .int (v7 + 1)), (0, .ref (ro_ad (kG K) 207)), (1, .int v1), (2, .int v2), (3, .int v3), (4, .int v4), (5, .int v5), (6, .int v6)]) hK 7 rfl dX12_laysThrough_161 rfl (by decide) rfl ?_
          refine ro_goto hK 90 dX12_laysThrough_164 (by decide) ?_
          refine ro_sub (L' := [(0, .ref (ro_ad (kG K) 207)), (1, .int v1), (2, .int v2), (3, .int v3), (4, .int v4), (5, .int v5), (6, .int v6), (7, .int (v7 + 1))]) [1, 2, 3, 4, 5, 6, 7, 0] rfl ?_
          exact hrec (v6, v7 + 1) _ hf hq
        · have hf := ro_it hf c18
          refine ro_iload hK 6 rfl dX12_laysThrough_135 ?_
          refine ro_aload_n hK 0 rfl dX12_laysThrough_137 rfl ?_
          refine ro_iload hK 5 rfl dX12_laysThrough_138 ?_
          refine ro_iload hK 4 rfl dX12_laysThrough_140 ?_
          refine ro_aload_n hK 0 rfl dX12_laysThrough_142 rfl ?_
          refine ro_getr hK fl_X12_111 sh_207 dX12_laysThrough_143 ?_
          refine ro_bipush (v := 16) hK dX12_laysThrough_146 (by decide) ?_
          refine ro_iload hK 7 rfl dX12_laysThrough_148 ?_
          refine ro_imul hK dX12_laysThrough_150 ?_
          refine ro_iload hK 5 rfl dX12_laysThrough_151 ?_
          refine ro_iadd hK dX12_laysThrough_153 ?_
          refine ro_iald hK sh_241 g14 dX12_laysThrough_154 ?_
          obtain ⟨q19, e20, hf⟩ := ro_bd hf
          refine ro_callvi hK [.int v5, .int v4, .int (μ 241 ((16 * v7) + v5).toNatClampNeg)] ml_X12_412 mv_X12_lands_ (mt_X12_lands_ (kl K) (kG K)  e20) sh_207 ⟨_, rfl, rfl⟩ (by decide) rfl rfl (Nat.le_of_ble_eq_true rfl) dX12_laysThrough_155 ?_
          refine ro_iadd hK dX12_laysThrough_158 ?_
          obtain ⟨z21, e22, hf⟩ := ro_ld hf
          refine ro_iv e22 ?_
          refine ro_istore (L' := [(6, .int z21), (0, .ref (ro_ad (kG K) 207)), (1, .int v1), (2, .int v2), (3, .int v3), (4, .int v4), (5, .int v5), (7, .int v7)]) hK dX12_laysThrough_159 (by decide) rfl ?_
          refine ro_iinc (v := v7 + 1) (L' := [(7, .int (v7 + 1)), (6, .int z21), (0, .ref (ro_ad (kG K) 207)), (1, .int v1), (2, .int v2), (3, .int v3), (4, .int v4), (5, .int v5)]) hK 7 rfl dX12_laysThrough_161 rfl (by decide) rfl ?_
          refine ro_goto hK 90 dX12_laysThrough_164 (by decide) ?_
          refine ro_sub (L' := [(0, .ref (ro_ad (kG K) 207)), (1, .int v1), (2, .int v2), (3, .int v3), (4, .int v4), (5, .int v5), (6, .int z21), (7, .int (v7 + 1))]) [2, 3, 4, 5, 6, 7, 1, 0] rfl ?_
          exact hrec (z21, v7 + 1) _ hf hq
def fl_X12_laysThrough_90 (v1 : Int32) (v2 : Int32) (v3 : Int32) (v4 : Int32) (v5 : Int32) (μ : ro_Mem) : (Int32 × Int32) → Option Int32 :=
  ro_loop (fun rec s => fb_X12_laysThrough_90 v1 v2 v3 v4 v5 μ rec s.1 s.2) ro_FU
theorem lp_X12_laysThrough_90 {K : ro_K} (hK : ro_C K RX12 cX12_laysThrough 8 2) (hR : ro_R K none) {v1 : Int32} {v2 : Int32} {v3 : Int32} {v4 : Int32} {v5 : Int32}  {μ : ro_Mem} {s : Int32 × Int32} {q : Int32} (hf : fl_X12_laysThrough_90 v1 v2 v3 v4 v5 μ s = some q) (hq : ok_X12_laysThrough_90 K v1 v2 v3 v4 v5 μ q) : ro_X K 90 [(0, .ref (ro_ad (kG K) 207)), (1, .int v1), (2, .int v2), (3, .int v3), (4, .int v4), (5, .int v5), (6, .int s.1), (7, .int s.2)] [] μ :=
  ro_loopX (b := fun rec s => fb_X12_laysThrough_90 v1 v2 v3 v4 v5 μ rec s.1 s.2) (X := fun s => ro_X K 90 [(0, .ref (ro_ad (kG K) 207)), (1, .int v1), (2, .int v2), (3, .int v3), (4, .int v4), (5, .int v5), (6, .int s.1), (7, .int s.2)] [] μ) (OK := ok_X12_laysThrough_90 K v1 v2 v3 v4 v5 μ) (fun rec s q hrec hb ho => bb_X12_laysThrough_90 hK hR  hrec hb ho) ro_FU s q hf hq
def fj_X12_laysThrough_167 (rec : (Int32 × ro_Mem) → Option ro_Mem) (v1 : Int32) (v2 : Int32) (v3 : Int32) (v4 : Int32) (v5 : Int32) (v6 : Int32) (μ : ro_Mem) : Option ro_Mem :=
  if ro_in ((16 * ((10 * v2) + v3)) + v5) 640 then
  (ro_lt (ro_set μ 252 ((16 * ((10 * v2) + v3)) + v5).toNatClampNeg v6) fun m26 =>
  rec (v5 + 1, m26)) else none
theorem bj_X12_laysThrough_167 {K : ro_K} (hK : ro_C K RX12 cX12_laysThrough 8 2) (hR : ro_R K none) {v1 : Int32} {v2 : Int32} {v3 : Int32} {v4 : Int32} {v5 : Int32} {v6 : Int32}  {rec : (Int32 × ro_Mem) → Option ro_Mem} {μ : ro_Mem} (hrec : ∀ (s : Int32 × ro_Mem) (q : ro_Mem), rec s = some q → ok_X12_laysThrough_77 K v1 v2 v3 v4 q → ro_X K 77 [(0, .ref (ro_ad (kG K) 207)), (1, .int v1), (2, .int v2), (3, .int v3), (4, .int v4), (5, .int s.1)] [] s.2) {out : ro_Mem} (hf : fj_X12_laysThrough_167 rec v1 v2 v3 v4 v5 v6 μ = some out) (hq : ok_X12_laysThrough_77 K v1 v2 v3 v4 out) : ro_X K 167 [(0, .ref (ro_ad (kG K) 207)), (1, .int v1), (2, .int v2), (3, .int v3), (4, .int v4), (5, .int v5), (6, .int v6)] [] μ := by
  unfold fj_X12_laysThrough_167 at hf
  refine ro_aload_n hK 0 rfl dX12_laysThrough_167 rfl ?_
  refine ro_getr hK fl_X12_144 sh_207 dX12_laysThrough_168 ?_
  refine ro_bipush (v := 16) hK dX12_laysThrough_171 (by decide) ?_
  refine ro_bipush (v := 10) hK dX12_laysThrough_173 (by decide) ?_
  refine ro_iload_n hK 2 rfl dX12_laysThrough_175 rfl ?_
  refine ro_imul hK dX12_laysThrough_176 ?_
  refine ro_iload_n hK 3 rfl dX12_laysThrough_177 rfl ?_
  refine ro_iadd hK dX12_laysThrough_178 ?_
  refine ro_imul hK dX12_laysThrough_179 ?_
  refine ro_iload hK 5 rfl dX12_laysThrough_180 ?_
  refine ro_iadd hK dX12_laysThrough_182 ?_
  refine ro_iload hK 6 rfl dX12_laysThrough_183 ?_
  obtain ⟨g25, hf⟩ := ro_gd hf
  obtain ⟨m26, e27, hf⟩ := ro_ld hf
  refine ro_iast hK sh_252 g25 dX12_laysThrough_185 ?_
  refine ro_mv e27 ?_
  refine ro_iinc (v := v5 + 1) (L' := [(5, .int (v5 + 1)), (0, .ref (ro_ad (kG K) 207)), (1, .int v1), (2, .int v2), (3, .int v3), (4, .int v4), (6, .int v6)]) hK 5 rfl dX12_laysThrough_186 rfl (by decide) rfl ?_
  refine ro_goto hK 77 dX12_laysThrough_189 (by decide) ?_
  refine ro_sub (L' := [(0, .ref (ro_ad (kG K) 207)), (1, .int v1), (2, .int v2), (3, .int v3), (4, .int v4), (5, .int (v5 + 1))]) [1, 2, 3, 4, 5, 0] rfl ?_
  exact hrec (v5 + 1, m26) _ hf hq
def fb_X12_laysThrough_77 (v1 : Int32) (v2 : Int32) (v3 : Int32) (v4 : Int32) (rec : (Int32 × ro_Mem) → Option ro_Mem) (v5 : Int32) (μ : ro_Mem) : Option ro_Mem :=
  if 16 ≤ v5 then
  (some μ)
  else
  ((fl_X12_laysThrough_90 v1 v2 v3 v4 v5 μ (0, 0)).bind fun q23 =>
  fj_X12_laysThrough_167 rec v1 v2 v3 v4 v5 q23 μ)
theorem bb_X12_laysThrough_77 {K : ro_K} (hK : ro_C K RX12 cX12_laysThrough 8 2) (hR : ro_R K none) {v1 : Int32} {v2 : Int32} {v3 : Int32} {v4 : Int32}  {μ : ro_Mem} {rec : (Int32 × ro_Mem) → Option ro_Mem} {v5 : Int32} {q : ro_Mem} (hrec : ∀ (s : Int32 × ro_Mem) (q : ro_Mem), rec s = some q → ok_X12_laysThrough_77 K v1 v2 v3 v4 q → ro_X K 77 [(0, .ref (ro_ad (kG K) 207)), (1, .int v1), (2, .int v2), (3, .int v3), (4, .int v4), (5, .int s.1)] [] s.2) (hf : fb_X12_laysThrough_77 v1 v2 v3 v4 rec v5 μ = some q) (hq : ok_X12_laysThrough_77 K v1 v2 v3 v4 q) : ro_X K 77 [(0, .ref (ro_ad (kG K) 207)), (1, .int v1), (2, .int v2), (3, .int v3), (4, .int v4), (5, .int v5)] [] μ := by
  unfold fb_X12_laysThrough_77 at hf
  refine ro_iload hK 5 rfl dX12_laysThrough_77 ?_
  refine ro_bipush (v := 16) hK dX12_laysThrough_79 (by decide) ?_
  refine ro_icmp_ge hK 192 dX12_laysThrough_81 (by decide) (fun c11 => ?_) (fun c11 => ?_)
  · have hf := ro_it hf c11
    refine ro_sub (L' := [(0, .ref (ro_ad (kG K) 207)), (1, .int v1), (2, .int v2), (3, .int v3)]) [0, 1, 2, 3] rfl ?_
    obtain rfl := Option.some.inj hf
    exact hq
  · have hf := ro_ie hf c11
    refine ro_iconst (v := 0) hK dX12_laysThrough_84 (by decide) ?_
    refine ro_istore (L' := [(6, .int 0), (0, .ref (ro_ad (kG K) 207)), (1, .int v1), (2, .int v2), (3, .int v3), (4, .int v4), (5, .int v5)]) hK dX12_laysThrough_85 (by decide) rfl ?_
    refine ro_iconst (v := 0) hK dX12_laysThrough_87 (by decide) ?_
    refine ro_istore (L' := [(7, .int 0), (6, .int 0), (0, .ref (ro_ad (kG K) 207)), (1, .int v1), (2, .int v2), (3, .int v3), (4, .int v4), (5, .int v5)]) hK dX12_laysThrough_88 (by decide) rfl ?_
    obtain ⟨q23, e24, hf⟩ := ro_bd hf
    refine ro_sub (L' := [(0, .ref (ro_ad (kG K) 207)), (1, .int v1), (2, .int v2), (3, .int v3), (4, .int v4), (5, .int v5), (6, .int 0), (7, .int 0)]) [2, 3, 4, 5, 6, 7, 1, 0] rfl ?_
    refine lp_X12_laysThrough_90 hK hR  e24 ?_
    show ro_X K 167 [(0, .ref (ro_ad (kG K) 207)), (1, .int v1), (2, .int v2), (3, .int v3), (4, .int v4), (5, .int v5), (6, .int q23)] [] μ
    exact bj_X12_laysThrough_167 hK hR  hrec hf hq
def fl_X12_laysThrough_77 (v1 : Int32) (v2 : Int32) (v3 : Int32) (v4 : Int32) : (Int32 × ro_Mem) → Option ro_Mem :=
  ro_loop (fun rec s => fb_X12_laysThrough_77 v1 v2 v3 v4 rec s.1 s.2) ro_FU
theorem lp_X12_laysThrough_77 {K : ro_K} (hK : ro_C K RX12 cX12_laysThrough 8 2) (hR : ro_R K none) {v1 : Int32} {v2 : Int32} {v3 : Int32} {v4 : Int32}  {s : Int32 × ro_Mem} {q : ro_Mem} (hf : fl_X12_laysThrough_77 v1 v2 v3 v4 s = some q) (hq : ok_X12_laysThrough_77 K v1 v2 v3 v4 q) : ro_X K 77 [(0, .ref (ro_ad (kG K) 207)), (1, .int v1), (2, .int v2), (3, .int v3), (4, .int v4), (5, .int s.1)] [] s.2 :=
  ro_loopX (b := fun rec s => fb_X12_laysThrough_77 v1 v2 v3 v4 rec s.1 s.2) (X := fun s => ro_X K 77 [(0, .ref (ro_ad (kG K) 207)), (1, .int v1), (2, .int v2), (3, .int v3), (4, .int v4), (5, .int s.1)] [] s.2) (OK := ok_X12_laysThrough_77 K v1 v2 v3 v4) (fun rec s q hrec hb ho => bb_X12_laysThrough_77 hK hR  hrec hb ho) ro_FU s q hf hq
def fj_X12_laysThrough_73 (rec : (Int32 × ro_Mem) → Option ro_Mem) (v1 : Int32) (v2 : Int32) (v3 : Int32) (v4 : Int32) (t1 : Int32) (t2 : Int32) (μ : ro_Mem) : Option ro_Mem :=
  if ro_in t1 40 then
  (ro_lt (ro_set μ 253 t1.toNatClampNeg t2) fun m9 =>
  (fl_X12_laysThrough_77 v1 v2 v3 v4 (0, m9)).bind fun q28 =>
  rec (v3 + 1, q28)) else none
theorem bj_X12_laysThrough_73 {K : ro_K} (hK : ro_C K RX12 cX12_laysThrough 8 2) (hR : ro_R K none) {v1 : Int32} {v2 : Int32} {v3 : Int32} {v4 : Int32} {t1 : Int32} {t2 : Int32}  {rec : (Int32 × ro_Mem) → Option ro_Mem} {μ : ro_Mem} (hrec : ∀ (s : Int32 × ro_Mem) (q : ro_Mem), rec s = some q → ok_X12_laysThrough_9 K v1 v2 q → ro_X K 9 [(0, .ref (ro_ad (kG K) 207)), (1, .int v1), (2, .int v2), (3, .int s.1)] [] s.2) {out : ro_Mem} (hf : fj_X12_laysThrough_73 rec v1 v2 v3 v4 t1 t2 μ = some out) (hq : ok_X12_laysThrough_9 K v1 v2 out) : ro_X K 73 [(0, .ref (ro_ad (kG K) 207)), (1, .int v1), (2, .int v2), (3, .int v3), (4, .int v4)] [.int t2, .int t1, .ref (ro_ad (kG K) 253)] μ := by
  unfold fj_X12_laysThrough_73 at hf
  obtain ⟨g8, hf⟩ := ro_gd hf
  obtain ⟨m9, e10, hf⟩ := ro_ld hf
  refine ro_iast hK sh_253 g8 dX12_laysThrough_73 ?_
  refine ro_mv e10 ?_
  refine ro_iconst (v := 0) hK dX12_laysThrough_74 (by decide) ?_
  refine ro_istore (L' := [(5, .int 0), (0, .ref (ro_ad (kG K) 207)), (1, .int v1), (2, .int v2), (3, .int v3), (4, .int v4)]) hK dX12_laysThrough_75 (by decide) rfl ?_
  obtain ⟨q28, e29, hf⟩ := ro_bd hf
  refine ro_sub (L' := [(0, .ref (ro_ad (kG K) 207)), (1, .int v1), (2, .int v2), (3, .int v3), (4, .int v4), (5, .int 0)]) [1, 2, 3, 4, 5, 0] rfl ?_
  refine lp_X12_laysThrough_77 hK hR  e29 ?_
  show ro_X K 192 [(0, .ref (ro_ad (kG K) 207)), (1, .int v1), (2, .int v2), (3, .int v3)] [] q28
  refine ro_iinc (v := v3 + 1) (L' := [(3, .int (v3 + 1)), (0, .ref (ro_ad (kG K) 207)), (1, .int v1), (2, .int v2)]) hK 3 rfl dX12_laysThrough_192 rfl (by decide) rfl ?_
  refine ro_goto hK 9 dX12_laysThrough_195 (by decide) ?_
  refine ro_sub (L' := [(0, .ref (ro_ad (kG K) 207)), (1, .int v1), (2, .int v2), (3, .int (v3 + 1))]) [1, 2, 3, 0] rfl ?_
  exact hrec (v3 + 1, q28) _ hf hq
def fj_X12_laysThrough_40 (rec : (Int32 × ro_Mem) → Option ro_Mem) (v1 : Int32) (v2 : Int32) (v3 : Int32) (t0 : Int32) (μ : ro_Mem) : Option ro_Mem :=
  if t0 = 255 then
  (fj_X12_laysThrough_73 rec v1 v2 v3 t0 ((10 * v2) + v3) 1000000000 μ)
  else
  (if ro_in t0 96 then
  (fj_X12_laysThrough_73 rec v1 v2 v3 t0 ((10 * v2) + v3) (μ 209 t0.toNatClampNeg) μ) else none)
theorem bj_X12_laysThrough_40 {K : ro_K} (hK : ro_C K RX12 cX12_laysThrough 8 2) (hR : ro_R K none) {v1 : Int32} {v2 : Int32} {v3 : Int32} {t0 : Int32}  {rec : (Int32 × ro_Mem) → Option ro_Mem} {μ : ro_Mem} (hrec : ∀ (s : Int32 × ro_Mem) (q : ro_Mem), rec s = some q → ok_X12_laysThrough_9 K v1 v2 q → ro_X K 9 [(0, .ref (ro_ad (kG K) 207)), (1, .int v1), (2, .int v2), (3, .int s.1)] [] s.2) {out : ro_Mem} (hf : fj_X12_laysThrough_40 rec v1 v2 v3 t0 μ = some out) (hq : ok_X12_laysThrough_9 K v1 v2 out) : ro_X K 40 [(0, .ref (ro_ad (kG K) 207)), (1, .int v1), (2, .int v2), (3, .int v3)] [.int t0] μ := by
  unfold fj_X12_laysThrough_40 at hf
  refine ro_istore (L' := [(4, .int t0), (0, .ref (ro_ad (kG K) 207)), (1, .int v1), (2, .int v2), (3, .int v3)]) hK dX12_laysThrough_40 (by decide) rfl ?_
  refine ro_aload_n hK 1 rfl dX12_laysThrough_42 rfl ?_
  refine ro_getr hK fl_X12_147 sh_207 dX12_laysThrough_43 ?_
  refine ro_bipush (v := 10) hK dX12_laysThrough_46 (by decide) ?_
  refine ro_iload_n hK 3 rfl dX12_laysThrough_48 rfl ?_
  refine ro_imul hK dX12_laysThrough_49 ?_
  refine ro_iload_n hK 4 rfl dX12_laysThrough_50 rfl ?_
  refine ro_iadd hK dX12_laysThrough_51 ?_
  refine ro_iload hK 0 rfl dX12_laysThrough_52 ?_
  refine ro_sipush (v := 255) hK dX12_laysThrough_54 (by decide) ?_
  refine ro_icmp_ne hK 66 dX12_laysThrough_57 (by decide) (fun c6 => ?_) (fun c6 => ?_)
  · have hf := ro_ie hf c6
    refine ro_aload_n hK 1 rfl dX12_laysThrough_66 rfl ?_
    refine ro_getr hK fl_X12_13 sh_207 dX12_laysThrough_67 ?_
    refine ro_iload hK 0 rfl dX12_laysThrough_70 ?_
    obtain ⟨g7, hf⟩ := ro_gd hf
    refine ro_iald hK sh_209 g7 dX12_laysThrough_72 ?_
    refine ro_sub (L' := [(0, .ref (ro_ad (kG K) 207)), (1, .int v1), (2, .int v2), (3, .int v3), (4, .int t0)]) [1, 2, 3, 4, 0] rfl ?_
    exact bj_X12_laysThrough_73 hK hR  hrec hf hq
  · have hf := ro_it hf c6
    refine ro_ldcw hK kc_X12_456 dX12_laysThrough_60 ?_
    refine ro_goto hK 73 dX12_laysThrough_63 (by decide) ?_
    refine ro_sub (L' := [(0, .ref (ro_ad (kG K) 207)), (1, .int v1), (2, .int v2), (3, .int v3), (4, .int t0)]) [1, 2, 3, 4, 0] rfl ?_
    exact bj_X12_laysThrough_73 hK hR  hrec hf hq
def fb_X12_laysThrough_9 (v1 : Int32) (v2 : Int32) (rec : (Int32 × ro_Mem) → Option ro_Mem) (v3 : Int32) (μ : ro_Mem) : Option ro_Mem :=
  if 10 ≤ v3 then
  (some μ)
  else
  ((fn_X12_has v1 v3).bind fun q3 =>
  if q3 = 0 then
  (fj_X12_laysThrough_40 rec v1 v2 v3 255 μ)
  else
  (if ro_in ((10 * v2) + v3) 40 then
  (fj_X12_laysThrough_40 rec v1 v2 v3 (μ 216 ((10 * v2) + v3).toNatClampNeg) μ) else none))
theorem bb_X12_laysThrough_9 {K : ro_K} (hK : ro_C K RX12 cX12_laysThrough 8 2) (hR : ro_R K none) {v1 : Int32} {v2 : Int32}  {μ : ro_Mem} {rec : (Int32 × ro_Mem) → Option ro_Mem} {v3 : Int32} {q : ro_Mem} (hrec : ∀ (s : Int32 × ro_Mem) (q : ro_Mem), rec s = some q → ok_X12_laysThrough_9 K v1 v2 q → ro_X K 9 [(0, .ref (ro_ad (kG K) 207)), (1, .int v1), (2, .int v2), (3, .int s.1)] [] s.2) (hf : fb_X12_laysThrough_9 v1 v2 rec v3 μ = some q) (hq : ok_X12_laysThrough_9 K v1 v2 q) : ro_X K 9 [(0, .ref (ro_ad (kG K) 207)), (1, .int v1), (2, .int v2), (3, .int v3)] [] μ := by
  unfold fb_X12_laysThrough_9 at hf
  refine ro_iload_n hK 3 rfl dX12_laysThrough_9 rfl ?_
  refine ro_bipush (v := 10) hK dX12_laysThrough_10 (by decide) ?_
  refine ro_icmp_ge hK 198 dX12_laysThrough_12 (by decide) (fun c2 => ?_) (fun c2 => ?_)
  · have hf := ro_it hf c2
    refine ro_sub (L' := [(0, .ref (ro_ad (kG K) 207)), (1, .int v1), (2, .int v2)]) [0, 1, 2] rfl ?_
    obtain rfl := Option.some.inj hf
    exact hq
  · have hf := ro_ie hf c2
    refine ro_iload_n hK 1 rfl dX12_laysThrough_15 rfl ?_
    refine ro_iload_n hK 3 rfl dX12_laysThrough_16 rfl ?_
    obtain ⟨q3, e4, hf⟩ := ro_bd hf
    refine ro_callsi hK [.int v1, .int v3] ml_X12_226 ms_X12_has (mt_X12_has (kl K) (kG K)  e4) (by decide) rfl rfl (Nat.le_of_ble_eq_true rfl) dX12_laysThrough_17 ?_
    refine ro_if_eq hK 37 dX12_laysThrough_20 (by decide) (fun c5 => ?_) (fun c5 => ?_)
    · have hf := ro_it hf c5
      refine ro_sipush (v := 255) hK dX12_laysThrough_37 (by decide) ?_
      exact bj_X12_laysThrough_40 hK hR  hrec hf hq
    · have hf := ro_ie hf c5
      refine ro_aload_n hK 0 rfl dX12_laysThrough_23 rfl ?_
      refine ro_getr hK fl_X12_35 sh_207 dX12_laysThrough_24 ?_
      refine ro_bipush (v := 10) hK dX12_laysThrough_27 (by decide) ?_
      refine ro_iload_n hK 2 rfl dX12_laysThrough_29 rfl ?_
      refine ro_imul hK dX12_laysThrough_30 ?_
      refine ro_iload_n hK 3 rfl dX12_laysThrough_31 rfl ?_
      refine ro_iadd hK dX12_laysThrough_32 ?_
      obtain ⟨g30, hf⟩ := ro_gd hf
      refine ro_iald hK sh_216 g30 dX12_laysThrough_33 ?_
      refine ro_goto hK 40 dX12_laysThrough_34 (by decide) ?_
      exact bj_X12_laysThrough_40 hK hR  hrec hf hq
def fl_X12_laysThrough_9 (v1 : Int32) (v2 : Int32) : (Int32 × ro_Mem) → Option ro_Mem :=
  ro_loop (fun rec s => fb_X12_laysThrough_9 v1 v2 rec s.1 s.2) ro_FU
theorem lp_X12_laysThrough_9 {K : ro_K} (hK : ro_C K RX12 cX12_laysThrough 8 2) (hR : ro_R K none) {v1 : Int32} {v2 : Int32}  {s : Int32 × ro_Mem} {q : ro_Mem} (hf : fl_X12_laysThrough_9 v1 v2 s = some q) (hq : ok_X12_laysThrough_9 K v1 v2 q) : ro_X K 9 [(0, .ref (ro_ad (kG K) 207)), (1, .int v1), (2, .int v2), (3, .int s.1)] [] s.2 :=
  ro_loopX (b := fun rec s => fb_X12_laysThrough_9 v1 v2 rec s.1 s.2) (X := fun s => ro_X K 9 [(0, .ref (ro_ad (kG K) 207)), (1, .int v1), (2, .int v2), (3, .int s.1)] [] s.2) (OK := ok_X12_laysThrough_9 K v1 v2) (fun rec s q hrec hb ho => bb_X12_laysThrough_9 hK hR  hrec hb ho) ro_FU s q hf hq
def fb_X12_laysThrough_2 (v1 : Int32) (rec : (Int32 × ro_Mem) → Option ro_Mem) (v2 : Int32) (μ : ro_Mem) : Option ro_Mem :=
  if 4 ≤ v2 then
  (some μ)
  else
  ((fl_X12_laysThrough_9 v1 v2 (0, μ)).bind fun q31 =>
  rec (v2 + 1, q31))
theorem bb_X12_laysThrough_2 {K : ro_K} (hK : ro_C K RX12 cX12_laysThrough 8 2) (hR : ro_R K none) {v1 : Int32}  {μ : ro_Mem} {rec : (Int32 × ro_Mem) → Option ro_Mem} {v2 : Int32} {q : ro_Mem} (hrec : ∀ (s : Int32 × ro_Mem) (q : ro_Mem), rec s = some q → ok_X12_laysThrough_2 K v1 q → ro_X K 2 [(0, .ref (ro_ad (kG K) 207)), (1, .int v1), (2, .int s.1)] [] s.2) (hf : fb_X12_laysThrough_2 v1 rec v2 μ = some q) (hq : ok_X12_laysThrough_2 K v1 q) : ro_X K 2 [(0, .ref (ro_ad (kG K) 207)), (1, .int v1), (2, .int v2)] [] μ := by
  unfold fb_X12_laysThrough_2 at hf
  refine ro_iload_n hK 2 rfl dX12_laysThrough_2 rfl ?_
  refine ro_iconst (v := 4) hK dX12_laysThrough_3 (by decide) ?_
  refine ro_icmp_ge hK 204 dX12_laysThrough_4 (by decide) (fun c1 => ?_) (fun c1 => ?_)
  · have hf := ro_it hf c1
    refine ro_sub (L' := []) [] rfl ?_
    obtain rfl := Option.some.inj hf
    exact hq
  · have hf := ro_ie hf c1
    refine ro_iconst (v := 0) hK dX12_laysThrough_7 (by decide) ?_
    refine ro_istore_n (L' := [(3, .int 0), (0, .ref (ro_ad (kG K) 207)), (1, .int v1), (2, .int v2)]) hK dX12_laysThrough_8 rfl (by decide) rfl ?_
    obtain ⟨q31, e32, hf⟩ := ro_bd hf
    refine ro_sub (L' := [(0, .ref (ro_ad (kG K) 207)), (1, .int v1), (2, .int v2), (3, .int 0)]) [1, 2, 3, 0] rfl ?_
    refine lp_X12_laysThrough_9 hK hR  e32 ?_
    show ro_X K 198 [(0, .ref (ro_ad (kG K) 207)), (1, .int v1), (2, .int v2)] [] q31
    refine ro_iinc (v := v2 + 1) (L' := [(2, .int (v2 + 1)), (0, .ref (ro_ad (kG K) 207)), (1, .int v1)]) hK 2 rfl dX12_laysThrough_198 rfl (by decide) rfl ?_
    refine ro_goto hK 2 dX12_laysThrough_201 (by decide) ?_
    refine ro_sub (L' := [(0, .ref (ro_ad (kG K) 207)), (1, .int v1), (2, .int (v2 + 1))]) [1, 2, 0] rfl ?_
    exact hrec (v2 + 1, q31) _ hf hq
def fl_X12_laysThrough_2 (v1 : Int32) : (Int32 × ro_Mem) → Option ro_Mem :=
  ro_loop (fun rec s => fb_X12_laysThrough_2 v1 rec s.1 s.2) ro_FU
theorem lp_X12_laysThrough_2 {K : ro_K} (hK : ro_C K RX12 cX12_laysThrough 8 2) (hR : ro_R K none) {v1 : Int32}  {s : Int32 × ro_Mem} {q : ro_Mem} (hf : fl_X12_laysThrough_2 v1 s = some q) (hq : ok_X12_laysThrough_2 K v1 q) : ro_X K 2 [(0, .ref (ro_ad (kG K) 207)), (1, .int v1), (2, .int s.1)] [] s.2 :=
  ro_loopX (b := fun rec s => fb_X12_laysThrough_2 v1 rec s.1 s.2) (X := fun s => ro_X K 2 [(0, .ref (ro_ad (kG K) 207)), (1, .int v1), (2, .int s.1)] [] s.2) (OK := ok_X12_laysThrough_2 K v1) (fun rec s q hrec hb ho => bb_X12_laysThrough_2 hK hR  hrec hb ho) ro_FU s q hf hq
def fn_X12_laysThrough (v1 : Int32) (μ : ro_Mem) : Option ro_Mem :=
  (fl_X12_laysThrough_2 v1 (0, μ)).bind fun q33 =>
  some q33
theorem be_X12_laysThrough {K : ro_K} (hK : ro_C K RX12 cX12_laysThrough 8 2) (hR : ro_R K none) {v1 : Int32}  {μ : ro_Mem} {out : ro_Mem} (hf : fn_X12_laysThrough v1 μ = some out) (hq : kQ K none out) : ro_X K 0 [(0, .ref (ro_ad (kG K) 207)), (1, .int v1)] [] μ := by
  unfold fn_X12_laysThrough at hf
  refine ro_iconst (v := 0) hK dX12_laysThrough_0 (by decide) ?_
  refine ro_istore_n (L' := [(2, .int 0), (0, .ref (ro_ad (kG K) 207)), (1, .int v1)]) hK dX12_laysThrough_1 rfl (by decide) rfl ?_
  obtain ⟨q33, e34, hf⟩ := ro_bd hf
  refine ro_sub (L' := [(0, .ref (ro_ad (kG K) 207)), (1, .int v1), (2, .int 0)]) [1, 2, 0] rfl ?_
  refine lp_X12_laysThrough_2 hK hR  e34 ?_
  show ro_X K 204 [] [] q33
  obtain rfl := Option.some.inj hf
  exact ro_vret hK hR dX12_laysThrough_204 hq
theorem mt_X12_laysThrough (l : Launch) (G : ro_G) {v1 : Int32}  {μ : ro_Mem} {out : ro_Mem} (hf : fn_X12_laysThrough v1 μ = some out) : ro_MX l G yX12_laysThrough cX12_laysThrough 8 none 2 [.ref (ro_ad G 207), .int v1] μ none out := by
  refine ro_MX.of (by decide +kernel) (Nat.le_of_ble_eq_true rfl) (fun K hG hl hq hK hR => ?_)
  subst hG
  exact be_X12_laysThrough hK hR  hf hq
-- ===== X12_areDry =====
theorem dX12_areDry_0 : decode cX12_areDry 0 = .ok (.iconst 0, 1) := by decide +kernel
theorem dX12_areDry_1 : decode cX12_areDry 1 = .ok (.istore_n 2, 1) := by decide +kernel
theorem dX12_areDry_2 : decode cX12_areDry 2 = .ok (.iload_n 2, 1) := by decide +kernel
theorem dX12_areDry_3 : decode cX12_areDry 3 = .ok (.bipush 40, 2) := by decide +kernel
theorem dX12_areDry_5 : decode cX12_areDry 5 = .ok (.if_icmp .ge 82, 3) := by decide +kernel
theorem dX12_areDry_8 : decode cX12_areDry 8 = .ok (.aload_n 0, 1) := by decide +kernel
theorem dX12_areDry_9 : decode cX12_areDry 9 = .ok (.getfield 147, 3) := by decide +kernel
theorem dX12_areDry_12 : decode cX12_areDry 12 = .ok (.iload_n 2, 1) := by decide +kernel
theorem dX12_areDry_13 : decode cX12_areDry 13 = .ok (.iaload, 1) := by decide +kernel
theorem dX12_areDry_14 : decode cX12_areDry 14 = .ok (.ldc_w 456, 3) := by decide +kernel
theorem dX12_areDry_17 : decode cX12_areDry 17 = .ok (.if_icmp .ne 6, 3) := by decide +kernel
theorem dX12_areDry_20 : decode cX12_areDry 20 = .ok (.goto 61, 3) := by decide +kernel
theorem dX12_areDry_23 : decode cX12_areDry 23 = .ok (.iconst 0, 1) := by decide +kernel
theorem dX12_areDry_24 : decode cX12_areDry 24 = .ok (.istore_n 3, 1) := by decide +kernel
theorem dX12_areDry_25 : decode cX12_areDry 25 = .ok (.iconst 0, 1) := by decide +kernel
theorem dX12_areDry_26 : decode cX12_areDry 26 = .ok (.istore 4, 2) := by decide +kernel
theorem dX12_areDry_28 : decode cX12_areDry 28 = .ok (.iload 4, 2) := by decide +kernel
theorem dX12_areDry_30 : decode cX12_areDry 30 = .ok (.bipush 16, 2) := by decide +kernel
theorem dX12_areDry_32 : decode cX12_areDry 32 = .ok (.if_icmp .ge 37, 3) := by decide +kernel
theorem dX12_areDry_35 : decode cX12_areDry 35 = .ok (.iload_n 3, 1) := by decide +kernel
theorem dX12_areDry_36 : decode cX12_areDry 36 = .ok (.iload_n 1, 1) := by decide +kernel
theorem dX12_areDry_37 : decode cX12_areDry 37 = .ok (.iload 4, 2) := by decide +kernel
theorem dX12_areDry_39 : decode cX12_areDry 39 = .ok (.invokestatic 226, 3) := by decide +kernel
theorem dX12_areDry_42 : decode cX12_areDry 42 = .ok (.ifCond .eq 7, 3) := by decide +kernel
theorem dX12_areDry_45 : decode cX12_areDry 45 = .ok (.iconst 0, 1) := by decide +kernel
theorem dX12_areDry_46 : decode cX12_areDry 46 = .ok (.goto 15, 3) := by decide +kernel
theorem dX12_areDry_49 : decode cX12_areDry 49 = .ok (.aload_n 0, 1) := by decide +kernel
theorem dX12_areDry_50 : decode cX12_areDry 50 = .ok (.getfield 144, 3) := by decide +kernel
theorem dX12_areDry_53 : decode cX12_areDry 53 = .ok (.bipush 16, 2) := by decide +kernel
theorem dX12_areDry_55 : decode cX12_areDry 55 = .ok (.iload_n 2, 1) := by decide +kernel
theorem dX12_areDry_56 : decode cX12_areDry 56 = .ok (.imul, 1) := by decide +kernel
theorem dX12_areDry_57 : decode cX12_areDry 57 = .ok (.iload 4, 2) := by decide +kernel
theorem dX12_areDry_59 : decode cX12_areDry 59 = .ok (.iadd, 1) := by decide +kernel
theorem dX12_areDry_60 : decode cX12_areDry 60 = .ok (.iaload, 1) := by decide +kernel
theorem dX12_areDry_61 : decode cX12_areDry 61 = .ok (.iadd, 1) := by decide +kernel
theorem dX12_areDry_62 : decode cX12_areDry 62 = .ok (.istore_n 3, 1) := by decide +kernel
theorem dX12_areDry_63 : decode cX12_areDry 63 = .ok (.iinc 4 1, 3) := by decide +kernel
theorem dX12_areDry_66 : decode cX12_areDry 66 = .ok (.goto (-38), 3) := by decide +kernel
theorem dX12_areDry_69 : decode cX12_areDry 69 = .ok (.iload_n 3, 1) := by decide +kernel
theorem dX12_areDry_70 : decode cX12_areDry 70 = .ok (.aload_n 0, 1) := by decide +kernel
theorem dX12_areDry_71 : decode cX12_areDry 71 = .ok (.getfield 147, 3) := by decide +kernel
theorem dX12_areDry_74 : decode cX12_areDry 74 = .ok (.iload_n 2, 1) := by decide +kernel
theorem dX12_areDry_75 : decode cX12_areDry 75 = .ok (.iaload, 1) := by decide +kernel
theorem dX12_areDry_76 : decode cX12_areDry 76 = .ok (.if_icmp .le 5, 3) := by decide +kernel
theorem dX12_areDry_79 : decode cX12_areDry 79 = .ok (.iconst 0, 1) := by decide +kernel
theorem dX12_areDry_80 : decode cX12_areDry 80 = .ok (.ireturn, 1) := by decide +kernel
theorem dX12_areDry_81 : decode cX12_areDry 81 = .ok (.iinc 2 1, 3) := by decide +kernel
theorem dX12_areDry_84 : decode cX12_areDry 84 = .ok (.goto (-82), 3) := by decide +kernel
theorem dX12_areDry_87 : decode cX12_areDry 87 = .ok (.iconst 1, 1) := by decide +kernel
theorem dX12_areDry_88 : decode cX12_areDry 88 = .ok (.ireturn, 1) := by decide +kernel
def ok_X12_areDry_2 (K : ro_K) (v1 : Int32) (μ : ro_Mem) : (Unit ⊕ Unit) → Prop := Sum.elim (fun e => ro_X K 79 [] [] μ) (fun e => ro_X K 87 [] [] μ)
def ok_X12_areDry_28 (K : ro_K) (v1 : Int32) (v2 : Int32) (μ : ro_Mem) : Int32 → Prop := fun e => ro_X K 69 [(0, .ref (ro_ad (kG K) 207)), (1, .int v1), (2, .int v2), (3, .int e)] [] μ
def fb_X12_areDry_28 (v1 : Int32) (v2 : Int32) (μ : ro_Mem) (rec : (Int32 × Int32) → Option Int32) (v3 : Int32) (v4 : Int32) : Option Int32 :=
  if 16 ≤ v4 then
  (some v3)
  else
  ((fn_X12_has v1 v4).bind fun q5 =>
  if q5 = 0 then
  (if ro_in ((16 * v2) + v4) 640 then
  (ro_lt (v3 + (μ 252 ((16 * v2) + v4).toNatClampNeg)) fun z9 =>
  rec (z9, v4 + 1)) else none)
  else
  (ro_lt (v3 + 0) fun z11 =>
  rec (z11, v4 + 1)))
theorem bb_X12_areDry_28 {K : ro_K} (hK : ro_C K RX12 cX12_areDry 5 1) (hR : ro_R K (some .boolean)) {v1 : Int32} {v2 : Int32}  {μ : ro_Mem} {rec : (Int32 × Int32) → Option Int32} {v3 : Int32} {v4 : Int32} {q : Int32} (hrec : ∀ (s : Int32 × Int32) (q : Int32), rec s = some q → ok_X12_areDry_28 K v1 v2 μ q → ro_X K 28 [(0, .ref (ro_ad (kG K) 207)), (1, .int v1), (2, .int v2), (3, .int s.1), (4, .int s.2)] [] μ) (hf : fb_X12_areDry_28 v1 v2 μ rec v3 v4 = some q) (hq : ok_X12_areDry_28 K v1 v2 μ q) : ro_X K 28 [(0, .ref (ro_ad (kG K) 207)), (1, .int v1), (2, .int v2), (3, .int v3), (4, .int v4)] [] μ := by
  unfold fb_X12_areDry_28 at hf
  refine ro_iload hK 4 rfl dX12_areDry_28 ?_
  refine ro_bipush (v := 16) hK dX12_areDry_30 (by decide) ?_
  refine ro_icmp_ge hK 69 dX12_areDry_32 (by decide) (fun c4 => ?_) (fun c4 => ?_)
  · have hf := ro_it hf c4
    refine ro_sub (L' := [(0, .ref (ro_ad (kG K) 207)), (1, .int v1), (2, .int v2), (3, .int v3)]) [0, 1, 2, 3] rfl ?_
    obtain rfl := Option.some.inj hf
    exact hq
  · have hf := ro_ie hf c4
    refine ro_iload_n hK 3 rfl dX12_areDry_35 rfl ?_
    refine ro_iload_n hK 1 rfl dX12_areDry_36 rfl ?_
    refine ro_iload hK 4 rfl dX12_areDry_37 ?_
    obtain ⟨q5, e6, hf⟩ := ro_bd hf
    refine ro_callsi hK [.int v1, .int v4] ml_X12_226 ms_X12_has (mt_X12_has (kl K) (kG K)  e6) (by decide) rfl rfl (Nat.le_of_ble_eq_true rfl) dX12_areDry_39 ?_
    refine ro_if_eq hK 49 dX12_areDry_42 (by decide) (fun c7 => ?_) (fun c7 => ?_)
    · have hf := ro_it hf c7
      refine ro_aload_n hK 0 rfl dX12_areDry_49 rfl ?_
      refine ro_getr hK fl_X12_144 sh_207 dX12_areDry_50 ?_
      refine ro_bipush (v := 16) hK dX12_areDry_53 (by decide) ?_
      refine ro_iload_n hK 2 rfl dX12_areDry_55 rfl ?_
      refine ro_imul hK dX12_areDry_56 ?_
      refine ro_iload hK 4 rfl dX12_areDry_57 ?_
      refine ro_iadd hK dX12_areDry_59 ?_
      obtain ⟨g8, hf⟩ := ro_gd hf
      refine ro_iald hK sh_252 g8 dX12_areDry_60 ?_
      refine ro_iadd hK dX12_areDry_61 ?_
      obtain ⟨z9, e10, hf⟩ := ro_ld hf
      refine ro_iv e10 ?_
      refine ro_istore_n (L' := [(3, .int z9), (0, .ref (ro_ad (kG K) 207)), (1, .int v1), (2, .int v2), (4, .int v4)]) hK dX12_areDry_62 rfl (by decide) rfl ?_
      refine ro_iinc (v := v4 + 1) (L' := [(4, .int (v4 + 1)), (3, .int z9), (0, .ref (ro_ad (kG K) 207)), (1, .int v1), (2, .int v2)]) hK 4 rfl dX12_areDry_63 rfl (by decide) rfl ?_
      refine ro_goto hK 28 dX12_areDry_66 (by decide) ?_
      refine ro_sub (L' := [(0, .ref (ro_ad (kG K) 207)), (1, .int v1), (2, .int v2), (3, .int z9), (4, .int (v4 + 1))]) [2, 3, 4, 1, 0] rfl ?_
      exact hrec (z9, v4 + 1) _ hf hq
    · have hf := ro_ie hf c7
      refine ro_iconst (v := 0) hK dX12_areDry_45 (by decide) ?_
      refine ro_goto hK 61 dX12_areDry_46 (by decide) ?_
      refine ro_iadd hK dX12_areDry_61 ?_
      obtain ⟨z11, e12, hf⟩ := ro_ld hf
      refine ro_iv e12 ?_
      refine ro_istore_n (L' := [(3, .int z11), (0, .ref (ro_ad (kG K) 207)), (1, .int v1), (2, .int v2), (4, .int v4)]) hK dX12_areDry_62 rfl (by decide) rfl ?_
      refine ro_iinc (v := v4 + 1) (L' := [(4, .int (v4 + 1)), (3, .int z11), (0, .ref (ro_ad (kG K) 207)), (1, .int v1), (2, .int v2)]) hK 4 rfl dX12_areDry_63 rfl (by decide) rfl ?_
      refine ro_goto hK 28 dX12_areDry_66 (by decide) ?_
      refine ro_sub (L' := [(0, .ref (ro_ad (kG K) 207)), (1, .int v1), (2, .int v2), (3, .int z11), (4, .int (v4 + 1))]) [2, 3, 4, 1, 0] rfl ?_
      exact hrec (z11, v4 + 1) _ hf hq
def fl_X12_areDry_28 (v1 : Int32) (v2 : Int32) (μ : ro_Mem) : (Int32 × Int32) → Option Int32 :=
  ro_loop (fun rec s => fb_X12_areDry_28 v1 v2 μ rec s.1 s.2) ro_FU
theorem lp_X12_areDry_28 {K : ro_K} (hK : ro_C K RX12 cX12_areDry 5 1) (hR : ro_R K (some .boolean)) {v1 : Int32} {v2 : Int32}  {μ : ro_Mem} {s : Int32 × Int32} {q : Int32} (hf : fl_X12_areDry_28 v1 v2 μ s = some q) (hq : ok_X12_areDry_28 K v1 v2 μ q) : ro_X K 28 [(0, .ref (ro_ad (kG K) 207)), (1, .int v1), (2, .int v2), (3, .int s.1), (4, .int s.2)] [] μ :=
  ro_loopX (b := fun rec s => fb_X12_areDry_28 v1 v2 μ rec s.1 s.2) (X := fun s => ro_X K 28 [(0, .ref (ro_ad (kG K) 207)), (1, .int v1), (2, .int v2), (3, .int s.1), (4, .int s.2)] [] μ) (OK := ok_X12_areDry_28 K v1 v2 μ) (fun rec s q hrec hb ho => bb_X12_areDry_28 hK hR  hrec hb ho) ro_FU s q hf hq
def fb_X12_areDry_2 (v1 : Int32) (μ : ro_Mem) (rec : Int32 → Option (Unit ⊕ Unit)) (v2 : Int32) : Option (Unit ⊕ Unit) :=
  if 40 ≤ v2 then
  (some (.inr ()))
  else
  (if ro_in v2 40 then
  (if (μ 253 v2.toNatClampNeg) = 1000000000 then
  (rec (v2 + 1))
  else
  ((fl_X12_areDry_28 v1 v2 μ (0, 0)).bind fun q13 =>
  if q13 ≤ (μ 253 v2.toNatClampNeg) then
  (rec (v2 + 1))
  else
  (some (.inl ())))) else none)
theorem bb_X12_areDry_2 {K : ro_K} (hK : ro_C K RX12 cX12_areDry 5 1) (hR : ro_R K (some .boolean)) {v1 : Int32}  {μ : ro_Mem} {rec : Int32 → Option (Unit ⊕ Unit)} {v2 : Int32} {q : (Unit ⊕ Unit)} (hrec : ∀ (s : Int32) (q : (Unit ⊕ Unit)), rec s = some q → ok_X12_areDry_2 K v1 μ q → ro_X K 2 [(0, .ref (ro_ad (kG K) 207)), (1, .int v1), (2, .int s)] [] μ) (hf : fb_X12_areDry_2 v1 μ rec v2 = some q) (hq : ok_X12_areDry_2 K v1 μ q) : ro_X K 2 [(0, .ref (ro_ad (kG K) 207)), (1, .int v1), (2, .int v2)] [] μ := by
  unfold fb_X12_areDry_2 at hf
  refine ro_iload_n hK 2 rfl dX12_areDry_2 rfl ?_
  refine ro_bipush (v := 40) hK dX12_areDry_3 (by decide) ?_
  refine ro_icmp_ge hK 87 dX12_areDry_5 (by decide) (fun c1 => ?_) (fun c1 => ?_)
  · have hf := ro_it hf c1
    refine ro_sub (L' := []) [] rfl ?_
    obtain rfl := Option.some.inj hf
    exact hq
  · have hf := ro_ie hf c1
    refine ro_aload_n hK 0 rfl dX12_areDry_8 rfl ?_
    refine ro_getr hK fl_X12_147 sh_207 dX12_areDry_9 ?_
    refine ro_iload_n hK 2 rfl dX12_areDry_12 rfl ?_
    obtain ⟨g2, hf⟩ := ro_gd hf
    refine ro_iald hK sh_253 g2 dX12_areDry_13 ?_
    refine ro_ldcw hK kc_X12_456 dX12_areDry_14 ?_
    refine ro_icmp_ne hK 23 dX12_areDry_17 (by decide) (fun c3 => ?_) (fun c3 => ?_)
    · have hf := ro_ie hf c3
      refine ro_iconst (v := 0) hK dX12_areDry_23 (by decide) ?_
      refine ro_istore_n (L' := [(3, .int 0), (0, .ref (ro_ad (kG K) 207)), (1, .int v1), (2, .int v2)]) hK dX12_areDry_24 rfl (by decide) rfl ?_
      refine ro_iconst (v := 0) hK dX12_areDry_25 (by decide) ?_
      refine ro_istore (L' := [(4, .int 0), (3, .int 0), (0, .ref (ro_ad (kG K) 207)), (1, .int v1), (2, .int v2)]) hK dX12_areDry_26 (by decide) rfl ?_
      obtain ⟨q13, e14, hf⟩ := ro_bd hf
      refine ro_sub (L' := [(0, .ref (ro_ad (kG K) 207)), (1, .int v1), (2, .int v2), (3, .int 0), (4, .int 0)]) [2, 3, 4, 1, 0] rfl ?_
      refine lp_X12_areDry_28 hK hR  e14 ?_
      show ro_X K 69 [(0, .ref (ro_ad (kG K) 207)), (1, .int v1), (2, .int v2), (3, .int q13)] [] μ
      refine ro_iload_n hK 3 rfl dX12_areDry_69 rfl ?_
      refine ro_aload_n hK 0 rfl dX12_areDry_70 rfl ?_
      refine ro_getr hK fl_X12_147 sh_207 dX12_areDry_71 ?_
      refine ro_iload_n hK 2 rfl dX12_areDry_74 rfl ?_
      refine ro_iald hK sh_253 g2 dX12_areDry_75 ?_
      refine ro_icmp_le hK 81 dX12_areDry_76 (by decide) (fun c15 => ?_) (fun c15 => ?_)
      · have hf := ro_it hf c15
        refine ro_iinc (v := v2 + 1) (L' := [(2, .int (v2 + 1)), (0, .ref (ro_ad (kG K) 207)), (1, .int v1), (3, .int q13)]) hK 2 rfl dX12_areDry_81 rfl (by decide) rfl ?_
        refine ro_goto hK 2 dX12_areDry_84 (by decide) ?_
        refine ro_sub (L' := [(0, .ref (ro_ad (kG K) 207)), (1, .int v1), (2, .int (v2 + 1))]) [1, 2, 0] rfl ?_
        exact hrec (v2 + 1) _ hf hq
      · have hf := ro_ie hf c15
        refine ro_sub (L' := []) [] rfl ?_
        obtain rfl := Option.some.inj hf
        exact hq
    · have hf := ro_it hf c3
      refine ro_goto hK 81 dX12_areDry_20 (by decide) ?_
      refine ro_iinc (v := v2 + 1) (L' := [(2, .int (v2 + 1)), (0, .ref (ro_ad (kG K) 207)), (1, .int v1)]) hK 2 rfl dX12_areDry_81 rfl (by decide) rfl ?_
      refine ro_goto hK 2 dX12_areDry_84 (by decide) ?_
      refine ro_sub (L' := [(0, .ref (ro_ad (kG K) 207)), (1, .int v1), (2, .int (v2 + 1))]) [1, 2, 0] rfl ?_
      exact hrec (v2 + 1) _ hf hq
def fl_X12_areDry_2 (v1 : Int32) (μ : ro_Mem) : Int32 → Option (Unit ⊕ Unit) :=
  ro_loop (fun rec s => fb_X12_areDry_2 v1 μ rec s) ro_FU
theorem lp_X12_areDry_2 {K : ro_K} (hK : ro_C K RX12 cX12_areDry 5 1) (hR : ro_R K (some .boolean)) {v1 : Int32}  {μ : ro_Mem} {s : Int32} {q : (Unit ⊕ Unit)} (hf : fl_X12_areDry_2 v1 μ s = some q) (hq : ok_X12_areDry_2 K v1 μ q) : ro_X K 2 [(0, .ref (ro_ad (kG K) 207)), (1, .int v1), (2, .int s)] [] μ :=
  ro_loopX (b := fun rec s => fb_X12_areDry_2 v1 μ rec s) (X := fun s => ro_X K 2 [(0, .ref (ro_ad (kG K) 207)), (1, .int v1), (2, .int s)] [] μ) (OK := ok_X12_areDry_2 K v1 μ) (fun rec s q hrec hb ho => bb_X12_areDry_2 hK hR  hrec hb ho) ro_FU s q hf hq
def fn_X12_areDry (v1 : Int32) (μ : ro_Mem) : Option Int32 :=
  (fl_X12_areDry_2 v1 μ 0).bind fun q16 =>
  q16.elim (fun e18 => some 0) (fun e19 => some 1)
theorem be_X12_areDry {K : ro_K} (hK : ro_C K RX12 cX12_areDry 5 1) (hR : ro_R K (some .boolean)) {v1 : Int32}  {μ : ro_Mem} {out : Int32} (hf : fn_X12_areDry v1 μ = some out) (hq : kQ K (some (.int out)) μ) : ro_X K 0 [(0, .ref (ro_ad (kG K) 207)), (1, .int v1)] [] μ := by
  unfold fn_X12_areDry at hf
  refine ro_iconst (v := 0) hK dX12_areDry_0 (by decide) ?_
  refine ro_istore_n (L' := [(2, .int 0), (0, .ref (ro_ad (kG K) 207)), (1, .int v1)]) hK dX12_areDry_1 rfl (by decide) rfl ?_
  obtain ⟨q16, e17, hf⟩ := ro_bd hf
  refine ro_sub (L' := [(0, .ref (ro_ad (kG K) 207)), (1, .int v1), (2, .int 0)]) [1, 2, 0] rfl ?_
  refine lp_X12_areDry_2 hK hR  e17 ?_
  rcases q16 with e18 | e19
  · have hf := ro_el hf
    show ro_X K 79 [] [] μ
    refine ro_iconst (v := 0) hK dX12_areDry_79 (by decide) ?_
    obtain rfl := Option.some.inj hf
    exact ro_zret hK hR dX12_areDry_80 (by decide) hq
  · have hf := ro_er hf
    show ro_X K 87 [] [] μ
    refine ro_iconst (v := 1) hK dX12_areDry_87 (by decide) ?_
    obtain rfl := Option.some.inj hf
    exact ro_zret hK hR dX12_areDry_88 (by decide) hq
theorem mt_X12_areDry (l : Launch) (G : ro_G) {v1 : Int32}  {μ : ro_Mem} {out : Int32} (hf : fn_X12_areDry v1 μ = some out) : ro_MX l G yX12_areDry cX12_areDry 5 (some .boolean) 1 [.ref (ro_ad G 207), .int v1] μ (some (.int out)) μ := by
  refine ro_MX.of (by decide +kernel) (Nat.le_of_ble_eq_true rfl) (fun K hG hl hq hK hR => ?_)
  subst hG
  exact be_X12_areDry hK hR  hf hq
-- ===== X12_nails =====
theorem dX12_nails_0 : decode cX12_nails 0 = .ok (.iload_n 1, 1) := by decide +kernel
theorem dX12_nails_1 : decode cX12_nails 1 = .ok (.iconst 1, 1) := by decide +kernel
theorem dX12_nails_2 : decode cX12_nails 2 = .ok (.if_icmp .lt 23, 3) := by decide +kernel
theorem dX12_nails_5 : decode cX12_nails 5 = .ok (.iload_n 1, 1) := by decide +kernel
theorem dX12_nails_6 : decode cX12_nails 6 = .ok (.aload_n 0, 1) := by decide +kernel
theorem dX12_nails_7 : decode cX12_nails 7 = .ok (.getfield 232, 3) := by decide +kernel
theorem dX12_nails_10 : decode cX12_nails 10 = .ok (.iconst (-1), 1) := by decide +kernel
theorem dX12_nails_11 : decode cX12_nails 11 = .ok (.ixor, 1) := by decide +kernel
theorem dX12_nails_12 : decode cX12_nails 12 = .ok (.iand, 1) := by decide +kernel
theorem dX12_nails_13 : decode cX12_nails 13 = .ok (.ifCond .ne 12, 3) := by decide +kernel
theorem dX12_nails_16 : decode cX12_nails 16 = .ok (.iload_n 2, 1) := by decide +kernel
theorem dX12_nails_17 : decode cX12_nails 17 = .ok (.iconst 0, 1) := by decide +kernel
theorem dX12_nails_18 : decode cX12_nails 18 = .ok (.iconst 1, 1) := by decide +kernel
theorem dX12_nails_19 : decode cX12_nails 19 = .ok (.invokestatic 215, 3) := by decide +kernel
theorem dX12_nails_22 : decode cX12_nails 22 = .ok (.ifCond .ne 5, 3) := by decide +kernel
theorem dX12_nails_25 : decode cX12_nails 25 = .ok (.iconst (-1), 1) := by decide +kernel
theorem dX12_nails_26 : decode cX12_nails 26 = .ok (.ireturn, 1) := by decide +kernel
theorem dX12_nails_27 : decode cX12_nails 27 = .ok (.aload_n 0, 1) := by decide +kernel
theorem dX12_nails_28 : decode cX12_nails 28 = .ok (.invokevirtual 426, 3) := by decide +kernel
theorem dX12_nails_31 : decode cX12_nails 31 = .ok (.aload_n 0, 1) := by decide +kernel
theorem dX12_nails_32 : decode cX12_nails 32 = .ok (.iload_n 1, 1) := by decide +kernel
theorem dX12_nails_33 : decode cX12_nails 33 = .ok (.invokevirtual 478, 3) := by decide +kernel
theorem dX12_nails_36 : decode cX12_nails 36 = .ok (.iconst 0, 1) := by decide +kernel
theorem dX12_nails_37 : decode cX12_nails 37 = .ok (.istore_n 3, 1) := by decide +kernel
theorem dX12_nails_38 : decode cX12_nails 38 = .ok (.iconst 0, 1) := by decide +kernel
theorem dX12_nails_39 : decode cX12_nails 39 = .ok (.istore 4, 2) := by decide +kernel
theorem dX12_nails_41 : decode cX12_nails 41 = .ok (.iload 4, 2) := by decide +kernel
theorem dX12_nails_43 : decode cX12_nails 43 = .ok (.bipush 16, 2) := by decide +kernel
theorem dX12_nails_45 : decode cX12_nails 45 = .ok (.if_icmp .ge 37, 3) := by decide +kernel
theorem dX12_nails_48 : decode cX12_nails 48 = .ok (.aload_n 0, 1) := by decide +kernel
theorem dX12_nails_49 : decode cX12_nails 49 = .ok (.iload 4, 2) := by decide +kernel
theorem dX12_nails_51 : decode cX12_nails 51 = .ok (.invokevirtual 222, 3) := by decide +kernel
theorem dX12_nails_54 : decode cX12_nails 54 = .ok (.ifCond .eq 22, 3) := by decide +kernel
theorem dX12_nails_57 : decode cX12_nails 57 = .ok (.aload_n 0, 1) := by decide +kernel
theorem dX12_nails_58 : decode cX12_nails 58 = .ok (.getfield 219, 3) := by decide +kernel
theorem dX12_nails_61 : decode cX12_nails 61 = .ok (.iload 4, 2) := by decide +kernel
theorem dX12_nails_63 : decode cX12_nails 63 = .ok (.invokestatic 226, 3) := by decide +kernel
theorem dX12_nails_66 : decode cX12_nails 66 = .ok (.ifCond .ne 10, 3) := by decide +kernel
theorem dX12_nails_69 : decode cX12_nails 69 = .ok (.iload_n 3, 1) := by decide +kernel
theorem dX12_nails_70 : decode cX12_nails 70 = .ok (.iconst 1, 1) := by decide +kernel
theorem dX12_nails_71 : decode cX12_nails 71 = .ok (.iload 4, 2) := by decide +kernel
theorem dX12_nails_73 : decode cX12_nails 73 = .ok (.ishl, 1) := by decide +kernel
theorem dX12_nails_74 : decode cX12_nails 74 = .ok (.ior, 1) := by decide +kernel
theorem dX12_nails_75 : decode cX12_nails 75 = .ok (.istore_n 3, 1) := by decide +kernel
theorem dX12_nails_76 : decode cX12_nails 76 = .ok (.iinc 4 1, 3) := by decide +kernel
theorem dX12_nails_79 : decode cX12_nails 79 = .ok (.goto (-38), 3) := by decide +kernel
theorem dX12_nails_82 : decode cX12_nails 82 = .ok (.iload_n 3, 1) := by decide +kernel
theorem dX12_nails_83 : decode cX12_nails 83 = .ok (.istore 4, 2) := by decide +kernel
theorem dX12_nails_85 : decode cX12_nails 85 = .ok (.iconst 0, 1) := by decide +kernel
theorem dX12_nails_86 : decode cX12_nails 86 = .ok (.istore 5, 2) := by decide +kernel
theorem dX12_nails_88 : decode cX12_nails 88 = .ok (.iload 5, 2) := by decide +kernel
theorem dX12_nails_90 : decode cX12_nails 90 = .ok (.iload_n 3, 1) := by decide +kernel
theorem dX12_nails_91 : decode cX12_nails 91 = .ok (.if_icmp .gt 64, 3) := by decide +kernel
theorem dX12_nails_94 : decode cX12_nails 94 = .ok (.iload 5, 2) := by decide +kernel
theorem dX12_nails_96 : decode cX12_nails 96 = .ok (.iload_n 3, 1) := by decide +kernel
theorem dX12_nails_97 : decode cX12_nails 97 = .ok (.iconst (-1), 1) := by decide +kernel
theorem dX12_nails_98 : decode cX12_nails 98 = .ok (.ixor, 1) := by decide +kernel
theorem dX12_nails_99 : decode cX12_nails 99 = .ok (.iand, 1) := by decide +kernel
theorem dX12_nails_100 : decode cX12_nails 100 = .ok (.ifCond .ne 49, 3) := by decide +kernel
theorem dX12_nails_103 : decode cX12_nails 103 = .ok (.iload 5, 2) := by decide +kernel
theorem dX12_nails_105 : decode cX12_nails 105 = .ok (.invokestatic 460, 3) := by decide +kernel
theorem dX12_nails_108 : decode cX12_nails 108 = .ok (.iload 4, 2) := by decide +kernel
theorem dX12_nails_110 : decode cX12_nails 110 = .ok (.invokestatic 460, 3) := by decide +kernel
theorem dX12_nails_113 : decode cX12_nails 113 = .ok (.if_icmp .lt 23, 3) := by decide +kernel
theorem dX12_nails_116 : decode cX12_nails 116 = .ok (.iload 5, 2) := by decide +kernel
theorem dX12_nails_118 : decode cX12_nails 118 = .ok (.invokestatic 460, 3) := by decide +kernel
theorem dX12_nails_121 : decode cX12_nails 121 = .ok (.iload 4, 2) := by decide +kernel
theorem dX12_nails_123 : decode cX12_nails 123 = .ok (.invokestatic 460, 3) := by decide +kernel
theorem dX12_nails_126 : decode cX12_nails 126 = .ok (.if_icmp .ne 23, 3) := by decide +kernel
theorem dX12_nails_129 : decode cX12_nails 129 = .ok (.iload 5, 2) := by decide +kernel
theorem dX12_nails_131 : decode cX12_nails 131 = .ok (.iload 4, 2) := by decide +kernel
theorem dX12_nails_133 : decode cX12_nails 133 = .ok (.if_icmp .ge 16, 3) := by decide +kernel
theorem dX12_nails_136 : decode cX12_nails 136 = .ok (.aload_n 0, 1) := by decide +kernel
theorem dX12_nails_137 : decode cX12_nails 137 = .ok (.iload 5, 2) := by decide +kernel
theorem dX12_nails_139 : decode cX12_nails 139 = .ok (.invokevirtual 481, 3) := by decide +kernel
theorem dX12_nails_142 : decode cX12_nails 142 = .ok (.ifCond .eq 7, 3) := by decide +kernel
theorem dX12_nails_145 : decode cX12_nails 145 = .ok (.iload 5, 2) := by decide +kernel
theorem dX12_nails_147 : decode cX12_nails 147 = .ok (.istore 4, 2) := by decide +kernel
theorem dX12_nails_149 : decode cX12_nails 149 = .ok (.iinc 5 1, 3) := by decide +kernel
theorem dX12_nails_152 : decode cX12_nails 152 = .ok (.goto (-64), 3) := by decide +kernel
theorem dX12_nails_155 : decode cX12_nails 155 = .ok (.iload_n 2, 1) := by decide +kernel
theorem dX12_nails_156 : decode cX12_nails 156 = .ok (.ifCond .ne 11, 3) := by decide +kernel
theorem dX12_nails_159 : decode cX12_nails 159 = .ok (.iload 4, 2) := by decide +kernel
theorem dX12_nails_161 : decode cX12_nails 161 = .ok (.invokestatic 460, 3) := by decide +kernel
theorem dX12_nails_164 : decode cX12_nails 164 = .ok (.goto 5, 3) := by decide +kernel
theorem dX12_nails_167 : decode cX12_nails 167 = .ok (.iload 4, 2) := by decide +kernel
theorem dX12_nails_169 : decode cX12_nails 169 = .ok (.ireturn, 1) := by decide +kernel
def ok_X12_nails_41 (K : ro_K) (v2 : Int32) (μ : ro_Mem) : Int32 → Prop := fun e => ro_X K 82 [(0, .ref (ro_ad (kG K) 207)), (2, .int v2), (3, .int e)] [] μ
def fb_X12_nails_41 (v2 : Int32) (μ : ro_Mem) (rec : (Int32 × Int32) → Option Int32) (v3 : Int32) (v4 : Int32) : Option Int32 :=
  if 16 ≤ v4 then
  (some v3)
  else
  ((fn_X12_isSlate v4 μ).bind fun q11 =>
  if q11 = 0 then
  (rec (v3, v4 + 1))
  else
  ((fn_X12_has (μ 207 1) v4).bind fun q14 =>
  if q14 = 0 then
  (ro_lt (v3 ||| ((1 : Int32) <<< (v4 &&& 31))) fun z17 =>
  rec (z17, v4 + 1))
  else
  (rec (v3, v4 + 1))))
theorem bb_X12_nails_41 {K : ro_K} (hK : ro_C K RX12 cX12_nails 6 5) (hR : ro_R K (some .int)) {v2 : Int32}  {μ : ro_Mem} {rec : (Int32 × Int32) → Option Int32} {v3 : Int32} {v4 : Int32} {q : Int32} (hrec : ∀ (s : Int32 × Int32) (q : Int32), rec s = some q → ok_X12_nails_41 K v2 μ q → ro_X K 41 [(0, .ref (ro_ad (kG K) 207)), (2, .int v2), (3, .int s.1), (4, .int s.2)] [] μ) (hf : fb_X12_nails_41 v2 μ rec v3 v4 = some q) (hq : ok_X12_nails_41 K v2 μ q) : ro_X K 41 [(0, .ref (ro_ad (kG K) 207)), (2, .int v2), (3, .int v3), (4, .int v4)] [] μ := by
  unfold fb_X12_nails_41 at hf
  refine ro_iload hK 3 rfl dX12_nails_41 ?_
  refine ro_bipush (v := 16) hK dX12_nails_43 (by decide) ?_
  refine ro_icmp_ge hK 82 dX12_nails_45 (by decide) (fun c10 => ?_) (fun c10 => ?_)
  · have hf := ro_it hf c10
    refine ro_sub (L' := [(0, .ref (ro_ad (kG K) 207)), (2, .int v2), (3, .int v3)]) [0, 1, 2] rfl ?_
    obtain rfl := Option.some.inj hf
    exact hq
  · have hf := ro_ie hf c10
    refine ro_aload_n hK 0 rfl dX12_nails_48 rfl ?_
    refine ro_iload hK 3 rfl dX12_nails_49 ?_
    obtain ⟨q11, e12, hf⟩ := ro_bd hf
    refine ro_callvi hK [.int v4] ml_X12_222 mv_X12_isSlate (mt_X12_isSlate (kl K) (kG K)  e12) sh_207 ⟨_, rfl, rfl⟩ (by decide) rfl rfl (Nat.le_of_ble_eq_true rfl) dX12_nails_51 ?_
    refine ro_if_eq hK 76 dX12_nails_54 (by decide) (fun c13 => ?_) (fun c13 => ?_)
    · have hf := ro_it hf c13
      refine ro_iinc (v := v4 + 1) (L' := [(4, .int (v4 + 1)), (0, .ref (ro_ad (kG K) 207)), (2, .int v2), (3, .int v3)]) hK 3 rfl dX12_nails_76 rfl (by decide) rfl ?_
      refine ro_goto hK 41 dX12_nails_79 (by decide) ?_
      refine ro_sub (L' := [(0, .ref (ro_ad (kG K) 207)), (2, .int v2), (3, .int v3), (4, .int (v4 + 1))]) [1, 2, 3, 0] rfl ?_
      exact hrec (v3, v4 + 1) _ hf hq
    · have hf := ro_ie hf c13
      refine ro_aload_n hK 0 rfl dX12_nails_57 rfl ?_
      refine ro_geti hK fl_X12_219 sh_207 dX12_nails_58 ?_
      refine ro_iload hK 3 rfl dX12_nails_61 ?_
      obtain ⟨q14, e15, hf⟩ := ro_bd hf
      refine ro_callsi hK [.int (μ 207 1), .int v4] ml_X12_226 ms_X12_has (mt_X12_has (kl K) (kG K)  e15) (by decide) rfl rfl (Nat.le_of_ble_eq_true rfl) dX12_nails_63 ?_
      refine ro_if_ne hK 76 dX12_nails_66 (by decide) (fun c16 => ?_) (fun c16 => ?_)
      · have hf := ro_ie hf c16
        refine ro_iinc (v := v4 + 1) (L' := [(4, .int (v4 + 1)), (0, .ref (ro_ad (kG K) 207)), (2, .int v2), (3, .int v3)]) hK 3 rfl dX12_nails_76 rfl (by decide) rfl ?_
        refine ro_goto hK 41 dX12_nails_79 (by decide) ?_
        refine ro_sub (L' := [(0, .ref (ro_ad (kG K) 207)), (2, .int v2), (3, .int v3), (4, .int (v4 + 1))]) [1, 2, 3, 0] rfl ?_
        exact hrec (v3, v4 + 1) _ hf hq
      · have hf := ro_it hf c16
        refine ro_iload_n hK 2 rfl dX12_nails_69 rfl ?_
        refine ro_iconst (v := 1) hK dX12_nails_70 (by decide) ?_
        refine ro_iload hK 3 rfl dX12_nails_71 ?_
        refine ro_ishl hK dX12_nails_73 ?_
        refine ro_ior hK dX12_nails_74 ?_
        obtain ⟨z17, e18, hf⟩ := ro_ld hf
        refine ro_iv e18 ?_
        refine ro_istore_n (L' := [(3, .int z17), (0, .ref (ro_ad (kG K) 207)), (2, .int v2), (4, .int v4)]) hK dX12_nails_75 rfl (by decide) rfl ?_
        refine ro_iinc (v := v4 + 1) (L' := [(4, .int (v4 + 1)), (3, .int z17), (0, .ref (ro_ad (kG K) 207)), (2, .int v2)]) hK 3 rfl dX12_nails_76 rfl (by decide) rfl ?_
        refine ro_goto hK 41 dX12_nails_79 (by decide) ?_
        refine ro_sub (L' := [(0, .ref (ro_ad (kG K) 207)), (2, .int v2), (3, .int z17), (4, .int (v4 + 1))]) [2, 3, 1, 0] rfl ?_
        exact hrec (z17, v4 + 1) _ hf hq
def fl_X12_nails_41 (v2 : Int32) (μ : ro_Mem) : (Int32 × Int32) → Option Int32 :=
  ro_loop (fun rec s => fb_X12_nails_41 v2 μ rec s.1 s.2) ro_FU
theorem lp_X12_nails_41 {K : ro_K} (hK : ro_C K RX12 cX12_nails 6 5) (hR : ro_R K (some .int)) {v2 : Int32}  {μ : ro_Mem} {s : Int32 × Int32} {q : Int32} (hf : fl_X12_nails_41 v2 μ s = some q) (hq : ok_X12_nails_41 K v2 μ q) : ro_X K 41 [(0, .ref (ro_ad (kG K) 207)), (2, .int v2), (3, .int s.1), (4, .int s.2)] [] μ :=
  ro_loopX (b := fun rec s => fb_X12_nails_41 v2 μ rec s.1 s.2) (X := fun s => ro_X K 41 [(0, .ref (ro_ad (kG K) 207)), (2, .int v2), (3, .int s.1), (4, .int s.2)] [] μ) (OK := ok_X12_nails_41 K v2 μ) (fun rec s q hrec hb ho => bb_X12_nails_41 hK hR  hrec hb ho) ro_FU s q hf hq
def ok_X12_nails_88 (K : ro_K) (v2 : Int32) (v3 : Int32) (μ : ro_Mem) : Int32 → Prop := fun e => ro_X K 155 [(2, .int v2), (4, .int e)] [] μ
def fj_X12_nails_136 (rec : (Int32 × Int32) → Option Int32) (v2 : Int32) (v3 : Int32) (v4 : Int32) (v5 : Int32) (μ : ro_Mem) : Option Int32 :=
  (fn_X12_areDry v5 μ).bind fun q28 =>
  if q28 = 0 then
  (rec (v4, v5 + 1))
  else
  (rec (v5, v5 + 1))
theorem bj_X12_nails_136 {K : ro_K} (hK : ro_C K RX12 cX12_nails 6 5) (hR : ro_R K (some .int)) {v2 : Int32} {v3 : Int32} {v4 : Int32} {v5 : Int32}  {rec : (Int32 × Int32) → Option Int32} {μ : ro_Mem} (hrec : ∀ (s : Int32 × Int32) (q : Int32), rec s = some q → ok_X12_nails_88 K v2 v3 μ q → ro_X K 88 [(0, .ref (ro_ad (kG K) 207)), (2, .int v2), (3, .int v3), (4, .int s.1), (5, .int s.2)] [] μ) {out : Int32} (hf : fj_X12_nails_136 rec v2 v3 v4 v5 μ = some out) (hq : ok_X12_nails_88 K v2 v3 μ out) : ro_X K 136 [(0, .ref (ro_ad (kG K) 207)), (2, .int v2), (3, .int v3), (4, .int v4), (5, .int v5)] [] μ := by
  unfold fj_X12_nails_136 at hf
  refine ro_aload_n hK 0 rfl dX12_nails_136 rfl ?_
  refine ro_iload hK 4 rfl dX12_nails_137 ?_
  obtain ⟨q28, e29, hf⟩ := ro_bd hf
  refine ro_callvi hK [.int v5] ml_X12_481 mv_X12_areDry (mt_X12_areDry (kl K) (kG K)  e29) sh_207 ⟨_, rfl, rfl⟩ (by decide) rfl rfl (Nat.le_of_ble_eq_true rfl) dX12_nails_139 ?_
  refine ro_if_eq hK 149 dX12_nails_142 (by decide) (fun c30 => ?_) (fun c30 => ?_)
  · have hf := ro_it hf c30
    refine ro_iinc (v := v5 + 1) (L' := [(5, .int (v5 + 1)), (0, .ref (ro_ad (kG K) 207)), (2, .int v2), (3, .int v3), (4, .int v4)]) hK 4 rfl dX12_nails_149 rfl (by decide) rfl ?_
    refine ro_goto hK 88 dX12_nails_152 (by decide) ?_
    refine ro_sub (L' := [(0, .ref (ro_ad (kG K) 207)), (2, .int v2), (3, .int v3), (4, .int v4), (5, .int (v5 + 1))]) [1, 2, 3, 4, 0] rfl ?_
    exact hrec (v4, v5 + 1) _ hf hq
  · have hf := ro_ie hf c30
    refine ro_iload hK 4 rfl dX12_nails_145 ?_
    refine ro_istore (L' := [(4, .int v5), (0, .ref (ro_ad (kG K) 207)), (2, .int v2), (3, .int v3), (5, .int v5)]) hK dX12_nails_147 (by decide) rfl ?_
    refine ro_iinc (v := v5 + 1) (L' := [(5, .int (v5 + 1)), (4, .int v5), (0, .ref (ro_ad (kG K) 207)), (2, .int v2), (3, .int v3)]) hK 4 rfl dX12_nails_149 rfl (by decide) rfl ?_
    refine ro_goto hK 88 dX12_nails_152 (by decide) ?_
    refine ro_sub (L' := [(0, .ref (ro_ad (kG K) 207)), (2, .int v2), (3, .int v3), (4, .int v5), (5, .int (v5 + 1))]) [2, 3, 4, 1, 0] rfl ?_
    exact hrec (v5, v5 + 1) _ hf hq
def fb_X12_nails_88 (v2 : Int32) (v3 : Int32) (μ : ro_Mem) (rec : (Int32 × Int32) → Option Int32) (v4 : Int32) (v5 : Int32) : Option Int32 :=
  if v3 < v5 then
  (some v4)
  else
  (if (v5 &&& (v3 ^^^ (-1))) = 0 then
  ((fn_X12_bits v5).bind fun q23 =>
  (fn_X12_bits v4).bind fun q25 =>
  if q23 < q25 then
  (fj_X12_nails_136 rec v2 v3 v4 v5 μ)
  else
  ((fn_X12_bits v5).bind fun q31 =>
  (fn_X12_bits v4).bind fun q33 =>
  if q31 = q33 then
  (if v4 ≤ v5 then
  (rec (v4, v5 + 1))
  else
  (fj_X12_nails_136 rec v2 v3 v4 v5 μ))
  else
  (rec (v4, v5 + 1))))
  else
  (rec (v4, v5 + 1)))
theorem bb_X12_nails_88 {K : ro_K} (hK : ro_C K RX12 cX12_nails 6 5) (hR : ro_R K (some .int)) {v2 : Int32} {v3 : Int32}  {μ : ro_Mem} {rec : (Int32 × Int32) → Option Int32} {v4 : Int32} {v5 : Int32} {q : Int32} (hrec : ∀ (s : Int32 × Int32) (q : Int32), rec s = some q → ok_X12_nails_88 K v2 v3 μ q → ro_X K 88 [(0, .ref (ro_ad (kG K) 207)), (2, .int v2), (3, .int v3), (4, .int s.1), (5, .int s.2)] [] μ) (hf : fb_X12_nails_88 v2 v3 μ rec v4 v5 = some q) (hq : ok_X12_nails_88 K v2 v3 μ q) : ro_X K 88 [(0, .ref (ro_ad (kG K) 207)), (2, .int v2), (3, .int v3), (4, .int v4), (5, .int v5)] [] μ := by
  unfold fb_X12_nails_88 at hf
  refine ro_iload hK 4 rfl dX12_nails_88 ?_
  refine ro_iload_n hK 2 rfl dX12_nails_90 rfl ?_
  refine ro_icmp_gt hK 155 dX12_nails_91 (by decide) (fun c21 => ?_) (fun c21 => ?_)
  · have hf := ro_it hf c21
    refine ro_sub (L' := [(2, .int v2), (4, .int v4)]) [1, 3] rfl ?_
    obtain rfl := Option.some.inj hf
    exact hq
  · have hf := ro_ie hf c21
    refine ro_iload hK 4 rfl dX12_nails_94 ?_
    refine ro_iload_n hK 2 rfl dX12_nails_96 rfl ?_
    refine ro_iconst (v := (-1)) hK dX12_nails_97 (by decide) ?_
    refine ro_ixor hK dX12_nails_98 ?_
    refine ro_iand hK dX12_nails_99 ?_
    refine ro_if_ne hK 149 dX12_nails_100 (by decide) (fun c22 => ?_) (fun c22 => ?_)
    · have hf := ro_ie hf c22
      refine ro_iinc (v := v5 + 1) (L' := [(5, .int (v5 + 1)), (0, .ref (ro_ad (kG K) 207)), (2, .int v2), (3, .int v3), (4, .int v4)]) hK 4 rfl dX12_nails_149 rfl (by decide) rfl ?_
      refine ro_goto hK 88 dX12_nails_152 (by decide) ?_
      refine ro_sub (L' := [(0, .ref (ro_ad (kG K) 207)), (2, .int v2), (3, .int v3), (4, .int v4), (5, .int (v5 + 1))]) [1, 2, 3, 4, 0] rfl ?_
      exact hrec (v4, v5 + 1) _ hf hq
    · have hf := ro_it hf c22
      refine ro_iload hK 4 rfl dX12_nails_103 ?_
      obtain ⟨q23, e24, hf⟩ := ro_bd hf
      refine ro_callsi hK [.int v5] ml_X12_460 ms_X12_bits (mt_X12_bits (kl K) (kG K)  e24) (by decide) rfl rfl (Nat.le_of_ble_eq_true rfl) dX12_nails_105 ?_
      refine ro_iload hK 3 rfl dX12_nails_108 ?_
      obtain ⟨q25, e26, hf⟩ := ro_bd hf
      refine ro_callsi hK [.int v4] ml_X12_460 ms_X12_bits (mt_X12_bits (kl K) (kG K)  e26) (by decide) rfl rfl (Nat.le_of_ble_eq_true rfl) dX12_nails_110 ?_
      refine ro_icmp_lt hK 136 dX12_nails_113 (by decide) (fun c27 => ?_) (fun c27 => ?_)
      · have hf := ro_it hf c27
        exact bj_X12_nails_136 hK hR  hrec hf hq
      · have hf := ro_ie hf c27
        refine ro_iload hK 4 rfl dX12_nails_116 ?_
        obtain ⟨q31, e32, hf⟩ := ro_bd hf
        refine ro_callsi hK [.int v5] ml_X12_460 ms_X12_bits (mt_X12_bits (kl K) (kG K)  e32) (by decide) rfl rfl (Nat.le_of_ble_eq_true rfl) dX12_nails_118 ?_
        refine ro_iload hK 3 rfl dX12_nails_121 ?_
        obtain ⟨q33, e34, hf⟩ := ro_bd hf
        refine ro_callsi hK [.int v4] ml_X12_460 ms_X12_bits (mt_X12_bits (kl K) (kG K)  e34) (by decide) rfl rfl (Nat.le_of_ble_eq_true rfl) dX12_nails_123 ?_
        refine ro_icmp_ne hK 149 dX12_nails_126 (by decide) (fun c35 => ?_) (fun c35 => ?_)
        · have hf := ro_ie hf c35
          refine ro_iinc (v := v5 + 1) (L' := [(5, .int (v5 + 1)), (0, .ref (ro_ad (kG K) 207)), (2, .int v2), (3, .int v3), (4, .int v4)]) hK 4 rfl dX12_nails_149 rfl (by decide) rfl ?_
          refine ro_goto hK 88 dX12_nails_152 (by decide) ?_
          refine ro_sub (L' := [(0, .ref (ro_ad (kG K) 207)), (2, .int v2), (3, .int v3), (4, .int v4), (5, .int (v5 + 1))]) [1, 2, 3, 4, 0] rfl ?_
          exact hrec (v4, v5 + 1) _ hf hq
        · have hf := ro_it hf c35
          refine ro_iload hK 4 rfl dX12_nails_129 ?_
          refine ro_iload hK 3 rfl dX12_nails_131 ?_
          refine ro_icmp_ge hK 149 dX12_nails_133 (by decide) (fun c36 => ?_) (fun c36 => ?_)
          · have hf := ro_it hf c36
            refine ro_iinc (v := v5 + 1) (L' := [(5, .int (v5 + 1)), (0, .ref (ro_ad (kG K) 207)), (2, .int v2), (3, .int v3), (4, .int v4)]) hK 4 rfl dX12_nails_149 rfl (by decide) rfl ?_
            refine ro_goto hK 88 dX12_nails_152 (by decide) ?_
            refine ro_sub (L' := [(0, .ref (ro_ad (kG K) 207)), (2, .int v2), (3, .int v3), (4, .int v4), (5, .int (v5 + 1))]) [1, 2, 3, 4, 0] rfl ?_
            exact hrec (v4, v5 + 1) _ hf hq
          · have hf := ro_ie hf c36
            exact bj_X12_nails_136 hK hR  hrec hf hq
def fl_X12_nails_88 (v2 : Int32) (v3 : Int32) (μ : ro_Mem) : (Int32 × Int32) → Option Int32 :=
  ro_loop (fun rec s => fb_X12_nails_88 v2 v3 μ rec s.1 s.2) ro_FU
theorem lp_X12_nails_88 {K : ro_K} (hK : ro_C K RX12 cX12_nails 6 5) (hR : ro_R K (some .int)) {v2 : Int32} {v3 : Int32}  {μ : ro_Mem} {s : Int32 × Int32} {q : Int32} (hf : fl_X12_nails_88 v2 v3 μ s = some q) (hq : ok_X12_nails_88 K v2 v3 μ q) : ro_X K 88 [(0, .ref (ro_ad (kG K) 207)), (2, .int v2), (3, .int v3), (4, .int s.1), (5, .int s.2)] [] μ :=
  ro_loopX (b := fun rec s => fb_X12_nails_88 v2 v3 μ rec s.1 s.2) (X := fun s => ro_X K 88 [(0, .ref (ro_ad (kG K) 207)), (2, .int v2), (3, .int v3), (4, .int s.1), (5, .int s.2)] [] μ) (OK := ok_X12_nails_88 K v2 v3 μ) (fun rec s q hrec hb ho => bb_X12_nails_88 hK hR  hrec hb ho) ro_FU s q hf hq
def fn_X12_nails (v1 : Int32) (v2 : Int32) (μ : ro_Mem) : Option (Int32 × ro_Mem) :=
  if v1 < 1 then
  (some ((-1), μ))
  else
  (if (v1 &&& ((μ 207 2) ^^^ (-1))) = 0 then
  ((fn_X12_in v2 0 1).bind fun q3 =>
  if q3 = 0 then
  (some ((-1), μ))
  else
  ((fn_X12_laysDrops μ).bind fun q6 =>
  (fn_X12_laysThrough v1 q6).bind fun q8 =>
  (fl_X12_nails_41 v2 q8 (0, 0)).bind fun q19 =>
  (fl_X12_nails_88 v2 q19 q8 (q19, 0)).bind fun q37 =>
  if v2 = 0 then
  ((fn_X12_bits q37).bind fun q40 =>
  some (q40, q8))
  else
  (some (q37, q8))))
  else
  (some ((-1), μ)))
theorem be_X12_nails {K : ro_K} (hK : ro_C K RX12 cX12_nails 6 5) (hR : ro_R K (some .int)) {v1 : Int32} {v2 : Int32}  {μ : ro_Mem} {out : Int32 × ro_Mem} (hf : fn_X12_nails v1 v2 μ = some out) (hq : kQ K (some (.int out.1)) out.2) : ro_X K 0 [(0, .ref (ro_ad (kG K) 207)), (1, .int v1), (2, .int v2)] [] μ := by
  unfold fn_X12_nails at hf
  refine ro_iload_n hK 1 rfl dX12_nails_0 rfl ?_
  refine ro_iconst (v := 1) hK dX12_nails_1 (by decide) ?_
  refine ro_icmp_lt hK 25 dX12_nails_2 (by decide) (fun c1 => ?_) (fun c1 => ?_)
  · have hf := ro_it hf c1
    refine ro_iconst (v := (-1)) hK dX12_nails_25 (by decide) ?_
    obtain rfl := Option.some.inj hf
    exact ro_iret hK hR dX12_nails_26 hq
  · have hf := ro_ie hf c1
    refine ro_iload_n hK 1 rfl dX12_nails_5 rfl ?_
    refine ro_aload_n hK 0 rfl dX12_nails_6 rfl ?_
    refine ro_geti hK fl_X12_232 sh_207 dX12_nails_7 ?_
    refine ro_iconst (v := (-1)) hK dX12_nails_10 (by decide) ?_
    refine ro_ixor hK dX12_nails_11 ?_
    refine ro_iand hK dX12_nails_12 ?_
    refine ro_if_ne hK 25 dX12_nails_13 (by decide) (fun c2 => ?_) (fun c2 => ?_)
    · have hf := ro_ie hf c2
      refine ro_iconst (v := (-1)) hK dX12_nails_25 (by decide) ?_
      obtain rfl := Option.some.inj hf
      exact ro_iret hK hR dX12_nails_26 hq
    · have hf := ro_it hf c2
      refine ro_iload_n hK 2 rfl dX12_nails_16 rfl ?_
      refine ro_iconst (v := 0) hK dX12_nails_17 (by decide) ?_
      refine ro_iconst (v := 1) hK dX12_nails_18 (by decide) ?_
      obtain ⟨q3, e4, hf⟩ := ro_bd hf
      refine ro_callsi hK [.int v2, .int 0, .int 1] ml_X12_215 ms_X12_in (mt_X12_in (kl K) (kG K)  e4) (by decide) rfl rfl (Nat.le_of_ble_eq_true rfl) dX12_nails_19 ?_
      refine ro_if_ne hK 27 dX12_nails_22 (by decide) (fun c5 => ?_) (fun c5 => ?_)
      · have hf := ro_ie hf c5
        refine ro_aload_n hK 0 rfl dX12_nails_27 rfl ?_
        obtain ⟨q6, e7, hf⟩ := ro_bd hf
        refine ro_callvv hK [] ml_X12_426 mv_X12_laysDrops (mt_X12_laysDrops (kl K) (kG K)  e7) sh_207 ⟨_, rfl, rfl⟩ (by decide) rfl rfl (Nat.le_of_ble_eq_true rfl) dX12_nails_28 ?_
        refine ro_aload_n hK 0 rfl dX12_nails_31 rfl ?_
        refine ro_iload_n hK 1 rfl dX12_nails_32 rfl ?_
        obtain ⟨q8, e9, hf⟩ := ro_bd hf
        refine ro_callvv hK [.int v1] ml_X12_478 mv_X12_laysThrough (mt_X12_laysThrough (kl K) (kG K)  e9) sh_207 ⟨_, rfl, rfl⟩ (by decide) rfl rfl (Nat.le_of_ble_eq_true rfl) dX12_nails_33 ?_
        refine ro_iconst (v := 0) hK dX12_nails_36 (by decide) ?_
        refine ro_istore_n (L' := [(3, .int 0), (0, .ref (ro_ad (kG K) 207)), (1, .int v1), (2, .int v2)]) hK dX12_nails_37 rfl (by decide) rfl ?_
        refine ro_iconst (v := 0) hK dX12_nails_38 (by decide) ?_
        refine ro_istore (L' := [(4, .int 0), (3, .int 0), (0, .ref (ro_ad (kG K) 207)), (1, .int v1), (2, .int v2)]) hK dX12_nails_39 (by decide) rfl ?_
        obtain ⟨q19, e20, hf⟩ := ro_bd hf
        refine ro_sub (L' := [(0, .ref (ro_ad (kG K) 207)), (2, .int v2), (3, .int 0), (4, .int 0)]) [2, 4, 1, 0] rfl ?_
        refine lp_X12_nails_41 hK hR  e20 ?_
        show ro_X K 82 [(0, .ref (ro_ad (kG K) 207)), (2, .int v2), (3, .int q19)] [] q8
        refine ro_iload_n hK 2 rfl dX12_nails_82 rfl ?_
        refine ro_istore (L' := [(4, .int q19), (0, .ref (ro_ad (kG K) 207)), (2, .int v2), (3, .int q19)]) hK dX12_nails_83 (by decide) rfl ?_
        refine ro_iconst (v := 0) hK dX12_nails_85 (by decide) ?_
        refine ro_istore (L' := [(5, .int 0), (4, .int q19), (0, .ref (ro_ad (kG K) 207)), (2, .int v2), (3, .int q19)]) hK dX12_nails_86 (by decide) rfl ?_
        obtain ⟨q37, e38, hf⟩ := ro_bd hf
        refine ro_sub (L' := [(0, .ref (ro_ad (kG K) 207)), (2, .int v2), (3, .int q19), (4, .int q19), (5, .int 0)]) [2, 3, 4, 1, 0] rfl ?_
        refine lp_X12_nails_88 hK hR  e38 ?_
        show ro_X K 155 [(2, .int v2), (4, .int q37)] [] q8
        refine ro_iload_n hK 0 rfl dX12_nails_155 rfl ?_
        refine ro_if_ne hK 167 dX12_nails_156 (by decide) (fun c39 => ?_) (fun c39 => ?_)
        · have hf := ro_ie hf c39
          refine ro_iload hK 1 rfl dX12_nails_167 ?_
          obtain rfl := Option.some.inj hf
          exact ro_iret hK hR dX12_nails_169 hq
        · have hf := ro_it hf c39
          refine ro_iload hK 1 rfl dX12_nails_159 ?_
          obtain ⟨q40, e41, hf⟩ := ro_bd hf
          refine ro_callsi hK [.int q37] ml_X12_460 ms_X12_bits (mt_X12_bits (kl K) (kG K)  e41) (by decide) rfl rfl (Nat.le_of_ble_eq_true rfl) dX12_nails_161 ?_
          refine ro_goto hK 169 dX12_nails_164 (by decide) ?_
          obtain rfl := Option.some.inj hf
          exact ro_iret hK hR dX12_nails_169 hq
      · have hf := ro_it hf c5
        refine ro_iconst (v := (-1)) hK dX12_nails_25 (by decide) ?_
        obtain rfl := Option.some.inj hf
        exact ro_iret hK hR dX12_nails_26 hq
theorem mt_X12_nails (l : Launch) (G : ro_G) {v1 : Int32} {v2 : Int32}  {μ : ro_Mem} {out : Int32 × ro_Mem} (hf : fn_X12_nails v1 v2 μ = some out) : ro_MX l G yX12_nails cX12_nails 6 (some .int) 5 [.ref (ro_ad G 207), .int v1, .int v2] μ (some (.int out.1)) out.2 := by
  refine ro_MX.of (by decide +kernel) (Nat.le_of_ble_eq_true rfl) (fun K hG hl hq hK hR => ?_)
  subst hG
  exact be_X12_nails hK hR  hf hq
-- ===== X12_firstBar =====
theorem dX12_firstBar_0 : decode cX12_firstBar 0 = .ok (.iconst 0, 1) := by decide +kernel
theorem dX12_firstBar_1 : decode cX12_firstBar 1 = .ok (.istore_n 2, 1) := by decide +kernel
theorem dX12_firstBar_2 : decode cX12_firstBar 2 = .ok (.iload_n 2, 1) := by decide +kernel
theorem dX12_firstBar_3 : decode cX12_firstBar 3 = .ok (.aload_n 0, 1) := by decide +kernel
theorem dX12_firstBar_4 : decode cX12_firstBar 4 = .ok (.getfield 300, 3) := by decide +kernel
theorem dX12_firstBar_7 : decode cX12_firstBar 7 = .ok (.if_icmp .ge 26, 3) := by decide +kernel
theorem dX12_firstBar_10 : decode cX12_firstBar 10 = .ok (.aload_n 0, 1) := by decide +kernel
theorem dX12_firstBar_11 : decode cX12_firstBar 11 = .ok (.getfield 54, 3) := by decide +kernel
theorem dX12_firstBar_14 : decode cX12_firstBar 14 = .ok (.iload_n 2, 1) := by decide +kernel
theorem dX12_firstBar_15 : decode cX12_firstBar 15 = .ok (.iaload, 1) := by decide +kernel
theorem dX12_firstBar_16 : decode cX12_firstBar 16 = .ok (.iload_n 1, 1) := by decide +kernel
theorem dX12_firstBar_17 : decode cX12_firstBar 17 = .ok (.if_icmp .ne 10, 3) := by decide +kernel
theorem dX12_firstBar_20 : decode cX12_firstBar 20 = .ok (.aload_n 0, 1) := by decide +kernel
theorem dX12_firstBar_21 : decode cX12_firstBar 21 = .ok (.getfield 51, 3) := by decide +kernel
theorem dX12_firstBar_24 : decode cX12_firstBar 24 = .ok (.iload_n 2, 1) := by decide +kernel
theorem dX12_firstBar_25 : decode cX12_firstBar 25 = .ok (.iaload, 1) := by decide +kernel
theorem dX12_firstBar_26 : decode cX12_firstBar 26 = .ok (.ireturn, 1) := by decide +kernel
theorem dX12_firstBar_27 : decode cX12_firstBar 27 = .ok (.iinc 2 1, 3) := by decide +kernel
theorem dX12_firstBar_30 : decode cX12_firstBar 30 = .ok (.goto (-28), 3) := by decide +kernel
theorem dX12_firstBar_33 : decode cX12_firstBar 33 = .ok (.iconst (-1), 1) := by decide +kernel
theorem dX12_firstBar_34 : decode cX12_firstBar 34 = .ok (.ireturn, 1) := by decide +kernel
def ok_X12_firstBar_2 (K : ro_K) (v1 : Int32) (μ : ro_Mem) : (Int32 ⊕ Unit) → Prop := Sum.elim (fun e => ro_X K 20 [(0, .ref (ro_ad (kG K) 207)), (2, .int e)] [] μ) (fun e => ro_X K 33 [] [] μ)
def fb_X12_firstBar_2 (v1 : Int32) (μ : ro_Mem) (rec : Int32 → Option (Int32 ⊕ Unit)) (v2 : Int32) : Option (Int32 ⊕ Unit) :=
  if (μ 207 18) ≤ v2 then
  (some (.inr ()))
  else
  (if ro_in v2 32 then
  (if (μ 222 v2.toNatClampNeg) = v1 then
  (some (.inl v2))
  else
  (rec (v2 + 1))) else none)
theorem bb_X12_firstBar_2 {K : ro_K} (hK : ro_C K RX12 cX12_firstBar 3 0) (hR : ro_R K (some .int)) {v1 : Int32}  {μ : ro_Mem} {rec : Int32 → Option (Int32 ⊕ Unit)} {v2 : Int32} {q : (Int32 ⊕ Unit)} (hrec : ∀ (s : Int32) (q : (Int32 ⊕ Unit)), rec s = some q → ok_X12_firstBar_2 K v1 μ q → ro_X K 2 [(0, .ref (ro_ad (kG K) 207)), (1, .int v1), (2, .int s)] [] μ) (hf : fb_X12_firstBar_2 v1 μ rec v2 = some q) (hq : ok_X12_firstBar_2 K v1 μ q) : ro_X K 2 [(0, .ref (ro_ad (kG K) 207)), (1, .int v1), (2, .int v2)] [] μ := by
  unfold fb_X12_firstBar_2 at hf
  refine ro_iload_n hK 2 rfl dX12_firstBar_2 rfl ?_
  refine ro_aload_n hK 0 rfl dX12_firstBar_3 rfl ?_
  refine ro_geti hK fl_X12_300 sh_207 dX12_firstBar_4 ?_
  refine ro_icmp_ge hK 33 dX12_firstBar_7 (by decide) (fun c1 => ?_) (fun c1 => ?_)
  · have hf := ro_it hf c1
    refine ro_sub (L' := []) [] rfl ?_
    obtain rfl := Option.some.inj hf
    exact hq
  · have hf := ro_ie hf c1
    refine ro_aload_n hK 0 rfl dX12_firstBar_10 rfl ?_
    refine ro_getr hK fl_X12_54 sh_207 dX12_firstBar_11 ?_
    refine ro_iload_n hK 2 rfl dX12_firstBar_14 rfl ?_
    obtain ⟨g2, hf⟩ := ro_gd hf
    refine ro_iald hK sh_222 g2 dX12_firstBar_15 ?_
    refine ro_iload_n hK 1 rfl dX12_firstBar_16 rfl ?_
    refine ro_icmp_ne hK 27 dX12_firstBar_17 (by decide) (fun c3 => ?_) (fun c3 => ?_)
    · have hf := ro_ie hf c3
      refine ro_iinc (v := v2 + 1) (L' := [(2, .int (v2 + 1)), (0, .ref (ro_ad (kG K) 207)), (1, .int v1)]) hK 2 rfl dX12_firstBar_27 rfl (by decide) rfl ?_
      refine ro_goto hK 2 dX12_firstBar_30 (by decide) ?_
      refine ro_sub (L' := [(0, .ref (ro_ad (kG K) 207)), (1, .int v1), (2, .int (v2 + 1))]) [1, 2, 0] rfl ?_
      exact hrec (v2 + 1) _ hf hq
    · have hf := ro_it hf c3
      refine ro_sub (L' := [(0, .ref (ro_ad (kG K) 207)), (2, .int v2)]) [0, 2] rfl ?_
      obtain rfl := Option.some.inj hf
      exact hq
def fl_X12_firstBar_2 (v1 : Int32) (μ : ro_Mem) : Int32 → Option (Int32 ⊕ Unit) :=
  ro_loop (fun rec s => fb_X12_firstBar_2 v1 μ rec s) ro_FU
theorem lp_X12_firstBar_2 {K : ro_K} (hK : ro_C K RX12 cX12_firstBar 3 0) (hR : ro_R K (some .int)) {v1 : Int32}  {μ : ro_Mem} {s : Int32} {q : (Int32 ⊕ Unit)} (hf : fl_X12_firstBar_2 v1 μ s = some q) (hq : ok_X12_firstBar_2 K v1 μ q) : ro_X K 2 [(0, .ref (ro_ad (kG K) 207)), (1, .int v1), (2, .int s)] [] μ :=
  ro_loopX (b := fun rec s => fb_X12_firstBar_2 v1 μ rec s) (X := fun s => ro_X K 2 [(0, .ref (ro_ad (kG K) 207)), (1, .int v1), (2, .int s)] [] μ) (OK := ok_X12_firstBar_2 K v1 μ) (fun rec s q hrec hb ho => bb_X12_firstBar_2 hK hR  hrec hb ho) ro_FU s q hf hq
def fn_X12_firstBar (v1 : Int32) (μ : ro_Mem) : Option Int32 :=
  (fl_X12_firstBar_2 v1 μ 0).bind fun q4 =>
  q4.elim (fun e6 => if ro_in e6 32 then
  (some (μ 221 e6.toNatClampNeg)) else none) (fun e7 => some (-1))
theorem be_X12_firstBar {K : ro_K} (hK : ro_C K RX12 cX12_firstBar 3 0) (hR : ro_R K (some .int)) {v1 : Int32}  {μ : ro_Mem} {out : Int32} (hf : fn_X12_firstBar v1 μ = some out) (hq : kQ K (some (.int out)) μ) : ro_X K 0 [(0, .ref (ro_ad (kG K) 207)), (1, .int v1)] [] μ := by
  unfold fn_X12_firstBar at hf
  refine ro_iconst (v := 0) hK dX12_firstBar_0 (by decide) ?_
  refine ro_istore_n (L' := [(2, .int 0), (0, .ref (ro_ad (kG K) 207)), (1, .int v1)]) hK dX12_firstBar_1 rfl (by decide) rfl ?_
  obtain ⟨q4, e5, hf⟩ := ro_bd hf
  refine ro_sub (L' := [(0, .ref (ro_ad (kG K) 207)), (1, .int v1), (2, .int 0)]) [1, 2, 0] rfl ?_
  refine lp_X12_firstBar_2 hK hR  e5 ?_
  rcases q4 with e6 | e7
  · have hf := ro_el hf
    show ro_X K 20 [(0, .ref (ro_ad (kG K) 207)), (2, .int e6)] [] μ
    refine ro_aload_n hK 0 rfl dX12_firstBar_20 rfl ?_
    refine ro_getr hK fl_X12_51 sh_207 dX12_firstBar_21 ?_
    refine ro_iload_n hK 1 rfl dX12_firstBar_24 rfl ?_
    obtain ⟨g8, hf⟩ := ro_gd hf
    refine ro_iald hK sh_221 g8 dX12_firstBar_25 ?_
    obtain rfl := Option.some.inj hf
    exact ro_iret hK hR dX12_firstBar_26 hq
  · have hf := ro_er hf
    show ro_X K 33 [] [] μ
    refine ro_iconst (v := (-1)) hK dX12_firstBar_33 (by decide) ?_
    obtain rfl := Option.some.inj hf
    exact ro_iret hK hR dX12_firstBar_34 hq
theorem mt_X12_firstBar (l : Launch) (G : ro_G) {v1 : Int32}  {μ : ro_Mem} {out : Int32} (hf : fn_X12_firstBar v1 μ = some out) : ro_MX l G yX12_firstBar cX12_firstBar 3 (some .int) 0 [.ref (ro_ad G 207), .int v1] μ (some (.int out)) μ := by
  refine ro_MX.of (by decide +kernel) (Nat.le_of_ble_eq_true rfl) (fun K hG hl hq hK hR => ?_)
  subst hG
  exact be_X12_firstBar hK hR  hf hq
-- ===== X12_barsIn =====
theorem dX12_barsIn_0 : decode cX12_barsIn 0 = .ok (.iconst (-1), 1) := by decide +kernel
theorem dX12_barsIn_1 : decode cX12_barsIn 1 = .ok (.istore_n 2, 1) := by decide +kernel
theorem dX12_barsIn_2 : decode cX12_barsIn 2 = .ok (.iconst 0, 1) := by decide +kernel
theorem dX12_barsIn_3 : decode cX12_barsIn 3 = .ok (.istore_n 3, 1) := by decide +kernel
theorem dX12_barsIn_4 : decode cX12_barsIn 4 = .ok (.iload_n 3, 1) := by decide +kernel
theorem dX12_barsIn_5 : decode cX12_barsIn 5 = .ok (.aload_n 0, 1) := by decide +kernel
theorem dX12_barsIn_6 : decode cX12_barsIn 6 = .ok (.getfield 300, 3) := by decide +kernel
theorem dX12_barsIn_9 : decode cX12_barsIn 9 = .ok (.if_icmp .ge 26, 3) := by decide +kernel
theorem dX12_barsIn_12 : decode cX12_barsIn 12 = .ok (.aload_n 0, 1) := by decide +kernel
theorem dX12_barsIn_13 : decode cX12_barsIn 13 = .ok (.getfield 54, 3) := by decide +kernel
theorem dX12_barsIn_16 : decode cX12_barsIn 16 = .ok (.iload_n 3, 1) := by decide +kernel
theorem dX12_barsIn_17 : decode cX12_barsIn 17 = .ok (.iaload, 1) := by decide +kernel
theorem dX12_barsIn_18 : decode cX12_barsIn 18 = .ok (.iload_n 1, 1) := by decide +kernel
theorem dX12_barsIn_19 : decode cX12_barsIn 19 = .ok (.if_icmp .ne 10, 3) := by decide +kernel
theorem dX12_barsIn_22 : decode cX12_barsIn 22 = .ok (.aload_n 0, 1) := by decide +kernel
theorem dX12_barsIn_23 : decode cX12_barsIn 23 = .ok (.getfield 51, 3) := by decide +kernel
theorem dX12_barsIn_26 : decode cX12_barsIn 26 = .ok (.iload_n 3, 1) := by decide +kernel
theorem dX12_barsIn_27 : decode cX12_barsIn 27 = .ok (.iaload, 1) := by decide +kernel
theorem dX12_barsIn_28 : decode cX12_barsIn 28 = .ok (.istore_n 2, 1) := by decide +kernel
theorem dX12_barsIn_29 : decode cX12_barsIn 29 = .ok (.iinc 3 1, 3) := by decide +kernel
theorem dX12_barsIn_32 : decode cX12_barsIn 32 = .ok (.goto (-28), 3) := by decide +kernel
theorem dX12_barsIn_35 : decode cX12_barsIn 35 = .ok (.iload_n 2, 1) := by decide +kernel
theorem dX12_barsIn_36 : decode cX12_barsIn 36 = .ok (.aload_n 0, 1) := by decide +kernel
theorem dX12_barsIn_37 : decode cX12_barsIn 37 = .ok (.iload_n 1, 1) := by decide +kernel
theorem dX12_barsIn_38 : decode cX12_barsIn 38 = .ok (.invokevirtual 484, 3) := by decide +kernel
theorem dX12_barsIn_41 : decode cX12_barsIn 41 = .ok (.isub, 1) := by decide +kernel
theorem dX12_barsIn_42 : decode cX12_barsIn 42 = .ok (.iconst 1, 1) := by decide +kernel
theorem dX12_barsIn_43 : decode cX12_barsIn 43 = .ok (.iadd, 1) := by decide +kernel
theorem dX12_barsIn_44 : decode cX12_barsIn 44 = .ok (.ireturn, 1) := by decide +kernel
def ok_X12_barsIn_4 (K : ro_K) (v1 : Int32) (μ : ro_Mem) : Int32 → Prop := fun e => ro_X K 35 [(0, .ref (ro_ad (kG K) 207)), (1, .int v1), (2, .int e)] [] μ
def fb_X12_barsIn_4 (v1 : Int32) (μ : ro_Mem) (rec : (Int32 × Int32) → Option Int32) (v2 : Int32) (v3 : Int32) : Option Int32 :=
  if (μ 207 18) ≤ v3 then
  (some v2)
  else
  (if ro_in v3 32 then
  (if (μ 222 v3.toNatClampNeg) = v1 then
  (ro_lt (μ 221 v3.toNatClampNeg) fun z4 =>
  rec (z4, v3 + 1))
  else
  (rec (v2, v3 + 1))) else none)
theorem bb_X12_barsIn_4 {K : ro_K} (hK : ro_C K RX12 cX12_barsIn 4 1) (hR : ro_R K (some .int)) {v1 : Int32}  {μ : ro_Mem} {rec : (Int32 × Int32) → Option Int32} {v2 : Int32} {v3 : Int32} {q : Int32} (hrec : ∀ (s : Int32 × Int32) (q : Int32), rec s = some q → ok_X12_barsIn_4 K v1 μ q → ro_X K 4 [(0, .ref (ro_ad (kG K) 207)), (1, .int v1), (2, .int s.1), (3, .int s.2)] [] μ) (hf : fb_X12_barsIn_4 v1 μ rec v2 v3 = some q) (hq : ok_X12_barsIn_4 K v1 μ q) : ro_X K 4 [(0, .ref (ro_ad (kG K) 207)), (1, .int v1), (2, .int v2), (3, .int v3)] [] μ := by
  unfold fb_X12_barsIn_4 at hf
  refine ro_iload_n hK 3 rfl dX12_barsIn_4 rfl ?_
  refine ro_aload_n hK 0 rfl dX12_barsIn_5 rfl ?_
  refine ro_geti hK fl_X12_300 sh_207 dX12_barsIn_6 ?_
  refine ro_icmp_ge hK 35 dX12_barsIn_9 (by decide) (fun c1 => ?_) (fun c1 => ?_)
  · have hf := ro_it hf c1
    refine ro_sub (L' := [(0, .ref (ro_ad (kG K) 207)), (1, .int v1), (2, .int v2)]) [0, 1, 2] rfl ?_
    obtain rfl := Option.some.inj hf
    exact hq
  · have hf := ro_ie hf c1
    refine ro_aload_n hK 0 rfl dX12_barsIn_12 rfl ?_
    refine ro_getr hK fl_X12_54 sh_207 dX12_barsIn_13 ?_
    refine ro_iload_n hK 3 rfl dX12_barsIn_16 rfl ?_
    obtain ⟨g2, hf⟩ := ro_gd hf
    refine ro_iald hK sh_222 g2 dX12_barsIn_17 ?_
    refine ro_iload_n hK 1 rfl dX12_barsIn_18 rfl ?_
    refine ro_icmp_ne hK 29 dX12_barsIn_19 (by decide) (fun c3 => ?_) (fun c3 => ?_)
    · have hf := ro_ie hf c3
      refine ro_iinc (v := v3 + 1) (L' := [(3, .int (v3 + 1)), (0, .ref (ro_ad (kG K) 207)), (1, .int v1), (2, .int v2)]) hK 3 rfl dX12_barsIn_29 rfl (by decide) rfl ?_
      refine ro_goto hK 4 dX12_barsIn_32 (by decide) ?_
      refine ro_sub (L' := [(0, .ref (ro_ad (kG K) 207)), (1, .int v1), (2, .int v2), (3, .int (v3 + 1))]) [1, 2, 3, 0] rfl ?_
      exact hrec (v2, v3 + 1) _ hf hq
    · have hf := ro_it hf c3
      refine ro_aload_n hK 0 rfl dX12_barsIn_22 rfl ?_
      refine ro_getr hK fl_X12_51 sh_207 dX12_barsIn_23 ?_
      refine ro_iload_n hK 3 rfl dX12_barsIn_26 rfl ?_
      refine ro_iald hK sh_221 g2 dX12_barsIn_27 ?_
      obtain ⟨z4, e5, hf⟩ := ro_ld hf
      refine ro_iv e5 ?_
      refine ro_istore_n (L' := [(2, .int z4), (0, .ref (ro_ad (kG K) 207)), (1, .int v1), (3, .int v3)]) hK dX12_barsIn_28 rfl (by decide) rfl ?_
      refine ro_iinc (v := v3 + 1) (L' := [(3, .int (v3 + 1)), (2, .int z4), (0, .ref (ro_ad (kG K) 207)), (1, .int v1)]) hK 3 rfl dX12_barsIn_29 rfl (by decide) rfl ?_
      refine ro_goto hK 4 dX12_barsIn_32 (by decide) ?_
      refine ro_sub (L' := [(0, .ref (ro_ad (kG K) 207)), (1, .int v1), (2, .int z4), (3, .int (v3 + 1))]) [2, 3, 1, 0] rfl ?_
      exact hrec (z4, v3 + 1) _ hf hq
def fl_X12_barsIn_4 (v1 : Int32) (μ : ro_Mem) : (Int32 × Int32) → Option Int32 :=
  ro_loop (fun rec s => fb_X12_barsIn_4 v1 μ rec s.1 s.2) ro_FU
theorem lp_X12_barsIn_4 {K : ro_K} (hK : ro_C K RX12 cX12_barsIn 4 1) (hR : ro_R K (some .int)) {v1 : Int32}  {μ : ro_Mem} {s : Int32 × Int32} {q : Int32} (hf : fl_X12_barsIn_4 v1 μ s = some q) (hq : ok_X12_barsIn_4 K v1 μ q) : ro_X K 4 [(0, .ref (ro_ad (kG K) 207)), (1, .int v1), (2, .int s.1), (3, .int s.2)] [] μ :=
  ro_loopX (b := fun rec s => fb_X12_barsIn_4 v1 μ rec s.1 s.2) (X := fun s => ro_X K 4 [(0, .ref (ro_ad (kG K) 207)), (1, .int v1), (2, .int s.1), (3, .int s.2)] [] μ) (OK := ok_X12_barsIn_4 K v1 μ) (fun rec s q hrec hb ho => bb_X12_barsIn_4 hK hR  hrec hb ho) ro_FU s q hf hq
def fn_X12_barsIn (v1 : Int32) (μ : ro_Mem) : Option Int32 :=
  (fl_X12_barsIn_4 v1 μ ((-1), 0)).bind fun q6 =>
  (fn_X12_firstBar v1 μ).bind fun q8 =>
  some ((q6 - q8) + 1)
theorem be_X12_barsIn {K : ro_K} (hK : ro_C K RX12 cX12_barsIn 4 1) (hR : ro_R K (some .int)) {v1 : Int32}  {μ : ro_Mem} {out : Int32} (hf : fn_X12_barsIn v1 μ = some out) (hq : kQ K (some (.int out)) μ) : ro_X K 0 [(0, .ref (ro_ad (kG K) 207)), (1, .int v1)] [] μ := by
  unfold fn_X12_barsIn at hf
  refine ro_iconst (v := (-1)) hK dX12_barsIn_0 (by decide) ?_
  refine ro_istore_n (L' := [(2, .int (-1)), (0, .ref (ro_ad (kG K) 207)), (1, .int v1)]) hK dX12_barsIn_1 rfl (by decide) rfl ?_
  refine ro_iconst (v := 0) hK dX12_barsIn_2 (by decide) ?_
  refine ro_istore_n (L' := [(3, .int 0), (2, .int (-1)), (0, .ref (ro_ad (kG K) 207)), (1, .int v1)]) hK dX12_barsIn_3 rfl (by decide) rfl ?_
  obtain ⟨q6, e7, hf⟩ := ro_bd hf
  refine ro_sub (L' := [(0, .ref (ro_ad (kG K) 207)), (1, .int v1), (2, .int (-1)), (3, .int 0)]) [2, 3, 1, 0] rfl ?_
  refine lp_X12_barsIn_4 hK hR  e7 ?_
  show ro_X K 35 [(0, .ref (ro_ad (kG K) 207)), (1, .int v1), (2, .int q6)] [] μ
  refine ro_iload_n hK 2 rfl dX12_barsIn_35 rfl ?_
  refine ro_aload_n hK 0 rfl dX12_barsIn_36 rfl ?_
  refine ro_iload_n hK 1 rfl dX12_barsIn_37 rfl ?_
  obtain ⟨q8, e9, hf⟩ := ro_bd hf
  refine ro_callvi hK [.int v1] ml_X12_484 mv_X12_firstBar (mt_X12_firstBar (kl K) (kG K)  e9) sh_207 ⟨_, rfl, rfl⟩ (by decide) rfl rfl (Nat.le_of_ble_eq_true rfl) dX12_barsIn_38 ?_
  refine ro_isub hK dX12_barsIn_41 ?_
  refine ro_iconst (v := 1) hK dX12_barsIn_42 (by decide) ?_
  refine ro_iadd hK dX12_barsIn_43 ?_
  obtain rfl := Option.some.inj hf
  exact ro_iret hK hR dX12_barsIn_44 hq
theorem mt_X12_barsIn (l : Launch) (G : ro_G) {v1 : Int32}  {μ : ro_Mem} {out : Int32} (hf : fn_X12_barsIn v1 μ = some out) : ro_MX l G yX12_barsIn cX12_barsIn 4 (some .int) 1 [.ref (ro_ad G 207), .int v1] μ (some (.int out)) μ := by
  refine ro_MX.of (by decide +kernel) (Nat.le_of_ble_eq_true rfl) (fun K hG hl hq hK hR => ?_)
  subst hG
  exact be_X12_barsIn hK hR  hf hq
-- ===== X12_wouldBeSo =====
theorem dX12_wouldBeSo_0 : decode cX12_wouldBeSo 0 = .ok (.iconst 0, 1) := by decide +kernel
theorem dX12_wouldBeSo_1 : decode cX12_wouldBeSo 1 = .ok (.istore 4, 2) := by decide +kernel
theorem dX12_wouldBeSo_3 : decode cX12_wouldBeSo 3 = .ok (.iload 4, 2) := by decide +kernel
theorem dX12_wouldBeSo_5 : decode cX12_wouldBeSo 5 = .ok (.iload_n 3, 1) := by decide +kernel
theorem dX12_wouldBeSo_6 : decode cX12_wouldBeSo 6 = .ok (.if_icmp .ge 84, 3) := by decide +kernel
theorem dX12_wouldBeSo_9 : decode cX12_wouldBeSo 9 = .ok (.iconst 0, 1) := by decide +kernel
theorem dX12_wouldBeSo_10 : decode cX12_wouldBeSo 10 = .ok (.istore 5, 2) := by decide +kernel
theorem dX12_wouldBeSo_12 : decode cX12_wouldBeSo 12 = .ok (.iconst 0, 1) := by decide +kernel
theorem dX12_wouldBeSo_13 : decode cX12_wouldBeSo 13 = .ok (.istore 6, 2) := by decide +kernel
theorem dX12_wouldBeSo_15 : decode cX12_wouldBeSo 15 = .ok (.iload 6, 2) := by decide +kernel
theorem dX12_wouldBeSo_17 : decode cX12_wouldBeSo 17 = .ok (.iload_n 2, 1) := by decide +kernel
theorem dX12_wouldBeSo_18 : decode cX12_wouldBeSo 18 = .ok (.if_icmp .ge 40, 3) := by decide +kernel
theorem dX12_wouldBeSo_21 : decode cX12_wouldBeSo 21 = .ok (.iload 5, 2) := by decide +kernel
theorem dX12_wouldBeSo_23 : decode cX12_wouldBeSo 23 = .ok (.iload_n 1, 1) := by decide +kernel
theorem dX12_wouldBeSo_24 : decode cX12_wouldBeSo 24 = .ok (.iload 6, 2) := by decide +kernel
theorem dX12_wouldBeSo_26 : decode cX12_wouldBeSo 26 = .ok (.invokestatic 226, 3) := by decide +kernel
theorem dX12_wouldBeSo_29 : decode cX12_wouldBeSo 29 = .ok (.ifCond .eq 19, 3) := by decide +kernel
theorem dX12_wouldBeSo_32 : decode cX12_wouldBeSo 32 = .ok (.aload_n 0, 1) := by decide +kernel
theorem dX12_wouldBeSo_33 : decode cX12_wouldBeSo 33 = .ok (.getfield 150, 3) := by decide +kernel
theorem dX12_wouldBeSo_36 : decode cX12_wouldBeSo 36 = .ok (.bipush 12, 2) := by decide +kernel
theorem dX12_wouldBeSo_38 : decode cX12_wouldBeSo 38 = .ok (.iload 4, 2) := by decide +kernel
theorem dX12_wouldBeSo_40 : decode cX12_wouldBeSo 40 = .ok (.imul, 1) := by decide +kernel
theorem dX12_wouldBeSo_41 : decode cX12_wouldBeSo 41 = .ok (.iload 6, 2) := by decide +kernel
theorem dX12_wouldBeSo_43 : decode cX12_wouldBeSo 43 = .ok (.iadd, 1) := by decide +kernel
theorem dX12_wouldBeSo_44 : decode cX12_wouldBeSo 44 = .ok (.iaload, 1) := by decide +kernel
theorem dX12_wouldBeSo_45 : decode cX12_wouldBeSo 45 = .ok (.goto 4, 3) := by decide +kernel
theorem dX12_wouldBeSo_48 : decode cX12_wouldBeSo 48 = .ok (.iconst 0, 1) := by decide +kernel
theorem dX12_wouldBeSo_49 : decode cX12_wouldBeSo 49 = .ok (.iadd, 1) := by decide +kernel
theorem dX12_wouldBeSo_50 : decode cX12_wouldBeSo 50 = .ok (.istore 5, 2) := by decide +kernel
theorem dX12_wouldBeSo_52 : decode cX12_wouldBeSo 52 = .ok (.iinc 6 1, 3) := by decide +kernel
theorem dX12_wouldBeSo_55 : decode cX12_wouldBeSo 55 = .ok (.goto (-40), 3) := by decide +kernel
theorem dX12_wouldBeSo_58 : decode cX12_wouldBeSo 58 = .ok (.iconst 0, 1) := by decide +kernel
theorem dX12_wouldBeSo_59 : decode cX12_wouldBeSo 59 = .ok (.iload 5, 2) := by decide +kernel
theorem dX12_wouldBeSo_61 : decode cX12_wouldBeSo 61 = .ok (.aload_n 0, 1) := by decide +kernel
theorem dX12_wouldBeSo_62 : decode cX12_wouldBeSo 62 = .ok (.getfield 156, 3) := by decide +kernel
theorem dX12_wouldBeSo_65 : decode cX12_wouldBeSo 65 = .ok (.iload 4, 2) := by decide +kernel
theorem dX12_wouldBeSo_67 : decode cX12_wouldBeSo 67 = .ok (.iaload, 1) := by decide +kernel
theorem dX12_wouldBeSo_68 : decode cX12_wouldBeSo 68 = .ok (.isub, 1) := by decide +kernel
theorem dX12_wouldBeSo_69 : decode cX12_wouldBeSo 69 = .ok (.invokestatic 420, 3) := by decide +kernel
theorem dX12_wouldBeSo_72 : decode cX12_wouldBeSo 72 = .ok (.aload_n 0, 1) := by decide +kernel
theorem dX12_wouldBeSo_73 : decode cX12_wouldBeSo 73 = .ok (.getfield 153, 3) := by decide +kernel
theorem dX12_wouldBeSo_76 : decode cX12_wouldBeSo 76 = .ok (.iload 4, 2) := by decide +kernel
theorem dX12_wouldBeSo_78 : decode cX12_wouldBeSo 78 = .ok (.iaload, 1) := by decide +kernel
theorem dX12_wouldBeSo_79 : decode cX12_wouldBeSo 79 = .ok (.if_icmp .eq 5, 3) := by decide +kernel
theorem dX12_wouldBeSo_82 : decode cX12_wouldBeSo 82 = .ok (.iconst 0, 1) := by decide +kernel
theorem dX12_wouldBeSo_83 : decode cX12_wouldBeSo 83 = .ok (.ireturn, 1) := by decide +kernel
theorem dX12_wouldBeSo_84 : decode cX12_wouldBeSo 84 = .ok (.iinc 4 1, 3) := by decide +kernel
theorem dX12_wouldBeSo_87 : decode cX12_wouldBeSo 87 = .ok (.goto (-84), 3) := by decide +kernel
theorem dX12_wouldBeSo_90 : decode cX12_wouldBeSo 90 = .ok (.iconst 1, 1) := by decide +kernel
theorem dX12_wouldBeSo_91 : decode cX12_wouldBeSo 91 = .ok (.ireturn, 1) := by decide +kernel
def ok_X12_wouldBeSo_3 (K : ro_K) (v1 : Int32) (v2 : Int32) (v3 : Int32) (μ : ro_Mem) : (Unit ⊕ Unit) → Prop := Sum.elim (fun e => ro_X K 82 [] [] μ) (fun e => ro_X K 90 [] [] μ)
def ok_X12_wouldBeSo_15 (K : ro_K) (v1 : Int32) (v2 : Int32) (v3 : Int32) (v4 : Int32) (μ : ro_Mem) : Int32 → Prop := fun e => ro_X K 58 [(0, .ref (ro_ad (kG K) 207)), (1, .int v1), (2, .int v2), (3, .int v3), (4, .int v4), (5, .int e)] [] μ
def fb_X12_wouldBeSo_15 (v1 : Int32) (v2 : Int32) (v3 : Int32) (v4 : Int32) (μ : ro_Mem) (rec : (Int32 × Int32) → Option Int32) (v5 : Int32) (v6 : Int32) : Option Int32 :=
  if v2 ≤ v6 then
  (some v5)
  else
  ((fn_X12_has v1 v6).bind fun q3 =>
  if q3 = 0 then
  (ro_lt (v5 + 0) fun z6 =>
  rec (z6, v6 + 1))
  else
  (if ro_in ((12 * v4) + v6) 240 then
  (ro_lt (v5 + (μ 254 ((12 * v4) + v6).toNatClampNeg)) fun z9 =>
  rec (z9, v6 + 1)) else none))
theorem bb_X12_wouldBeSo_15 {K : ro_K} (hK : ro_C K RX12 cX12_wouldBeSo 7 1) (hR : ro_R K (some .boolean)) {v1 : Int32} {v2 : Int32} {v3 : Int32} {v4 : Int32}  {μ : ro_Mem} {rec : (Int32 × Int32) → Option Int32} {v5 : Int32} {v6 : Int32} {q : Int32} (hrec : ∀ (s : Int32 × Int32) (q : Int32), rec s = some q → ok_X12_wouldBeSo_15 K v1 v2 v3 v4 μ q → ro_X K 15 [(0, .ref (ro_ad (kG K) 207)), (1, .int v1), (2, .int v2), (3, .int v3), (4, .int v4), (5, .int s.1), (6, .int s.2)] [] μ) (hf : fb_X12_wouldBeSo_15 v1 v2 v3 v4 μ rec v5 v6 = some q) (hq : ok_X12_wouldBeSo_15 K v1 v2 v3 v4 μ q) : ro_X K 15 [(0, .ref (ro_ad (kG K) 207)), (1, .int v1), (2, .int v2), (3, .int v3), (4, .int v4), (5, .int v5), (6, .int v6)] [] μ := by
  unfold fb_X12_wouldBeSo_15 at hf
  refine ro_iload hK 6 rfl dX12_wouldBeSo_15 ?_
  refine ro_iload_n hK 2 rfl dX12_wouldBeSo_17 rfl ?_
  refine ro_icmp_ge hK 58 dX12_wouldBeSo_18 (by decide) (fun c2 => ?_) (fun c2 => ?_)
  · have hf := ro_it hf c2
    refine ro_sub (L' := [(0, .ref (ro_ad (kG K) 207)), (1, .int v1), (2, .int v2), (3, .int v3), (4, .int v4), (5, .int v5)]) [0, 1, 2, 3, 4, 5] rfl ?_
    obtain rfl := Option.some.inj hf
    exact hq
  · have hf := ro_ie hf c2
    refine ro_iload hK 5 rfl dX12_wouldBeSo_21 ?_
    refine ro_iload_n hK 1 rfl dX12_wouldBeSo_23 rfl ?_
    refine ro_iload hK 6 rfl dX12_wouldBeSo_24 ?_
    obtain ⟨q3, e4, hf⟩ := ro_bd hf
    refine ro_callsi hK [.int v1, .int v6] ml_X12_226 ms_X12_has (mt_X12_has (kl K) (kG K)  e4) (by decide) rfl rfl (Nat.le_of_ble_eq_true rfl) dX12_wouldBeSo_26 ?_
    refine ro_if_eq hK 48 dX12_wouldBeSo_29 (by decide) (fun c5 => ?_) (fun c5 => ?_)
    · have hf := ro_it hf c5
      refine ro_iconst (v := 0) hK dX12_wouldBeSo_48 (by decide) ?_
      refine ro_iadd hK dX12_wouldBeSo_49 ?_
      obtain ⟨z6, e7, hf⟩ := ro_ld hf
      refine ro_iv e7 ?_
      refine ro_istore (L' := [(5, .int z6), (0, .ref (ro_ad (kG K) 207)), (1, .int v1), (2, .int v2), (3, .int v3), (4, .int v4), (6, .int v6)]) hK dX12_wouldBeSo_50 (by decide) rfl ?_
      refine ro_iinc (v := v6 + 1) (L' := [(6, .int (v6 + 1)), (5, .int z6), (0, .ref (ro_ad (kG K) 207)), (1, .int v1), (2, .int v2), (3, .int v3), (4, .int v4)]) hK 6 rfl dX12_wouldBeSo_52 rfl (by decide) rfl ?_
      refine ro_goto hK 15 dX12_wouldBeSo_55 (by decide) ?_
      refine ro_sub (L' := [(0, .ref (ro_ad (kG K) 207)), (1, .int v1), (2, .int v2), (3, .int v3), (4, .int v4), (5, .int z6), (6, .int (v6 + 1))]) [2, 3, 4, 5, 6, 1, 0] rfl ?_
      exact hrec (z6, v6 + 1) _ hf hq
    · have hf := ro_ie hf c5
      refine ro_aload_n hK 0 rfl dX12_wouldBeSo_32 rfl ?_
      refine ro_getr hK fl_X12_150 sh_207 dX12_wouldBeSo_33 ?_
      refine ro_bipush (v := 12) hK dX12_wouldBeSo_36 (by decide) ?_
      refine ro_iload hK 4 rfl dX12_wouldBeSo_38 ?_
      refine ro_imul hK dX12_wouldBeSo_40 ?_
      refine ro_iload hK 6 rfl dX12_wouldBeSo_41 ?_
      refine ro_iadd hK dX12_wouldBeSo_43 ?_
      obtain ⟨g8, hf⟩ := ro_gd hf
      refine ro_iald hK sh_254 g8 dX12_wouldBeSo_44 ?_
      refine ro_goto hK 49 dX12_wouldBeSo_45 (by decide) ?_
      refine ro_iadd hK dX12_wouldBeSo_49 ?_
      obtain ⟨z9, e10, hf⟩ := ro_ld hf
      refine ro_iv e10 ?_
      refine ro_istore (L' := [(5, .int z9), (0, .ref (ro_ad (kG K) 207)), (1, .int v1), (2, .int v2), (3, .int v3), (4, .int v4), (6, .int v6)]) hK dX12_wouldBeSo_50 (by decide) rfl ?_
      refine ro_iinc (v := v6 + 1) (L' := [(6, .int (v6 + 1)), (5, .int z9), (0, .ref (ro_ad (kG K) 207)), (1, .int v1), (2, .int v2), (3, .int v3), (4, .int v4)]) hK 6 rfl dX12_wouldBeSo_52 rfl (by decide) rfl ?_
      refine ro_goto hK 15 dX12_wouldBeSo_55 (by decide) ?_
      refine ro_sub (L' := [(0, .ref (ro_ad (kG K) 207)), (1, .int v1), (2, .int v2), (3, .int v3), (4, .int v4), (5, .int z9), (6, .int (v6 + 1))]) [2, 3, 4, 5, 6, 1, 0] rfl ?_
      exact hrec (z9, v6 + 1) _ hf hq
def fl_X12_wouldBeSo_15 (v1 : Int32) (v2 : Int32) (v3 : Int32) (v4 : Int32) (μ : ro_Mem) : (Int32 × Int32) → Option Int32 :=
  ro_loop (fun rec s => fb_X12_wouldBeSo_15 v1 v2 v3 v4 μ rec s.1 s.2) ro_FU
theorem lp_X12_wouldBeSo_15 {K : ro_K} (hK : ro_C K RX12 cX12_wouldBeSo 7 1) (hR : ro_R K (some .boolean)) {v1 : Int32} {v2 : Int32} {v3 : Int32} {v4 : Int32}  {μ : ro_Mem} {s : Int32 × Int32} {q : Int32} (hf : fl_X12_wouldBeSo_15 v1 v2 v3 v4 μ s = some q) (hq : ok_X12_wouldBeSo_15 K v1 v2 v3 v4 μ q) : ro_X K 15 [(0, .ref (ro_ad (kG K) 207)), (1, .int v1), (2, .int v2), (3, .int v3), (4, .int v4), (5, .int s.1), (6, .int s.2)] [] μ :=
  ro_loopX (b := fun rec s => fb_X12_wouldBeSo_15 v1 v2 v3 v4 μ rec s.1 s.2) (X := fun s => ro_X K 15 [(0, .ref (ro_ad (kG K) 207)), (1, .int v1), (2, .int v2), (3, .int v3), (4, .int v4), (5, .int s.1), (6, .int s.2)] [] μ) (OK := ok_X12_wouldBeSo_15 K v1 v2 v3 v4 μ) (fun rec s q hrec hb ho => bb_X12_wouldBeSo_15 hK hR  hrec hb ho) ro_FU s q hf hq
def fb_X12_wouldBeSo_3 (v1 : Int32) (v2 : Int32) (v3 : Int32) (μ : ro_Mem) (rec : Int32 → Option (Unit ⊕ Unit)) (v4 : Int32) : Option (Unit ⊕ Unit) :=
  if v3 ≤ v4 then
  (some (.inr ()))
  else
  ((fl_X12_wouldBeSo_15 v1 v2 v3 v4 μ (0, 0)).bind fun q11 =>
  if ro_in v4 20 then
  ((fn_X12_max 0 (q11 - (μ 256 v4.toNatClampNeg))).bind fun q14 =>
  if q14 = (μ 255 v4.toNatClampNeg) then
  (rec (v4 + 1))
  else
  (some (.inl ()))) else none)
theorem bb_X12_wouldBeSo_3 {K : ro_K} (hK : ro_C K RX12 cX12_wouldBeSo 7 1) (hR : ro_R K (some .boolean)) {v1 : Int32} {v2 : Int32} {v3 : Int32}  {μ : ro_Mem} {rec : Int32 → Option (Unit ⊕ Unit)} {v4 : Int32} {q : (Unit ⊕ Unit)} (hrec : ∀ (s : Int32) (q : (Unit ⊕ Unit)), rec s = some q → ok_X12_wouldBeSo_3 K v1 v2 v3 μ q → ro_X K 3 [(0, .ref (ro_ad (kG K) 207)), (1, .int v1), (2, .int v2), (3, .int v3), (4, .int s)] [] μ) (hf : fb_X12_wouldBeSo_3 v1 v2 v3 μ rec v4 = some q) (hq : ok_X12_wouldBeSo_3 K v1 v2 v3 μ q) : ro_X K 3 [(0, .ref (ro_ad (kG K) 207)), (1, .int v1), (2, .int v2), (3, .int v3), (4, .int v4)] [] μ := by
  unfold fb_X12_wouldBeSo_3 at hf
  refine ro_iload hK 4 rfl dX12_wouldBeSo_3 ?_
  refine ro_iload_n hK 3 rfl dX12_wouldBeSo_5 rfl ?_
  refine ro_icmp_ge hK 90 dX12_wouldBeSo_6 (by decide) (fun c1 => ?_) (fun c1 => ?_)
  · have hf := ro_it hf c1
    refine ro_sub (L' := []) [] rfl ?_
    obtain rfl := Option.some.inj hf
    exact hq
  · have hf := ro_ie hf c1
    refine ro_iconst (v := 0) hK dX12_wouldBeSo_9 (by decide) ?_
    refine ro_istore (L' := [(5, .int 0), (0, .ref (ro_ad (kG K) 207)), (1, .int v1), (2, .int v2), (3, .int v3), (4, .int v4)]) hK dX12_wouldBeSo_10 (by decide) rfl ?_
    refine ro_iconst (v := 0) hK dX12_wouldBeSo_12 (by decide) ?_
    refine ro_istore (L' := [(6, .int 0), (5, .int 0), (0, .ref (ro_ad (kG K) 207)), (1, .int v1), (2, .int v2), (3, .int v3), (4, .int v4)]) hK dX12_wouldBeSo_13 (by decide) rfl ?_
    obtain ⟨q11, e12, hf⟩ := ro_bd hf
    refine ro_sub (L' := [(0, .ref (ro_ad (kG K) 207)), (1, .int v1), (2, .int v2), (3, .int v3), (4, .int v4), (5, .int 0), (6, .int 0)]) [2, 3, 4, 5, 6, 1, 0] rfl ?_
    refine lp_X12_wouldBeSo_15 hK hR  e12 ?_
    show ro_X K 58 [(0, .ref (ro_ad (kG K) 207)), (1, .int v1), (2, .int v2), (3, .int v3), (4, .int v4), (5, .int q11)] [] μ
    refine ro_iconst (v := 0) hK dX12_wouldBeSo_58 (by decide) ?_
    refine ro_iload hK 5 rfl dX12_wouldBeSo_59 ?_
    refine ro_aload_n hK 0 rfl dX12_wouldBeSo_61 rfl ?_
    refine ro_getr hK fl_X12_156 sh_207 dX12_wouldBeSo_62 ?_
    refine ro_iload hK 4 rfl dX12_wouldBeSo_65 ?_
    obtain ⟨g13, hf⟩ := ro_gd hf
    refine ro_iald hK sh_256 g13 dX12_wouldBeSo_67 ?_
    refine ro_isub hK dX12_wouldBeSo_68 ?_
    obtain ⟨q14, e15, hf⟩ := ro_bd hf
    refine ro_callsi hK [.int 0, .int (q11 - (μ 256 v4.toNatClampNeg))] ml_X12_420 ms_X12_max (mt_X12_max (kl K) (kG K)  e15) (by decide) rfl rfl (Nat.le_of_ble_eq_true rfl) dX12_wouldBeSo_69 ?_
    refine ro_aload_n hK 0 rfl dX12_wouldBeSo_72 rfl ?_
    refine ro_getr hK fl_X12_153 sh_207 dX12_wouldBeSo_73 ?_
    refine ro_iload hK 4 rfl dX12_wouldBeSo_76 ?_
    refine ro_iald hK sh_255 g13 dX12_wouldBeSo_78 ?_
    refine ro_icmp_eq hK 84 dX12_wouldBeSo_79 (by decide) (fun c16 => ?_) (fun c16 => ?_)
    · have hf := ro_it hf c16
      refine ro_iinc (v := v4 + 1) (L' := [(4, .int (v4 + 1)), (0, .ref (ro_ad (kG K) 207)), (1, .int v1), (2, .int v2), (3, .int v3), (5, .int q11)]) hK 4 rfl dX12_wouldBeSo_84 rfl (by decide) rfl ?_
      refine ro_goto hK 3 dX12_wouldBeSo_87 (by decide) ?_
      refine ro_sub (L' := [(0, .ref (ro_ad (kG K) 207)), (1, .int v1), (2, .int v2), (3, .int v3), (4, .int (v4 + 1))]) [1, 2, 3, 4, 0] rfl ?_
      exact hrec (v4 + 1) _ hf hq
    · have hf := ro_ie hf c16
      refine ro_sub (L' := []) [] rfl ?_
      obtain rfl := Option.some.inj hf
      exact hq
def fl_X12_wouldBeSo_3 (v1 : Int32) (v2 : Int32) (v3 : Int32) (μ : ro_Mem) : Int32 → Option (Unit ⊕ Unit) :=
  ro_loop (fun rec s => fb_X12_wouldBeSo_3 v1 v2 v3 μ rec s) ro_FU
theorem lp_X12_wouldBeSo_3 {K : ro_K} (hK : ro_C K RX12 cX12_wouldBeSo 7 1) (hR : ro_R K (some .boolean)) {v1 : Int32} {v2 : Int32} {v3 : Int32}  {μ : ro_Mem} {s : Int32} {q : (Unit ⊕ Unit)} (hf : fl_X12_wouldBeSo_3 v1 v2 v3 μ s = some q) (hq : ok_X12_wouldBeSo_3 K v1 v2 v3 μ q) : ro_X K 3 [(0, .ref (ro_ad (kG K) 207)), (1, .int v1), (2, .int v2), (3, .int v3), (4, .int s)] [] μ :=
  ro_loopX (b := fun rec s => fb_X12_wouldBeSo_3 v1 v2 v3 μ rec s) (X := fun s => ro_X K 3 [(0, .ref (ro_ad (kG K) 207)), (1, .int v1), (2, .int v2), (3, .int v3), (4, .int s)] [] μ) (OK := ok_X12_wouldBeSo_3 K v1 v2 v3 μ) (fun rec s q hrec hb ho => bb_X12_wouldBeSo_3 hK hR  hrec hb ho) ro_FU s q hf hq
def fn_X12_wouldBeSo (v1 : Int32) (v2 : Int32) (v3 : Int32) (μ : ro_Mem) : Option Int32 :=
  (fl_X12_wouldBeSo_3 v1 v2 v3 μ 0).bind fun q17 =>
  q17.elim (fun e19 => some 0) (fun e20 => some 1)
theorem be_X12_wouldBeSo {K : ro_K} (hK : ro_C K RX12 cX12_wouldBeSo 7 1) (hR : ro_R K (some .boolean)) {v1 : Int32} {v2 : Int32} {v3 : Int32}  {μ : ro_Mem} {out : Int32} (hf : fn_X12_wouldBeSo v1 v2 v3 μ = some out) (hq : kQ K (some (.int out)) μ) : ro_X K 0 [(0, .ref (ro_ad (kG K) 207)), (1, .int v1), (2, .int v2), (3, .int v3)] [] μ := by
  unfold fn_X12_wouldBeSo at hf
  refine ro_iconst (v := 0) hK dX12_wouldBeSo_0 (by decide) ?_
  refine ro_istore (L' := [(4, .int 0), (0, .ref (ro_ad (kG K) 207)), (1, .int v1), (2, .int v2), (3, .int v3)]) hK dX12_wouldBeSo_1 (by decide) rfl ?_
  obtain ⟨q17, e18, hf⟩ := ro_bd hf
  refine ro_sub (L' := [(0, .ref (ro_ad (kG K) 207)), (1, .int v1), (2, .int v2), (3, .int v3), (4, .int 0)]) [1, 2, 3, 4, 0] rfl ?_
  refine lp_X12_wouldBeSo_3 hK hR  e18 ?_
  rcases q17 with e19 | e20
  · have hf := ro_el hf
    show ro_X K 82 [] [] μ
    refine ro_iconst (v := 0) hK dX12_wouldBeSo_82 (by decide) ?_
    obtain rfl := Option.some.inj hf
    exact ro_zret hK hR dX12_wouldBeSo_83 (by decide) hq
  · have hf := ro_er hf
    show ro_X K 90 [] [] μ
    refine ro_iconst (v := 1) hK dX12_wouldBeSo_90 (by decide) ?_
    obtain rfl := Option.some.inj hf
    exact ro_zret hK hR dX12_wouldBeSo_91 (by decide) hq
theorem mt_X12_wouldBeSo (l : Launch) (G : ro_G) {v1 : Int32} {v2 : Int32} {v3 : Int32}  {μ : ro_Mem} {out : Int32} (hf : fn_X12_wouldBeSo v1 v2 v3 μ = some out) : ro_MX l G yX12_wouldBeSo cX12_wouldBeSo 7 (some .boolean) 1 [.ref (ro_ad G 207), .int v1, .int v2, .int v3] μ (some (.int out)) μ := by
  refine ro_MX.of (by decide +kernel) (Nat.le_of_ble_eq_true rfl) (fun K hG hl hq hK hR => ?_)
  subst hG
  exact be_X12_wouldBeSo hK hR  hf hq
