-- ===== X9_dropsThrough =====
theorem dX9_dropsThrough_0 : decode cX9_dropsThrough 0 = .ok (.aload_n 0, 1) := by decide +kernel
theorem dX9_dropsThrough_1 : decode cX9_dropsThrough 1 = .ok (.getfield 21, 3) := by decide +kernel
theorem dX9_dropsThrough_4 : decode cX9_dropsThrough 4 = .ok (.getfield 36, 3) := by decide +kernel
theorem dX9_dropsThrough_7 : decode cX9_dropsThrough 7 = .ok (.iload_n 1, 1) := by decide +kernel
theorem dX9_dropsThrough_8 : decode cX9_dropsThrough 8 = .ok (.iaload, 1) := by decide +kernel
theorem dX9_dropsThrough_9 : decode cX9_dropsThrough 9 = .ok (.iload_n 3, 1) := by decide +kernel
theorem dX9_dropsThrough_10 : decode cX9_dropsThrough 10 = .ok (.iadd, 1) := by decide +kernel
theorem dX9_dropsThrough_11 : decode cX9_dropsThrough 11 = .ok (.istore 4, 2) := by decide +kernel
theorem dX9_dropsThrough_13 : decode cX9_dropsThrough 13 = .ok (.aload_n 0, 1) := by decide +kernel
theorem dX9_dropsThrough_14 : decode cX9_dropsThrough 14 = .ok (.getfield 12, 3) := by decide +kernel
theorem dX9_dropsThrough_17 : decode cX9_dropsThrough 17 = .ok (.iload_n 2, 1) := by decide +kernel
theorem dX9_dropsThrough_18 : decode cX9_dropsThrough 18 = .ok (.invokevirtual 39, 3) := by decide +kernel
theorem dX9_dropsThrough_21 : decode cX9_dropsThrough 21 = .ok (.ifCond .eq 42, 3) := by decide +kernel
theorem dX9_dropsThrough_24 : decode cX9_dropsThrough 24 = .ok (.aload_n 0, 1) := by decide +kernel
theorem dX9_dropsThrough_25 : decode cX9_dropsThrough 25 = .ok (.getfield 12, 3) := by decide +kernel
theorem dX9_dropsThrough_28 : decode cX9_dropsThrough 28 = .ok (.iload_n 2, 1) := by decide +kernel
theorem dX9_dropsThrough_29 : decode cX9_dropsThrough 29 = .ok (.invokevirtual 43, 3) := by decide +kernel
theorem dX9_dropsThrough_32 : decode cX9_dropsThrough 32 = .ok (.ifCond .ne 31, 3) := by decide +kernel
theorem dX9_dropsThrough_35 : decode cX9_dropsThrough 35 = .ok (.iload 4, 2) := by decide +kernel
theorem dX9_dropsThrough_37 : decode cX9_dropsThrough 37 = .ok (.aload_n 0, 1) := by decide +kernel
theorem dX9_dropsThrough_38 : decode cX9_dropsThrough 38 = .ok (.getfield 12, 3) := by decide +kernel
theorem dX9_dropsThrough_41 : decode cX9_dropsThrough 41 = .ok (.getfield 46, 3) := by decide +kernel
theorem dX9_dropsThrough_44 : decode cX9_dropsThrough 44 = .ok (.iload_n 2, 1) := by decide +kernel
theorem dX9_dropsThrough_45 : decode cX9_dropsThrough 45 = .ok (.iaload, 1) := by decide +kernel
theorem dX9_dropsThrough_46 : decode cX9_dropsThrough 46 = .ok (.if_icmp .lt 17, 3) := by decide +kernel
theorem dX9_dropsThrough_49 : decode cX9_dropsThrough 49 = .ok (.iload 4, 2) := by decide +kernel
theorem dX9_dropsThrough_51 : decode cX9_dropsThrough 51 = .ok (.aload_n 0, 1) := by decide +kernel
theorem dX9_dropsThrough_52 : decode cX9_dropsThrough 52 = .ok (.getfield 12, 3) := by decide +kernel
theorem dX9_dropsThrough_55 : decode cX9_dropsThrough 55 = .ok (.getfield 49, 3) := by decide +kernel
theorem dX9_dropsThrough_58 : decode cX9_dropsThrough 58 = .ok (.iload_n 2, 1) := by decide +kernel
theorem dX9_dropsThrough_59 : decode cX9_dropsThrough 59 = .ok (.iaload, 1) := by decide +kernel
theorem dX9_dropsThrough_60 : decode cX9_dropsThrough 60 = .ok (.if_icmp .le 5, 3) := by decide +kernel
theorem dX9_dropsThrough_63 : decode cX9_dropsThrough 63 = .ok (.iconst 0, 1) := by decide +kernel
theorem dX9_dropsThrough_64 : decode cX9_dropsThrough 64 = .ok (.ireturn, 1) := by decide +kernel
theorem dX9_dropsThrough_65 : decode cX9_dropsThrough 65 = .ok (.aload_n 0, 1) := by decide +kernel
theorem dX9_dropsThrough_66 : decode cX9_dropsThrough 66 = .ok (.getfield 28, 3) := by decide +kernel
theorem dX9_dropsThrough_69 : decode cX9_dropsThrough 69 = .ok (.getfield 52, 3) := by decide +kernel
theorem dX9_dropsThrough_72 : decode cX9_dropsThrough 72 = .ok (.astore 5, 2) := by decide +kernel
theorem dX9_dropsThrough_74 : decode cX9_dropsThrough 74 = .ok (.aload 5, 2) := by decide +kernel
theorem dX9_dropsThrough_76 : decode cX9_dropsThrough 76 = .ok (.iconst 0, 1) := by decide +kernel
theorem dX9_dropsThrough_77 : decode cX9_dropsThrough 77 = .ok (.aload_n 0, 1) := by decide +kernel
theorem dX9_dropsThrough_78 : decode cX9_dropsThrough 78 = .ok (.getfield 21, 3) := by decide +kernel
theorem dX9_dropsThrough_81 : decode cX9_dropsThrough 81 = .ok (.getfield 55, 3) := by decide +kernel
theorem dX9_dropsThrough_84 : decode cX9_dropsThrough 84 = .ok (.iload_n 1, 1) := by decide +kernel
theorem dX9_dropsThrough_85 : decode cX9_dropsThrough 85 = .ok (.iaload, 1) := by decide +kernel
theorem dX9_dropsThrough_86 : decode cX9_dropsThrough 86 = .ok (.iastore, 1) := by decide +kernel
theorem dX9_dropsThrough_87 : decode cX9_dropsThrough 87 = .ok (.aload 5, 2) := by decide +kernel
theorem dX9_dropsThrough_89 : decode cX9_dropsThrough 89 = .ok (.iconst 1, 1) := by decide +kernel
theorem dX9_dropsThrough_90 : decode cX9_dropsThrough 90 = .ok (.iload 4, 2) := by decide +kernel
theorem dX9_dropsThrough_92 : decode cX9_dropsThrough 92 = .ok (.iastore, 1) := by decide +kernel
theorem dX9_dropsThrough_93 : decode cX9_dropsThrough 93 = .ok (.aload 5, 2) := by decide +kernel
theorem dX9_dropsThrough_95 : decode cX9_dropsThrough 95 = .ok (.iconst 2, 1) := by decide +kernel
theorem dX9_dropsThrough_96 : decode cX9_dropsThrough 96 = .ok (.aload_n 0, 1) := by decide +kernel
theorem dX9_dropsThrough_97 : decode cX9_dropsThrough 97 = .ok (.getfield 21, 3) := by decide +kernel
theorem dX9_dropsThrough_100 : decode cX9_dropsThrough 100 = .ok (.getfield 58, 3) := by decide +kernel
theorem dX9_dropsThrough_103 : decode cX9_dropsThrough 103 = .ok (.iload_n 1, 1) := by decide +kernel
theorem dX9_dropsThrough_104 : decode cX9_dropsThrough 104 = .ok (.iaload, 1) := by decide +kernel
theorem dX9_dropsThrough_105 : decode cX9_dropsThrough 105 = .ok (.iastore, 1) := by decide +kernel
theorem dX9_dropsThrough_106 : decode cX9_dropsThrough 106 = .ok (.aload 5, 2) := by decide +kernel
theorem dX9_dropsThrough_108 : decode cX9_dropsThrough 108 = .ok (.iconst 3, 1) := by decide +kernel
theorem dX9_dropsThrough_109 : decode cX9_dropsThrough 109 = .ok (.iload_n 1, 1) := by decide +kernel
theorem dX9_dropsThrough_110 : decode cX9_dropsThrough 110 = .ok (.iastore, 1) := by decide +kernel
theorem dX9_dropsThrough_111 : decode cX9_dropsThrough 111 = .ok (.aload 5, 2) := by decide +kernel
theorem dX9_dropsThrough_113 : decode cX9_dropsThrough 113 = .ok (.iconst 4, 1) := by decide +kernel
theorem dX9_dropsThrough_114 : decode cX9_dropsThrough 114 = .ok (.aload_n 0, 1) := by decide +kernel
theorem dX9_dropsThrough_115 : decode cX9_dropsThrough 115 = .ok (.getfield 21, 3) := by decide +kernel
theorem dX9_dropsThrough_118 : decode cX9_dropsThrough 118 = .ok (.getfield 61, 3) := by decide +kernel
theorem dX9_dropsThrough_121 : decode cX9_dropsThrough 121 = .ok (.iload_n 1, 1) := by decide +kernel
theorem dX9_dropsThrough_122 : decode cX9_dropsThrough 122 = .ok (.iaload, 1) := by decide +kernel
theorem dX9_dropsThrough_123 : decode cX9_dropsThrough 123 = .ok (.iastore, 1) := by decide +kernel
theorem dX9_dropsThrough_124 : decode cX9_dropsThrough 124 = .ok (.aload 5, 2) := by decide +kernel
theorem dX9_dropsThrough_126 : decode cX9_dropsThrough 126 = .ok (.iconst 5, 1) := by decide +kernel
theorem dX9_dropsThrough_127 : decode cX9_dropsThrough 127 = .ok (.iload_n 2, 1) := by decide +kernel
theorem dX9_dropsThrough_128 : decode cX9_dropsThrough 128 = .ok (.iastore, 1) := by decide +kernel
theorem dX9_dropsThrough_129 : decode cX9_dropsThrough 129 = .ok (.aload 5, 2) := by decide +kernel
theorem dX9_dropsThrough_131 : decode cX9_dropsThrough 131 = .ok (.bipush 11, 2) := by decide +kernel
theorem dX9_dropsThrough_133 : decode cX9_dropsThrough 133 = .ok (.iconst 0, 1) := by decide +kernel
theorem dX9_dropsThrough_134 : decode cX9_dropsThrough 134 = .ok (.iastore, 1) := by decide +kernel
theorem dX9_dropsThrough_135 : decode cX9_dropsThrough 135 = .ok (.aload_n 0, 1) := by decide +kernel
theorem dX9_dropsThrough_136 : decode cX9_dropsThrough 136 = .ok (.aload_n 0, 1) := by decide +kernel
theorem dX9_dropsThrough_137 : decode cX9_dropsThrough 137 = .ok (.getfield 21, 3) := by decide +kernel
theorem dX9_dropsThrough_140 : decode cX9_dropsThrough 140 = .ok (.getfield 64, 3) := by decide +kernel
theorem dX9_dropsThrough_143 : decode cX9_dropsThrough 143 = .ok (.iload_n 1, 1) := by decide +kernel
theorem dX9_dropsThrough_144 : decode cX9_dropsThrough 144 = .ok (.iaload, 1) := by decide +kernel
theorem dX9_dropsThrough_145 : decode cX9_dropsThrough 145 = .ok (.invokevirtual 67, 3) := by decide +kernel
theorem dX9_dropsThrough_148 : decode cX9_dropsThrough 148 = .ok (.aload_n 0, 1) := by decide +kernel
theorem dX9_dropsThrough_149 : decode cX9_dropsThrough 149 = .ok (.aload_n 0, 1) := by decide +kernel
theorem dX9_dropsThrough_150 : decode cX9_dropsThrough 150 = .ok (.getfield 12, 3) := by decide +kernel
theorem dX9_dropsThrough_153 : decode cX9_dropsThrough 153 = .ok (.getfield 71, 3) := by decide +kernel
theorem dX9_dropsThrough_156 : decode cX9_dropsThrough 156 = .ok (.iload_n 2, 1) := by decide +kernel
theorem dX9_dropsThrough_157 : decode cX9_dropsThrough 157 = .ok (.iaload, 1) := by decide +kernel
theorem dX9_dropsThrough_158 : decode cX9_dropsThrough 158 = .ok (.invokevirtual 74, 3) := by decide +kernel
theorem dX9_dropsThrough_161 : decode cX9_dropsThrough 161 = .ok (.aload_n 0, 1) := by decide +kernel
theorem dX9_dropsThrough_162 : decode cX9_dropsThrough 162 = .ok (.getfield 28, 3) := by decide +kernel
theorem dX9_dropsThrough_165 : decode cX9_dropsThrough 165 = .ok (.iconst 0, 1) := by decide +kernel
theorem dX9_dropsThrough_166 : decode cX9_dropsThrough 166 = .ok (.bipush 99, 2) := by decide +kernel
theorem dX9_dropsThrough_168 : decode cX9_dropsThrough 168 = .ok (.invokevirtual 77, 3) := by decide +kernel
theorem dX9_dropsThrough_171 : decode cX9_dropsThrough 171 = .ok (.ireturn, 1) := by decide +kernel
def fn_X9_dropsThrough (v1 : Int32) (v2 : Int32) (v3 : Int32) (μ : ro_Mem) : Option (Int32 × ro_Mem) :=
  if ro_sh (ro_rf μ 1 1) = (0, 5) then
  (if ro_in v1 32 then
  (ro_lt ((μ ((ro_rf μ 1 1) + 2) v1.toNatClampNeg) + v3) fun z3 =>
  (fn_X1_isSlate 2 v2 μ).bind fun q5 =>
  if q5 = 0 then
  (some (0, μ))
  else
  ((fn_X1_isNailed 2 v2 μ).bind fun q8 =>
  if q8 = 0 then
  (if ro_in v2 16 then
  (if z3 < (μ 7 v2.toNatClampNeg) then
  (some (0, μ))
  else
  (if z3 ≤ (μ 8 v2.toNatClampNeg) then
  (if ro_sh (ro_rf μ 1 2) = (0, 2) then
  (ro_lt (ro_set μ ((ro_rf μ 1 2) + 7) (0 : Int32).toNatClampNeg (μ ((ro_rf μ 1 1) + 1) v1.toNatClampNeg)) fun m15 =>
  ro_lt (ro_set m15 ((ro_rf μ 1 2) + 7) (1 : Int32).toNatClampNeg z3) fun m17 =>
  if ro_sh (ro_rf m17 1 1) = (0, 5) then
  (ro_lt (ro_set m17 ((ro_rf μ 1 2) + 7) (2 : Int32).toNatClampNeg (m17 ((ro_rf m17 1 1) + 3) v1.toNatClampNeg)) fun m20 =>
  ro_lt (ro_set m20 ((ro_rf μ 1 2) + 7) (3 : Int32).toNatClampNeg v1) fun m22 =>
  if ro_sh (ro_rf m22 1 1) = (0, 5) then
  (ro_lt (ro_set m22 ((ro_rf μ 1 2) + 7) (4 : Int32).toNatClampNeg (m22 ((ro_rf m22 1 1) + 4) v1.toNatClampNeg)) fun m25 =>
  ro_lt (ro_set m25 ((ro_rf μ 1 2) + 7) (5 : Int32).toNatClampNeg v2) fun m27 =>
  ro_lt (ro_set m27 ((ro_rf μ 1 2) + 7) (11 : Int32).toNatClampNeg 0) fun m29 =>
  if ro_sh (ro_rf m29 1 1) = (0, 5) then
  ((fn_X9_tellAct (m29 ((ro_rf m29 1 1) + 5) v1.toNatClampNeg) m29).bind fun q32 =>
  (fn_X9_tellSeat (q32 6 v2.toNatClampNeg) q32).bind fun q34 =>
  if ro_sh (ro_rf q34 1 2) = (0, 2) then
  ((fn_X2_amount (ro_rf q34 1 2) 0 99 q34).bind fun q37 =>
  some (q37.1, q37.2)) else none) else none) else none) else none) else none)
  else
  (some (0, μ)))) else none)
  else
  (some (0, μ)))) else none) else none
theorem be_X9_dropsThrough {K : ro_K} (hK : ro_C K RX9 cX9_dropsThrough 6 3) (hR : ro_R K (some .int)) {v1 : Int32} {v2 : Int32} {v3 : Int32}  {μ : ro_Mem} {out : Int32 × ro_Mem} (hf : fn_X9_dropsThrough v1 v2 v3 μ = some out) (hq : kQ K (some (.int out.1)) out.2) : ro_X K 0 [(0, .ref (ro_ad (kG K) 1)), (1, .int v1), (2, .int v2), (3, .int v3)] [] μ := by
  unfold fn_X9_dropsThrough at hf
  refine ro_aload_n hK 0 rfl dX9_dropsThrough_0 rfl ?_
  obtain ⟨g1, hf⟩ := ro_gd hf
  refine ro_getm hK fl_X9_21 sh_1 dX9_dropsThrough_1 ?_
  refine ro_getr hK fl_X9_36 g1 dX9_dropsThrough_4 ?_
  refine ro_iload_n hK 1 rfl dX9_dropsThrough_7 rfl ?_
  obtain ⟨g2, hf⟩ := ro_gd hf
  refine ro_iald hK (so_5_2 g1) g2 dX9_dropsThrough_8 ?_
  refine ro_iload_n hK 3 rfl dX9_dropsThrough_9 rfl ?_
  refine ro_iadd hK dX9_dropsThrough_10 ?_
  obtain ⟨z3, e4, hf⟩ := ro_ld hf
  refine ro_iv e4 ?_
  refine ro_istore (L' := [(4, .int z3), (0, .ref (ro_ad (kG K) 1)), (1, .int v1), (2, .int v2), (3, .int v3)]) hK dX9_dropsThrough_11 (by decide) rfl ?_
  refine ro_aload_n hK 1 rfl dX9_dropsThrough_13 rfl ?_
  refine ro_getr hK fl_X9_12 sh_1 dX9_dropsThrough_14 ?_
  refine ro_iload_n hK 3 rfl dX9_dropsThrough_17 rfl ?_
  obtain ⟨q5, e6, hf⟩ := ro_bd hf
  refine ro_callvi hK [.int v2] ml_X9_39 mv_X1_isSlate (mt_X1_isSlate (kl K) (kG K) sh_2 e6) sh_2 ⟨_, rfl, rfl⟩ (by decide) rfl rfl (Nat.le_of_ble_eq_true rfl) dX9_dropsThrough_18 ?_
  refine ro_if_eq hK 63 dX9_dropsThrough_21 (by decide) (fun c7 => ?_) (fun c7 => ?_)
  · have hf := ro_it hf c7
    refine ro_iconst (v := 0) hK dX9_dropsThrough_63 (by decide) ?_
    obtain rfl := Option.some.inj hf
    exact ro_iret hK hR dX9_dropsThrough_64 hq
  · have hf := ro_ie hf c7
    refine ro_aload_n hK 1 rfl dX9_dropsThrough_24 rfl ?_
    refine ro_getr hK fl_X9_12 sh_1 dX9_dropsThrough_25 ?_
    refine ro_iload_n hK 3 rfl dX9_dropsThrough_28 rfl ?_
    obtain ⟨q8, e9, hf⟩ := ro_bd hf
    refine ro_callvi hK [.int v2] ml_X9_43 mv_X1_isNailed (mt_X1_isNailed (kl K) (kG K) sh_2 e9) sh_2 ⟨_, rfl, rfl⟩ (by decide) rfl rfl (Nat.le_of_ble_eq_true rfl) dX9_dropsThrough_29 ?_
    refine ro_if_ne hK 63 dX9_dropsThrough_32 (by decide) (fun c10 => ?_) (fun c10 => ?_)
    · have hf := ro_ie hf c10
      refine ro_iconst (v := 0) hK dX9_dropsThrough_63 (by decide) ?_
      obtain rfl := Option.some.inj hf
      exact ro_iret hK hR dX9_dropsThrough_64 hq
    · have hf := ro_it hf c10
      refine ro_iload hK 0 rfl dX9_dropsThrough_35 ?_
      refine ro_aload_n hK 1 rfl dX9_dropsThrough_37 rfl ?_
      refine ro_getr hK fl_X9_12 sh_1 dX9_dropsThrough_38 ?_
      refine ro_getr hK fl_X9_46 sh_2 dX9_dropsThrough_41 ?_
      refine ro_iload_n hK 3 rfl dX9_dropsThrough_44 rfl ?_
      obtain ⟨g11, hf⟩ := ro_gd hf
      refine ro_iald hK sh_7 g11 dX9_dropsThrough_45 ?_
      refine ro_icmp_lt hK 63 dX9_dropsThrough_46 (by decide) (fun c12 => ?_) (fun c12 => ?_)
      · have hf := ro_it hf c12
        refine ro_iconst (v := 0) hK dX9_dropsThrough_63 (by decide) ?_
        obtain rfl := Option.some.inj hf
        exact ro_iret hK hR dX9_dropsThrough_64 hq
      · have hf := ro_ie hf c12
        refine ro_iload hK 0 rfl dX9_dropsThrough_49 ?_
        refine ro_aload_n hK 1 rfl dX9_dropsThrough_51 rfl ?_
        refine ro_getr hK fl_X9_12 sh_1 dX9_dropsThrough_52 ?_
        refine ro_getr hK fl_X9_49 sh_2 dX9_dropsThrough_55 ?_
        refine ro_iload_n hK 3 rfl dX9_dropsThrough_58 rfl ?_
        refine ro_iald hK sh_8 g11 dX9_dropsThrough_59 ?_
        refine ro_icmp_le hK 65 dX9_dropsThrough_60 (by decide) (fun c13 => ?_) (fun c13 => ?_)
        · have hf := ro_it hf c13
          refine ro_aload_n hK 1 rfl dX9_dropsThrough_65 rfl ?_
          obtain ⟨g14, hf⟩ := ro_gd hf
          refine ro_getm hK fl_X9_28 sh_1 dX9_dropsThrough_66 ?_
          refine ro_getr hK fl_X9_52 g14 dX9_dropsThrough_69 ?_
          refine ro_astore (L' := [(5, .ref (ro_ad (kG K) ((ro_rf μ 1 2) + 7))), (4, .int z3), (0, .ref (ro_ad (kG K) 1)), (1, .int v1), (2, .int v2), (3, .int v3)]) hK dX9_dropsThrough_72 (by decide) rfl ?_
          refine ro_aload hK 0 rfl dX9_dropsThrough_74 ?_
          refine ro_iconst (v := 0) hK dX9_dropsThrough_76 (by decide) ?_
          refine ro_aload_n hK 2 rfl dX9_dropsThrough_77 rfl ?_
          refine ro_getm hK fl_X9_21 sh_1 dX9_dropsThrough_78 ?_
          refine ro_getr hK fl_X9_55 g1 dX9_dropsThrough_81 ?_
          refine ro_iload_n hK 3 rfl dX9_dropsThrough_84 rfl ?_
          refine ro_iald hK (so_5_1 g1) g2 dX9_dropsThrough_85 ?_
          obtain ⟨m15, e16, hf⟩ := ro_ld hf
          refine ro_iast hK (so_2_7 g14) (by decide) dX9_dropsThrough_86 ?_
          refine ro_mv e16 ?_
          refine ro_aload hK 0 rfl dX9_dropsThrough_87 ?_
          refine ro_iconst (v := 1) hK dX9_dropsThrough_89 (by decide) ?_
          refine ro_iload hK 1 rfl dX9_dropsThrough_90 ?_
          obtain ⟨m17, e18, hf⟩ := ro_ld hf
          refine ro_iast hK (so_2_7 g14) (by decide) dX9_dropsThrough_92 ?_
          refine ro_mv e18 ?_
          refine ro_aload hK 0 rfl dX9_dropsThrough_93 ?_
          refine ro_iconst (v := 2) hK dX9_dropsThrough_95 (by decide) ?_
          refine ro_aload_n hK 2 rfl dX9_dropsThrough_96 rfl ?_
          obtain ⟨g19, hf⟩ := ro_gd hf
          refine ro_getm hK fl_X9_21 sh_1 dX9_dropsThrough_97 ?_
          refine ro_getr hK fl_X9_58 g19 dX9_dropsThrough_100 ?_
          refine ro_iload_n hK 3 rfl dX9_dropsThrough_103 rfl ?_
          refine ro_iald hK (so_5_3 g19) g2 dX9_dropsThrough_104 ?_
          obtain ⟨m20, e21, hf⟩ := ro_ld hf
          refine ro_iast hK (so_2_7 g14) (by decide) dX9_dropsThrough_105 ?_
          refine ro_mv e21 ?_
          refine ro_aload hK 0 rfl dX9_dropsThrough_106 ?_
          refine ro_iconst (v := 3) hK dX9_dropsThrough_108 (by decide) ?_
          refine ro_iload_n hK 3 rfl dX9_dropsThrough_109 rfl ?_
          obtain ⟨m22, e23, hf⟩ := ro_ld hf
          refine ro_iast hK (so_2_7 g14) (by decide) dX9_dropsThrough_110 ?_
          refine ro_mv e23 ?_
          refine ro_aload hK 0 rfl dX9_dropsThrough_111 ?_
          refine ro_iconst (v := 4) hK dX9_dropsThrough_113 (by decide) ?_
          refine ro_aload_n hK 2 rfl dX9_dropsThrough_114 rfl ?_
          obtain ⟨g24, hf⟩ := ro_gd hf
          refine ro_getm hK fl_X9_21 sh_1 dX9_dropsThrough_115 ?_
          refine ro_getr hK fl_X9_61 g24 dX9_dropsThrough_118 ?_
          refine ro_iload_n hK 3 rfl dX9_dropsThrough_121 rfl ?_
          refine ro_iald hK (so_5_4 g24) g2 dX9_dropsThrough_122 ?_
          obtain ⟨m25, e26, hf⟩ := ro_ld hf
          refine ro_iast hK (so_2_7 g14) (by decide) dX9_dropsThrough_123 ?_
          refine ro_mv e26 ?_
          refine ro_aload hK 0 rfl dX9_dropsThrough_124 ?_
          refine ro_iconst (v := 5) hK dX9_dropsThrough_126 (by decide) ?_
          refine ro_iload_n hK 4 rfl dX9_dropsThrough_127 rfl ?_
          obtain ⟨m27, e28, hf⟩ := ro_ld hf
          refine ro_iast hK (so_2_7 g14) (by decide) dX9_dropsThrough_128 ?_
          refine ro_mv e28 ?_
          refine ro_aload hK 0 rfl dX9_dropsThrough_129 ?_
          refine ro_bipush (v := 11) hK dX9_dropsThrough_131 (by decide) ?_
          refine ro_iconst (v := 0) hK dX9_dropsThrough_133 (by decide) ?_
          obtain ⟨m29, e30, hf⟩ := ro_ld hf
          refine ro_iast hK (so_2_7 g14) (by decide) dX9_dropsThrough_134 ?_
          refine ro_mv e30 ?_
          refine ro_aload_n hK 2 rfl dX9_dropsThrough_135 rfl ?_
          refine ro_aload_n hK 2 rfl dX9_dropsThrough_136 rfl ?_
          obtain ⟨g31, hf⟩ := ro_gd hf
          refine ro_getm hK fl_X9_21 sh_1 dX9_dropsThrough_137 ?_
          refine ro_getr hK fl_X9_64 g31 dX9_dropsThrough_140 ?_
          refine ro_iload_n hK 3 rfl dX9_dropsThrough_143 rfl ?_
          refine ro_iald hK (so_5_5 g31) g2 dX9_dropsThrough_144 ?_
          obtain ⟨q32, e33, hf⟩ := ro_bd hf
          refine ro_callvv hK [.int (m29 ((ro_rf m29 1 1) + 5) v1.toNatClampNeg)] ml_X9_67 mv_X9_tellAct (mt_X9_tellAct (kl K) (kG K)  e33) sh_1 ⟨_, rfl, rfl⟩ (by decide) rfl rfl (Nat.le_of_ble_eq_true rfl) dX9_dropsThrough_145 ?_
          refine ro_aload_n hK 2 rfl dX9_dropsThrough_148 rfl ?_
          refine ro_aload_n hK 2 rfl dX9_dropsThrough_149 rfl ?_
          refine ro_getr hK fl_X9_12 sh_1 dX9_dropsThrough_150 ?_
          refine ro_getr hK fl_X9_71 sh_2 dX9_dropsThrough_153 ?_
          refine ro_iload_n hK 4 rfl dX9_dropsThrough_156 rfl ?_
          refine ro_iald hK sh_6 g11 dX9_dropsThrough_157 ?_
          obtain ⟨q34, e35, hf⟩ := ro_bd hf
          refine ro_callvv hK [.int (q32 6 v2.toNatClampNeg)] ml_X9_74 mv_X9_tellSeat (mt_X9_tellSeat (kl K) (kG K)  e35) sh_1 ⟨_, rfl, rfl⟩ (by decide) rfl rfl (Nat.le_of_ble_eq_true rfl) dX9_dropsThrough_158 ?_
          refine ro_aload_n hK 2 rfl dX9_dropsThrough_161 rfl ?_
          obtain ⟨g36, hf⟩ := ro_gd hf
          refine ro_getm hK fl_X9_28 sh_1 dX9_dropsThrough_162 ?_
          refine ro_iconst (v := 0) hK dX9_dropsThrough_165 (by decide) ?_
          refine ro_bipush (v := 99) hK dX9_dropsThrough_166 (by decide) ?_
          obtain ⟨q37, e38, hf⟩ := ro_bd hf
          refine ro_callvi hK [.int 0, .int 99] ml_X9_77 mv_X2_amount (mt_X2_amount (kl K) (kG K) g36 e38) g36 ⟨_, rfl, rfl⟩ (by decide) rfl rfl (Nat.le_of_ble_eq_true rfl) dX9_dropsThrough_168 ?_
          obtain rfl := Option.some.inj hf
          exact ro_iret hK hR dX9_dropsThrough_171 hq
        · have hf := ro_ie hf c13
          refine ro_iconst (v := 0) hK dX9_dropsThrough_63 (by decide) ?_
          obtain rfl := Option.some.inj hf
          exact ro_iret hK hR dX9_dropsThrough_64 hq
theorem mt_X9_dropsThrough (l : Launch) (G : ro_G) {v1 : Int32} {v2 : Int32} {v3 : Int32}  {μ : ro_Mem} {out : Int32 × ro_Mem} (hf : fn_X9_dropsThrough v1 v2 v3 μ = some out) : ro_MX l G yX9_dropsThrough cX9_dropsThrough 6 (some .int) 3 [.ref (ro_ad G 1), .int v1, .int v2, .int v3] μ (some (.int out.1)) out.2 := by
  refine ro_MX.of (by decide +kernel) (Nat.le_of_ble_eq_true rfl) (fun K hG hl hq hK hR => ?_)
  subst hG
  exact be_X9_dropsThrough hK hR  hf hq
-- ===== X2_isAnyHolding =====
theorem dX2_isAnyHolding_0 : decode cX2_isAnyHolding 0 = .ok (.iconst 0, 1) := by decide +kernel
theorem dX2_isAnyHolding_1 : decode cX2_isAnyHolding 1 = .ok (.istore_n 2, 1) := by decide +kernel
theorem dX2_isAnyHolding_2 : decode cX2_isAnyHolding 2 = .ok (.iload_n 2, 1) := by decide +kernel
theorem dX2_isAnyHolding_3 : decode cX2_isAnyHolding 3 = .ok (.aload_n 0, 1) := by decide +kernel
theorem dX2_isAnyHolding_4 : decode cX2_isAnyHolding 4 = .ok (.getfield 36, 3) := by decide +kernel
theorem dX2_isAnyHolding_7 : decode cX2_isAnyHolding 7 = .ok (.if_icmp .ge 40, 3) := by decide +kernel
theorem dX2_isAnyHolding_10 : decode cX2_isAnyHolding 10 = .ok (.aload_n 0, 1) := by decide +kernel
theorem dX2_isAnyHolding_11 : decode cX2_isAnyHolding 11 = .ok (.getfield 18, 3) := by decide +kernel
theorem dX2_isAnyHolding_14 : decode cX2_isAnyHolding 14 = .ok (.iload_n 2, 1) := by decide +kernel
theorem dX2_isAnyHolding_15 : decode cX2_isAnyHolding 15 = .ok (.iaload, 1) := by decide +kernel
theorem dX2_isAnyHolding_16 : decode cX2_isAnyHolding 16 = .ok (.iload_n 1, 1) := by decide +kernel
theorem dX2_isAnyHolding_17 : decode cX2_isAnyHolding 17 = .ok (.if_icmp .ne 24, 3) := by decide +kernel
theorem dX2_isAnyHolding_20 : decode cX2_isAnyHolding 20 = .ok (.aload_n 0, 1) := by decide +kernel
theorem dX2_isAnyHolding_21 : decode cX2_isAnyHolding 21 = .ok (.aload_n 0, 1) := by decide +kernel
theorem dX2_isAnyHolding_22 : decode cX2_isAnyHolding 22 = .ok (.getfield 24, 3) := by decide +kernel
theorem dX2_isAnyHolding_25 : decode cX2_isAnyHolding 25 = .ok (.iload_n 2, 1) := by decide +kernel
theorem dX2_isAnyHolding_26 : decode cX2_isAnyHolding 26 = .ok (.iaload, 1) := by decide +kernel
theorem dX2_isAnyHolding_27 : decode cX2_isAnyHolding 27 = .ok (.aload_n 0, 1) := by decide +kernel
theorem dX2_isAnyHolding_28 : decode cX2_isAnyHolding 28 = .ok (.getfield 27, 3) := by decide +kernel
theorem dX2_isAnyHolding_31 : decode cX2_isAnyHolding 31 = .ok (.iload_n 2, 1) := by decide +kernel
theorem dX2_isAnyHolding_32 : decode cX2_isAnyHolding 32 = .ok (.iaload, 1) := by decide +kernel
theorem dX2_isAnyHolding_33 : decode cX2_isAnyHolding 33 = .ok (.invokevirtual 40, 3) := by decide +kernel
theorem dX2_isAnyHolding_36 : decode cX2_isAnyHolding 36 = .ok (.ifCond .eq 5, 3) := by decide +kernel
theorem dX2_isAnyHolding_39 : decode cX2_isAnyHolding 39 = .ok (.iconst 1, 1) := by decide +kernel
theorem dX2_isAnyHolding_40 : decode cX2_isAnyHolding 40 = .ok (.ireturn, 1) := by decide +kernel
theorem dX2_isAnyHolding_41 : decode cX2_isAnyHolding 41 = .ok (.iinc 2 1, 3) := by decide +kernel
theorem dX2_isAnyHolding_44 : decode cX2_isAnyHolding 44 = .ok (.goto (-42), 3) := by decide +kernel
theorem dX2_isAnyHolding_47 : decode cX2_isAnyHolding 47 = .ok (.iconst 0, 1) := by decide +kernel
theorem dX2_isAnyHolding_48 : decode cX2_isAnyHolding 48 = .ok (.ireturn, 1) := by decide +kernel
def ok_X2_isAnyHolding_2 (K : ro_K) (o0 : Nat) (v1 : Int32) : (ro_Mem ⊕ ro_Mem) → Prop := Sum.elim (fun e => ro_X K 39 [] [] e) (fun e => ro_X K 47 [] [] e)
def fb_X2_isAnyHolding_2 (o0 : Nat) (v1 : Int32) (rec : (Int32 × ro_Mem) → Option (ro_Mem ⊕ ro_Mem)) (v2 : Int32) (μ : ro_Mem) : Option (ro_Mem ⊕ ro_Mem) :=
  if (μ o0 3) ≤ v2 then
  (some (.inr μ))
  else
  (if ro_in v2 14 then
  (if (μ (o0 + 3) v2.toNatClampNeg) = v1 then
  ((fn_X2_run o0 (μ (o0 + 5) v2.toNatClampNeg) (μ (o0 + 6) v2.toNatClampNeg) μ).bind fun q4 =>
  if q4.1 = 0 then
  (rec (v2 + 1, q4.2))
  else
  (some (.inl q4.2)))
  else
  (rec (v2 + 1, μ))) else none)
theorem bb_X2_isAnyHolding_2 {K : ro_K} (hK : ro_C K RX2 cX2_isAnyHolding 3 2) (hR : ro_R K (some .boolean)) {o0 : Nat} {v1 : Int32} (h0 : ro_sh o0 = (0, 2)) {μ : ro_Mem} {rec : (Int32 × ro_Mem) → Option (ro_Mem ⊕ ro_Mem)} {v2 : Int32} {q : (ro_Mem ⊕ ro_Mem)} (hrec : ∀ (s : Int32 × ro_Mem) (q : (ro_Mem ⊕ ro_Mem)), rec s = some q → ok_X2_isAnyHolding_2 K o0 v1 q → ro_X K 2 [(0, .ref (ro_ad (kG K) o0)), (1, .int v1), (2, .int s.1)] [] s.2) (hf : fb_X2_isAnyHolding_2 o0 v1 rec v2 μ = some q) (hq : ok_X2_isAnyHolding_2 K o0 v1 q) : ro_X K 2 [(0, .ref (ro_ad (kG K) o0)), (1, .int v1), (2, .int v2)] [] μ := by
  unfold fb_X2_isAnyHolding_2 at hf
  refine ro_iload_n hK 2 rfl dX2_isAnyHolding_2 rfl ?_
  refine ro_aload_n hK 0 rfl dX2_isAnyHolding_3 rfl ?_
  refine ro_geti hK fl_X2_36 h0 dX2_isAnyHolding_4 ?_
  refine ro_icmp_ge hK 47 dX2_isAnyHolding_7 (by decide) (fun c1 => ?_) (fun c1 => ?_)
  · have hf := ro_it hf c1
    refine ro_sub (L' := []) [] rfl ?_
    obtain rfl := Option.some.inj hf
    exact hq
  · have hf := ro_ie hf c1
    refine ro_aload_n hK 0 rfl dX2_isAnyHolding_10 rfl ?_
    refine ro_getr hK fl_X2_18 h0 dX2_isAnyHolding_11 ?_
    refine ro_iload_n hK 2 rfl dX2_isAnyHolding_14 rfl ?_
    obtain ⟨g2, hf⟩ := ro_gd hf
    refine ro_iald hK (so_2_3 h0) g2 dX2_isAnyHolding_15 ?_
    refine ro_iload_n hK 1 rfl dX2_isAnyHolding_16 rfl ?_
    refine ro_icmp_ne hK 41 dX2_isAnyHolding_17 (by decide) (fun c3 => ?_) (fun c3 => ?_)
    · have hf := ro_ie hf c3
      refine ro_iinc (v := v2 + 1) (L' := [(2, .int (v2 + 1)), (0, .ref (ro_ad (kG K) o0)), (1, .int v1)]) hK 2 rfl dX2_isAnyHolding_41 rfl (by decide) rfl ?_
      refine ro_goto hK 2 dX2_isAnyHolding_44 (by decide) ?_
      refine ro_sub (L' := [(0, .ref (ro_ad (kG K) o0)), (1, .int v1), (2, .int (v2 + 1))]) [1, 2, 0] rfl ?_
      exact hrec (v2 + 1, μ) _ hf hq
    · have hf := ro_it hf c3
      refine ro_aload_n hK 0 rfl dX2_isAnyHolding_20 rfl ?_
      refine ro_aload_n hK 0 rfl dX2_isAnyHolding_21 rfl ?_
      refine ro_getr hK fl_X2_24 h0 dX2_isAnyHolding_22 ?_
      refine ro_iload_n hK 2 rfl dX2_isAnyHolding_25 rfl ?_
      refine ro_iald hK (so_2_5 h0) g2 dX2_isAnyHolding_26 ?_
      refine ro_aload_n hK 0 rfl dX2_isAnyHolding_27 rfl ?_
      refine ro_getr hK fl_X2_27 h0 dX2_isAnyHolding_28 ?_
      refine ro_iload_n hK 2 rfl dX2_isAnyHolding_31 rfl ?_
      refine ro_iald hK (so_2_6 h0) g2 dX2_isAnyHolding_32 ?_
      obtain ⟨q4, e5, hf⟩ := ro_bd hf
      refine ro_callvi hK [.int (μ (o0 + 5) v2.toNatClampNeg), .int (μ (o0 + 6) v2.toNatClampNeg)] ml_X2_40 mv_X2_run (mt_X2_run (kl K) (kG K) h0 e5) h0 ⟨_, rfl, rfl⟩ (by decide) rfl rfl (Nat.le_of_ble_eq_true rfl) dX2_isAnyHolding_33 ?_
      refine ro_if_eq hK 41 dX2_isAnyHolding_36 (by decide) (fun c6 => ?_) (fun c6 => ?_)
      · have hf := ro_it hf c6
        refine ro_iinc (v := v2 + 1) (L' := [(2, .int (v2 + 1)), (0, .ref (ro_ad (kG K) o0)), (1, .int v1)]) hK 2 rfl dX2_isAnyHolding_41 rfl (by decide) rfl ?_
        refine ro_goto hK 2 dX2_isAnyHolding_44 (by decide) ?_
        refine ro_sub (L' := [(0, .ref (ro_ad (kG K) o0)), (1, .int v1), (2, .int (v2 + 1))]) [1, 2, 0] rfl ?_
        exact hrec (v2 + 1, q4.2) _ hf hq
      · have hf := ro_ie hf c6
        refine ro_sub (L' := []) [] rfl ?_
        obtain rfl := Option.some.inj hf
        exact hq
def fl_X2_isAnyHolding_2 (o0 : Nat) (v1 : Int32) : (Int32 × ro_Mem) → Option (ro_Mem ⊕ ro_Mem) :=
  ro_loop (fun rec s => fb_X2_isAnyHolding_2 o0 v1 rec s.1 s.2) ro_FU
theorem lp_X2_isAnyHolding_2 {K : ro_K} (hK : ro_C K RX2 cX2_isAnyHolding 3 2) (hR : ro_R K (some .boolean)) {o0 : Nat} {v1 : Int32} (h0 : ro_sh o0 = (0, 2)) {s : Int32 × ro_Mem} {q : (ro_Mem ⊕ ro_Mem)} (hf : fl_X2_isAnyHolding_2 o0 v1 s = some q) (hq : ok_X2_isAnyHolding_2 K o0 v1 q) : ro_X K 2 [(0, .ref (ro_ad (kG K) o0)), (1, .int v1), (2, .int s.1)] [] s.2 :=
  ro_loopX (b := fun rec s => fb_X2_isAnyHolding_2 o0 v1 rec s.1 s.2) (X := fun s => ro_X K 2 [(0, .ref (ro_ad (kG K) o0)), (1, .int v1), (2, .int s.1)] [] s.2) (OK := ok_X2_isAnyHolding_2 K o0 v1) (fun rec s q hrec hb ho => bb_X2_isAnyHolding_2 hK hR h0 hrec hb ho) ro_FU s q hf hq
def fn_X2_isAnyHolding (o0 : Nat) (v1 : Int32) (μ : ro_Mem) : Option (Int32 × ro_Mem) :=
  (fl_X2_isAnyHolding_2 o0 v1 (0, μ)).bind fun q7 =>
  q7.elim (fun e9 => some (1, e9)) (fun e10 => some (0, e10))
theorem be_X2_isAnyHolding {K : ro_K} (hK : ro_C K RX2 cX2_isAnyHolding 3 2) (hR : ro_R K (some .boolean)) {o0 : Nat} {v1 : Int32} (h0 : ro_sh o0 = (0, 2)) {μ : ro_Mem} {out : Int32 × ro_Mem} (hf : fn_X2_isAnyHolding o0 v1 μ = some out) (hq : kQ K (some (.int out.1)) out.2) : ro_X K 0 [(0, .ref (ro_ad (kG K) o0)), (1, .int v1)] [] μ := by
  unfold fn_X2_isAnyHolding at hf
  refine ro_iconst (v := 0) hK dX2_isAnyHolding_0 (by decide) ?_
  refine ro_istore_n (L' := [(2, .int 0), (0, .ref (ro_ad (kG K) o0)), (1, .int v1)]) hK dX2_isAnyHolding_1 rfl (by decide) rfl ?_
  obtain ⟨q7, e8, hf⟩ := ro_bd hf
  refine ro_sub (L' := [(0, .ref (ro_ad (kG K) o0)), (1, .int v1), (2, .int 0)]) [1, 2, 0] rfl ?_
  refine lp_X2_isAnyHolding_2 hK hR h0 e8 ?_
  rcases q7 with e9 | e10
  · have hf := ro_el hf
    show ro_X K 39 [] [] e9
    refine ro_iconst (v := 1) hK dX2_isAnyHolding_39 (by decide) ?_
    obtain rfl := Option.some.inj hf
    exact ro_zret hK hR dX2_isAnyHolding_40 (by decide) hq
  · have hf := ro_er hf
    show ro_X K 47 [] [] e10
    refine ro_iconst (v := 0) hK dX2_isAnyHolding_47 (by decide) ?_
    obtain rfl := Option.some.inj hf
    exact ro_zret hK hR dX2_isAnyHolding_48 (by decide) hq
theorem mt_X2_isAnyHolding (l : Launch) (G : ro_G) {o0 : Nat} {v1 : Int32} (h0 : ro_sh o0 = (0, 2)) {μ : ro_Mem} {out : Int32 × ro_Mem} (hf : fn_X2_isAnyHolding o0 v1 μ = some out) : ro_MX l G yX2_isAnyHolding cX2_isAnyHolding 3 (some .boolean) 2 [.ref (ro_ad G o0), .int v1] μ (some (.int out.1)) out.2 := by
  refine ro_MX.of (by decide +kernel) (Nat.le_of_ble_eq_true rfl) (fun K hG hl hq hK hR => ?_)
  subst hG
  exact be_X2_isAnyHolding hK hR h0 hf hq
-- ===== X9_isSnow =====
theorem dX9_isSnow_0 : decode cX9_isSnow 0 = .ok (.aload_n 0, 1) := by decide +kernel
theorem dX9_isSnow_1 : decode cX9_isSnow 1 = .ok (.getfield 28, 3) := by decide +kernel
theorem dX9_isSnow_4 : decode cX9_isSnow 4 = .ok (.iconst 1, 1) := by decide +kernel
theorem dX9_isSnow_5 : decode cX9_isSnow 5 = .ok (.invokevirtual 81, 3) := by decide +kernel
theorem dX9_isSnow_8 : decode cX9_isSnow 8 = .ok (.ireturn, 1) := by decide +kernel
def fn_X9_isSnow (μ : ro_Mem) : Option (Int32 × ro_Mem) :=
  if ro_sh (ro_rf μ 1 2) = (0, 2) then
  ((fn_X2_isAnyHolding (ro_rf μ 1 2) 1 μ).bind fun q2 =>
  if q2.1 = 0 ∨ q2.1 = 1 then
  (some (q2.1, q2.2)) else none) else none
theorem be_X9_isSnow {K : ro_K} (hK : ro_C K RX9 cX9_isSnow 1 3) (hR : ro_R K (some .boolean))   {μ : ro_Mem} {out : Int32 × ro_Mem} (hf : fn_X9_isSnow μ = some out) (hq : kQ K (some (.int out.1)) out.2) : ro_X K 0 [(0, .ref (ro_ad (kG K) 1))] [] μ := by
  unfold fn_X9_isSnow at hf
  refine ro_aload_n hK 0 rfl dX9_isSnow_0 rfl ?_
  obtain ⟨g1, hf⟩ := ro_gd hf
  refine ro_getm hK fl_X9_28 sh_1 dX9_isSnow_1 ?_
  refine ro_iconst (v := 1) hK dX9_isSnow_4 (by decide) ?_
  obtain ⟨q2, e3, hf⟩ := ro_bd hf
  refine ro_callvi hK [.int 1] ml_X9_81 mv_X2_isAnyHolding (mt_X2_isAnyHolding (kl K) (kG K) g1 e3) g1 ⟨_, rfl, rfl⟩ (by decide) rfl rfl (Nat.le_of_ble_eq_true rfl) dX9_isSnow_5 ?_
  obtain ⟨g4, hf⟩ := ro_gd hf
  obtain rfl := Option.some.inj hf
  exact ro_zret hK hR dX9_isSnow_8 g4 hq
theorem mt_X9_isSnow (l : Launch) (G : ro_G)   {μ : ro_Mem} {out : Int32 × ro_Mem} (hf : fn_X9_isSnow μ = some out) : ro_MX l G yX9_isSnow cX9_isSnow 1 (some .boolean) 3 [.ref (ro_ad G 1)] μ (some (.int out.1)) out.2 := by
  refine ro_MX.of (by decide +kernel) (Nat.le_of_ble_eq_true rfl) (fun K hG hl hq hK hR => ?_)
  subst hG
  exact be_X9_isSnow hK hR  hf hq
-- ===== X0_pour =====
theorem dX0_pour_0 : decode cX0_pour 0 = .ok (.aload_n 1, 1) := by decide +kernel
theorem dX0_pour_1 : decode cX0_pour 1 = .ok (.getfield 57, 3) := by decide +kernel
theorem dX0_pour_4 : decode cX0_pour 4 = .ok (.astore_n 2, 1) := by decide +kernel
theorem dX0_pour_5 : decode cX0_pour 5 = .ok (.iconst 0, 1) := by decide +kernel
theorem dX0_pour_6 : decode cX0_pour 6 = .ok (.istore_n 3, 1) := by decide +kernel
theorem dX0_pour_7 : decode cX0_pour 7 = .ok (.iload_n 3, 1) := by decide +kernel
theorem dX0_pour_8 : decode cX0_pour 8 = .ok (.aload_n 2, 1) := by decide +kernel
theorem dX0_pour_9 : decode cX0_pour 9 = .ok (.getfield 61, 3) := by decide +kernel
theorem dX0_pour_12 : decode cX0_pour 12 = .ok (.if_icmp .ge 85, 3) := by decide +kernel
theorem dX0_pour_15 : decode cX0_pour 15 = .ok (.iconst 0, 1) := by decide +kernel
theorem dX0_pour_16 : decode cX0_pour 16 = .ok (.istore 4, 2) := by decide +kernel
theorem dX0_pour_18 : decode cX0_pour 18 = .ok (.iload 4, 2) := by decide +kernel
theorem dX0_pour_20 : decode cX0_pour 20 = .ok (.bipush 16, 2) := by decide +kernel
theorem dX0_pour_22 : decode cX0_pour 22 = .ok (.if_icmp .ge 69, 3) := by decide +kernel
theorem dX0_pour_25 : decode cX0_pour 25 = .ok (.iload_n 3, 1) := by decide +kernel
theorem dX0_pour_26 : decode cX0_pour 26 = .ok (.bipush 16, 2) := by decide +kernel
theorem dX0_pour_28 : decode cX0_pour 28 = .ok (.imul, 1) := by decide +kernel
theorem dX0_pour_29 : decode cX0_pour 29 = .ok (.iload 4, 2) := by decide +kernel
theorem dX0_pour_31 : decode cX0_pour 31 = .ok (.iadd, 1) := by decide +kernel
theorem dX0_pour_32 : decode cX0_pour 32 = .ok (.istore 5, 2) := by decide +kernel
theorem dX0_pour_34 : decode cX0_pour 34 = .ok (.aload_n 0, 1) := by decide +kernel
theorem dX0_pour_35 : decode cX0_pour 35 = .ok (.getfield 9, 3) := by decide +kernel
theorem dX0_pour_38 : decode cX0_pour 38 = .ok (.iload 5, 2) := by decide +kernel
theorem dX0_pour_40 : decode cX0_pour 40 = .ok (.aload_n 1, 1) := by decide +kernel
theorem dX0_pour_41 : decode cX0_pour 41 = .ok (.iload_n 3, 1) := by decide +kernel
theorem dX0_pour_42 : decode cX0_pour 42 = .ok (.iload 4, 2) := by decide +kernel
theorem dX0_pour_44 : decode cX0_pour 44 = .ok (.iconst 0, 1) := by decide +kernel
theorem dX0_pour_45 : decode cX0_pour 45 = .ok (.invokevirtual 67, 3) := by decide +kernel
theorem dX0_pour_48 : decode cX0_pour 48 = .ok (.iastore, 1) := by decide +kernel
theorem dX0_pour_49 : decode cX0_pour 49 = .ok (.aload_n 0, 1) := by decide +kernel
theorem dX0_pour_50 : decode cX0_pour 50 = .ok (.getfield 9, 3) := by decide +kernel
theorem dX0_pour_53 : decode cX0_pour 53 = .ok (.iload 5, 2) := by decide +kernel
theorem dX0_pour_55 : decode cX0_pour 55 = .ok (.iaload, 1) := by decide +kernel
theorem dX0_pour_56 : decode cX0_pour 56 = .ok (.ifCond .le 29, 3) := by decide +kernel
theorem dX0_pour_59 : decode cX0_pour 59 = .ok (.aload_n 0, 1) := by decide +kernel
theorem dX0_pour_60 : decode cX0_pour 60 = .ok (.getfield 15, 3) := by decide +kernel
theorem dX0_pour_63 : decode cX0_pour 63 = .ok (.iload 5, 2) := by decide +kernel
theorem dX0_pour_65 : decode cX0_pour 65 = .ok (.aload_n 2, 1) := by decide +kernel
theorem dX0_pour_66 : decode cX0_pour 66 = .ok (.getfield 71, 3) := by decide +kernel
theorem dX0_pour_69 : decode cX0_pour 69 = .ok (.iload_n 3, 1) := by decide +kernel
theorem dX0_pour_70 : decode cX0_pour 70 = .ok (.iaload, 1) := by decide +kernel
theorem dX0_pour_71 : decode cX0_pour 71 = .ok (.aload_n 1, 1) := by decide +kernel
theorem dX0_pour_72 : decode cX0_pour 72 = .ok (.invokevirtual 74, 3) := by decide +kernel
theorem dX0_pour_75 : decode cX0_pour 75 = .ok (.ifCond .eq 7, 3) := by decide +kernel
theorem dX0_pour_78 : decode cX0_pour 78 = .ok (.iconst 1, 1) := by decide +kernel
theorem dX0_pour_79 : decode cX0_pour 79 = .ok (.goto 4, 3) := by decide +kernel
theorem dX0_pour_82 : decode cX0_pour 82 = .ok (.iconst 0, 1) := by decide +kernel
theorem dX0_pour_83 : decode cX0_pour 83 = .ok (.iadd, 1) := by decide +kernel
theorem dX0_pour_84 : decode cX0_pour 84 = .ok (.iastore, 1) := by decide +kernel
theorem dX0_pour_85 : decode cX0_pour 85 = .ok (.iinc 4 1, 3) := by decide +kernel
theorem dX0_pour_88 : decode cX0_pour 88 = .ok (.goto (-70), 3) := by decide +kernel
theorem dX0_pour_91 : decode cX0_pour 91 = .ok (.iinc 3 1, 3) := by decide +kernel
theorem dX0_pour_94 : decode cX0_pour 94 = .ok (.goto (-87), 3) := by decide +kernel
theorem dX0_pour_97 : decode cX0_pour 97 = .ok (.return_, 1) := by decide +kernel
def ok_X0_pour_7 (K : ro_K) (o2 : Nat) : ro_Mem → Prop := fun e => ro_X K 97 [] [] e
def ok_X0_pour_18 (K : ro_K) (o2 : Nat) (v3 : Int32) : ro_Mem → Prop := fun e => ro_X K 91 [(0, .ref (ro_ad (kG K) 62)), (1, .ref (ro_ad (kG K) 1)), (2, .ref (ro_ad (kG K) o2)), (3, .int v3)] [] e
def fb_X0_pour_18 (o2 : Nat) (v3 : Int32) (rec : (Int32 × ro_Mem) → Option ro_Mem) (v4 : Int32) (μ : ro_Mem) : Option ro_Mem :=
  if 16 ≤ v4 then
  (some μ)
  else
  (ro_lt ((v3 * 16) + v4) fun z4 =>
  (fn_X9_dropsThrough v3 v4 0 μ).bind fun q6 =>
  if ro_in z4 512 then
  (ro_lt (ro_set q6.2 63 z4.toNatClampNeg q6.1) fun m9 =>
  if (m9 63 z4.toNatClampNeg) ≤ 0 then
  (rec (v4 + 1, m9))
  else
  (if ro_in v3 32 then
  ((fn_X9_isSnow m9).bind fun q13 =>
  if q13.1 = 0 then
  (ro_lt (ro_set q13.2 64 z4.toNatClampNeg ((m9 (o2 + 5) v3.toNatClampNeg) + 0)) fun m16 =>
  rec (v4 + 1, m16))
  else
  (ro_lt (ro_set q13.2 64 z4.toNatClampNeg ((m9 (o2 + 5) v3.toNatClampNeg) + 1)) fun m18 =>
  rec (v4 + 1, m18))) else none)) else none)
theorem bb_X0_pour_18 {K : ro_K} (hK : ro_C K RX0 cX0_pour 6 4) (hR : ro_R K none) {o2 : Nat} {v3 : Int32} (h2 : ro_sh o2 = (0, 5)) {μ : ro_Mem} {rec : (Int32 × ro_Mem) → Option ro_Mem} {v4 : Int32} {q : ro_Mem} (hrec : ∀ (s : Int32 × ro_Mem) (q : ro_Mem), rec s = some q → ok_X0_pour_18 K o2 v3 q → ro_X K 18 [(0, .ref (ro_ad (kG K) 62)), (1, .ref (ro_ad (kG K) 1)), (2, .ref (ro_ad (kG K) o2)), (3, .int v3), (4, .int s.1)] [] s.2) (hf : fb_X0_pour_18 o2 v3 rec v4 μ = some q) (hq : ok_X0_pour_18 K o2 v3 q) : ro_X K 18 [(0, .ref (ro_ad (kG K) 62)), (1, .ref (ro_ad (kG K) 1)), (2, .ref (ro_ad (kG K) o2)), (3, .int v3), (4, .int v4)] [] μ := by
  unfold fb_X0_pour_18 at hf
  refine ro_iload hK 4 rfl dX0_pour_18 ?_
  refine ro_bipush (v := 16) hK dX0_pour_20 (by decide) ?_
  refine ro_icmp_ge hK 91 dX0_pour_22 (by decide) (fun c3 => ?_) (fun c3 => ?_)
  · have hf := ro_it hf c3
    refine ro_sub (L' := [(0, .ref (ro_ad (kG K) 62)), (1, .ref (ro_ad (kG K) 1)), (2, .ref (ro_ad (kG K) o2)), (3, .int v3)]) [0, 1, 2, 3] rfl ?_
    obtain rfl := Option.some.inj hf
    exact hq
  · have hf := ro_ie hf c3
    refine ro_iload_n hK 3 rfl dX0_pour_25 rfl ?_
    refine ro_bipush (v := 16) hK dX0_pour_26 (by decide) ?_
    refine ro_imul hK dX0_pour_28 ?_
    refine ro_iload hK 4 rfl dX0_pour_29 ?_
    refine ro_iadd hK dX0_pour_31 ?_
    obtain ⟨z4, e5, hf⟩ := ro_ld hf
    refine ro_iv e5 ?_
    refine ro_istore (L' := [(5, .int z4), (0, .ref (ro_ad (kG K) 62)), (1, .ref (ro_ad (kG K) 1)), (2, .ref (ro_ad (kG K) o2)), (3, .int v3), (4, .int v4)]) hK dX0_pour_32 (by decide) rfl ?_
    refine ro_aload_n hK 1 rfl dX0_pour_34 rfl ?_
    refine ro_getr hK fl_X0_9 sh_62 dX0_pour_35 ?_
    refine ro_iload hK 0 rfl dX0_pour_38 ?_
    refine ro_aload_n hK 2 rfl dX0_pour_40 rfl ?_
    refine ro_iload_n hK 4 rfl dX0_pour_41 rfl ?_
    refine ro_iload hK 5 rfl dX0_pour_42 ?_
    refine ro_iconst (v := 0) hK dX0_pour_44 (by decide) ?_
    obtain ⟨q6, e7, hf⟩ := ro_bd hf
    refine ro_callvi hK [.int v3, .int v4, .int 0] ml_X0_67 mv_X9_dropsThrough (mt_X9_dropsThrough (kl K) (kG K)  e7) sh_1 ⟨_, rfl, rfl⟩ (by decide) rfl rfl (Nat.le_of_ble_eq_true rfl) dX0_pour_45 ?_
    obtain ⟨g8, hf⟩ := ro_gd hf
    obtain ⟨m9, e10, hf⟩ := ro_ld hf
    refine ro_iast hK sh_63 g8 dX0_pour_48 ?_
    refine ro_mv e10 ?_
    refine ro_aload_n hK 1 rfl dX0_pour_49 rfl ?_
    refine ro_getr hK fl_X0_9 sh_62 dX0_pour_50 ?_
    refine ro_iload hK 0 rfl dX0_pour_53 ?_
    refine ro_iald hK sh_63 g8 dX0_pour_55 ?_
    refine ro_if_le hK 85 dX0_pour_56 (by decide) (fun c11 => ?_) (fun c11 => ?_)
    · have hf := ro_it hf c11
      refine ro_iinc (v := v4 + 1) (L' := [(4, .int (v4 + 1)), (5, .int z4), (0, .ref (ro_ad (kG K) 62)), (1, .ref (ro_ad (kG K) 1)), (2, .ref (ro_ad (kG K) o2)), (3, .int v3)]) hK 5 rfl dX0_pour_85 rfl (by decide) rfl ?_
      refine ro_goto hK 18 dX0_pour_88 (by decide) ?_
      refine ro_sub (L' := [(0, .ref (ro_ad (kG K) 62)), (1, .ref (ro_ad (kG K) 1)), (2, .ref (ro_ad (kG K) o2)), (3, .int v3), (4, .int (v4 + 1))]) [2, 3, 4, 5, 0] rfl ?_
      exact hrec (v4 + 1, m9) _ hf hq
    · have hf := ro_ie hf c11
      refine ro_aload_n hK 1 rfl dX0_pour_59 rfl ?_
      refine ro_getr hK fl_X0_15 sh_62 dX0_pour_60 ?_
      refine ro_iload hK 0 rfl dX0_pour_63 ?_
      refine ro_aload_n hK 3 rfl dX0_pour_65 rfl ?_
      refine ro_getr hK fl_X0_71 h2 dX0_pour_66 ?_
      refine ro_iload_n hK 4 rfl dX0_pour_69 rfl ?_
      obtain ⟨g12, hf⟩ := ro_gd hf
      refine ro_iald hK (so_5_5 h2) g12 dX0_pour_70 ?_
      refine ro_aload_n hK 2 rfl dX0_pour_71 rfl ?_
      obtain ⟨q13, e14, hf⟩ := ro_bd hf
      refine ro_callvi hK [] ml_X0_74 mv_X9_isSnow (mt_X9_isSnow (kl K) (kG K)  e14) sh_1 ⟨_, rfl, rfl⟩ (by decide) rfl rfl (Nat.le_of_ble_eq_true rfl) dX0_pour_72 ?_
      refine ro_if_eq hK 82 dX0_pour_75 (by decide) (fun c15 => ?_) (fun c15 => ?_)
      · have hf := ro_it hf c15
        refine ro_iconst (v := 0) hK dX0_pour_82 (by decide) ?_
        refine ro_iadd hK dX0_pour_83 ?_
        obtain ⟨m16, e17, hf⟩ := ro_ld hf
        refine ro_iast hK sh_64 g8 dX0_pour_84 ?_
        refine ro_mv e17 ?_
        refine ro_iinc (v := v4 + 1) (L' := [(4, .int (v4 + 1)), (5, .int z4), (0, .ref (ro_ad (kG K) 62)), (1, .ref (ro_ad (kG K) 1)), (2, .ref (ro_ad (kG K) o2)), (3, .int v3)]) hK 5 rfl dX0_pour_85 rfl (by decide) rfl ?_
        refine ro_goto hK 18 dX0_pour_88 (by decide) ?_
        refine ro_sub (L' := [(0, .ref (ro_ad (kG K) 62)), (1, .ref (ro_ad (kG K) 1)), (2, .ref (ro_ad (kG K) o2)), (3, .int v3), (4, .int (v4 + 1))]) [2, 3, 4, 5, 0] rfl ?_
        exact hrec (v4 + 1, m16) _ hf hq
      · have hf := ro_ie hf c15
        refine ro_iconst (v := 1) hK dX0_pour_78 (by decide) ?_
        refine ro_goto hK 83 dX0_pour_79 (by decide) ?_
        refine ro_iadd hK dX0_pour_83 ?_
        obtain ⟨m18, e19, hf⟩ := ro_ld hf
        refine ro_iast hK sh_64 g8 dX0_pour_84 ?_
        refine ro_mv e19 ?_
        refine ro_iinc (v := v4 + 1) (L' := [(4, .int (v4 + 1)), (5, .int z4), (0, .ref (ro_ad (kG K) 62)), (1, .ref (ro_ad (kG K) 1)), (2, .ref (ro_ad (kG K) o2)), (3, .int v3)]) hK 5 rfl dX0_pour_85 rfl (by decide) rfl ?_
        refine ro_goto hK 18 dX0_pour_88 (by decide) ?_
        refine ro_sub (L' := [(0, .ref (ro_ad (kG K) 62)), (1, .ref (ro_ad (kG K) 1)), (2, .ref (ro_ad (kG K) o2)), (3, .int v3), (4, .int (v4 + 1))]) [2, 3, 4, 5, 0] rfl ?_
        exact hrec (v4 + 1, m18) _ hf hq
def fl_X0_pour_18 (o2 : Nat) (v3 : Int32) : (Int32 × ro_Mem) → Option ro_Mem :=
  ro_loop (fun rec s => fb_X0_pour_18 o2 v3 rec s.1 s.2) ro_FU
theorem lp_X0_pour_18 {K : ro_K} (hK : ro_C K RX0 cX0_pour 6 4) (hR : ro_R K none) {o2 : Nat} {v3 : Int32} (h2 : ro_sh o2 = (0, 5)) {s : Int32 × ro_Mem} {q : ro_Mem} (hf : fl_X0_pour_18 o2 v3 s = some q) (hq : ok_X0_pour_18 K o2 v3 q) : ro_X K 18 [(0, .ref (ro_ad (kG K) 62)), (1, .ref (ro_ad (kG K) 1)), (2, .ref (ro_ad (kG K) o2)), (3, .int v3), (4, .int s.1)] [] s.2 :=
  ro_loopX (b := fun rec s => fb_X0_pour_18 o2 v3 rec s.1 s.2) (X := fun s => ro_X K 18 [(0, .ref (ro_ad (kG K) 62)), (1, .ref (ro_ad (kG K) 1)), (2, .ref (ro_ad (kG K) o2)), (3, .int v3), (4, .int s.1)] [] s.2) (OK := ok_X0_pour_18 K o2 v3) (fun rec s q hrec hb ho => bb_X0_pour_18 hK hR h2 hrec hb ho) ro_FU s q hf hq
def fb_X0_pour_7 (o2 : Nat) (rec : (Int32 × ro_Mem) → Option ro_Mem) (v3 : Int32) (μ : ro_Mem) : Option ro_Mem :=
  if (μ o2 5) ≤ v3 then
  (some μ)
  else
  ((fl_X0_pour_18 o2 v3 (0, μ)).bind fun q20 =>
  rec (v3 + 1, q20))
theorem bb_X0_pour_7 {K : ro_K} (hK : ro_C K RX0 cX0_pour 6 4) (hR : ro_R K none) {o2 : Nat} (h2 : ro_sh o2 = (0, 5)) {μ : ro_Mem} {rec : (Int32 × ro_Mem) → Option ro_Mem} {v3 : Int32} {q : ro_Mem} (hrec : ∀ (s : Int32 × ro_Mem) (q : ro_Mem), rec s = some q → ok_X0_pour_7 K o2 q → ro_X K 7 [(0, .ref (ro_ad (kG K) 62)), (1, .ref (ro_ad (kG K) 1)), (2, .ref (ro_ad (kG K) o2)), (3, .int s.1)] [] s.2) (hf : fb_X0_pour_7 o2 rec v3 μ = some q) (hq : ok_X0_pour_7 K o2 q) : ro_X K 7 [(0, .ref (ro_ad (kG K) 62)), (1, .ref (ro_ad (kG K) 1)), (2, .ref (ro_ad (kG K) o2)), (3, .int v3)] [] μ := by
  unfold fb_X0_pour_7 at hf
  refine ro_iload_n hK 3 rfl dX0_pour_7 rfl ?_
  refine ro_aload_n hK 2 rfl dX0_pour_8 rfl ?_
  refine ro_geti hK fl_X0_61 h2 dX0_pour_9 ?_
  refine ro_icmp_ge hK 97 dX0_pour_12 (by decide) (fun c2 => ?_) (fun c2 => ?_)
  · have hf := ro_it hf c2
    refine ro_sub (L' := []) [] rfl ?_
    obtain rfl := Option.some.inj hf
    exact hq
  · have hf := ro_ie hf c2
    refine ro_iconst (v := 0) hK dX0_pour_15 (by decide) ?_
    refine ro_istore (L' := [(4, .int 0), (0, .ref (ro_ad (kG K) 62)), (1, .ref (ro_ad (kG K) 1)), (2, .ref (ro_ad (kG K) o2)), (3, .int v3)]) hK dX0_pour_16 (by decide) rfl ?_
    obtain ⟨q20, e21, hf⟩ := ro_bd hf
    refine ro_sub (L' := [(0, .ref (ro_ad (kG K) 62)), (1, .ref (ro_ad (kG K) 1)), (2, .ref (ro_ad (kG K) o2)), (3, .int v3), (4, .int 0)]) [1, 2, 3, 4, 0] rfl ?_
    refine lp_X0_pour_18 hK hR h2 e21 ?_
    show ro_X K 91 [(0, .ref (ro_ad (kG K) 62)), (1, .ref (ro_ad (kG K) 1)), (2, .ref (ro_ad (kG K) o2)), (3, .int v3)] [] q20
    refine ro_iinc (v := v3 + 1) (L' := [(3, .int (v3 + 1)), (0, .ref (ro_ad (kG K) 62)), (1, .ref (ro_ad (kG K) 1)), (2, .ref (ro_ad (kG K) o2))]) hK 3 rfl dX0_pour_91 rfl (by decide) rfl ?_
    refine ro_goto hK 7 dX0_pour_94 (by decide) ?_
    refine ro_sub (L' := [(0, .ref (ro_ad (kG K) 62)), (1, .ref (ro_ad (kG K) 1)), (2, .ref (ro_ad (kG K) o2)), (3, .int (v3 + 1))]) [1, 2, 3, 0] rfl ?_
    exact hrec (v3 + 1, q20) _ hf hq
def fl_X0_pour_7 (o2 : Nat) : (Int32 × ro_Mem) → Option ro_Mem :=
  ro_loop (fun rec s => fb_X0_pour_7 o2 rec s.1 s.2) ro_FU
theorem lp_X0_pour_7 {K : ro_K} (hK : ro_C K RX0 cX0_pour 6 4) (hR : ro_R K none) {o2 : Nat} (h2 : ro_sh o2 = (0, 5)) {s : Int32 × ro_Mem} {q : ro_Mem} (hf : fl_X0_pour_7 o2 s = some q) (hq : ok_X0_pour_7 K o2 q) : ro_X K 7 [(0, .ref (ro_ad (kG K) 62)), (1, .ref (ro_ad (kG K) 1)), (2, .ref (ro_ad (kG K) o2)), (3, .int s.1)] [] s.2 :=
  ro_loopX (b := fun rec s => fb_X0_pour_7 o2 rec s.1 s.2) (X := fun s => ro_X K 7 [(0, .ref (ro_ad (kG K) 62)), (1, .ref (ro_ad (kG K) 1)), (2, .ref (ro_ad (kG K) o2)), (3, .int s.1)] [] s.2) (OK := ok_X0_pour_7 K o2) (fun rec s q hrec hb ho => bb_X0_pour_7 hK hR h2 hrec hb ho) ro_FU s q hf hq
def fn_X0_pour (μ : ro_Mem) : Option ro_Mem :=
  if ro_sh (ro_rf μ 1 1) = (0, 5) then
  ((fl_X0_pour_7 (ro_rf μ 1 1) (0, μ)).bind fun q22 =>
  some q22) else none
theorem be_X0_pour {K : ro_K} (hK : ro_C K RX0 cX0_pour 6 4) (hR : ro_R K none)   {μ : ro_Mem} {out : ro_Mem} (hf : fn_X0_pour μ = some out) (hq : kQ K none out) : ro_X K 0 [(0, .ref (ro_ad (kG K) 62)), (1, .ref (ro_ad (kG K) 1))] [] μ := by
  unfold fn_X0_pour at hf
  refine ro_aload_n hK 1 rfl dX0_pour_0 rfl ?_
  obtain ⟨g1, hf⟩ := ro_gd hf
  refine ro_getm hK fl_X0_57 sh_1 dX0_pour_1 ?_
  refine ro_astore_n (L' := [(2, .ref (ro_ad (kG K) (ro_rf μ 1 1))), (0, .ref (ro_ad (kG K) 62)), (1, .ref (ro_ad (kG K) 1))]) hK dX0_pour_4 rfl (by decide) rfl ?_
  refine ro_iconst (v := 0) hK dX0_pour_5 (by decide) ?_
  refine ro_istore_n (L' := [(3, .int 0), (2, .ref (ro_ad (kG K) (ro_rf μ 1 1))), (0, .ref (ro_ad (kG K) 62)), (1, .ref (ro_ad (kG K) 1))]) hK dX0_pour_6 rfl (by decide) rfl ?_
  obtain ⟨q22, e23, hf⟩ := ro_bd hf
  refine ro_sub (L' := [(0, .ref (ro_ad (kG K) 62)), (1, .ref (ro_ad (kG K) 1)), (2, .ref (ro_ad (kG K) (ro_rf μ 1 1))), (3, .int 0)]) [2, 3, 1, 0] rfl ?_
  refine lp_X0_pour_7 hK hR g1 e23 ?_
  show ro_X K 97 [] [] q22
  obtain rfl := Option.some.inj hf
  exact ro_vret hK hR dX0_pour_97 hq
theorem mt_X0_pour (l : Launch) (G : ro_G)   {μ : ro_Mem} {out : ro_Mem} (hf : fn_X0_pour μ = some out) : ro_MX l G yX0_pour cX0_pour 6 none 4 [.ref (ro_ad G 62), .ref (ro_ad G 1)] μ none out := by
  refine ro_MX.of (by decide +kernel) (Nat.le_of_ble_eq_true rfl) (fun K hG hl hq hK hR => ?_)
  subst hG
  exact be_X0_pour hK hR  hf hq
-- ===== X0_seatWet =====
theorem dX0_seatWet_0 : decode cX0_seatWet 0 = .ok (.iload_n 2, 1) := by decide +kernel
theorem dX0_seatWet_1 : decode cX0_seatWet 1 = .ok (.iconst 4, 1) := by decide +kernel
theorem dX0_seatWet_2 : decode cX0_seatWet 2 = .ok (.if_icmp .ge 15, 3) := by decide +kernel
theorem dX0_seatWet_5 : decode cX0_seatWet 5 = .ok (.aload_n 0, 1) := by decide +kernel
theorem dX0_seatWet_6 : decode cX0_seatWet 6 = .ok (.getfield 18, 3) := by decide +kernel
theorem dX0_seatWet_9 : decode cX0_seatWet 9 = .ok (.iload_n 2, 1) := by decide +kernel
theorem dX0_seatWet_10 : decode cX0_seatWet 10 = .ok (.bipush 96, 2) := by decide +kernel
theorem dX0_seatWet_12 : decode cX0_seatWet 12 = .ok (.imul, 1) := by decide +kernel
theorem dX0_seatWet_13 : decode cX0_seatWet 13 = .ok (.iload_n 1, 1) := by decide +kernel
theorem dX0_seatWet_14 : decode cX0_seatWet 14 = .ok (.iadd, 1) := by decide +kernel
theorem dX0_seatWet_15 : decode cX0_seatWet 15 = .ok (.iaload, 1) := by decide +kernel
theorem dX0_seatWet_16 : decode cX0_seatWet 16 = .ok (.ireturn, 1) := by decide +kernel
theorem dX0_seatWet_17 : decode cX0_seatWet 17 = .ok (.aload_n 0, 1) := by decide +kernel
theorem dX0_seatWet_18 : decode cX0_seatWet 18 = .ok (.getfield 18, 3) := by decide +kernel
theorem dX0_seatWet_21 : decode cX0_seatWet 21 = .ok (.iload_n 1, 1) := by decide +kernel
theorem dX0_seatWet_22 : decode cX0_seatWet 22 = .ok (.iaload, 1) := by decide +kernel
theorem dX0_seatWet_23 : decode cX0_seatWet 23 = .ok (.aload_n 0, 1) := by decide +kernel
theorem dX0_seatWet_24 : decode cX0_seatWet 24 = .ok (.getfield 18, 3) := by decide +kernel
theorem dX0_seatWet_27 : decode cX0_seatWet 27 = .ok (.bipush 96, 2) := by decide +kernel
theorem dX0_seatWet_29 : decode cX0_seatWet 29 = .ok (.iload_n 1, 1) := by decide +kernel
theorem dX0_seatWet_30 : decode cX0_seatWet 30 = .ok (.iadd, 1) := by decide +kernel
theorem dX0_seatWet_31 : decode cX0_seatWet 31 = .ok (.iaload, 1) := by decide +kernel
theorem dX0_seatWet_32 : decode cX0_seatWet 32 = .ok (.iadd, 1) := by decide +kernel
theorem dX0_seatWet_33 : decode cX0_seatWet 33 = .ok (.aload_n 0, 1) := by decide +kernel
theorem dX0_seatWet_34 : decode cX0_seatWet 34 = .ok (.getfield 18, 3) := by decide +kernel
theorem dX0_seatWet_37 : decode cX0_seatWet 37 = .ok (.sipush 192, 3) := by decide +kernel
theorem dX0_seatWet_40 : decode cX0_seatWet 40 = .ok (.iload_n 1, 1) := by decide +kernel
theorem dX0_seatWet_41 : decode cX0_seatWet 41 = .ok (.iadd, 1) := by decide +kernel
theorem dX0_seatWet_42 : decode cX0_seatWet 42 = .ok (.iaload, 1) := by decide +kernel
theorem dX0_seatWet_43 : decode cX0_seatWet 43 = .ok (.iadd, 1) := by decide +kernel
theorem dX0_seatWet_44 : decode cX0_seatWet 44 = .ok (.aload_n 0, 1) := by decide +kernel
theorem dX0_seatWet_45 : decode cX0_seatWet 45 = .ok (.getfield 18, 3) := by decide +kernel
theorem dX0_seatWet_48 : decode cX0_seatWet 48 = .ok (.sipush 288, 3) := by decide +kernel
theorem dX0_seatWet_51 : decode cX0_seatWet 51 = .ok (.iload_n 1, 1) := by decide +kernel
theorem dX0_seatWet_52 : decode cX0_seatWet 52 = .ok (.iadd, 1) := by decide +kernel
theorem dX0_seatWet_53 : decode cX0_seatWet 53 = .ok (.iaload, 1) := by decide +kernel
theorem dX0_seatWet_54 : decode cX0_seatWet 54 = .ok (.iadd, 1) := by decide +kernel
theorem dX0_seatWet_55 : decode cX0_seatWet 55 = .ok (.ireturn, 1) := by decide +kernel
def fn_X0_seatWet (v1 : Int32) (v2 : Int32) (μ : ro_Mem) : Option Int32 :=
  if 4 ≤ v2 then
  (if ro_in v1 384 then
  (if ro_in (96 + v1) 384 then
  (if ro_in (192 + v1) 384 then
  (if ro_in (288 + v1) 384 then
  (some ((((μ 65 v1.toNatClampNeg) + (μ 65 (96 + v1).toNatClampNeg)) + (μ 65 (192 + v1).toNatClampNeg)) + (μ 65 (288 + v1).toNatClampNeg))) else none) else none) else none) else none)
  else
  (if ro_in ((v2 * 96) + v1) 384 then
  (some (μ 65 ((v2 * 96) + v1).toNatClampNeg)) else none)
theorem be_X0_seatWet {K : ro_K} (hK : ro_C K RX0 cX0_seatWet 3 0) (hR : ro_R K (some .int)) {v1 : Int32} {v2 : Int32}  {μ : ro_Mem} {out : Int32} (hf : fn_X0_seatWet v1 v2 μ = some out) (hq : kQ K (some (.int out)) μ) : ro_X K 0 [(0, .ref (ro_ad (kG K) 62)), (1, .int v1), (2, .int v2)] [] μ := by
  unfold fn_X0_seatWet at hf
  refine ro_iload_n hK 2 rfl dX0_seatWet_0 rfl ?_
  refine ro_iconst (v := 4) hK dX0_seatWet_1 (by decide) ?_
  refine ro_icmp_ge hK 17 dX0_seatWet_2 (by decide) (fun c1 => ?_) (fun c1 => ?_)
  · have hf := ro_it hf c1
    refine ro_aload_n hK 0 rfl dX0_seatWet_17 rfl ?_
    refine ro_getr hK fl_X0_18 sh_62 dX0_seatWet_18 ?_
    refine ro_iload_n hK 1 rfl dX0_seatWet_21 rfl ?_
    obtain ⟨g2, hf⟩ := ro_gd hf
    refine ro_iald hK sh_65 g2 dX0_seatWet_22 ?_
    refine ro_aload_n hK 0 rfl dX0_seatWet_23 rfl ?_
    refine ro_getr hK fl_X0_18 sh_62 dX0_seatWet_24 ?_
    refine ro_bipush (v := 96) hK dX0_seatWet_27 (by decide) ?_
    refine ro_iload_n hK 1 rfl dX0_seatWet_29 rfl ?_
    refine ro_iadd hK dX0_seatWet_30 ?_
    obtain ⟨g3, hf⟩ := ro_gd hf
    refine ro_iald hK sh_65 g3 dX0_seatWet_31 ?_
    refine ro_iadd hK dX0_seatWet_32 ?_
    refine ro_aload_n hK 0 rfl dX0_seatWet_33 rfl ?_
    refine ro_getr hK fl_X0_18 sh_62 dX0_seatWet_34 ?_
    refine ro_sipush (v := 192) hK dX0_seatWet_37 (by decide) ?_
    refine ro_iload_n hK 1 rfl dX0_seatWet_40 rfl ?_
    refine ro_iadd hK dX0_seatWet_41 ?_
    obtain ⟨g4, hf⟩ := ro_gd hf
    refine ro_iald hK sh_65 g4 dX0_seatWet_42 ?_
    refine ro_iadd hK dX0_seatWet_43 ?_
    refine ro_aload_n hK 0 rfl dX0_seatWet_44 rfl ?_
    refine ro_getr hK fl_X0_18 sh_62 dX0_seatWet_45 ?_
    refine ro_sipush (v := 288) hK dX0_seatWet_48 (by decide) ?_
    refine ro_iload_n hK 1 rfl dX0_seatWet_51 rfl ?_
    refine ro_iadd hK dX0_seatWet_52 ?_
    obtain ⟨g5, hf⟩ := ro_gd hf
    refine ro_iald hK sh_65 g5 dX0_seatWet_53 ?_
    refine ro_iadd hK dX0_seatWet_54 ?_
    obtain rfl := Option.some.inj hf
    exact ro_iret hK hR dX0_seatWet_55 hq
  · have hf := ro_ie hf c1
    refine ro_aload_n hK 0 rfl dX0_seatWet_5 rfl ?_
    refine ro_getr hK fl_X0_18 sh_62 dX0_seatWet_6 ?_
    refine ro_iload_n hK 2 rfl dX0_seatWet_9 rfl ?_
    refine ro_bipush (v := 96) hK dX0_seatWet_10 (by decide) ?_
    refine ro_imul hK dX0_seatWet_12 ?_
    refine ro_iload_n hK 1 rfl dX0_seatWet_13 rfl ?_
    refine ro_iadd hK dX0_seatWet_14 ?_
    obtain ⟨g6, hf⟩ := ro_gd hf
    refine ro_iald hK sh_65 g6 dX0_seatWet_15 ?_
    obtain rfl := Option.some.inj hf
    exact ro_iret hK hR dX0_seatWet_16 hq
theorem mt_X0_seatWet (l : Launch) (G : ro_G) {v1 : Int32} {v2 : Int32}  {μ : ro_Mem} {out : Int32} (hf : fn_X0_seatWet v1 v2 μ = some out) : ro_MX l G yX0_seatWet cX0_seatWet 3 (some .int) 0 [.ref (ro_ad G 62), .int v1, .int v2] μ (some (.int out)) μ := by
  refine ro_MX.of (by decide +kernel) (Nat.le_of_ble_eq_true rfl) (fun K hG hl hq hK hR => ?_)
  subst hG
  exact be_X0_seatWet hK hR  hf hq
-- ===== X0_actWet =====
theorem dX0_actWet_0 : decode cX0_actWet 0 = .ok (.iconst 0, 1) := by decide +kernel
theorem dX0_actWet_1 : decode cX0_actWet 1 = .ok (.istore_n 2, 1) := by decide +kernel
theorem dX0_actWet_2 : decode cX0_actWet 2 = .ok (.iconst 0, 1) := by decide +kernel
theorem dX0_actWet_3 : decode cX0_actWet 3 = .ok (.istore_n 3, 1) := by decide +kernel
theorem dX0_actWet_4 : decode cX0_actWet 4 = .ok (.iload_n 3, 1) := by decide +kernel
theorem dX0_actWet_5 : decode cX0_actWet 5 = .ok (.bipush 96, 2) := by decide +kernel
theorem dX0_actWet_7 : decode cX0_actWet 7 = .ok (.if_icmp .ge 23, 3) := by decide +kernel
theorem dX0_actWet_10 : decode cX0_actWet 10 = .ok (.iload_n 2, 1) := by decide +kernel
theorem dX0_actWet_11 : decode cX0_actWet 11 = .ok (.aload_n 0, 1) := by decide +kernel
theorem dX0_actWet_12 : decode cX0_actWet 12 = .ok (.getfield 18, 3) := by decide +kernel
theorem dX0_actWet_15 : decode cX0_actWet 15 = .ok (.iload_n 1, 1) := by decide +kernel
theorem dX0_actWet_16 : decode cX0_actWet 16 = .ok (.bipush 96, 2) := by decide +kernel
theorem dX0_actWet_18 : decode cX0_actWet 18 = .ok (.imul, 1) := by decide +kernel
theorem dX0_actWet_19 : decode cX0_actWet 19 = .ok (.iload_n 3, 1) := by decide +kernel
theorem dX0_actWet_20 : decode cX0_actWet 20 = .ok (.iadd, 1) := by decide +kernel
theorem dX0_actWet_21 : decode cX0_actWet 21 = .ok (.iaload, 1) := by decide +kernel
theorem dX0_actWet_22 : decode cX0_actWet 22 = .ok (.iadd, 1) := by decide +kernel
theorem dX0_actWet_23 : decode cX0_actWet 23 = .ok (.istore_n 2, 1) := by decide +kernel
theorem dX0_actWet_24 : decode cX0_actWet 24 = .ok (.iinc 3 1, 3) := by decide +kernel
theorem dX0_actWet_27 : decode cX0_actWet 27 = .ok (.goto (-23), 3) := by decide +kernel
theorem dX0_actWet_30 : decode cX0_actWet 30 = .ok (.iload_n 2, 1) := by decide +kernel
theorem dX0_actWet_31 : decode cX0_actWet 31 = .ok (.ireturn, 1) := by decide +kernel
def ok_X0_actWet_4 (K : ro_K) (v1 : Int32) (μ : ro_Mem) : Int32 → Prop := fun e => ro_X K 30 [(2, .int e)] [] μ
def fb_X0_actWet_4 (v1 : Int32) (μ : ro_Mem) (rec : (Int32 × Int32) → Option Int32) (v2 : Int32) (v3 : Int32) : Option Int32 :=
  if 96 ≤ v3 then
  (some v2)
  else
  (if ro_in ((v1 * 96) + v3) 384 then
  (ro_lt (v2 + (μ 65 ((v1 * 96) + v3).toNatClampNeg)) fun z3 =>
  rec (z3, v3 + 1)) else none)
theorem bb_X0_actWet_4 {K : ro_K} (hK : ro_C K RX0 cX0_actWet 4 0) (hR : ro_R K (some .int)) {v1 : Int32}  {μ : ro_Mem} {rec : (Int32 × Int32) → Option Int32} {v2 : Int32} {v3 : Int32} {q : Int32} (hrec : ∀ (s : Int32 × Int32) (q : Int32), rec s = some q → ok_X0_actWet_4 K v1 μ q → ro_X K 4 [(0, .ref (ro_ad (kG K) 62)), (1, .int v1), (2, .int s.1), (3, .int s.2)] [] μ) (hf : fb_X0_actWet_4 v1 μ rec v2 v3 = some q) (hq : ok_X0_actWet_4 K v1 μ q) : ro_X K 4 [(0, .ref (ro_ad (kG K) 62)), (1, .int v1), (2, .int v2), (3, .int v3)] [] μ := by
  unfold fb_X0_actWet_4 at hf
  refine ro_iload_n hK 3 rfl dX0_actWet_4 rfl ?_
  refine ro_bipush (v := 96) hK dX0_actWet_5 (by decide) ?_
  refine ro_icmp_ge hK 30 dX0_actWet_7 (by decide) (fun c1 => ?_) (fun c1 => ?_)
  · have hf := ro_it hf c1
    refine ro_sub (L' := [(2, .int v2)]) [2] rfl ?_
    obtain rfl := Option.some.inj hf
    exact hq
  · have hf := ro_ie hf c1
    refine ro_iload_n hK 2 rfl dX0_actWet_10 rfl ?_
    refine ro_aload_n hK 0 rfl dX0_actWet_11 rfl ?_
    refine ro_getr hK fl_X0_18 sh_62 dX0_actWet_12 ?_
    refine ro_iload_n hK 1 rfl dX0_actWet_15 rfl ?_
    refine ro_bipush (v := 96) hK dX0_actWet_16 (by decide) ?_
    refine ro_imul hK dX0_actWet_18 ?_
    refine ro_iload_n hK 3 rfl dX0_actWet_19 rfl ?_
    refine ro_iadd hK dX0_actWet_20 ?_
    obtain ⟨g2, hf⟩ := ro_gd hf
    refine ro_iald hK sh_65 g2 dX0_actWet_21 ?_
    refine ro_iadd hK dX0_actWet_22 ?_
    obtain ⟨z3, e4, hf⟩ := ro_ld hf
    refine ro_iv e4 ?_
    refine ro_istore_n (L' := [(2, .int z3), (0, .ref (ro_ad (kG K) 62)), (1, .int v1), (3, .int v3)]) hK dX0_actWet_23 rfl (by decide) rfl ?_
    refine ro_iinc (v := v3 + 1) (L' := [(3, .int (v3 + 1)), (2, .int z3), (0, .ref (ro_ad (kG K) 62)), (1, .int v1)]) hK 3 rfl dX0_actWet_24 rfl (by decide) rfl ?_
    refine ro_goto hK 4 dX0_actWet_27 (by decide) ?_
    refine ro_sub (L' := [(0, .ref (ro_ad (kG K) 62)), (1, .int v1), (2, .int z3), (3, .int (v3 + 1))]) [2, 3, 1, 0] rfl ?_
    exact hrec (z3, v3 + 1) _ hf hq
def fl_X0_actWet_4 (v1 : Int32) (μ : ro_Mem) : (Int32 × Int32) → Option Int32 :=
  ro_loop (fun rec s => fb_X0_actWet_4 v1 μ rec s.1 s.2) ro_FU
theorem lp_X0_actWet_4 {K : ro_K} (hK : ro_C K RX0 cX0_actWet 4 0) (hR : ro_R K (some .int)) {v1 : Int32}  {μ : ro_Mem} {s : Int32 × Int32} {q : Int32} (hf : fl_X0_actWet_4 v1 μ s = some q) (hq : ok_X0_actWet_4 K v1 μ q) : ro_X K 4 [(0, .ref (ro_ad (kG K) 62)), (1, .int v1), (2, .int s.1), (3, .int s.2)] [] μ :=
  ro_loopX (b := fun rec s => fb_X0_actWet_4 v1 μ rec s.1 s.2) (X := fun s => ro_X K 4 [(0, .ref (ro_ad (kG K) 62)), (1, .int v1), (2, .int s.1), (3, .int s.2)] [] μ) (OK := ok_X0_actWet_4 K v1 μ) (fun rec s q hrec hb ho => bb_X0_actWet_4 hK hR  hrec hb ho) ro_FU s q hf hq
def fn_X0_actWet (v1 : Int32) (μ : ro_Mem) : Option Int32 :=
  (fl_X0_actWet_4 v1 μ (0, 0)).bind fun q5 =>
  some q5
theorem be_X0_actWet {K : ro_K} (hK : ro_C K RX0 cX0_actWet 4 0) (hR : ro_R K (some .int)) {v1 : Int32}  {μ : ro_Mem} {out : Int32} (hf : fn_X0_actWet v1 μ = some out) (hq : kQ K (some (.int out)) μ) : ro_X K 0 [(0, .ref (ro_ad (kG K) 62)), (1, .int v1)] [] μ := by
  unfold fn_X0_actWet at hf
  refine ro_iconst (v := 0) hK dX0_actWet_0 (by decide) ?_
  refine ro_istore_n (L' := [(2, .int 0), (0, .ref (ro_ad (kG K) 62)), (1, .int v1)]) hK dX0_actWet_1 rfl (by decide) rfl ?_
  refine ro_iconst (v := 0) hK dX0_actWet_2 (by decide) ?_
  refine ro_istore_n (L' := [(3, .int 0), (2, .int 0), (0, .ref (ro_ad (kG K) 62)), (1, .int v1)]) hK dX0_actWet_3 rfl (by decide) rfl ?_
  obtain ⟨q5, e6, hf⟩ := ro_bd hf
  refine ro_sub (L' := [(0, .ref (ro_ad (kG K) 62)), (1, .int v1), (2, .int 0), (3, .int 0)]) [2, 3, 1, 0] rfl ?_
  refine lp_X0_actWet_4 hK hR  e6 ?_
  show ro_X K 30 [(2, .int q5)] [] μ
  refine ro_iload_n hK 0 rfl dX0_actWet_30 rfl ?_
  obtain rfl := Option.some.inj hf
  exact ro_iret hK hR dX0_actWet_31 hq
theorem mt_X0_actWet (l : Launch) (G : ro_G) {v1 : Int32}  {μ : ro_Mem} {out : Int32} (hf : fn_X0_actWet v1 μ = some out) : ro_MX l G yX0_actWet cX0_actWet 4 (some .int) 0 [.ref (ro_ad G 62), .int v1] μ (some (.int out)) μ := by
  refine ro_MX.of (by decide +kernel) (Nat.le_of_ble_eq_true rfl) (fun K hG hl hq hK hR => ?_)
  subst hG
  exact be_X0_actWet hK hR  hf hq
-- ===== X0_voiceWet =====
theorem dX0_voiceWet_0 : decode cX0_voiceWet 0 = .ok (.iconst 0, 1) := by decide +kernel
theorem dX0_voiceWet_1 : decode cX0_voiceWet 1 = .ok (.istore_n 3, 1) := by decide +kernel
theorem dX0_voiceWet_2 : decode cX0_voiceWet 2 = .ok (.iconst 0, 1) := by decide +kernel
theorem dX0_voiceWet_3 : decode cX0_voiceWet 3 = .ok (.istore 4, 2) := by decide +kernel
theorem dX0_voiceWet_5 : decode cX0_voiceWet 5 = .ok (.iload 4, 2) := by decide +kernel
theorem dX0_voiceWet_7 : decode cX0_voiceWet 7 = .ok (.aload_n 2, 1) := by decide +kernel
theorem dX0_voiceWet_8 : decode cX0_voiceWet 8 = .ok (.getfield 61, 3) := by decide +kernel
theorem dX0_voiceWet_11 : decode cX0_voiceWet 11 = .ok (.if_icmp .ge 34, 3) := by decide +kernel
theorem dX0_voiceWet_14 : decode cX0_voiceWet 14 = .ok (.iload_n 3, 1) := by decide +kernel
theorem dX0_voiceWet_15 : decode cX0_voiceWet 15 = .ok (.aload_n 2, 1) := by decide +kernel
theorem dX0_voiceWet_16 : decode cX0_voiceWet 16 = .ok (.getfield 98, 3) := by decide +kernel
theorem dX0_voiceWet_19 : decode cX0_voiceWet 19 = .ok (.iload 4, 2) := by decide +kernel
theorem dX0_voiceWet_21 : decode cX0_voiceWet 21 = .ok (.iaload, 1) := by decide +kernel
theorem dX0_voiceWet_22 : decode cX0_voiceWet 22 = .ok (.iload_n 1, 1) := by decide +kernel
theorem dX0_voiceWet_23 : decode cX0_voiceWet 23 = .ok (.if_icmp .ne 13, 3) := by decide +kernel
theorem dX0_voiceWet_26 : decode cX0_voiceWet 26 = .ok (.aload_n 0, 1) := by decide +kernel
theorem dX0_voiceWet_27 : decode cX0_voiceWet 27 = .ok (.getfield 21, 3) := by decide +kernel
theorem dX0_voiceWet_30 : decode cX0_voiceWet 30 = .ok (.iload 4, 2) := by decide +kernel
theorem dX0_voiceWet_32 : decode cX0_voiceWet 32 = .ok (.iaload, 1) := by decide +kernel
theorem dX0_voiceWet_33 : decode cX0_voiceWet 33 = .ok (.goto 4, 3) := by decide +kernel
theorem dX0_voiceWet_36 : decode cX0_voiceWet 36 = .ok (.iconst 0, 1) := by decide +kernel
theorem dX0_voiceWet_37 : decode cX0_voiceWet 37 = .ok (.iadd, 1) := by decide +kernel
theorem dX0_voiceWet_38 : decode cX0_voiceWet 38 = .ok (.istore_n 3, 1) := by decide +kernel
theorem dX0_voiceWet_39 : decode cX0_voiceWet 39 = .ok (.iinc 4 1, 3) := by decide +kernel
theorem dX0_voiceWet_42 : decode cX0_voiceWet 42 = .ok (.goto (-37), 3) := by decide +kernel
theorem dX0_voiceWet_45 : decode cX0_voiceWet 45 = .ok (.iload_n 3, 1) := by decide +kernel
theorem dX0_voiceWet_46 : decode cX0_voiceWet 46 = .ok (.ireturn, 1) := by decide +kernel
def ok_X0_voiceWet_5 (K : ro_K) (v1 : Int32) (o2 : Nat) (μ : ro_Mem) : Int32 → Prop := fun e => ro_X K 45 [(3, .int e)] [] μ
def fb_X0_voiceWet_5 (v1 : Int32) (o2 : Nat) (μ : ro_Mem) (rec : (Int32 × Int32) → Option Int32) (v3 : Int32) (v4 : Int32) : Option Int32 :=
  if (μ o2 5) ≤ v4 then
  (some v3)
  else
  (if ro_in v4 32 then
  (if (μ (o2 + 1) v4.toNatClampNeg) = v1 then
  (ro_lt (v3 + (μ 66 v4.toNatClampNeg)) fun z6 =>
  rec (z6, v4 + 1))
  else
  (ro_lt (v3 + 0) fun z4 =>
  rec (z4, v4 + 1))) else none)
theorem bb_X0_voiceWet_5 {K : ro_K} (hK : ro_C K RX0 cX0_voiceWet 5 0) (hR : ro_R K (some .int)) {v1 : Int32} {o2 : Nat} (h2 : ro_sh o2 = (0, 5)) {μ : ro_Mem} {rec : (Int32 × Int32) → Option Int32} {v3 : Int32} {v4 : Int32} {q : Int32} (hrec : ∀ (s : Int32 × Int32) (q : Int32), rec s = some q → ok_X0_voiceWet_5 K v1 o2 μ q → ro_X K 5 [(0, .ref (ro_ad (kG K) 62)), (1, .int v1), (2, .ref (ro_ad (kG K) o2)), (3, .int s.1), (4, .int s.2)] [] μ) (hf : fb_X0_voiceWet_5 v1 o2 μ rec v3 v4 = some q) (hq : ok_X0_voiceWet_5 K v1 o2 μ q) : ro_X K 5 [(0, .ref (ro_ad (kG K) 62)), (1, .int v1), (2, .ref (ro_ad (kG K) o2)), (3, .int v3), (4, .int v4)] [] μ := by
  unfold fb_X0_voiceWet_5 at hf
  refine ro_iload hK 4 rfl dX0_voiceWet_5 ?_
  refine ro_aload_n hK 2 rfl dX0_voiceWet_7 rfl ?_
  refine ro_geti hK fl_X0_61 h2 dX0_voiceWet_8 ?_
  refine ro_icmp_ge hK 45 dX0_voiceWet_11 (by decide) (fun c1 => ?_) (fun c1 => ?_)
  · have hf := ro_it hf c1
    refine ro_sub (L' := [(3, .int v3)]) [3] rfl ?_
    obtain rfl := Option.some.inj hf
    exact hq
  · have hf := ro_ie hf c1
    refine ro_iload_n hK 3 rfl dX0_voiceWet_14 rfl ?_
    refine ro_aload_n hK 2 rfl dX0_voiceWet_15 rfl ?_
    refine ro_getr hK fl_X0_98 h2 dX0_voiceWet_16 ?_
    refine ro_iload hK 4 rfl dX0_voiceWet_19 ?_
    obtain ⟨g2, hf⟩ := ro_gd hf
    refine ro_iald hK (so_5_1 h2) g2 dX0_voiceWet_21 ?_
    refine ro_iload_n hK 1 rfl dX0_voiceWet_22 rfl ?_
    refine ro_icmp_ne hK 36 dX0_voiceWet_23 (by decide) (fun c3 => ?_) (fun c3 => ?_)
    · have hf := ro_ie hf c3
      refine ro_iconst (v := 0) hK dX0_voiceWet_36 (by decide) ?_
      refine ro_iadd hK dX0_voiceWet_37 ?_
      obtain ⟨z4, e5, hf⟩ := ro_ld hf
      refine ro_iv e5 ?_
      refine ro_istore_n (L' := [(3, .int z4), (0, .ref (ro_ad (kG K) 62)), (1, .int v1), (2, .ref (ro_ad (kG K) o2)), (4, .int v4)]) hK dX0_voiceWet_38 rfl (by decide) rfl ?_
      refine ro_iinc (v := v4 + 1) (L' := [(4, .int (v4 + 1)), (3, .int z4), (0, .ref (ro_ad (kG K) 62)), (1, .int v1), (2, .ref (ro_ad (kG K) o2))]) hK 4 rfl dX0_voiceWet_39 rfl (by decide) rfl ?_
      refine ro_goto hK 5 dX0_voiceWet_42 (by decide) ?_
      refine ro_sub (L' := [(0, .ref (ro_ad (kG K) 62)), (1, .int v1), (2, .ref (ro_ad (kG K) o2)), (3, .int z4), (4, .int (v4 + 1))]) [2, 3, 4, 1, 0] rfl ?_
      exact hrec (z4, v4 + 1) _ hf hq
    · have hf := ro_it hf c3
      refine ro_aload_n hK 0 rfl dX0_voiceWet_26 rfl ?_
      refine ro_getr hK fl_X0_21 sh_62 dX0_voiceWet_27 ?_
      refine ro_iload hK 4 rfl dX0_voiceWet_30 ?_
      refine ro_iald hK sh_66 g2 dX0_voiceWet_32 ?_
      refine ro_goto hK 37 dX0_voiceWet_33 (by decide) ?_
      refine ro_iadd hK dX0_voiceWet_37 ?_
      obtain ⟨z6, e7, hf⟩ := ro_ld hf
      refine ro_iv e7 ?_
      refine ro_istore_n (L' := [(3, .int z6), (0, .ref (ro_ad (kG K) 62)), (1, .int v1), (2, .ref (ro_ad (kG K) o2)), (4, .int v4)]) hK dX0_voiceWet_38 rfl (by decide) rfl ?_
      refine ro_iinc (v := v4 + 1) (L' := [(4, .int (v4 + 1)), (3, .int z6), (0, .ref (ro_ad (kG K) 62)), (1, .int v1), (2, .ref (ro_ad (kG K) o2))]) hK 4 rfl dX0_voiceWet_39 rfl (by decide) rfl ?_
      refine ro_goto hK 5 dX0_voiceWet_42 (by decide) ?_
      refine ro_sub (L' := [(0, .ref (ro_ad (kG K) 62)), (1, .int v1), (2, .ref (ro_ad (kG K) o2)), (3, .int z6), (4, .int (v4 + 1))]) [2, 3, 4, 1, 0] rfl ?_
      exact hrec (z6, v4 + 1) _ hf hq
def fl_X0_voiceWet_5 (v1 : Int32) (o2 : Nat) (μ : ro_Mem) : (Int32 × Int32) → Option Int32 :=
  ro_loop (fun rec s => fb_X0_voiceWet_5 v1 o2 μ rec s.1 s.2) ro_FU
theorem lp_X0_voiceWet_5 {K : ro_K} (hK : ro_C K RX0 cX0_voiceWet 5 0) (hR : ro_R K (some .int)) {v1 : Int32} {o2 : Nat} (h2 : ro_sh o2 = (0, 5)) {μ : ro_Mem} {s : Int32 × Int32} {q : Int32} (hf : fl_X0_voiceWet_5 v1 o2 μ s = some q) (hq : ok_X0_voiceWet_5 K v1 o2 μ q) : ro_X K 5 [(0, .ref (ro_ad (kG K) 62)), (1, .int v1), (2, .ref (ro_ad (kG K) o2)), (3, .int s.1), (4, .int s.2)] [] μ :=
  ro_loopX (b := fun rec s => fb_X0_voiceWet_5 v1 o2 μ rec s.1 s.2) (X := fun s => ro_X K 5 [(0, .ref (ro_ad (kG K) 62)), (1, .int v1), (2, .ref (ro_ad (kG K) o2)), (3, .int s.1), (4, .int s.2)] [] μ) (OK := ok_X0_voiceWet_5 K v1 o2 μ) (fun rec s q hrec hb ho => bb_X0_voiceWet_5 hK hR h2 hrec hb ho) ro_FU s q hf hq
def fn_X0_voiceWet (v1 : Int32) (o2 : Nat) (μ : ro_Mem) : Option Int32 :=
  (fl_X0_voiceWet_5 v1 o2 μ (0, 0)).bind fun q8 =>
  some q8
theorem be_X0_voiceWet {K : ro_K} (hK : ro_C K RX0 cX0_voiceWet 5 0) (hR : ro_R K (some .int)) {v1 : Int32} {o2 : Nat} (h2 : ro_sh o2 = (0, 5)) {μ : ro_Mem} {out : Int32} (hf : fn_X0_voiceWet v1 o2 μ = some out) (hq : kQ K (some (.int out)) μ) : ro_X K 0 [(0, .ref (ro_ad (kG K) 62)), (1, .int v1), (2, .ref (ro_ad (kG K) o2))] [] μ := by
  unfold fn_X0_voiceWet at hf
  refine ro_iconst (v := 0) hK dX0_voiceWet_0 (by decide) ?_
  refine ro_istore_n (L' := [(3, .int 0), (0, .ref (ro_ad (kG K) 62)), (1, .int v1), (2, .ref (ro_ad (kG K) o2))]) hK dX0_voiceWet_1 rfl (by decide) rfl ?_
  refine ro_iconst (v := 0) hK dX0_voiceWet_2 (by decide) ?_
  refine ro_istore (L' := [(4, .int 0), (3, .int 0), (0, .ref (ro_ad (kG K) 62)), (1, .int v1), (2, .ref (ro_ad (kG K) o2))]) hK dX0_voiceWet_3 (by decide) rfl ?_
  obtain ⟨q8, e9, hf⟩ := ro_bd hf
  refine ro_sub (L' := [(0, .ref (ro_ad (kG K) 62)), (1, .int v1), (2, .ref (ro_ad (kG K) o2)), (3, .int 0), (4, .int 0)]) [2, 3, 4, 1, 0] rfl ?_
  refine lp_X0_voiceWet_5 hK hR h2 e9 ?_
  show ro_X K 45 [(3, .int q8)] [] μ
  refine ro_iload_n hK 0 rfl dX0_voiceWet_45 rfl ?_
  obtain rfl := Option.some.inj hf
  exact ro_iret hK hR dX0_voiceWet_46 hq
theorem mt_X0_voiceWet (l : Launch) (G : ro_G) {v1 : Int32} {o2 : Nat} (h2 : ro_sh o2 = (0, 5)) {μ : ro_Mem} {out : Int32} (hf : fn_X0_voiceWet v1 o2 μ = some out) : ro_MX l G yX0_voiceWet cX0_voiceWet 5 (some .int) 0 [.ref (ro_ad G 62), .int v1, .ref (ro_ad G o2)] μ (some (.int out)) μ := by
  refine ro_MX.of (by decide +kernel) (Nat.le_of_ble_eq_true rfl) (fun K hG hl hq hK hR => ?_)
  subst hG
  exact be_X0_voiceWet hK hR h2 hf hq
-- ===== X0_houseWet =====
theorem dX0_houseWet_0 : decode cX0_houseWet 0 = .ok (.iconst 0, 1) := by decide +kernel
theorem dX0_houseWet_1 : decode cX0_houseWet 1 = .ok (.istore_n 1, 1) := by decide +kernel
theorem dX0_houseWet_2 : decode cX0_houseWet 2 = .ok (.iconst 0, 1) := by decide +kernel
theorem dX0_houseWet_3 : decode cX0_houseWet 3 = .ok (.istore_n 2, 1) := by decide +kernel
theorem dX0_houseWet_4 : decode cX0_houseWet 4 = .ok (.iload_n 2, 1) := by decide +kernel
theorem dX0_houseWet_5 : decode cX0_houseWet 5 = .ok (.bipush 16, 2) := by decide +kernel
theorem dX0_houseWet_7 : decode cX0_houseWet 7 = .ok (.if_icmp .ge 18, 3) := by decide +kernel
theorem dX0_houseWet_10 : decode cX0_houseWet 10 = .ok (.iload_n 1, 1) := by decide +kernel
theorem dX0_houseWet_11 : decode cX0_houseWet 11 = .ok (.aload_n 0, 1) := by decide +kernel
theorem dX0_houseWet_12 : decode cX0_houseWet 12 = .ok (.getfield 24, 3) := by decide +kernel
theorem dX0_houseWet_15 : decode cX0_houseWet 15 = .ok (.iload_n 2, 1) := by decide +kernel
theorem dX0_houseWet_16 : decode cX0_houseWet 16 = .ok (.iaload, 1) := by decide +kernel
theorem dX0_houseWet_17 : decode cX0_houseWet 17 = .ok (.iadd, 1) := by decide +kernel
theorem dX0_houseWet_18 : decode cX0_houseWet 18 = .ok (.istore_n 1, 1) := by decide +kernel
theorem dX0_houseWet_19 : decode cX0_houseWet 19 = .ok (.iinc 2 1, 3) := by decide +kernel
theorem dX0_houseWet_22 : decode cX0_houseWet 22 = .ok (.goto (-18), 3) := by decide +kernel
theorem dX0_houseWet_25 : decode cX0_houseWet 25 = .ok (.iload_n 1, 1) := by decide +kernel
theorem dX0_houseWet_26 : decode cX0_houseWet 26 = .ok (.ireturn, 1) := by decide +kernel
def ok_X0_houseWet_4 (K : ro_K)  (μ : ro_Mem) : Int32 → Prop := fun e => ro_X K 25 [(1, .int e)] [] μ
def fb_X0_houseWet_4 (μ : ro_Mem) (rec : (Int32 × Int32) → Option Int32) (v1 : Int32) (v2 : Int32) : Option Int32 :=
  if 16 ≤ v2 then
  (some v1)
  else
  (if ro_in v2 16 then
  (ro_lt (v1 + (μ 67 v2.toNatClampNeg)) fun z3 =>
  rec (z3, v2 + 1)) else none)
theorem bb_X0_houseWet_4 {K : ro_K} (hK : ro_C K RX0 cX0_houseWet 3 0) (hR : ro_R K (some .int))   {μ : ro_Mem} {rec : (Int32 × Int32) → Option Int32} {v1 : Int32} {v2 : Int32} {q : Int32} (hrec : ∀ (s : Int32 × Int32) (q : Int32), rec s = some q → ok_X0_houseWet_4 K μ q → ro_X K 4 [(0, .ref (ro_ad (kG K) 62)), (1, .int s.1), (2, .int s.2)] [] μ) (hf : fb_X0_houseWet_4 μ rec v1 v2 = some q) (hq : ok_X0_houseWet_4 K μ q) : ro_X K 4 [(0, .ref (ro_ad (kG K) 62)), (1, .int v1), (2, .int v2)] [] μ := by
  unfold fb_X0_houseWet_4 at hf
  refine ro_iload_n hK 2 rfl dX0_houseWet_4 rfl ?_
  refine ro_bipush (v := 16) hK dX0_houseWet_5 (by decide) ?_
  refine ro_icmp_ge hK 25 dX0_houseWet_7 (by decide) (fun c1 => ?_) (fun c1 => ?_)
  · have hf := ro_it hf c1
    refine ro_sub (L' := [(1, .int v1)]) [1] rfl ?_
    obtain rfl := Option.some.inj hf
    exact hq
  · have hf := ro_ie hf c1
    refine ro_iload_n hK 1 rfl dX0_houseWet_10 rfl ?_
    refine ro_aload_n hK 0 rfl dX0_houseWet_11 rfl ?_
    refine ro_getr hK fl_X0_24 sh_62 dX0_houseWet_12 ?_
    refine ro_iload_n hK 2 rfl dX0_houseWet_15 rfl ?_
    obtain ⟨g2, hf⟩ := ro_gd hf
    refine ro_iald hK sh_67 g2 dX0_houseWet_16 ?_
    refine ro_iadd hK dX0_houseWet_17 ?_
    obtain ⟨z3, e4, hf⟩ := ro_ld hf
    refine ro_iv e4 ?_
    refine ro_istore_n (L' := [(1, .int z3), (0, .ref (ro_ad (kG K) 62)), (2, .int v2)]) hK dX0_houseWet_18 rfl (by decide) rfl ?_
    refine ro_iinc (v := v2 + 1) (L' := [(2, .int (v2 + 1)), (1, .int z3), (0, .ref (ro_ad (kG K) 62))]) hK 2 rfl dX0_houseWet_19 rfl (by decide) rfl ?_
    refine ro_goto hK 4 dX0_houseWet_22 (by decide) ?_
    refine ro_sub (L' := [(0, .ref (ro_ad (kG K) 62)), (1, .int z3), (2, .int (v2 + 1))]) [2, 1, 0] rfl ?_
    exact hrec (z3, v2 + 1) _ hf hq
def fl_X0_houseWet_4 (μ : ro_Mem) : (Int32 × Int32) → Option Int32 :=
  ro_loop (fun rec s => fb_X0_houseWet_4 μ rec s.1 s.2) ro_FU
theorem lp_X0_houseWet_4 {K : ro_K} (hK : ro_C K RX0 cX0_houseWet 3 0) (hR : ro_R K (some .int))   {μ : ro_Mem} {s : Int32 × Int32} {q : Int32} (hf : fl_X0_houseWet_4 μ s = some q) (hq : ok_X0_houseWet_4 K μ q) : ro_X K 4 [(0, .ref (ro_ad (kG K) 62)), (1, .int s.1), (2, .int s.2)] [] μ :=
  ro_loopX (b := fun rec s => fb_X0_houseWet_4 μ rec s.1 s.2) (X := fun s => ro_X K 4 [(0, .ref (ro_ad (kG K) 62)), (1, .int s.1), (2, .int s.2)] [] μ) (OK := ok_X0_houseWet_4 K μ) (fun rec s q hrec hb ho => bb_X0_houseWet_4 hK hR  hrec hb ho) ro_FU s q hf hq
def fn_X0_houseWet (μ : ro_Mem) : Option Int32 :=
  (fl_X0_houseWet_4 μ (0, 0)).bind fun q5 =>
  some q5
theorem be_X0_houseWet {K : ro_K} (hK : ro_C K RX0 cX0_houseWet 3 0) (hR : ro_R K (some .int))   {μ : ro_Mem} {out : Int32} (hf : fn_X0_houseWet μ = some out) (hq : kQ K (some (.int out)) μ) : ro_X K 0 [(0, .ref (ro_ad (kG K) 62))] [] μ := by
  unfold fn_X0_houseWet at hf
  refine ro_iconst (v := 0) hK dX0_houseWet_0 (by decide) ?_
  refine ro_istore_n (L' := [(1, .int 0), (0, .ref (ro_ad (kG K) 62))]) hK dX0_houseWet_1 rfl (by decide) rfl ?_
  refine ro_iconst (v := 0) hK dX0_houseWet_2 (by decide) ?_
  refine ro_istore_n (L' := [(2, .int 0), (1, .int 0), (0, .ref (ro_ad (kG K) 62))]) hK dX0_houseWet_3 rfl (by decide) rfl ?_
  obtain ⟨q5, e6, hf⟩ := ro_bd hf
  refine ro_sub (L' := [(0, .ref (ro_ad (kG K) 62)), (1, .int 0), (2, .int 0)]) [2, 1, 0] rfl ?_
  refine lp_X0_houseWet_4 hK hR  e6 ?_
  show ro_X K 25 [(1, .int q5)] [] μ
  refine ro_iload_n hK 0 rfl dX0_houseWet_25 rfl ?_
  obtain rfl := Option.some.inj hf
  exact ro_iret hK hR dX0_houseWet_26 hq
theorem mt_X0_houseWet (l : Launch) (G : ro_G)   {μ : ro_Mem} {out : Int32} (hf : fn_X0_houseWet μ = some out) : ro_MX l G yX0_houseWet cX0_houseWet 3 (some .int) 0 [.ref (ro_ad G 62)] μ (some (.int out)) μ := by
  refine ro_MX.of (by decide +kernel) (Nat.le_of_ble_eq_true rfl) (fun K hG hl hq hK hR => ?_)
  subst hG
  exact be_X0_houseWet hK hR  hf hq
-- ===== X1_share =====
theorem dX1_share_0 : decode cX1_share 0 = .ok (.aload_n 0, 1) := by decide +kernel
theorem dX1_share_1 : decode cX1_share 1 = .ok (.getfield 9, 3) := by decide +kernel
theorem dX1_share_4 : decode cX1_share 4 = .ok (.iload_n 1, 1) := by decide +kernel
theorem dX1_share_5 : decode cX1_share 5 = .ok (.baload, 1) := by decide +kernel
theorem dX1_share_6 : decode cX1_share 6 = .ok (.ifCond .ne 14, 3) := by decide +kernel
theorem dX1_share_9 : decode cX1_share 9 = .ok (.iload_n 1, 1) := by decide +kernel
theorem dX1_share_10 : decode cX1_share 10 = .ok (.iload_n 2, 1) := by decide +kernel
theorem dX1_share_11 : decode cX1_share 11 = .ok (.if_icmp .ne 7, 3) := by decide +kernel
theorem dX1_share_14 : decode cX1_share 14 = .ok (.iload_n 3, 1) := by decide +kernel
theorem dX1_share_15 : decode cX1_share 15 = .ok (.goto 4, 3) := by decide +kernel
theorem dX1_share_18 : decode cX1_share 18 = .ok (.iconst 0, 1) := by decide +kernel
theorem dX1_share_19 : decode cX1_share 19 = .ok (.ireturn, 1) := by decide +kernel
theorem dX1_share_20 : decode cX1_share 20 = .ok (.iload_n 1, 1) := by decide +kernel
theorem dX1_share_21 : decode cX1_share 21 = .ok (.iload_n 2, 1) := by decide +kernel
theorem dX1_share_22 : decode cX1_share 22 = .ok (.isub, 1) := by decide +kernel
theorem dX1_share_23 : decode cX1_share 23 = .ok (.invokestatic 80, 3) := by decide +kernel
theorem dX1_share_26 : decode cX1_share 26 = .ok (.iconst 1, 1) := by decide +kernel
theorem dX1_share_27 : decode cX1_share 27 = .ok (.if_icmp .ne 18, 3) := by decide +kernel
theorem dX1_share_30 : decode cX1_share 30 = .ok (.iload_n 1, 1) := by decide +kernel
theorem dX1_share_31 : decode cX1_share 31 = .ok (.bipush 12, 2) := by decide +kernel
theorem dX1_share_33 : decode cX1_share 33 = .ok (.idiv, 1) := by decide +kernel
theorem dX1_share_34 : decode cX1_share 34 = .ok (.iload_n 2, 1) := by decide +kernel
theorem dX1_share_35 : decode cX1_share 35 = .ok (.bipush 12, 2) := by decide +kernel
theorem dX1_share_37 : decode cX1_share 37 = .ok (.idiv, 1) := by decide +kernel
theorem dX1_share_38 : decode cX1_share 38 = .ok (.if_icmp .ne 7, 3) := by decide +kernel
theorem dX1_share_41 : decode cX1_share 41 = .ok (.iconst 1, 1) := by decide +kernel
theorem dX1_share_42 : decode cX1_share 42 = .ok (.goto 4, 3) := by decide +kernel
theorem dX1_share_45 : decode cX1_share 45 = .ok (.iconst 0, 1) := by decide +kernel
theorem dX1_share_46 : decode cX1_share 46 = .ok (.istore 4, 2) := by decide +kernel
theorem dX1_share_48 : decode cX1_share 48 = .ok (.iload 4, 2) := by decide +kernel
theorem dX1_share_50 : decode cX1_share 50 = .ok (.ifCond .eq 9, 3) := by decide +kernel
theorem dX1_share_53 : decode cX1_share 53 = .ok (.iload_n 3, 1) := by decide +kernel
theorem dX1_share_54 : decode cX1_share 54 = .ok (.iconst 3, 1) := by decide +kernel
theorem dX1_share_55 : decode cX1_share 55 = .ok (.idiv, 1) := by decide +kernel
theorem dX1_share_56 : decode cX1_share 56 = .ok (.goto 4, 3) := by decide +kernel
theorem dX1_share_59 : decode cX1_share 59 = .ok (.iconst 0, 1) := by decide +kernel
theorem dX1_share_60 : decode cX1_share 60 = .ok (.ireturn, 1) := by decide +kernel
def fj_X1_share_46 (v3 : Int32) (t0 : Int32) (μ : ro_Mem) : Option Int32 :=
  if t0 = 0 then
  (some 0)
  else
  (some (v3 / 3))
theorem bj_X1_share_46 {K : ro_K} (hK : ro_C K RX1 cX1_share 5 1) (hR : ro_R K (some .int)) {v3 : Int32} {t0 : Int32}   {μ : ro_Mem}  {out : Int32} (hf : fj_X1_share_46 v3 t0 μ = some out) (hq : kQ K (some (.int out)) μ) : ro_X K 46 [(3, .int v3)] [.int t0] μ := by
  unfold fj_X1_share_46 at hf
  refine ro_istore (L' := [(4, .int t0), (3, .int v3)]) hK dX1_share_46 (by decide) rfl ?_
  refine ro_iload hK 0 rfl dX1_share_48 ?_
  refine ro_if_eq hK 59 dX1_share_50 (by decide) (fun c4 => ?_) (fun c4 => ?_)
  · have hf := ro_it hf c4
    refine ro_iconst (v := 0) hK dX1_share_59 (by decide) ?_
    obtain rfl := Option.some.inj hf
    exact ro_iret hK hR dX1_share_60 hq
  · have hf := ro_ie hf c4
    refine ro_iload_n hK 1 rfl dX1_share_53 rfl ?_
    refine ro_iconst (v := 3) hK dX1_share_54 (by decide) ?_
    refine ro_idiv hK dX1_share_55 (by decide) ?_
    refine ro_goto hK 60 dX1_share_56 (by decide) ?_
    obtain rfl := Option.some.inj hf
    exact ro_iret hK hR dX1_share_60 hq
def fj_X1_share_45 (v3 : Int32) (μ : ro_Mem) : Option Int32 :=
  fj_X1_share_46 v3 0 μ
theorem bj_X1_share_45 {K : ro_K} (hK : ro_C K RX1 cX1_share 5 1) (hR : ro_R K (some .int)) {v3 : Int32}   {μ : ro_Mem}  {out : Int32} (hf : fj_X1_share_45 v3 μ = some out) (hq : kQ K (some (.int out)) μ) : ro_X K 45 [(3, .int v3)] [] μ := by
  unfold fj_X1_share_45 at hf
  refine ro_iconst (v := 0) hK dX1_share_45 (by decide) ?_
  exact bj_X1_share_46 hK hR  hf hq
def fn_X1_share (o0 : Nat) (v1 : Int32) (v2 : Int32) (v3 : Int32) (μ : ro_Mem) : Option Int32 :=
  if ro_in v1 96 then
  (if (μ (o0 + 1) v1.toNatClampNeg) = 0 then
  (if v1 = v2 then
  (some v3)
  else
  (some 0))
  else
  (if (ro_ab (v1 - v2)) = 1 then
  (if (v1 / 12) = (v2 / 12) then
  (fj_X1_share_46 v3 1 μ)
  else
  (fj_X1_share_45 v3 μ))
  else
  (fj_X1_share_45 v3 μ))) else none
theorem be_X1_share {K : ro_K} (hK : ro_C K RX1 cX1_share 5 1) (hR : ro_R K (some .int)) {o0 : Nat} {v1 : Int32} {v2 : Int32} {v3 : Int32} (h0 : ro_sh o0 = (0, 1)) {μ : ro_Mem} {out : Int32} (hf : fn_X1_share o0 v1 v2 v3 μ = some out) (hq : kQ K (some (.int out)) μ) : ro_X K 0 [(0, .ref (ro_ad (kG K) o0)), (1, .int v1), (2, .int v2), (3, .int v3)] [] μ := by
  unfold fn_X1_share at hf
  refine ro_aload_n hK 0 rfl dX1_share_0 rfl ?_
  refine ro_getr hK fl_X1_9 h0 dX1_share_1 ?_
  refine ro_iload_n hK 1 rfl dX1_share_4 rfl ?_
  obtain ⟨g1, hf⟩ := ro_gd hf
  refine ro_zald hK (so_1_1 h0) g1 dX1_share_5 ?_
  refine ro_if_ne hK 20 dX1_share_6 (by decide) (fun c2 => ?_) (fun c2 => ?_)
  · have hf := ro_ie hf c2
    refine ro_iload_n hK 1 rfl dX1_share_20 rfl ?_
    refine ro_iload_n hK 2 rfl dX1_share_21 rfl ?_
    refine ro_isub hK dX1_share_22 ?_
    refine ro_mabs hK ml_X1_80 (by decide) (Nat.le_of_ble_eq_true rfl) dX1_share_23 ?_
    refine ro_iconst (v := 1) hK dX1_share_26 (by decide) ?_
    refine ro_icmp_ne hK 45 dX1_share_27 (by decide) (fun c3 => ?_) (fun c3 => ?_)
    · have hf := ro_ie hf c3
      refine ro_sub (L' := [(3, .int v3)]) [3] rfl ?_
      exact bj_X1_share_45 hK hR  hf hq
    · have hf := ro_it hf c3
      refine ro_iload_n hK 1 rfl dX1_share_30 rfl ?_
      refine ro_bipush (v := 12) hK dX1_share_31 (by decide) ?_
      refine ro_idiv hK dX1_share_33 (by decide) ?_
      refine ro_iload_n hK 2 rfl dX1_share_34 rfl ?_
      refine ro_bipush (v := 12) hK dX1_share_35 (by decide) ?_
      refine ro_idiv hK dX1_share_37 (by decide) ?_
      refine ro_icmp_ne hK 45 dX1_share_38 (by decide) (fun c5 => ?_) (fun c5 => ?_)
      · have hf := ro_ie hf c5
        refine ro_sub (L' := [(3, .int v3)]) [3] rfl ?_
        exact bj_X1_share_45 hK hR  hf hq
      · have hf := ro_it hf c5
        refine ro_iconst (v := 1) hK dX1_share_41 (by decide) ?_
        refine ro_goto hK 46 dX1_share_42 (by decide) ?_
        refine ro_sub (L' := [(3, .int v3)]) [3] rfl ?_
        exact bj_X1_share_46 hK hR  hf hq
  · have hf := ro_it hf c2
    refine ro_iload_n hK 1 rfl dX1_share_9 rfl ?_
    refine ro_iload_n hK 2 rfl dX1_share_10 rfl ?_
    refine ro_icmp_ne hK 18 dX1_share_11 (by decide) (fun c6 => ?_) (fun c6 => ?_)
    · have hf := ro_ie hf c6
      refine ro_iconst (v := 0) hK dX1_share_18 (by decide) ?_
      obtain rfl := Option.some.inj hf
      exact ro_iret hK hR dX1_share_19 hq
    · have hf := ro_it hf c6
      refine ro_iload_n hK 3 rfl dX1_share_14 rfl ?_
      refine ro_goto hK 19 dX1_share_15 (by decide) ?_
      obtain rfl := Option.some.inj hf
      exact ro_iret hK hR dX1_share_19 hq
theorem mt_X1_share (l : Launch) (G : ro_G) {o0 : Nat} {v1 : Int32} {v2 : Int32} {v3 : Int32} (h0 : ro_sh o0 = (0, 1)) {μ : ro_Mem} {out : Int32} (hf : fn_X1_share o0 v1 v2 v3 μ = some out) : ro_MX l G yX1_share cX1_share 5 (some .int) 1 [.ref (ro_ad G o0), .int v1, .int v2, .int v3] μ (some (.int out)) μ := by
  refine ro_MX.of (by decide +kernel) (Nat.le_of_ble_eq_true rfl) (fun K hG hl hq hK hR => ?_)
  subst hG
  exact be_X1_share hK hR h0 hf hq
-- ===== X0_fromBoth =====
theorem dX0_fromBoth_0 : decode cX0_fromBoth 0 = .ok (.iload_n 1, 1) := by decide +kernel
theorem dX0_fromBoth_1 : decode cX0_fromBoth 1 = .ok (.bipush 16, 2) := by decide +kernel
theorem dX0_fromBoth_3 : decode cX0_fromBoth 3 = .ok (.imul, 1) := by decide +kernel
theorem dX0_fromBoth_4 : decode cX0_fromBoth 4 = .ok (.iload_n 2, 1) := by decide +kernel
theorem dX0_fromBoth_5 : decode cX0_fromBoth 5 = .ok (.iadd, 1) := by decide +kernel
theorem dX0_fromBoth_6 : decode cX0_fromBoth 6 = .ok (.istore 6, 2) := by decide +kernel
theorem dX0_fromBoth_8 : decode cX0_fromBoth 8 = .ok (.aload_n 0, 1) := by decide +kernel
theorem dX0_fromBoth_9 : decode cX0_fromBoth 9 = .ok (.getfield 9, 3) := by decide +kernel
theorem dX0_fromBoth_12 : decode cX0_fromBoth 12 = .ok (.iload 6, 2) := by decide +kernel
theorem dX0_fromBoth_14 : decode cX0_fromBoth 14 = .ok (.iaload, 1) := by decide +kernel
theorem dX0_fromBoth_15 : decode cX0_fromBoth 15 = .ok (.ifCond .le 18, 3) := by decide +kernel
theorem dX0_fromBoth_18 : decode cX0_fromBoth 18 = .ok (.aload_n 0, 1) := by decide +kernel
theorem dX0_fromBoth_19 : decode cX0_fromBoth 19 = .ok (.getfield 15, 3) := by decide +kernel
theorem dX0_fromBoth_22 : decode cX0_fromBoth 22 = .ok (.iload 6, 2) := by decide +kernel
theorem dX0_fromBoth_24 : decode cX0_fromBoth 24 = .ok (.iaload, 1) := by decide +kernel
theorem dX0_fromBoth_25 : decode cX0_fromBoth 25 = .ok (.iload_n 3, 1) := by decide +kernel
theorem dX0_fromBoth_26 : decode cX0_fromBoth 26 = .ok (.if_icmp .ne 7, 3) := by decide +kernel
theorem dX0_fromBoth_29 : decode cX0_fromBoth 29 = .ok (.iconst 1, 1) := by decide +kernel
theorem dX0_fromBoth_30 : decode cX0_fromBoth 30 = .ok (.goto 4, 3) := by decide +kernel
theorem dX0_fromBoth_33 : decode cX0_fromBoth 33 = .ok (.iconst 0, 1) := by decide +kernel
theorem dX0_fromBoth_34 : decode cX0_fromBoth 34 = .ok (.istore 7, 2) := by decide +kernel
theorem dX0_fromBoth_36 : decode cX0_fromBoth 36 = .ok (.iload 7, 2) := by decide +kernel
theorem dX0_fromBoth_38 : decode cX0_fromBoth 38 = .ok (.ifCond .eq 27, 3) := by decide +kernel
theorem dX0_fromBoth_41 : decode cX0_fromBoth 41 = .ok (.aload 5, 2) := by decide +kernel
theorem dX0_fromBoth_43 : decode cX0_fromBoth 43 = .ok (.aload 5, 2) := by decide +kernel
theorem dX0_fromBoth_45 : decode cX0_fromBoth 45 = .ok (.getfield 82, 3) := by decide +kernel
theorem dX0_fromBoth_48 : decode cX0_fromBoth 48 = .ok (.iload_n 2, 1) := by decide +kernel
theorem dX0_fromBoth_49 : decode cX0_fromBoth 49 = .ok (.iaload, 1) := by decide +kernel
theorem dX0_fromBoth_50 : decode cX0_fromBoth 50 = .ok (.iload 4, 2) := by decide +kernel
theorem dX0_fromBoth_52 : decode cX0_fromBoth 52 = .ok (.aload_n 0, 1) := by decide +kernel
theorem dX0_fromBoth_53 : decode cX0_fromBoth 53 = .ok (.getfield 9, 3) := by decide +kernel
theorem dX0_fromBoth_56 : decode cX0_fromBoth 56 = .ok (.iload 6, 2) := by decide +kernel
theorem dX0_fromBoth_58 : decode cX0_fromBoth 58 = .ok (.iaload, 1) := by decide +kernel
theorem dX0_fromBoth_59 : decode cX0_fromBoth 59 = .ok (.invokevirtual 105, 3) := by decide +kernel
theorem dX0_fromBoth_62 : decode cX0_fromBoth 62 = .ok (.goto 4, 3) := by decide +kernel
theorem dX0_fromBoth_65 : decode cX0_fromBoth 65 = .ok (.iconst 0, 1) := by decide +kernel
theorem dX0_fromBoth_66 : decode cX0_fromBoth 66 = .ok (.ireturn, 1) := by decide +kernel
def fj_X0_fromBoth_34 (v2 : Int32) (v4 : Int32) (o5 : Nat) (v6 : Int32) (t0 : Int32) (μ : ro_Mem) : Option Int32 :=
  if t0 = 0 then
  (some 0)
  else
  (if ro_in v2 16 then
  (if ro_in v6 512 then
  ((fn_X1_share o5 (μ (o5 + 4) v2.toNatClampNeg) v4 (μ 63 v6.toNatClampNeg) μ).bind fun q8 =>
  some q8) else none) else none)
theorem bj_X0_fromBoth_34 {K : ro_K} (hK : ro_C K RX0 cX0_fromBoth 8 2) (hR : ro_R K (some .int)) {v2 : Int32} {v4 : Int32} {o5 : Nat} {v6 : Int32} {t0 : Int32} (h5 : ro_sh o5 = (0, 1))  {μ : ro_Mem}  {out : Int32} (hf : fj_X0_fromBoth_34 v2 v4 o5 v6 t0 μ = some out) (hq : kQ K (some (.int out)) μ) : ro_X K 34 [(0, .ref (ro_ad (kG K) 62)), (2, .int v2), (4, .int v4), (5, .ref (ro_ad (kG K) o5)), (6, .int v6)] [.int t0] μ := by
  unfold fj_X0_fromBoth_34 at hf
  refine ro_istore (L' := [(7, .int t0), (0, .ref (ro_ad (kG K) 62)), (2, .int v2), (4, .int v4), (5, .ref (ro_ad (kG K) o5)), (6, .int v6)]) hK dX0_fromBoth_34 (by decide) rfl ?_
  refine ro_iload hK 0 rfl dX0_fromBoth_36 ?_
  refine ro_if_eq hK 65 dX0_fromBoth_38 (by decide) (fun c5 => ?_) (fun c5 => ?_)
  · have hf := ro_it hf c5
    refine ro_iconst (v := 0) hK dX0_fromBoth_65 (by decide) ?_
    obtain rfl := Option.some.inj hf
    exact ro_iret hK hR dX0_fromBoth_66 hq
  · have hf := ro_ie hf c5
    refine ro_aload hK 4 rfl dX0_fromBoth_41 ?_
    refine ro_aload hK 4 rfl dX0_fromBoth_43 ?_
    refine ro_getr hK fl_X0_82 h5 dX0_fromBoth_45 ?_
    refine ro_iload_n hK 2 rfl dX0_fromBoth_48 rfl ?_
    obtain ⟨g6, hf⟩ := ro_gd hf
    refine ro_iald hK (so_1_4 h5) g6 dX0_fromBoth_49 ?_
    refine ro_iload hK 3 rfl dX0_fromBoth_50 ?_
    refine ro_aload_n hK 1 rfl dX0_fromBoth_52 rfl ?_
    refine ro_getr hK fl_X0_9 sh_62 dX0_fromBoth_53 ?_
    refine ro_iload hK 5 rfl dX0_fromBoth_56 ?_
    obtain ⟨g7, hf⟩ := ro_gd hf
    refine ro_iald hK sh_63 g7 dX0_fromBoth_58 ?_
    obtain ⟨q8, e9, hf⟩ := ro_bd hf
    refine ro_callvi hK [.int (μ (o5 + 4) v2.toNatClampNeg), .int v4, .int (μ 63 v6.toNatClampNeg)] ml_X0_105 mv_X1_share (mt_X1_share (kl K) (kG K) h5 e9) h5 ⟨_, rfl, rfl⟩ (by decide) rfl rfl (Nat.le_of_ble_eq_true rfl) dX0_fromBoth_59 ?_
    refine ro_goto hK 66 dX0_fromBoth_62 (by decide) ?_
    obtain rfl := Option.some.inj hf
    exact ro_iret hK hR dX0_fromBoth_66 hq
def fj_X0_fromBoth_33 (v2 : Int32) (v4 : Int32) (o5 : Nat) (v6 : Int32) (μ : ro_Mem) : Option Int32 :=
  fj_X0_fromBoth_34 v2 v4 o5 v6 0 μ
theorem bj_X0_fromBoth_33 {K : ro_K} (hK : ro_C K RX0 cX0_fromBoth 8 2) (hR : ro_R K (some .int)) {v2 : Int32} {v4 : Int32} {o5 : Nat} {v6 : Int32} (h5 : ro_sh o5 = (0, 1))  {μ : ro_Mem}  {out : Int32} (hf : fj_X0_fromBoth_33 v2 v4 o5 v6 μ = some out) (hq : kQ K (some (.int out)) μ) : ro_X K 33 [(0, .ref (ro_ad (kG K) 62)), (2, .int v2), (4, .int v4), (5, .ref (ro_ad (kG K) o5)), (6, .int v6)] [] μ := by
  unfold fj_X0_fromBoth_33 at hf
  refine ro_iconst (v := 0) hK dX0_fromBoth_33 (by decide) ?_
  exact bj_X0_fromBoth_34 hK hR h5 hf hq
def fn_X0_fromBoth (v1 : Int32) (v2 : Int32) (v3 : Int32) (v4 : Int32) (o5 : Nat) (μ : ro_Mem) : Option Int32 :=
  ro_lt ((v1 * 16) + v2) fun z1 =>
  if ro_in z1 512 then
  (if (μ 63 z1.toNatClampNeg) ≤ 0 then
  (fj_X0_fromBoth_33 v2 v4 o5 z1 μ)
  else
  (if (μ 64 z1.toNatClampNeg) = v3 then
  (fj_X0_fromBoth_34 v2 v4 o5 z1 1 μ)
  else
  (fj_X0_fromBoth_33 v2 v4 o5 z1 μ))) else none
theorem be_X0_fromBoth {K : ro_K} (hK : ro_C K RX0 cX0_fromBoth 8 2) (hR : ro_R K (some .int)) {v1 : Int32} {v2 : Int32} {v3 : Int32} {v4 : Int32} {o5 : Nat} (h5 : ro_sh o5 = (0, 1)) {μ : ro_Mem} {out : Int32} (hf : fn_X0_fromBoth v1 v2 v3 v4 o5 μ = some out) (hq : kQ K (some (.int out)) μ) : ro_X K 0 [(0, .ref (ro_ad (kG K) 62)), (1, .int v1), (2, .int v2), (3, .int v3), (4, .int v4), (5, .ref (ro_ad (kG K) o5))] [] μ := by
  unfold fn_X0_fromBoth at hf
  refine ro_iload_n hK 1 rfl dX0_fromBoth_0 rfl ?_
  refine ro_bipush (v := 16) hK dX0_fromBoth_1 (by decide) ?_
  refine ro_imul hK dX0_fromBoth_3 ?_
  refine ro_iload_n hK 2 rfl dX0_fromBoth_4 rfl ?_
  refine ro_iadd hK dX0_fromBoth_5 ?_
  obtain ⟨z1, e2, hf⟩ := ro_ld hf
  refine ro_iv e2 ?_
  refine ro_istore (L' := [(6, .int z1), (0, .ref (ro_ad (kG K) 62)), (1, .int v1), (2, .int v2), (3, .int v3), (4, .int v4), (5, .ref (ro_ad (kG K) o5))]) hK dX0_fromBoth_6 (by decide) rfl ?_
  refine ro_aload_n hK 1 rfl dX0_fromBoth_8 rfl ?_
  refine ro_getr hK fl_X0_9 sh_62 dX0_fromBoth_9 ?_
  refine ro_iload hK 0 rfl dX0_fromBoth_12 ?_
  obtain ⟨g3, hf⟩ := ro_gd hf
  refine ro_iald hK sh_63 g3 dX0_fromBoth_14 ?_
  refine ro_if_le hK 33 dX0_fromBoth_15 (by decide) (fun c4 => ?_) (fun c4 => ?_)
  · have hf := ro_it hf c4
    refine ro_sub (L' := [(0, .ref (ro_ad (kG K) 62)), (2, .int v2), (4, .int v4), (5, .ref (ro_ad (kG K) o5)), (6, .int z1)]) [1, 3, 5, 6, 0] rfl ?_
    exact bj_X0_fromBoth_33 hK hR h5 hf hq
  · have hf := ro_ie hf c4
    refine ro_aload_n hK 1 rfl dX0_fromBoth_18 rfl ?_
    refine ro_getr hK fl_X0_15 sh_62 dX0_fromBoth_19 ?_
    refine ro_iload hK 0 rfl dX0_fromBoth_22 ?_
    refine ro_iald hK sh_64 g3 dX0_fromBoth_24 ?_
    refine ro_iload_n hK 4 rfl dX0_fromBoth_25 rfl ?_
    refine ro_icmp_ne hK 33 dX0_fromBoth_26 (by decide) (fun c10 => ?_) (fun c10 => ?_)
    · have hf := ro_ie hf c10
      refine ro_sub (L' := [(0, .ref (ro_ad (kG K) 62)), (2, .int v2), (4, .int v4), (5, .ref (ro_ad (kG K) o5)), (6, .int z1)]) [1, 3, 5, 6, 0] rfl ?_
      exact bj_X0_fromBoth_33 hK hR h5 hf hq
    · have hf := ro_it hf c10
      refine ro_iconst (v := 1) hK dX0_fromBoth_29 (by decide) ?_
      refine ro_goto hK 34 dX0_fromBoth_30 (by decide) ?_
      refine ro_sub (L' := [(0, .ref (ro_ad (kG K) 62)), (2, .int v2), (4, .int v4), (5, .ref (ro_ad (kG K) o5)), (6, .int z1)]) [1, 3, 5, 6, 0] rfl ?_
      exact bj_X0_fromBoth_34 hK hR h5 hf hq
theorem mt_X0_fromBoth (l : Launch) (G : ro_G) {v1 : Int32} {v2 : Int32} {v3 : Int32} {v4 : Int32} {o5 : Nat} (h5 : ro_sh o5 = (0, 1)) {μ : ro_Mem} {out : Int32} (hf : fn_X0_fromBoth v1 v2 v3 v4 o5 μ = some out) : ro_MX l G yX0_fromBoth cX0_fromBoth 8 (some .int) 2 [.ref (ro_ad G 62), .int v1, .int v2, .int v3, .int v4, .ref (ro_ad G o5)] μ (some (.int out)) μ := by
  refine ro_MX.of (by decide +kernel) (Nat.le_of_ble_eq_true rfl) (fun K hG hl hq hK hR => ?_)
  subst hG
  exact be_X0_fromBoth hK hR h5 hf hq
-- ===== X0_fromNote =====
theorem dX0_fromNote_0 : decode cX0_fromNote 0 = .ok (.iconst 0, 1) := by decide +kernel
theorem dX0_fromNote_1 : decode cX0_fromNote 1 = .ok (.istore 5, 2) := by decide +kernel
theorem dX0_fromNote_3 : decode cX0_fromNote 3 = .ok (.iconst 0, 1) := by decide +kernel
theorem dX0_fromNote_4 : decode cX0_fromNote 4 = .ok (.istore 6, 2) := by decide +kernel
theorem dX0_fromNote_6 : decode cX0_fromNote 6 = .ok (.iload 6, 2) := by decide +kernel
theorem dX0_fromNote_8 : decode cX0_fromNote 8 = .ok (.bipush 16, 2) := by decide +kernel
theorem dX0_fromNote_10 : decode cX0_fromNote 10 = .ok (.if_icmp .ge 25, 3) := by decide +kernel
theorem dX0_fromNote_13 : decode cX0_fromNote 13 = .ok (.iload 5, 2) := by decide +kernel
theorem dX0_fromNote_15 : decode cX0_fromNote 15 = .ok (.aload_n 0, 1) := by decide +kernel
theorem dX0_fromNote_16 : decode cX0_fromNote 16 = .ok (.iload_n 1, 1) := by decide +kernel
theorem dX0_fromNote_17 : decode cX0_fromNote 17 = .ok (.iload 6, 2) := by decide +kernel
theorem dX0_fromNote_19 : decode cX0_fromNote 19 = .ok (.iload_n 2, 1) := by decide +kernel
theorem dX0_fromNote_20 : decode cX0_fromNote 20 = .ok (.iload_n 3, 1) := by decide +kernel
theorem dX0_fromNote_21 : decode cX0_fromNote 21 = .ok (.aload 4, 2) := by decide +kernel
theorem dX0_fromNote_23 : decode cX0_fromNote 23 = .ok (.invokevirtual 101, 3) := by decide +kernel
theorem dX0_fromNote_26 : decode cX0_fromNote 26 = .ok (.iadd, 1) := by decide +kernel
theorem dX0_fromNote_27 : decode cX0_fromNote 27 = .ok (.istore 5, 2) := by decide +kernel
theorem dX0_fromNote_29 : decode cX0_fromNote 29 = .ok (.iinc 6 1, 3) := by decide +kernel
theorem dX0_fromNote_32 : decode cX0_fromNote 32 = .ok (.goto (-26), 3) := by decide +kernel
theorem dX0_fromNote_35 : decode cX0_fromNote 35 = .ok (.iload 5, 2) := by decide +kernel
theorem dX0_fromNote_37 : decode cX0_fromNote 37 = .ok (.ireturn, 1) := by decide +kernel
def ok_X0_fromNote_6 (K : ro_K) (v1 : Int32) (v2 : Int32) (v3 : Int32) (o4 : Nat) (μ : ro_Mem) : Int32 → Prop := fun e => ro_X K 35 [(5, .int e)] [] μ
def fb_X0_fromNote_6 (v1 : Int32) (v2 : Int32) (v3 : Int32) (o4 : Nat) (μ : ro_Mem) (rec : (Int32 × Int32) → Option Int32) (v5 : Int32) (v6 : Int32) : Option Int32 :=
  if 16 ≤ v6 then
  (some v5)
  else
  ((fn_X0_fromBoth v1 v6 v2 v3 o4 μ).bind fun q2 =>
  ro_lt (v5 + q2) fun z4 =>
  rec (z4, v6 + 1))
theorem bb_X0_fromNote_6 {K : ro_K} (hK : ro_C K RX0 cX0_fromNote 7 3) (hR : ro_R K (some .int)) {v1 : Int32} {v2 : Int32} {v3 : Int32} {o4 : Nat} (h4 : ro_sh o4 = (0, 1)) {μ : ro_Mem} {rec : (Int32 × Int32) → Option Int32} {v5 : Int32} {v6 : Int32} {q : Int32} (hrec : ∀ (s : Int32 × Int32) (q : Int32), rec s = some q → ok_X0_fromNote_6 K v1 v2 v3 o4 μ q → ro_X K 6 [(0, .ref (ro_ad (kG K) 62)), (1, .int v1), (2, .int v2), (3, .int v3), (4, .ref (ro_ad (kG K) o4)), (5, .int s.1), (6, .int s.2)] [] μ) (hf : fb_X0_fromNote_6 v1 v2 v3 o4 μ rec v5 v6 = some q) (hq : ok_X0_fromNote_6 K v1 v2 v3 o4 μ q) : ro_X K 6 [(0, .ref (ro_ad (kG K) 62)), (1, .int v1), (2, .int v2), (3, .int v3), (4, .ref (ro_ad (kG K) o4)), (5, .int v5), (6, .int v6)] [] μ := by
  unfold fb_X0_fromNote_6 at hf
  refine ro_iload hK 6 rfl dX0_fromNote_6 ?_
  refine ro_bipush (v := 16) hK dX0_fromNote_8 (by decide) ?_
  refine ro_icmp_ge hK 35 dX0_fromNote_10 (by decide) (fun c1 => ?_) (fun c1 => ?_)
  · have hf := ro_it hf c1
    refine ro_sub (L' := [(5, .int v5)]) [5] rfl ?_
    obtain rfl := Option.some.inj hf
    exact hq
  · have hf := ro_ie hf c1
    refine ro_iload hK 5 rfl dX0_fromNote_13 ?_
    refine ro_aload_n hK 0 rfl dX0_fromNote_15 rfl ?_
    refine ro_iload_n hK 1 rfl dX0_fromNote_16 rfl ?_
    refine ro_iload hK 6 rfl dX0_fromNote_17 ?_
    refine ro_iload_n hK 2 rfl dX0_fromNote_19 rfl ?_
    refine ro_iload_n hK 3 rfl dX0_fromNote_20 rfl ?_
    refine ro_aload hK 4 rfl dX0_fromNote_21 ?_
    obtain ⟨q2, e3, hf⟩ := ro_bd hf
    refine ro_callvi hK [.int v1, .int v6, .int v2, .int v3, .ref (ro_ad (kG K) o4)] ml_X0_101 mv_X0_fromBoth (mt_X0_fromBoth (kl K) (kG K) h4 e3) sh_62 ⟨_, rfl, rfl⟩ (by decide) rfl rfl (Nat.le_of_ble_eq_true rfl) dX0_fromNote_23 ?_
    refine ro_iadd hK dX0_fromNote_26 ?_
    obtain ⟨z4, e5, hf⟩ := ro_ld hf
    refine ro_iv e5 ?_
    refine ro_istore (L' := [(5, .int z4), (0, .ref (ro_ad (kG K) 62)), (1, .int v1), (2, .int v2), (3, .int v3), (4, .ref (ro_ad (kG K) o4)), (6, .int v6)]) hK dX0_fromNote_27 (by decide) rfl ?_
    refine ro_iinc (v := v6 + 1) (L' := [(6, .int (v6 + 1)), (5, .int z4), (0, .ref (ro_ad (kG K) 62)), (1, .int v1), (2, .int v2), (3, .int v3), (4, .ref (ro_ad (kG K) o4))]) hK 6 rfl dX0_fromNote_29 rfl (by decide) rfl ?_
    refine ro_goto hK 6 dX0_fromNote_32 (by decide) ?_
    refine ro_sub (L' := [(0, .ref (ro_ad (kG K) 62)), (1, .int v1), (2, .int v2), (3, .int v3), (4, .ref (ro_ad (kG K) o4)), (5, .int z4), (6, .int (v6 + 1))]) [2, 3, 4, 5, 6, 1, 0] rfl ?_
    exact hrec (z4, v6 + 1) _ hf hq
def fl_X0_fromNote_6 (v1 : Int32) (v2 : Int32) (v3 : Int32) (o4 : Nat) (μ : ro_Mem) : (Int32 × Int32) → Option Int32 :=
  ro_loop (fun rec s => fb_X0_fromNote_6 v1 v2 v3 o4 μ rec s.1 s.2) ro_FU
theorem lp_X0_fromNote_6 {K : ro_K} (hK : ro_C K RX0 cX0_fromNote 7 3) (hR : ro_R K (some .int)) {v1 : Int32} {v2 : Int32} {v3 : Int32} {o4 : Nat} (h4 : ro_sh o4 = (0, 1)) {μ : ro_Mem} {s : Int32 × Int32} {q : Int32} (hf : fl_X0_fromNote_6 v1 v2 v3 o4 μ s = some q) (hq : ok_X0_fromNote_6 K v1 v2 v3 o4 μ q) : ro_X K 6 [(0, .ref (ro_ad (kG K) 62)), (1, .int v1), (2, .int v2), (3, .int v3), (4, .ref (ro_ad (kG K) o4)), (5, .int s.1), (6, .int s.2)] [] μ :=
  ro_loopX (b := fun rec s => fb_X0_fromNote_6 v1 v2 v3 o4 μ rec s.1 s.2) (X := fun s => ro_X K 6 [(0, .ref (ro_ad (kG K) 62)), (1, .int v1), (2, .int v2), (3, .int v3), (4, .ref (ro_ad (kG K) o4)), (5, .int s.1), (6, .int s.2)] [] μ) (OK := ok_X0_fromNote_6 K v1 v2 v3 o4 μ) (fun rec s q hrec hb ho => bb_X0_fromNote_6 hK hR h4 hrec hb ho) ro_FU s q hf hq
def fn_X0_fromNote (v1 : Int32) (v2 : Int32) (v3 : Int32) (o4 : Nat) (μ : ro_Mem) : Option Int32 :=
  (fl_X0_fromNote_6 v1 v2 v3 o4 μ (0, 0)).bind fun q6 =>
  some q6
theorem be_X0_fromNote {K : ro_K} (hK : ro_C K RX0 cX0_fromNote 7 3) (hR : ro_R K (some .int)) {v1 : Int32} {v2 : Int32} {v3 : Int32} {o4 : Nat} (h4 : ro_sh o4 = (0, 1)) {μ : ro_Mem} {out : Int32} (hf : fn_X0_fromNote v1 v2 v3 o4 μ = some out) (hq : kQ K (some (.int out)) μ) : ro_X K 0 [(0, .ref (ro_ad (kG K) 62)), (1, .int v1), (2, .int v2), (3, .int v3), (4, .ref (ro_ad (kG K) o4))] [] μ := by
  unfold fn_X0_fromNote at hf
  refine ro_iconst (v := 0) hK dX0_fromNote_0 (by decide) ?_
  refine ro_istore (L' := [(5, .int 0), (0, .ref (ro_ad (kG K) 62)), (1, .int v1), (2, .int v2), (3, .int v3), (4, .ref (ro_ad (kG K) o4))]) hK dX0_fromNote_1 (by decide) rfl ?_
  refine ro_iconst (v := 0) hK dX0_fromNote_3 (by decide) ?_
  refine ro_istore (L' := [(6, .int 0), (5, .int 0), (0, .ref (ro_ad (kG K) 62)), (1, .int v1), (2, .int v2), (3, .int v3), (4, .ref (ro_ad (kG K) o4))]) hK dX0_fromNote_4 (by decide) rfl ?_
  obtain ⟨q6, e7, hf⟩ := ro_bd hf
  refine ro_sub (L' := [(0, .ref (ro_ad (kG K) 62)), (1, .int v1), (2, .int v2), (3, .int v3), (4, .ref (ro_ad (kG K) o4)), (5, .int 0), (6, .int 0)]) [2, 3, 4, 5, 6, 1, 0] rfl ?_
  refine lp_X0_fromNote_6 hK hR h4 e7 ?_
  show ro_X K 35 [(5, .int q6)] [] μ
  refine ro_iload hK 0 rfl dX0_fromNote_35 ?_
  obtain rfl := Option.some.inj hf
  exact ro_iret hK hR dX0_fromNote_37 hq
theorem mt_X0_fromNote (l : Launch) (G : ro_G) {v1 : Int32} {v2 : Int32} {v3 : Int32} {o4 : Nat} (h4 : ro_sh o4 = (0, 1)) {μ : ro_Mem} {out : Int32} (hf : fn_X0_fromNote v1 v2 v3 o4 μ = some out) : ro_MX l G yX0_fromNote cX0_fromNote 7 (some .int) 3 [.ref (ro_ad G 62), .int v1, .int v2, .int v3, .ref (ro_ad G o4)] μ (some (.int out)) μ := by
  refine ro_MX.of (by decide +kernel) (Nat.le_of_ble_eq_true rfl) (fun K hG hl hq hK hR => ?_)
  subst hG
  exact be_X0_fromNote hK hR h4 hf hq
-- ===== X0_fromSlate =====
theorem dX0_fromSlate_0 : decode cX0_fromSlate 0 = .ok (.iconst 0, 1) := by decide +kernel
theorem dX0_fromSlate_1 : decode cX0_fromSlate 1 = .ok (.istore 5, 2) := by decide +kernel
theorem dX0_fromSlate_3 : decode cX0_fromSlate 3 = .ok (.iconst 0, 1) := by decide +kernel
theorem dX0_fromSlate_4 : decode cX0_fromSlate 4 = .ok (.istore 6, 2) := by decide +kernel
theorem dX0_fromSlate_6 : decode cX0_fromSlate 6 = .ok (.iload 6, 2) := by decide +kernel
theorem dX0_fromSlate_8 : decode cX0_fromSlate 8 = .ok (.aload 4, 2) := by decide +kernel
theorem dX0_fromSlate_10 : decode cX0_fromSlate 10 = .ok (.getfield 57, 3) := by decide +kernel
theorem dX0_fromSlate_13 : decode cX0_fromSlate 13 = .ok (.getfield 61, 3) := by decide +kernel
theorem dX0_fromSlate_16 : decode cX0_fromSlate 16 = .ok (.if_icmp .ge 28, 3) := by decide +kernel
theorem dX0_fromSlate_19 : decode cX0_fromSlate 19 = .ok (.iload 5, 2) := by decide +kernel
theorem dX0_fromSlate_21 : decode cX0_fromSlate 21 = .ok (.aload_n 0, 1) := by decide +kernel
theorem dX0_fromSlate_22 : decode cX0_fromSlate 22 = .ok (.iload 6, 2) := by decide +kernel
theorem dX0_fromSlate_24 : decode cX0_fromSlate 24 = .ok (.iload_n 1, 1) := by decide +kernel
theorem dX0_fromSlate_25 : decode cX0_fromSlate 25 = .ok (.iload_n 2, 1) := by decide +kernel
theorem dX0_fromSlate_26 : decode cX0_fromSlate 26 = .ok (.iload_n 3, 1) := by decide +kernel
theorem dX0_fromSlate_27 : decode cX0_fromSlate 27 = .ok (.aload 4, 2) := by decide +kernel
theorem dX0_fromSlate_29 : decode cX0_fromSlate 29 = .ok (.getfield 36, 3) := by decide +kernel
theorem dX0_fromSlate_32 : decode cX0_fromSlate 32 = .ok (.invokevirtual 101, 3) := by decide +kernel
theorem dX0_fromSlate_35 : decode cX0_fromSlate 35 = .ok (.iadd, 1) := by decide +kernel
theorem dX0_fromSlate_36 : decode cX0_fromSlate 36 = .ok (.istore 5, 2) := by decide +kernel
theorem dX0_fromSlate_38 : decode cX0_fromSlate 38 = .ok (.iinc 6 1, 3) := by decide +kernel
theorem dX0_fromSlate_41 : decode cX0_fromSlate 41 = .ok (.goto (-35), 3) := by decide +kernel
theorem dX0_fromSlate_44 : decode cX0_fromSlate 44 = .ok (.iload 5, 2) := by decide +kernel
theorem dX0_fromSlate_46 : decode cX0_fromSlate 46 = .ok (.ireturn, 1) := by decide +kernel
def ok_X0_fromSlate_6 (K : ro_K) (v1 : Int32) (v2 : Int32) (v3 : Int32) (μ : ro_Mem) : Int32 → Prop := fun e => ro_X K 44 [(5, .int e)] [] μ
def fb_X0_fromSlate_6 (v1 : Int32) (v2 : Int32) (v3 : Int32) (μ : ro_Mem) (rec : (Int32 × Int32) → Option Int32) (v5 : Int32) (v6 : Int32) : Option Int32 :=
  if ro_sh (ro_rf μ 1 1) = (0, 5) then
  (if (μ (ro_rf μ 1 1) 5) ≤ v6 then
  (some v5)
  else
  ((fn_X0_fromBoth v6 v1 v2 v3 2 μ).bind fun q3 =>
  ro_lt (v5 + q3) fun z5 =>
  rec (z5, v6 + 1))) else none
theorem bb_X0_fromSlate_6 {K : ro_K} (hK : ro_C K RX0 cX0_fromSlate 7 3) (hR : ro_R K (some .int)) {v1 : Int32} {v2 : Int32} {v3 : Int32}  {μ : ro_Mem} {rec : (Int32 × Int32) → Option Int32} {v5 : Int32} {v6 : Int32} {q : Int32} (hrec : ∀ (s : Int32 × Int32) (q : Int32), rec s = some q → ok_X0_fromSlate_6 K v1 v2 v3 μ q → ro_X K 6 [(0, .ref (ro_ad (kG K) 62)), (1, .int v1), (2, .int v2), (3, .int v3), (4, .ref (ro_ad (kG K) 1)), (5, .int s.1), (6, .int s.2)] [] μ) (hf : fb_X0_fromSlate_6 v1 v2 v3 μ rec v5 v6 = some q) (hq : ok_X0_fromSlate_6 K v1 v2 v3 μ q) : ro_X K 6 [(0, .ref (ro_ad (kG K) 62)), (1, .int v1), (2, .int v2), (3, .int v3), (4, .ref (ro_ad (kG K) 1)), (5, .int v5), (6, .int v6)] [] μ := by
  unfold fb_X0_fromSlate_6 at hf
  refine ro_iload hK 6 rfl dX0_fromSlate_6 ?_
  refine ro_aload hK 4 rfl dX0_fromSlate_8 ?_
  obtain ⟨g1, hf⟩ := ro_gd hf
  refine ro_getm hK fl_X0_57 sh_1 dX0_fromSlate_10 ?_
  refine ro_geti hK fl_X0_61 g1 dX0_fromSlate_13 ?_
  refine ro_icmp_ge hK 44 dX0_fromSlate_16 (by decide) (fun c2 => ?_) (fun c2 => ?_)
  · have hf := ro_it hf c2
    refine ro_sub (L' := [(5, .int v5)]) [5] rfl ?_
    obtain rfl := Option.some.inj hf
    exact hq
  · have hf := ro_ie hf c2
    refine ro_iload hK 5 rfl dX0_fromSlate_19 ?_
    refine ro_aload_n hK 0 rfl dX0_fromSlate_21 rfl ?_
    refine ro_iload hK 6 rfl dX0_fromSlate_22 ?_
    refine ro_iload_n hK 1 rfl dX0_fromSlate_24 rfl ?_
    refine ro_iload_n hK 2 rfl dX0_fromSlate_25 rfl ?_
    refine ro_iload_n hK 3 rfl dX0_fromSlate_26 rfl ?_
    refine ro_aload hK 4 rfl dX0_fromSlate_27 ?_
    refine ro_getr hK fl_X0_36 sh_1 dX0_fromSlate_29 ?_
    obtain ⟨q3, e4, hf⟩ := ro_bd hf
    refine ro_callvi hK [.int v6, .int v1, .int v2, .int v3, .ref (ro_ad (kG K) 2)] ml_X0_101 mv_X0_fromBoth (mt_X0_fromBoth (kl K) (kG K) sh_2 e4) sh_62 ⟨_, rfl, rfl⟩ (by decide) rfl rfl (Nat.le_of_ble_eq_true rfl) dX0_fromSlate_32 ?_
    refine ro_iadd hK dX0_fromSlate_35 ?_
    obtain ⟨z5, e6, hf⟩ := ro_ld hf
    refine ro_iv e6 ?_
    refine ro_istore (L' := [(5, .int z5), (0, .ref (ro_ad (kG K) 62)), (1, .int v1), (2, .int v2), (3, .int v3), (4, .ref (ro_ad (kG K) 1)), (6, .int v6)]) hK dX0_fromSlate_36 (by decide) rfl ?_
    refine ro_iinc (v := v6 + 1) (L' := [(6, .int (v6 + 1)), (5, .int z5), (0, .ref (ro_ad (kG K) 62)), (1, .int v1), (2, .int v2), (3, .int v3), (4, .ref (ro_ad (kG K) 1))]) hK 6 rfl dX0_fromSlate_38 rfl (by decide) rfl ?_
    refine ro_goto hK 6 dX0_fromSlate_41 (by decide) ?_
    refine ro_sub (L' := [(0, .ref (ro_ad (kG K) 62)), (1, .int v1), (2, .int v2), (3, .int v3), (4, .ref (ro_ad (kG K) 1)), (5, .int z5), (6, .int (v6 + 1))]) [2, 3, 4, 5, 6, 1, 0] rfl ?_
    exact hrec (z5, v6 + 1) _ hf hq
def fl_X0_fromSlate_6 (v1 : Int32) (v2 : Int32) (v3 : Int32) (μ : ro_Mem) : (Int32 × Int32) → Option Int32 :=
  ro_loop (fun rec s => fb_X0_fromSlate_6 v1 v2 v3 μ rec s.1 s.2) ro_FU
theorem lp_X0_fromSlate_6 {K : ro_K} (hK : ro_C K RX0 cX0_fromSlate 7 3) (hR : ro_R K (some .int)) {v1 : Int32} {v2 : Int32} {v3 : Int32}  {μ : ro_Mem} {s : Int32 × Int32} {q : Int32} (hf : fl_X0_fromSlate_6 v1 v2 v3 μ s = some q) (hq : ok_X0_fromSlate_6 K v1 v2 v3 μ q) : ro_X K 6 [(0, .ref (ro_ad (kG K) 62)), (1, .int v1), (2, .int v2), (3, .int v3), (4, .ref (ro_ad (kG K) 1)), (5, .int s.1), (6, .int s.2)] [] μ :=
  ro_loopX (b := fun rec s => fb_X0_fromSlate_6 v1 v2 v3 μ rec s.1 s.2) (X := fun s => ro_X K 6 [(0, .ref (ro_ad (kG K) 62)), (1, .int v1), (2, .int v2), (3, .int v3), (4, .ref (ro_ad (kG K) 1)), (5, .int s.1), (6, .int s.2)] [] μ) (OK := ok_X0_fromSlate_6 K v1 v2 v3 μ) (fun rec s q hrec hb ho => bb_X0_fromSlate_6 hK hR  hrec hb ho) ro_FU s q hf hq
def fn_X0_fromSlate (v1 : Int32) (v2 : Int32) (v3 : Int32) (μ : ro_Mem) : Option Int32 :=
  (fl_X0_fromSlate_6 v1 v2 v3 μ (0, 0)).bind fun q7 =>
  some q7
theorem be_X0_fromSlate {K : ro_K} (hK : ro_C K RX0 cX0_fromSlate 7 3) (hR : ro_R K (some .int)) {v1 : Int32} {v2 : Int32} {v3 : Int32}  {μ : ro_Mem} {out : Int32} (hf : fn_X0_fromSlate v1 v2 v3 μ = some out) (hq : kQ K (some (.int out)) μ) : ro_X K 0 [(0, .ref (ro_ad (kG K) 62)), (1, .int v1), (2, .int v2), (3, .int v3), (4, .ref (ro_ad (kG K) 1))] [] μ := by
  unfold fn_X0_fromSlate at hf
  refine ro_iconst (v := 0) hK dX0_fromSlate_0 (by decide) ?_
  refine ro_istore (L' := [(5, .int 0), (0, .ref (ro_ad (kG K) 62)), (1, .int v1), (2, .int v2), (3, .int v3), (4, .ref (ro_ad (kG K) 1))]) hK dX0_fromSlate_1 (by decide) rfl ?_
  refine ro_iconst (v := 0) hK dX0_fromSlate_3 (by decide) ?_
  refine ro_istore (L' := [(6, .int 0), (5, .int 0), (0, .ref (ro_ad (kG K) 62)), (1, .int v1), (2, .int v2), (3, .int v3), (4, .ref (ro_ad (kG K) 1))]) hK dX0_fromSlate_4 (by decide) rfl ?_
  obtain ⟨q7, e8, hf⟩ := ro_bd hf
  refine ro_sub (L' := [(0, .ref (ro_ad (kG K) 62)), (1, .int v1), (2, .int v2), (3, .int v3), (4, .ref (ro_ad (kG K) 1)), (5, .int 0), (6, .int 0)]) [2, 3, 4, 5, 6, 1, 0] rfl ?_
  refine lp_X0_fromSlate_6 hK hR  e8 ?_
  show ro_X K 44 [(5, .int q7)] [] μ
  refine ro_iload hK 0 rfl dX0_fromSlate_44 ?_
  obtain rfl := Option.some.inj hf
  exact ro_iret hK hR dX0_fromSlate_46 hq
theorem mt_X0_fromSlate (l : Launch) (G : ro_G) {v1 : Int32} {v2 : Int32} {v3 : Int32}  {μ : ro_Mem} {out : Int32} (hf : fn_X0_fromSlate v1 v2 v3 μ = some out) : ro_MX l G yX0_fromSlate cX0_fromSlate 7 (some .int) 3 [.ref (ro_ad G 62), .int v1, .int v2, .int v3, .ref (ro_ad G 1)] μ (some (.int out)) μ := by
  refine ro_MX.of (by decide +kernel) (Nat.le_of_ble_eq_true rfl) (fun K hG hl hq hK hR => ?_)
  subst hG
  exact be_X0_fromSlate hK hR  hf hq
-- ===== X1_copyFrom =====
theorem dX1_copyFrom_0 : decode cX1_copyFrom 0 = .ok (.iconst 0, 1) := by decide +kernel
theorem dX1_copyFrom_1 : decode cX1_copyFrom 1 = .ok (.istore_n 2, 1) := by decide +kernel
theorem dX1_copyFrom_2 : decode cX1_copyFrom 2 = .ok (.iload_n 2, 1) := by decide +kernel
theorem dX1_copyFrom_3 : decode cX1_copyFrom 3 = .ok (.bipush 96, 2) := by decide +kernel
theorem dX1_copyFrom_5 : decode cX1_copyFrom 5 = .ok (.if_icmp .ge 21, 3) := by decide +kernel
theorem dX1_copyFrom_8 : decode cX1_copyFrom 8 = .ok (.aload_n 0, 1) := by decide +kernel
theorem dX1_copyFrom_9 : decode cX1_copyFrom 9 = .ok (.getfield 9, 3) := by decide +kernel
theorem dX1_copyFrom_12 : decode cX1_copyFrom 12 = .ok (.iload_n 2, 1) := by decide +kernel
theorem dX1_copyFrom_13 : decode cX1_copyFrom 13 = .ok (.aload_n 1, 1) := by decide +kernel
theorem dX1_copyFrom_14 : decode cX1_copyFrom 14 = .ok (.getfield 9, 3) := by decide +kernel
theorem dX1_copyFrom_17 : decode cX1_copyFrom 17 = .ok (.iload_n 2, 1) := by decide +kernel
theorem dX1_copyFrom_18 : decode cX1_copyFrom 18 = .ok (.baload, 1) := by decide +kernel
theorem dX1_copyFrom_19 : decode cX1_copyFrom 19 = .ok (.bastore, 1) := by decide +kernel
theorem dX1_copyFrom_20 : decode cX1_copyFrom 20 = .ok (.iinc 2 1, 3) := by decide +kernel
theorem dX1_copyFrom_23 : decode cX1_copyFrom 23 = .ok (.goto (-21), 3) := by decide +kernel
theorem dX1_copyFrom_26 : decode cX1_copyFrom 26 = .ok (.aload_n 1, 1) := by decide +kernel
theorem dX1_copyFrom_27 : decode cX1_copyFrom 27 = .ok (.getfield 15, 3) := by decide +kernel
theorem dX1_copyFrom_30 : decode cX1_copyFrom 30 = .ok (.iconst 0, 1) := by decide +kernel
theorem dX1_copyFrom_31 : decode cX1_copyFrom 31 = .ok (.aload_n 0, 1) := by decide +kernel
theorem dX1_copyFrom_32 : decode cX1_copyFrom 32 = .ok (.getfield 15, 3) := by decide +kernel
theorem dX1_copyFrom_35 : decode cX1_copyFrom 35 = .ok (.iconst 0, 1) := by decide +kernel
theorem dX1_copyFrom_36 : decode cX1_copyFrom 36 = .ok (.bipush 96, 2) := by decide +kernel
theorem dX1_copyFrom_38 : decode cX1_copyFrom 38 = .ok (.invokestatic 59, 3) := by decide +kernel
theorem dX1_copyFrom_41 : decode cX1_copyFrom 41 = .ok (.aload_n 1, 1) := by decide +kernel
theorem dX1_copyFrom_42 : decode cX1_copyFrom 42 = .ok (.getfield 19, 3) := by decide +kernel
theorem dX1_copyFrom_45 : decode cX1_copyFrom 45 = .ok (.iconst 0, 1) := by decide +kernel
theorem dX1_copyFrom_46 : decode cX1_copyFrom 46 = .ok (.aload_n 0, 1) := by decide +kernel
theorem dX1_copyFrom_47 : decode cX1_copyFrom 47 = .ok (.getfield 19, 3) := by decide +kernel
theorem dX1_copyFrom_50 : decode cX1_copyFrom 50 = .ok (.iconst 0, 1) := by decide +kernel
theorem dX1_copyFrom_51 : decode cX1_copyFrom 51 = .ok (.bipush 96, 2) := by decide +kernel
theorem dX1_copyFrom_53 : decode cX1_copyFrom 53 = .ok (.invokestatic 59, 3) := by decide +kernel
theorem dX1_copyFrom_56 : decode cX1_copyFrom 56 = .ok (.aload_n 1, 1) := by decide +kernel
theorem dX1_copyFrom_57 : decode cX1_copyFrom 57 = .ok (.getfield 22, 3) := by decide +kernel
theorem dX1_copyFrom_60 : decode cX1_copyFrom 60 = .ok (.iconst 0, 1) := by decide +kernel
theorem dX1_copyFrom_61 : decode cX1_copyFrom 61 = .ok (.aload_n 0, 1) := by decide +kernel
theorem dX1_copyFrom_62 : decode cX1_copyFrom 62 = .ok (.getfield 22, 3) := by decide +kernel
theorem dX1_copyFrom_65 : decode cX1_copyFrom 65 = .ok (.iconst 0, 1) := by decide +kernel
theorem dX1_copyFrom_66 : decode cX1_copyFrom 66 = .ok (.bipush 16, 2) := by decide +kernel
theorem dX1_copyFrom_68 : decode cX1_copyFrom 68 = .ok (.invokestatic 59, 3) := by decide +kernel
theorem dX1_copyFrom_71 : decode cX1_copyFrom 71 = .ok (.aload_n 1, 1) := by decide +kernel
theorem dX1_copyFrom_72 : decode cX1_copyFrom 72 = .ok (.getfield 25, 3) := by decide +kernel
theorem dX1_copyFrom_75 : decode cX1_copyFrom 75 = .ok (.iconst 0, 1) := by decide +kernel
theorem dX1_copyFrom_76 : decode cX1_copyFrom 76 = .ok (.aload_n 0, 1) := by decide +kernel
theorem dX1_copyFrom_77 : decode cX1_copyFrom 77 = .ok (.getfield 25, 3) := by decide +kernel
theorem dX1_copyFrom_80 : decode cX1_copyFrom 80 = .ok (.iconst 0, 1) := by decide +kernel
theorem dX1_copyFrom_81 : decode cX1_copyFrom 81 = .ok (.bipush 16, 2) := by decide +kernel
theorem dX1_copyFrom_83 : decode cX1_copyFrom 83 = .ok (.invokestatic 59, 3) := by decide +kernel
theorem dX1_copyFrom_86 : decode cX1_copyFrom 86 = .ok (.aload_n 1, 1) := by decide +kernel
theorem dX1_copyFrom_87 : decode cX1_copyFrom 87 = .ok (.getfield 28, 3) := by decide +kernel
theorem dX1_copyFrom_90 : decode cX1_copyFrom 90 = .ok (.iconst 0, 1) := by decide +kernel
theorem dX1_copyFrom_91 : decode cX1_copyFrom 91 = .ok (.aload_n 0, 1) := by decide +kernel
theorem dX1_copyFrom_92 : decode cX1_copyFrom 92 = .ok (.getfield 28, 3) := by decide +kernel
theorem dX1_copyFrom_95 : decode cX1_copyFrom 95 = .ok (.iconst 0, 1) := by decide +kernel
theorem dX1_copyFrom_96 : decode cX1_copyFrom 96 = .ok (.bipush 16, 2) := by decide +kernel
theorem dX1_copyFrom_98 : decode cX1_copyFrom 98 = .ok (.invokestatic 59, 3) := by decide +kernel
theorem dX1_copyFrom_101 : decode cX1_copyFrom 101 = .ok (.aload_n 0, 1) := by decide +kernel
theorem dX1_copyFrom_102 : decode cX1_copyFrom 102 = .ok (.aload_n 1, 1) := by decide +kernel
theorem dX1_copyFrom_103 : decode cX1_copyFrom 103 = .ok (.getfield 65, 3) := by decide +kernel
theorem dX1_copyFrom_106 : decode cX1_copyFrom 106 = .ok (.putfield 65, 3) := by decide +kernel
theorem dX1_copyFrom_109 : decode cX1_copyFrom 109 = .ok (.aload_n 0, 1) := by decide +kernel
theorem dX1_copyFrom_110 : decode cX1_copyFrom 110 = .ok (.aload_n 1, 1) := by decide +kernel
theorem dX1_copyFrom_111 : decode cX1_copyFrom 111 = .ok (.getfield 68, 3) := by decide +kernel
theorem dX1_copyFrom_114 : decode cX1_copyFrom 114 = .ok (.putfield 68, 3) := by decide +kernel
theorem dX1_copyFrom_117 : decode cX1_copyFrom 117 = .ok (.aload_n 1, 1) := by decide +kernel
theorem dX1_copyFrom_118 : decode cX1_copyFrom 118 = .ok (.getfield 31, 3) := by decide +kernel
theorem dX1_copyFrom_121 : decode cX1_copyFrom 121 = .ok (.iconst 0, 1) := by decide +kernel
theorem dX1_copyFrom_122 : decode cX1_copyFrom 122 = .ok (.aload_n 0, 1) := by decide +kernel
theorem dX1_copyFrom_123 : decode cX1_copyFrom 123 = .ok (.getfield 31, 3) := by decide +kernel
theorem dX1_copyFrom_126 : decode cX1_copyFrom 126 = .ok (.iconst 0, 1) := by decide +kernel
theorem dX1_copyFrom_127 : decode cX1_copyFrom 127 = .ok (.iconst 4, 1) := by decide +kernel
theorem dX1_copyFrom_128 : decode cX1_copyFrom 128 = .ok (.invokestatic 59, 3) := by decide +kernel
theorem dX1_copyFrom_131 : decode cX1_copyFrom 131 = .ok (.aload_n 1, 1) := by decide +kernel
theorem dX1_copyFrom_132 : decode cX1_copyFrom 132 = .ok (.getfield 34, 3) := by decide +kernel
theorem dX1_copyFrom_135 : decode cX1_copyFrom 135 = .ok (.iconst 0, 1) := by decide +kernel
theorem dX1_copyFrom_136 : decode cX1_copyFrom 136 = .ok (.aload_n 0, 1) := by decide +kernel
theorem dX1_copyFrom_137 : decode cX1_copyFrom 137 = .ok (.getfield 34, 3) := by decide +kernel
theorem dX1_copyFrom_140 : decode cX1_copyFrom 140 = .ok (.iconst 0, 1) := by decide +kernel
theorem dX1_copyFrom_141 : decode cX1_copyFrom 141 = .ok (.bipush 10, 2) := by decide +kernel
theorem dX1_copyFrom_143 : decode cX1_copyFrom 143 = .ok (.invokestatic 59, 3) := by decide +kernel
theorem dX1_copyFrom_146 : decode cX1_copyFrom 146 = .ok (.aload_n 1, 1) := by decide +kernel
theorem dX1_copyFrom_147 : decode cX1_copyFrom 147 = .ok (.getfield 37, 3) := by decide +kernel
theorem dX1_copyFrom_150 : decode cX1_copyFrom 150 = .ok (.iconst 0, 1) := by decide +kernel
theorem dX1_copyFrom_151 : decode cX1_copyFrom 151 = .ok (.aload_n 0, 1) := by decide +kernel
theorem dX1_copyFrom_152 : decode cX1_copyFrom 152 = .ok (.getfield 37, 3) := by decide +kernel
theorem dX1_copyFrom_155 : decode cX1_copyFrom 155 = .ok (.iconst 0, 1) := by decide +kernel
theorem dX1_copyFrom_156 : decode cX1_copyFrom 156 = .ok (.bipush 40, 2) := by decide +kernel
theorem dX1_copyFrom_158 : decode cX1_copyFrom 158 = .ok (.invokestatic 59, 3) := by decide +kernel
theorem dX1_copyFrom_161 : decode cX1_copyFrom 161 = .ok (.aload_n 0, 1) := by decide +kernel
theorem dX1_copyFrom_162 : decode cX1_copyFrom 162 = .ok (.aload_n 1, 1) := by decide +kernel
theorem dX1_copyFrom_163 : decode cX1_copyFrom 163 = .ok (.getfield 71, 3) := by decide +kernel
theorem dX1_copyFrom_166 : decode cX1_copyFrom 166 = .ok (.putfield 71, 3) := by decide +kernel
theorem dX1_copyFrom_169 : decode cX1_copyFrom 169 = .ok (.aload_n 0, 1) := by decide +kernel
theorem dX1_copyFrom_170 : decode cX1_copyFrom 170 = .ok (.aload_n 1, 1) := by decide +kernel
theorem dX1_copyFrom_171 : decode cX1_copyFrom 171 = .ok (.getfield 74, 3) := by decide +kernel
theorem dX1_copyFrom_174 : decode cX1_copyFrom 174 = .ok (.putfield 74, 3) := by decide +kernel
theorem dX1_copyFrom_177 : decode cX1_copyFrom 177 = .ok (.aload_n 0, 1) := by decide +kernel
theorem dX1_copyFrom_178 : decode cX1_copyFrom 178 = .ok (.aload_n 1, 1) := by decide +kernel
theorem dX1_copyFrom_179 : decode cX1_copyFrom 179 = .ok (.getfield 77, 3) := by decide +kernel
theorem dX1_copyFrom_182 : decode cX1_copyFrom 182 = .ok (.putfield 77, 3) := by decide +kernel
theorem dX1_copyFrom_185 : decode cX1_copyFrom 185 = .ok (.aload_n 1, 1) := by decide +kernel
theorem dX1_copyFrom_186 : decode cX1_copyFrom 186 = .ok (.getfield 40, 3) := by decide +kernel
theorem dX1_copyFrom_189 : decode cX1_copyFrom 189 = .ok (.iconst 0, 1) := by decide +kernel
theorem dX1_copyFrom_190 : decode cX1_copyFrom 190 = .ok (.aload_n 0, 1) := by decide +kernel
theorem dX1_copyFrom_191 : decode cX1_copyFrom 191 = .ok (.getfield 40, 3) := by decide +kernel
theorem dX1_copyFrom_194 : decode cX1_copyFrom 194 = .ok (.iconst 0, 1) := by decide +kernel
theorem dX1_copyFrom_195 : decode cX1_copyFrom 195 = .ok (.bipush 10, 2) := by decide +kernel
theorem dX1_copyFrom_197 : decode cX1_copyFrom 197 = .ok (.invokestatic 59, 3) := by decide +kernel
theorem dX1_copyFrom_200 : decode cX1_copyFrom 200 = .ok (.aload_n 1, 1) := by decide +kernel
theorem dX1_copyFrom_201 : decode cX1_copyFrom 201 = .ok (.getfield 43, 3) := by decide +kernel
theorem dX1_copyFrom_204 : decode cX1_copyFrom 204 = .ok (.iconst 0, 1) := by decide +kernel
theorem dX1_copyFrom_205 : decode cX1_copyFrom 205 = .ok (.aload_n 0, 1) := by decide +kernel
theorem dX1_copyFrom_206 : decode cX1_copyFrom 206 = .ok (.getfield 43, 3) := by decide +kernel
theorem dX1_copyFrom_209 : decode cX1_copyFrom 209 = .ok (.iconst 0, 1) := by decide +kernel
theorem dX1_copyFrom_210 : decode cX1_copyFrom 210 = .ok (.bipush 16, 2) := by decide +kernel
theorem dX1_copyFrom_212 : decode cX1_copyFrom 212 = .ok (.invokestatic 59, 3) := by decide +kernel
theorem dX1_copyFrom_215 : decode cX1_copyFrom 215 = .ok (.aload_n 1, 1) := by decide +kernel
theorem dX1_copyFrom_216 : decode cX1_copyFrom 216 = .ok (.getfield 46, 3) := by decide +kernel
theorem dX1_copyFrom_219 : decode cX1_copyFrom 219 = .ok (.iconst 0, 1) := by decide +kernel
theorem dX1_copyFrom_220 : decode cX1_copyFrom 220 = .ok (.aload_n 0, 1) := by decide +kernel
theorem dX1_copyFrom_221 : decode cX1_copyFrom 221 = .ok (.getfield 46, 3) := by decide +kernel
theorem dX1_copyFrom_224 : decode cX1_copyFrom 224 = .ok (.iconst 0, 1) := by decide +kernel
theorem dX1_copyFrom_225 : decode cX1_copyFrom 225 = .ok (.bipush 32, 2) := by decide +kernel
theorem dX1_copyFrom_227 : decode cX1_copyFrom 227 = .ok (.invokestatic 59, 3) := by decide +kernel
theorem dX1_copyFrom_230 : decode cX1_copyFrom 230 = .ok (.aload_n 0, 1) := by decide +kernel
theorem dX1_copyFrom_231 : decode cX1_copyFrom 231 = .ok (.aload_n 1, 1) := by decide +kernel
theorem dX1_copyFrom_232 : decode cX1_copyFrom 232 = .ok (.getfield 55, 3) := by decide +kernel
theorem dX1_copyFrom_235 : decode cX1_copyFrom 235 = .ok (.putfield 55, 3) := by decide +kernel
theorem dX1_copyFrom_238 : decode cX1_copyFrom 238 = .ok (.return_, 1) := by decide +kernel
def ok_X1_copyFrom_2 (K : ro_K) (o0 : Nat) (o1 : Nat) : ro_Mem → Prop := fun e => ro_X K 26 [(0, .ref (ro_ad (kG K) o0)), (1, .ref (ro_ad (kG K) o1))] [] e
def fb_X1_copyFrom_2 (o0 : Nat) (o1 : Nat) (rec : (Int32 × ro_Mem) → Option ro_Mem) (v2 : Int32) (μ : ro_Mem) : Option ro_Mem :=
  if 96 ≤ v2 then
  (some μ)
  else
  (if ro_in v2 96 then
  (ro_lt (ro_set μ (o0 + 1) v2.toNatClampNeg (vp_nar .boolean (μ (o1 + 1) v2.toNatClampNeg))) fun m3 =>
  rec (v2 + 1, m3)) else none)
theorem bb_X1_copyFrom_2 {K : ro_K} (hK : ro_C K RX1 cX1_copyFrom 3 1) (hR : ro_R K none) {o0 : Nat} {o1 : Nat} (h0 : ro_sh o0 = (0, 1)) (h1 : ro_sh o1 = (0, 1)) {μ : ro_Mem} {rec : (Int32 × ro_Mem) → Option ro_Mem} {v2 : Int32} {q : ro_Mem} (hrec : ∀ (s : Int32 × ro_Mem) (q : ro_Mem), rec s = some q → ok_X1_copyFrom_2 K o0 o1 q → ro_X K 2 [(0, .ref (ro_ad (kG K) o0)), (1, .ref (ro_ad (kG K) o1)), (2, .int s.1)] [] s.2) (hf : fb_X1_copyFrom_2 o0 o1 rec v2 μ = some q) (hq : ok_X1_copyFrom_2 K o0 o1 q) : ro_X K 2 [(0, .ref (ro_ad (kG K) o0)), (1, .ref (ro_ad (kG K) o1)), (2, .int v2)] [] μ := by
  unfold fb_X1_copyFrom_2 at hf
  refine ro_iload_n hK 2 rfl dX1_copyFrom_2 rfl ?_
  refine ro_bipush (v := 96) hK dX1_copyFrom_3 (by decide) ?_
  refine ro_icmp_ge hK 26 dX1_copyFrom_5 (by decide) (fun c1 => ?_) (fun c1 => ?_)
  · have hf := ro_it hf c1
    refine ro_sub (L' := [(0, .ref (ro_ad (kG K) o0)), (1, .ref (ro_ad (kG K) o1))]) [0, 1] rfl ?_
    obtain rfl := Option.some.inj hf
    exact hq
  · have hf := ro_ie hf c1
    refine ro_aload_n hK 0 rfl dX1_copyFrom_8 rfl ?_
    refine ro_getr hK fl_X1_9 h0 dX1_copyFrom_9 ?_
    refine ro_iload_n hK 2 rfl dX1_copyFrom_12 rfl ?_
    refine ro_aload_n hK 1 rfl dX1_copyFrom_13 rfl ?_
    refine ro_getr hK fl_X1_9 h1 dX1_copyFrom_14 ?_
    refine ro_iload_n hK 2 rfl dX1_copyFrom_17 rfl ?_
    obtain ⟨g2, hf⟩ := ro_gd hf
    refine ro_zald hK (so_1_1 h1) g2 dX1_copyFrom_18 ?_
    obtain ⟨m3, e4, hf⟩ := ro_ld hf
    refine ro_zast hK (so_1_1 h0) g2 dX1_copyFrom_19 ?_
    refine ro_mv e4 ?_
    refine ro_iinc (v := v2 + 1) (L' := [(2, .int (v2 + 1)), (0, .ref (ro_ad (kG K) o0)), (1, .ref (ro_ad (kG K) o1))]) hK 2 rfl dX1_copyFrom_20 rfl (by decide) rfl ?_
    refine ro_goto hK 2 dX1_copyFrom_23 (by decide) ?_
    refine ro_sub (L' := [(0, .ref (ro_ad (kG K) o0)), (1, .ref (ro_ad (kG K) o1)), (2, .int (v2 + 1))]) [1, 2, 0] rfl ?_
    exact hrec (v2 + 1, m3) _ hf hq
def fl_X1_copyFrom_2 (o0 : Nat) (o1 : Nat) : (Int32 × ro_Mem) → Option ro_Mem :=
  ro_loop (fun rec s => fb_X1_copyFrom_2 o0 o1 rec s.1 s.2) ro_FU
theorem lp_X1_copyFrom_2 {K : ro_K} (hK : ro_C K RX1 cX1_copyFrom 3 1) (hR : ro_R K none) {o0 : Nat} {o1 : Nat} (h0 : ro_sh o0 = (0, 1)) (h1 : ro_sh o1 = (0, 1)) {s : Int32 × ro_Mem} {q : ro_Mem} (hf : fl_X1_copyFrom_2 o0 o1 s = some q) (hq : ok_X1_copyFrom_2 K o0 o1 q) : ro_X K 2 [(0, .ref (ro_ad (kG K) o0)), (1, .ref (ro_ad (kG K) o1)), (2, .int s.1)] [] s.2 :=
  ro_loopX (b := fun rec s => fb_X1_copyFrom_2 o0 o1 rec s.1 s.2) (X := fun s => ro_X K 2 [(0, .ref (ro_ad (kG K) o0)), (1, .ref (ro_ad (kG K) o1)), (2, .int s.1)] [] s.2) (OK := ok_X1_copyFrom_2 K o0 o1) (fun rec s q hrec hb ho => bb_X1_copyFrom_2 hK hR h0 h1 hrec hb ho) ro_FU s q hf hq
def fn_X1_copyFrom (o0 : Nat) (o1 : Nat) (μ : ro_Mem) : Option ro_Mem :=
  (fl_X1_copyFrom_2 o0 o1 (0, μ)).bind fun q5 =>
  ro_lt (ro_arr q5 (o0 + 2) (va_cpy (q5 (o1 + 2)) (q5 (o0 + 2)) (0 : Int32).toNatClampNeg (0 : Int32).toNatClampNeg (96 : Int32).toNatClampNeg)) fun m7 =>
  ro_lt (ro_arr m7 (o0 + 3) (va_cpy (m7 (o1 + 3)) (m7 (o0 + 3)) (0 : Int32).toNatClampNeg (0 : Int32).toNatClampNeg (96 : Int32).toNatClampNeg)) fun m9 =>
  ro_lt (ro_arr m9 (o0 + 4) (va_cpy (m9 (o1 + 4)) (m9 (o0 + 4)) (0 : Int32).toNatClampNeg (0 : Int32).toNatClampNeg (16 : Int32).toNatClampNeg)) fun m11 =>
  ro_lt (ro_arr m11 (o0 + 5) (va_cpy (m11 (o1 + 5)) (m11 (o0 + 5)) (0 : Int32).toNatClampNeg (0 : Int32).toNatClampNeg (16 : Int32).toNatClampNeg)) fun m13 =>
  ro_lt (ro_arr m13 (o0 + 6) (va_cpy (m13 (o1 + 6)) (m13 (o0 + 6)) (0 : Int32).toNatClampNeg (0 : Int32).toNatClampNeg (16 : Int32).toNatClampNeg)) fun m15 =>
  ro_lt (ro_set m15 o0 6 (m15 o1 6)) fun m17 =>
  ro_lt (ro_set m17 o0 7 (m17 o1 7)) fun m19 =>
  ro_lt (ro_arr m19 (o0 + 7) (va_cpy (m19 (o1 + 7)) (m19 (o0 + 7)) (0 : Int32).toNatClampNeg (0 : Int32).toNatClampNeg (4 : Int32).toNatClampNeg)) fun m21 =>
  ro_lt (ro_arr m21 (o0 + 8) (va_cpy (m21 (o1 + 8)) (m21 (o0 + 8)) (0 : Int32).toNatClampNeg (0 : Int32).toNatClampNeg (10 : Int32).toNatClampNeg)) fun m23 =>
  ro_lt (ro_arr m23 (o0 + 9) (va_cpy (m23 (o1 + 9)) (m23 (o0 + 9)) (0 : Int32).toNatClampNeg (0 : Int32).toNatClampNeg (40 : Int32).toNatClampNeg)) fun m25 =>
  ro_lt (ro_set m25 o0 11 (m25 o1 11)) fun m27 =>
  ro_lt (ro_set m27 o0 12 (m27 o1 12)) fun m29 =>
  ro_lt (ro_set m29 o0 13 (m29 o1 13)) fun m31 =>
  ro_lt (ro_arr m31 (o0 + 10) (va_cpy (m31 (o1 + 10)) (m31 (o0 + 10)) (0 : Int32).toNatClampNeg (0 : Int32).toNatClampNeg (10 : Int32).toNatClampNeg)) fun m33 =>
  ro_lt (ro_arr m33 (o0 + 11) (va_cpy (m33 (o1 + 11)) (m33 (o0 + 11)) (0 : Int32).toNatClampNeg (0 : Int32).toNatClampNeg (16 : Int32).toNatClampNeg)) fun m35 =>
  ro_lt (ro_arr m35 (o0 + 12) (va_cpy (m35 (o1 + 12)) (m35 (o0 + 12)) (0 : Int32).toNatClampNeg (0 : Int32).toNatClampNeg (32 : Int32).toNatClampNeg)) fun m37 =>
  ro_lt (ro_set m37 o0 17 (m37 o1 17)) fun m39 =>
  some m39
theorem be_X1_copyFrom {K : ro_K} (hK : ro_C K RX1 cX1_copyFrom 3 1) (hR : ro_R K none) {o0 : Nat} {o1 : Nat} (h0 : ro_sh o0 = (0, 1)) (h1 : ro_sh o1 = (0, 1)) {μ : ro_Mem} {out : ro_Mem} (hf : fn_X1_copyFrom o0 o1 μ = some out) (hq : kQ K none out) : ro_X K 0 [(0, .ref (ro_ad (kG K) o0)), (1, .ref (ro_ad (kG K) o1))] [] μ := by
  unfold fn_X1_copyFrom at hf
  refine ro_iconst (v := 0) hK dX1_copyFrom_0 (by decide) ?_
  refine ro_istore_n (L' := [(2, .int 0), (0, .ref (ro_ad (kG K) o0)), (1, .ref (ro_ad (kG K) o1))]) hK dX1_copyFrom_1 rfl (by decide) rfl ?_
  obtain ⟨q5, e6, hf⟩ := ro_bd hf
  refine ro_sub (L' := [(0, .ref (ro_ad (kG K) o0)), (1, .ref (ro_ad (kG K) o1)), (2, .int 0)]) [1, 2, 0] rfl ?_
  refine lp_X1_copyFrom_2 hK hR h0 h1 e6 ?_
  show ro_X K 26 [(0, .ref (ro_ad (kG K) o0)), (1, .ref (ro_ad (kG K) o1))] [] q5
  refine ro_aload_n hK 1 rfl dX1_copyFrom_26 rfl ?_
  refine ro_getr hK fl_X1_15 h1 dX1_copyFrom_27 ?_
  refine ro_iconst (v := 0) hK dX1_copyFrom_30 (by decide) ?_
  refine ro_aload_n hK 0 rfl dX1_copyFrom_31 rfl ?_
  refine ro_getr hK fl_X1_15 h0 dX1_copyFrom_32 ?_
  refine ro_iconst (v := 0) hK dX1_copyFrom_35 (by decide) ?_
  refine ro_bipush (v := 96) hK dX1_copyFrom_36 (by decide) ?_
  obtain ⟨m7, e8, hf⟩ := ro_ld hf
  refine ro_copy hK ml_X1_59 kn_copy kn_copys kn_sys (so_1_2 h1) (so_1_2 h0) (by decide) (by decide) (by decide) (by decide) (by decide) (by decide) (Nat.le_of_ble_eq_true rfl) dX1_copyFrom_38 ?_
  refine ro_mv e8 ?_
  refine ro_aload_n hK 1 rfl dX1_copyFrom_41 rfl ?_
  refine ro_getr hK fl_X1_19 h1 dX1_copyFrom_42 ?_
  refine ro_iconst (v := 0) hK dX1_copyFrom_45 (by decide) ?_
  refine ro_aload_n hK 0 rfl dX1_copyFrom_46 rfl ?_
  refine ro_getr hK fl_X1_19 h0 dX1_copyFrom_47 ?_
  refine ro_iconst (v := 0) hK dX1_copyFrom_50 (by decide) ?_
  refine ro_bipush (v := 96) hK dX1_copyFrom_51 (by decide) ?_
  obtain ⟨m9, e10, hf⟩ := ro_ld hf
  refine ro_copy hK ml_X1_59 kn_copy kn_copys kn_sys (so_1_3 h1) (so_1_3 h0) (by decide) (by decide) (by decide) (by decide) (by decide) (by decide) (Nat.le_of_ble_eq_true rfl) dX1_copyFrom_53 ?_
  refine ro_mv e10 ?_
  refine ro_aload_n hK 1 rfl dX1_copyFrom_56 rfl ?_
  refine ro_getr hK fl_X1_22 h1 dX1_copyFrom_57 ?_
  refine ro_iconst (v := 0) hK dX1_copyFrom_60 (by decide) ?_
  refine ro_aload_n hK 0 rfl dX1_copyFrom_61 rfl ?_
  refine ro_getr hK fl_X1_22 h0 dX1_copyFrom_62 ?_
  refine ro_iconst (v := 0) hK dX1_copyFrom_65 (by decide) ?_
  refine ro_bipush (v := 16) hK dX1_copyFrom_66 (by decide) ?_
  obtain ⟨m11, e12, hf⟩ := ro_ld hf
  refine ro_copy hK ml_X1_59 kn_copy kn_copys kn_sys (so_1_4 h1) (so_1_4 h0) (by decide) (by decide) (by decide) (by decide) (by decide) (by decide) (Nat.le_of_ble_eq_true rfl) dX1_copyFrom_68 ?_
  refine ro_mv e12 ?_
  refine ro_aload_n hK 1 rfl dX1_copyFrom_71 rfl ?_
  refine ro_getr hK fl_X1_25 h1 dX1_copyFrom_72 ?_
  refine ro_iconst (v := 0) hK dX1_copyFrom_75 (by decide) ?_
  refine ro_aload_n hK 0 rfl dX1_copyFrom_76 rfl ?_
  refine ro_getr hK fl_X1_25 h0 dX1_copyFrom_77 ?_
  refine ro_iconst (v := 0) hK dX1_copyFrom_80 (by decide) ?_
  refine ro_bipush (v := 16) hK dX1_copyFrom_81 (by decide) ?_
  obtain ⟨m13, e14, hf⟩ := ro_ld hf
  refine ro_copy hK ml_X1_59 kn_copy kn_copys kn_sys (so_1_5 h1) (so_1_5 h0) (by decide) (by decide) (by decide) (by decide) (by decide) (by decide) (Nat.le_of_ble_eq_true rfl) dX1_copyFrom_83 ?_
  refine ro_mv e14 ?_
  refine ro_aload_n hK 1 rfl dX1_copyFrom_86 rfl ?_
  refine ro_getr hK fl_X1_28 h1 dX1_copyFrom_87 ?_
  refine ro_iconst (v := 0) hK dX1_copyFrom_90 (by decide) ?_
  refine ro_aload_n hK 0 rfl dX1_copyFrom_91 rfl ?_
  refine ro_getr hK fl_X1_28 h0 dX1_copyFrom_92 ?_
  refine ro_iconst (v := 0) hK dX1_copyFrom_95 (by decide) ?_
  refine ro_bipush (v := 16) hK dX1_copyFrom_96 (by decide) ?_
  obtain ⟨m15, e16, hf⟩ := ro_ld hf
  refine ro_copy hK ml_X1_59 kn_copy kn_copys kn_sys (so_1_6 h1) (so_1_6 h0) (by decide) (by decide) (by decide) (by decide) (by decide) (by decide) (Nat.le_of_ble_eq_true rfl) dX1_copyFrom_98 ?_
  refine ro_mv e16 ?_
  refine ro_aload_n hK 0 rfl dX1_copyFrom_101 rfl ?_
  refine ro_aload_n hK 1 rfl dX1_copyFrom_102 rfl ?_
  refine ro_geti hK fl_X1_65 h1 dX1_copyFrom_103 ?_
  obtain ⟨m17, e18, hf⟩ := ro_ld hf
  refine ro_puti hK fl_X1_65 h0 rfl rfl dX1_copyFrom_106 ?_
  refine ro_mv e18 ?_
  refine ro_aload_n hK 0 rfl dX1_copyFrom_109 rfl ?_
  refine ro_aload_n hK 1 rfl dX1_copyFrom_110 rfl ?_
  refine ro_geti hK fl_X1_68 h1 dX1_copyFrom_111 ?_
  obtain ⟨m19, e20, hf⟩ := ro_ld hf
  refine ro_puti hK fl_X1_68 h0 rfl rfl dX1_copyFrom_114 ?_
  refine ro_mv e20 ?_
  refine ro_aload_n hK 1 rfl dX1_copyFrom_117 rfl ?_
  refine ro_getr hK fl_X1_31 h1 dX1_copyFrom_118 ?_
  refine ro_iconst (v := 0) hK dX1_copyFrom_121 (by decide) ?_
  refine ro_aload_n hK 0 rfl dX1_copyFrom_122 rfl ?_
  refine ro_getr hK fl_X1_31 h0 dX1_copyFrom_123 ?_
  refine ro_iconst (v := 0) hK dX1_copyFrom_126 (by decide) ?_
  refine ro_iconst (v := 4) hK dX1_copyFrom_127 (by decide) ?_
  obtain ⟨m21, e22, hf⟩ := ro_ld hf
  refine ro_copy hK ml_X1_59 kn_copy kn_copys kn_sys (so_1_7 h1) (so_1_7 h0) (by decide) (by decide) (by decide) (by decide) (by decide) (by decide) (Nat.le_of_ble_eq_true rfl) dX1_copyFrom_128 ?_
  refine ro_mv e22 ?_
  refine ro_aload_n hK 1 rfl dX1_copyFrom_131 rfl ?_
  refine ro_getr hK fl_X1_34 h1 dX1_copyFrom_132 ?_
  refine ro_iconst (v := 0) hK dX1_copyFrom_135 (by decide) ?_
  refine ro_aload_n hK 0 rfl dX1_copyFrom_136 rfl ?_
  refine ro_getr hK fl_X1_34 h0 dX1_copyFrom_137 ?_
  refine ro_iconst (v := 0) hK dX1_copyFrom_140 (by decide) ?_
  refine ro_bipush (v := 10) hK dX1_copyFrom_141 (by decide) ?_
  obtain ⟨m23, e24, hf⟩ := ro_ld hf
  refine ro_copy hK ml_X1_59 kn_copy kn_copys kn_sys (so_1_8 h1) (so_1_8 h0) (by decide) (by decide) (by decide) (by decide) (by decide) (by decide) (Nat.le_of_ble_eq_true rfl) dX1_copyFrom_143 ?_
  refine ro_mv e24 ?_
  refine ro_aload_n hK 1 rfl dX1_copyFrom_146 rfl ?_
  refine ro_getr hK fl_X1_37 h1 dX1_copyFrom_147 ?_
  refine ro_iconst (v := 0) hK dX1_copyFrom_150 (by decide) ?_
  refine ro_aload_n hK 0 rfl dX1_copyFrom_151 rfl ?_
  refine ro_getr hK fl_X1_37 h0 dX1_copyFrom_152 ?_
  refine ro_iconst (v := 0) hK dX1_copyFrom_155 (by decide) ?_
  refine ro_bipush (v := 40) hK dX1_copyFrom_156 (by decide) ?_
  obtain ⟨m25, e26, hf⟩ := ro_ld hf
  refine ro_copy hK ml_X1_59 kn_copy kn_copys kn_sys (so_1_9 h1) (so_1_9 h0) (by decide) (by decide) (by decide) (by decide) (by decide) (by decide) (Nat.le_of_ble_eq_true rfl) dX1_copyFrom_158 ?_
  refine ro_mv e26 ?_
  refine ro_aload_n hK 0 rfl dX1_copyFrom_161 rfl ?_
  refine ro_aload_n hK 1 rfl dX1_copyFrom_162 rfl ?_
  refine ro_geti hK fl_X1_71 h1 dX1_copyFrom_163 ?_
  obtain ⟨m27, e28, hf⟩ := ro_ld hf
  refine ro_puti hK fl_X1_71 h0 rfl rfl dX1_copyFrom_166 ?_
  refine ro_mv e28 ?_
  refine ro_aload_n hK 0 rfl dX1_copyFrom_169 rfl ?_
  refine ro_aload_n hK 1 rfl dX1_copyFrom_170 rfl ?_
  refine ro_geti hK fl_X1_74 h1 dX1_copyFrom_171 ?_
  obtain ⟨m29, e30, hf⟩ := ro_ld hf
  refine ro_puti hK fl_X1_74 h0 rfl rfl dX1_copyFrom_174 ?_
  refine ro_mv e30 ?_
  refine ro_aload_n hK 0 rfl dX1_copyFrom_177 rfl ?_
  refine ro_aload_n hK 1 rfl dX1_copyFrom_178 rfl ?_
  refine ro_geti hK fl_X1_77 h1 dX1_copyFrom_179 ?_
  obtain ⟨m31, e32, hf⟩ := ro_ld hf
  refine ro_puti hK fl_X1_77 h0 rfl rfl dX1_copyFrom_182 ?_
  refine ro_mv e32 ?_
  refine ro_aload_n hK 1 rfl dX1_copyFrom_185 rfl ?_
  refine ro_getr hK fl_X1_40 h1 dX1_copyFrom_186 ?_
  refine ro_iconst (v := 0) hK dX1_copyFrom_189 (by decide) ?_
  refine ro_aload_n hK 0 rfl dX1_copyFrom_190 rfl ?_
  refine ro_getr hK fl_X1_40 h0 dX1_copyFrom_191 ?_
  refine ro_iconst (v := 0) hK dX1_copyFrom_194 (by decide) ?_
  refine ro_bipush (v := 10) hK dX1_copyFrom_195 (by decide) ?_
  obtain ⟨m33, e34, hf⟩ := ro_ld hf
  refine ro_copy hK ml_X1_59 kn_copy kn_copys kn_sys (so_1_10 h1) (so_1_10 h0) (by decide) (by decide) (by decide) (by decide) (by decide) (by decide) (Nat.le_of_ble_eq_true rfl) dX1_copyFrom_197 ?_
  refine ro_mv e34 ?_
  refine ro_aload_n hK 1 rfl dX1_copyFrom_200 rfl ?_
  refine ro_getr hK fl_X1_43 h1 dX1_copyFrom_201 ?_
  refine ro_iconst (v := 0) hK dX1_copyFrom_204 (by decide) ?_
  refine ro_aload_n hK 0 rfl dX1_copyFrom_205 rfl ?_
  refine ro_getr hK fl_X1_43 h0 dX1_copyFrom_206 ?_
  refine ro_iconst (v := 0) hK dX1_copyFrom_209 (by decide) ?_
  refine ro_bipush (v := 16) hK dX1_copyFrom_210 (by decide) ?_
  obtain ⟨m35, e36, hf⟩ := ro_ld hf
  refine ro_copy hK ml_X1_59 kn_copy kn_copys kn_sys (so_1_11 h1) (so_1_11 h0) (by decide) (by decide) (by decide) (by decide) (by decide) (by decide) (Nat.le_of_ble_eq_true rfl) dX1_copyFrom_212 ?_
  refine ro_mv e36 ?_
  refine ro_aload_n hK 1 rfl dX1_copyFrom_215 rfl ?_
  refine ro_getr hK fl_X1_46 h1 dX1_copyFrom_216 ?_
  refine ro_iconst (v := 0) hK dX1_copyFrom_219 (by decide) ?_
  refine ro_aload_n hK 0 rfl dX1_copyFrom_220 rfl ?_
  refine ro_getr hK fl_X1_46 h0 dX1_copyFrom_221 ?_
  refine ro_iconst (v := 0) hK dX1_copyFrom_224 (by decide) ?_
  refine ro_bipush (v := 32) hK dX1_copyFrom_225 (by decide) ?_
  obtain ⟨m37, e38, hf⟩ := ro_ld hf
  refine ro_copy hK ml_X1_59 kn_copy kn_copys kn_sys (so_1_12 h1) (so_1_12 h0) (by decide) (by decide) (by decide) (by decide) (by decide) (by decide) (Nat.le_of_ble_eq_true rfl) dX1_copyFrom_227 ?_
  refine ro_mv e38 ?_
  refine ro_aload_n hK 0 rfl dX1_copyFrom_230 rfl ?_
  refine ro_aload_n hK 1 rfl dX1_copyFrom_231 rfl ?_
  refine ro_geti hK fl_X1_55 h1 dX1_copyFrom_232 ?_
  obtain ⟨m39, e40, hf⟩ := ro_ld hf
  refine ro_puti hK fl_X1_55 h0 rfl rfl dX1_copyFrom_235 ?_
  refine ro_mv e40 ?_
  obtain rfl := Option.some.inj hf
  exact ro_vret hK hR dX1_copyFrom_238 hq
theorem mt_X1_copyFrom (l : Launch) (G : ro_G) {o0 : Nat} {o1 : Nat} (h0 : ro_sh o0 = (0, 1)) (h1 : ro_sh o1 = (0, 1)) {μ : ro_Mem} {out : ro_Mem} (hf : fn_X1_copyFrom o0 o1 μ = some out) : ro_MX l G yX1_copyFrom cX1_copyFrom 3 none 1 [.ref (ro_ad G o0), .ref (ro_ad G o1)] μ none out := by
  refine ro_MX.of (by decide +kernel) (Nat.le_of_ble_eq_true rfl) (fun K hG hl hq hK hR => ?_)
  subst hG
  exact be_X1_copyFrom hK hR h0 h1 hf hq
-- ===== X1_isGuest =====
theorem dX1_isGuest_0 : decode cX1_isGuest 0 = .ok (.iload_n 1, 1) := by decide +kernel
theorem dX1_isGuest_1 : decode cX1_isGuest 1 = .ok (.ifCond .lt 25, 3) := by decide +kernel
theorem dX1_isGuest_4 : decode cX1_isGuest 4 = .ok (.iload_n 1, 1) := by decide +kernel
theorem dX1_isGuest_5 : decode cX1_isGuest 5 = .ok (.bipush 10, 2) := by decide +kernel
theorem dX1_isGuest_7 : decode cX1_isGuest 7 = .ok (.if_icmp .ge 19, 3) := by decide +kernel
theorem dX1_isGuest_10 : decode cX1_isGuest 10 = .ok (.aload_n 0, 1) := by decide +kernel
theorem dX1_isGuest_11 : decode cX1_isGuest 11 = .ok (.getfield 71, 3) := by decide +kernel
theorem dX1_isGuest_14 : decode cX1_isGuest 14 = .ok (.iload_n 1, 1) := by decide +kernel
theorem dX1_isGuest_15 : decode cX1_isGuest 15 = .ok (.ishr, 1) := by decide +kernel
theorem dX1_isGuest_16 : decode cX1_isGuest 16 = .ok (.iconst 1, 1) := by decide +kernel
theorem dX1_isGuest_17 : decode cX1_isGuest 17 = .ok (.iand, 1) := by decide +kernel
theorem dX1_isGuest_18 : decode cX1_isGuest 18 = .ok (.iconst 1, 1) := by decide +kernel
theorem dX1_isGuest_19 : decode cX1_isGuest 19 = .ok (.if_icmp .ne 7, 3) := by decide +kernel
theorem dX1_isGuest_22 : decode cX1_isGuest 22 = .ok (.iconst 1, 1) := by decide +kernel
theorem dX1_isGuest_23 : decode cX1_isGuest 23 = .ok (.goto 4, 3) := by decide +kernel
theorem dX1_isGuest_26 : decode cX1_isGuest 26 = .ok (.iconst 0, 1) := by decide +kernel
theorem dX1_isGuest_27 : decode cX1_isGuest 27 = .ok (.ireturn, 1) := by decide +kernel
def fn_X1_isGuest (o0 : Nat) (v1 : Int32) (μ : ro_Mem) : Option Int32 :=
  if v1 < 0 then
  (some 0)
  else
  (if 10 ≤ v1 then
  (some 0)
  else
  (if (((μ o0 11) >>> (v1 &&& 31)) &&& 1) = 1 then
  (some 1)
  else
  (some 0)))
theorem be_X1_isGuest {K : ro_K} (hK : ro_C K RX1 cX1_isGuest 2 0) (hR : ro_R K (some .boolean)) {o0 : Nat} {v1 : Int32} (h0 : ro_sh o0 = (0, 1)) {μ : ro_Mem} {out : Int32} (hf : fn_X1_isGuest o0 v1 μ = some out) (hq : kQ K (some (.int out)) μ) : ro_X K 0 [(0, .ref (ro_ad (kG K) o0)), (1, .int v1)] [] μ := by
  unfold fn_X1_isGuest at hf
  refine ro_iload_n hK 1 rfl dX1_isGuest_0 rfl ?_
  refine ro_if_lt hK 26 dX1_isGuest_1 (by decide) (fun c1 => ?_) (fun c1 => ?_)
  · have hf := ro_it hf c1
    refine ro_iconst (v := 0) hK dX1_isGuest_26 (by decide) ?_
    obtain rfl := Option.some.inj hf
    exact ro_zret hK hR dX1_isGuest_27 (by decide) hq
  · have hf := ro_ie hf c1
    refine ro_iload_n hK 1 rfl dX1_isGuest_4 rfl ?_
    refine ro_bipush (v := 10) hK dX1_isGuest_5 (by decide) ?_
    refine ro_icmp_ge hK 26 dX1_isGuest_7 (by decide) (fun c2 => ?_) (fun c2 => ?_)
    · have hf := ro_it hf c2
      refine ro_iconst (v := 0) hK dX1_isGuest_26 (by decide) ?_
      obtain rfl := Option.some.inj hf
      exact ro_zret hK hR dX1_isGuest_27 (by decide) hq
    · have hf := ro_ie hf c2
      refine ro_aload_n hK 0 rfl dX1_isGuest_10 rfl ?_
      refine ro_geti hK fl_X1_71 h0 dX1_isGuest_11 ?_
      refine ro_iload_n hK 1 rfl dX1_isGuest_14 rfl ?_
      refine ro_ishr hK dX1_isGuest_15 ?_
      refine ro_iconst (v := 1) hK dX1_isGuest_16 (by decide) ?_
      refine ro_iand hK dX1_isGuest_17 ?_
      refine ro_iconst (v := 1) hK dX1_isGuest_18 (by decide) ?_
      refine ro_icmp_ne hK 26 dX1_isGuest_19 (by decide) (fun c3 => ?_) (fun c3 => ?_)
      · have hf := ro_ie hf c3
        refine ro_iconst (v := 0) hK dX1_isGuest_26 (by decide) ?_
        obtain rfl := Option.some.inj hf
        exact ro_zret hK hR dX1_isGuest_27 (by decide) hq
      · have hf := ro_it hf c3
        refine ro_iconst (v := 1) hK dX1_isGuest_22 (by decide) ?_
        refine ro_goto hK 27 dX1_isGuest_23 (by decide) ?_
        obtain rfl := Option.some.inj hf
        exact ro_zret hK hR dX1_isGuest_27 (by decide) hq
theorem mt_X1_isGuest (l : Launch) (G : ro_G) {o0 : Nat} {v1 : Int32} (h0 : ro_sh o0 = (0, 1)) {μ : ro_Mem} {out : Int32} (hf : fn_X1_isGuest o0 v1 μ = some out) : ro_MX l G yX1_isGuest cX1_isGuest 2 (some .boolean) 0 [.ref (ro_ad G o0), .int v1] μ (some (.int out)) μ := by
  refine ro_MX.of (by decide +kernel) (Nat.le_of_ble_eq_true rfl) (fun K hG hl hq hK hR => ?_)
  subst hG
  exact be_X1_isGuest hK hR h0 hf hq
