-- ===== X12_factOf =====
theorem dX12_factOf_0 : decode cX12_factOf 0 = .ok (.iload_n 0, 1) := by decide +kernel
theorem dX12_factOf_1 : decode cX12_factOf 1 = .ok (.tableswitch 145 97 121 #[127, 123, 145, 145, 145, 145, 145, 145, 121, 145, 125, 119, 145, 145, 139, 117, 145, 130, 145, 145, 145, 115, 142, 136, 133], 115) := by decide +kernel
theorem dX12_factOf_116 : decode cX12_factOf 116 = .ok (.iconst 0, 1) := by decide +kernel
theorem dX12_factOf_117 : decode cX12_factOf 117 = .ok (.ireturn, 1) := by decide +kernel
theorem dX12_factOf_118 : decode cX12_factOf 118 = .ok (.iconst 1, 1) := by decide +kernel
theorem dX12_factOf_119 : decode cX12_factOf 119 = .ok (.ireturn, 1) := by decide +kernel
theorem dX12_factOf_120 : decode cX12_factOf 120 = .ok (.iconst 2, 1) := by decide +kernel
theorem dX12_factOf_121 : decode cX12_factOf 121 = .ok (.ireturn, 1) := by decide +kernel
theorem dX12_factOf_122 : decode cX12_factOf 122 = .ok (.iconst 3, 1) := by decide +kernel
theorem dX12_factOf_123 : decode cX12_factOf 123 = .ok (.ireturn, 1) := by decide +kernel
theorem dX12_factOf_124 : decode cX12_factOf 124 = .ok (.iconst 4, 1) := by decide +kernel
theorem dX12_factOf_125 : decode cX12_factOf 125 = .ok (.ireturn, 1) := by decide +kernel
theorem dX12_factOf_126 : decode cX12_factOf 126 = .ok (.iconst 5, 1) := by decide +kernel
theorem dX12_factOf_127 : decode cX12_factOf 127 = .ok (.ireturn, 1) := by decide +kernel
theorem dX12_factOf_128 : decode cX12_factOf 128 = .ok (.bipush 6, 2) := by decide +kernel
theorem dX12_factOf_130 : decode cX12_factOf 130 = .ok (.ireturn, 1) := by decide +kernel
theorem dX12_factOf_131 : decode cX12_factOf 131 = .ok (.bipush 7, 2) := by decide +kernel
theorem dX12_factOf_133 : decode cX12_factOf 133 = .ok (.ireturn, 1) := by decide +kernel
theorem dX12_factOf_134 : decode cX12_factOf 134 = .ok (.bipush 8, 2) := by decide +kernel
theorem dX12_factOf_136 : decode cX12_factOf 136 = .ok (.ireturn, 1) := by decide +kernel
theorem dX12_factOf_137 : decode cX12_factOf 137 = .ok (.bipush 9, 2) := by decide +kernel
theorem dX12_factOf_139 : decode cX12_factOf 139 = .ok (.ireturn, 1) := by decide +kernel
theorem dX12_factOf_140 : decode cX12_factOf 140 = .ok (.bipush 10, 2) := by decide +kernel
theorem dX12_factOf_142 : decode cX12_factOf 142 = .ok (.ireturn, 1) := by decide +kernel
theorem dX12_factOf_143 : decode cX12_factOf 143 = .ok (.bipush 11, 2) := by decide +kernel
theorem dX12_factOf_145 : decode cX12_factOf 145 = .ok (.ireturn, 1) := by decide +kernel
theorem dX12_factOf_146 : decode cX12_factOf 146 = .ok (.iconst (-1), 1) := by decide +kernel
theorem dX12_factOf_147 : decode cX12_factOf 147 = .ok (.ireturn, 1) := by decide +kernel
def fn_X12_factOf (v0 : Int32) : Option Int32 :=
  if v0 = 97 then
  (some 6)
  else
  (if v0 = 98 then
  (some 4)
  else
  (if v0 = 99 then
  (some (-1))
  else
  (if v0 = 100 then
  (some (-1))
  else
  (if v0 = 101 then
  (some (-1))
  else
  (if v0 = 102 then
  (some (-1))
  else
  (if v0 = 103 then
  (some (-1))
  else
  (if v0 = 104 then
  (some (-1))
  else
  (if v0 = 105 then
  (some 3)
  else
  (if v0 = 106 then
  (some (-1))
  else
  (if v0 = 107 then
  (some 5)
  else
  (if v0 = 108 then
  (some 2)
  else
  (if v0 = 109 then
  (some (-1))
  else
  (if v0 = 110 then
  (some (-1))
  else
  (if v0 = 111 then
  (some 10)
  else
  (if v0 = 112 then
  (some 1)
  else
  (if v0 = 113 then
  (some (-1))
  else
  (if v0 = 114 then
  (some 7)
  else
  (if v0 = 115 then
  (some (-1))
  else
  (if v0 = 116 then
  (some (-1))
  else
  (if v0 = 117 then
  (some (-1))
  else
  (if v0 = 118 then
  (some 0)
  else
  (if v0 = 119 then
  (some 11)
  else
  (if v0 = 120 then
  (some 9)
  else
  (if v0 = 121 then
  (some 8)
  else
  (some (-1))))))))))))))))))))))))))
theorem be_X12_factOf {K : ro_K} (hK : ro_C K RX12 cX12_factOf 1 0) (hR : ro_R K (some .int)) {v0 : Int32}  {μ : ro_Mem} {out : Int32} (hf : fn_X12_factOf v0 = some out) (hq : kQ K (some (.int out)) μ) : ro_X K 0 [(0, .int v0)] [] μ := by
  unfold fn_X12_factOf at hf
  refine ro_iload_n hK 0 rfl dX12_factOf_0 rfl ?_
  by_cases c_0 : v0 = 97
  · have hf := ro_it hf c_0
    refine ro_tabIn hK 97 128 dX12_factOf_1 c_0 (by decide) (by decide) rfl (by decide) ?_
    refine ro_bipush (v := 6) hK dX12_factOf_128 (by decide) ?_
    obtain rfl := Option.some.inj hf
    exact ro_iret hK hR dX12_factOf_130 hq
  have hf := ro_ie hf c_0
  by_cases c_1 : v0 = 98
  · have hf := ro_it hf c_1
    refine ro_tabIn hK 98 124 dX12_factOf_1 c_1 (by decide) (by decide) rfl (by decide) ?_
    refine ro_iconst (v := 4) hK dX12_factOf_124 (by decide) ?_
    obtain rfl := Option.some.inj hf
    exact ro_iret hK hR dX12_factOf_125 hq
  have hf := ro_ie hf c_1
  by_cases c_2 : v0 = 99
  · have hf := ro_it hf c_2
    refine ro_tabIn hK 99 146 dX12_factOf_1 c_2 (by decide) (by decide) rfl (by decide) ?_
    refine ro_iconst (v := (-1)) hK dX12_factOf_146 (by decide) ?_
    obtain rfl := Option.some.inj hf
    exact ro_iret hK hR dX12_factOf_147 hq
  have hf := ro_ie hf c_2
  by_cases c_3 : v0 = 100
  · have hf := ro_it hf c_3
    refine ro_tabIn hK 100 146 dX12_factOf_1 c_3 (by decide) (by decide) rfl (by decide) ?_
    refine ro_iconst (v := (-1)) hK dX12_factOf_146 (by decide) ?_
    obtain rfl := Option.some.inj hf
    exact ro_iret hK hR dX12_factOf_147 hq
  have hf := ro_ie hf c_3
  by_cases c_4 : v0 = 101
  · have hf := ro_it hf c_4
    refine ro_tabIn hK 101 146 dX12_factOf_1 c_4 (by decide) (by decide) rfl (by decide) ?_
    refine ro_iconst (v := (-1)) hK dX12_factOf_146 (by decide) ?_
    obtain rfl := Option.some.inj hf
    exact ro_iret hK hR dX12_factOf_147 hq
  have hf := ro_ie hf c_4
  by_cases c_5 : v0 = 102
  · have hf := ro_it hf c_5
    refine ro_tabIn hK 102 146 dX12_factOf_1 c_5 (by decide) (by decide) rfl (by decide) ?_
    refine ro_iconst (v := (-1)) hK dX12_factOf_146 (by decide) ?_
    obtain rfl := Option.some.inj hf
    exact ro_iret hK hR dX12_factOf_147 hq
  have hf := ro_ie hf c_5
  by_cases c_6 : v0 = 103
  · have hf := ro_it hf c_6
    refine ro_tabIn hK 103 146 dX12_factOf_1 c_6 (by decide) (by decide) rfl (by decide) ?_
    refine ro_iconst (v := (-1)) hK dX12_factOf_146 (by decide) ?_
    obtain rfl := Option.some.inj hf
    exact ro_iret hK hR dX12_factOf_147 hq
  have hf := ro_ie hf c_6
  by_cases c_7 : v0 = 104
  · have hf := ro_it hf c_7
    refine ro_tabIn hK 104 146 dX12_factOf_1 c_7 (by decide) (by decide) rfl (by decide) ?_
    refine ro_iconst (v := (-1)) hK dX12_factOf_146 (by decide) ?_
    obtain rfl := Option.some.inj hf
    exact ro_iret hK hR dX12_factOf_147 hq
  have hf := ro_ie hf c_7
  by_cases c_8 : v0 = 105
  · have hf := ro_it hf c_8
    refine ro_tabIn hK 105 122 dX12_factOf_1 c_8 (by decide) (by decide) rfl (by decide) ?_
    refine ro_iconst (v := 3) hK dX12_factOf_122 (by decide) ?_
    obtain rfl := Option.some.inj hf
    exact ro_iret hK hR dX12_factOf_123 hq
  have hf := ro_ie hf c_8
  by_cases c_9 : v0 = 106
  · have hf := ro_it hf c_9
    refine ro_tabIn hK 106 146 dX12_factOf_1 c_9 (by decide) (by decide) rfl (by decide) ?_
    refine ro_iconst (v := (-1)) hK dX12_factOf_146 (by decide) ?_
    obtain rfl := Option.some.inj hf
    exact ro_iret hK hR dX12_factOf_147 hq
  have hf := ro_ie hf c_9
  by_cases c_10 : v0 = 107
  · have hf := ro_it hf c_10
    refine ro_tabIn hK 107 126 dX12_factOf_1 c_10 (by decide) (by decide) rfl (by decide) ?_
    refine ro_iconst (v := 5) hK dX12_factOf_126 (by decide) ?_
    obtain rfl := Option.some.inj hf
    exact ro_iret hK hR dX12_factOf_127 hq
  have hf := ro_ie hf c_10
  by_cases c_11 : v0 = 108
  · have hf := ro_it hf c_11
    refine ro_tabIn hK 108 120 dX12_factOf_1 c_11 (by decide) (by decide) rfl (by decide) ?_
    refine ro_iconst (v := 2) hK dX12_factOf_120 (by decide) ?_
    obtain rfl := Option.some.inj hf
    exact ro_iret hK hR dX12_factOf_121 hq
  have hf := ro_ie hf c_11
  by_cases c_12 : v0 = 109
  · have hf := ro_it hf c_12
    refine ro_tabIn hK 109 146 dX12_factOf_1 c_12 (by decide) (by decide) rfl (by decide) ?_
    refine ro_iconst (v := (-1)) hK dX12_factOf_146 (by decide) ?_
    obtain rfl := Option.some.inj hf
    exact ro_iret hK hR dX12_factOf_147 hq
  have hf := ro_ie hf c_12
  by_cases c_13 : v0 = 110
  · have hf := ro_it hf c_13
    refine ro_tabIn hK 110 146 dX12_factOf_1 c_13 (by decide) (by decide) rfl (by decide) ?_
    refine ro_iconst (v := (-1)) hK dX12_factOf_146 (by decide) ?_
    obtain rfl := Option.some.inj hf
    exact ro_iret hK hR dX12_factOf_147 hq
  have hf := ro_ie hf c_13
  by_cases c_14 : v0 = 111
  · have hf := ro_it hf c_14
    refine ro_tabIn hK 111 140 dX12_factOf_1 c_14 (by decide) (by decide) rfl (by decide) ?_
    refine ro_bipush (v := 10) hK dX12_factOf_140 (by decide) ?_
    obtain rfl := Option.some.inj hf
    exact ro_iret hK hR dX12_factOf_142 hq
  have hf := ro_ie hf c_14
  by_cases c_15 : v0 = 112
  · have hf := ro_it hf c_15
    refine ro_tabIn hK 112 118 dX12_factOf_1 c_15 (by decide) (by decide) rfl (by decide) ?_
    refine ro_iconst (v := 1) hK dX12_factOf_118 (by decide) ?_
    obtain rfl := Option.some.inj hf
    exact ro_iret hK hR dX12_factOf_119 hq
  have hf := ro_ie hf c_15
  by_cases c_16 : v0 = 113
  · have hf := ro_it hf c_16
    refine ro_tabIn hK 113 146 dX12_factOf_1 c_16 (by decide) (by decide) rfl (by decide) ?_
    refine ro_iconst (v := (-1)) hK dX12_factOf_146 (by decide) ?_
    obtain rfl := Option.some.inj hf
    exact ro_iret hK hR dX12_factOf_147 hq
  have hf := ro_ie hf c_16
  by_cases c_17 : v0 = 114
  · have hf := ro_it hf c_17
    refine ro_tabIn hK 114 131 dX12_factOf_1 c_17 (by decide) (by decide) rfl (by decide) ?_
    refine ro_bipush (v := 7) hK dX12_factOf_131 (by decide) ?_
    obtain rfl := Option.some.inj hf
    exact ro_iret hK hR dX12_factOf_133 hq
  have hf := ro_ie hf c_17
  by_cases c_18 : v0 = 115
  · have hf := ro_it hf c_18
    refine ro_tabIn hK 115 146 dX12_factOf_1 c_18 (by decide) (by decide) rfl (by decide) ?_
    refine ro_iconst (v := (-1)) hK dX12_factOf_146 (by decide) ?_
    obtain rfl := Option.some.inj hf
    exact ro_iret hK hR dX12_factOf_147 hq
  have hf := ro_ie hf c_18
  by_cases c_19 : v0 = 116
  · have hf := ro_it hf c_19
    refine ro_tabIn hK 116 146 dX12_factOf_1 c_19 (by decide) (by decide) rfl (by decide) ?_
    refine ro_iconst (v := (-1)) hK dX12_factOf_146 (by decide) ?_
    obtain rfl := Option.some.inj hf
    exact ro_iret hK hR dX12_factOf_147 hq
  have hf := ro_ie hf c_19
  by_cases c_20 : v0 = 117
  · have hf := ro_it hf c_20
    refine ro_tabIn hK 117 146 dX12_factOf_1 c_20 (by decide) (by decide) rfl (by decide) ?_
    refine ro_iconst (v := (-1)) hK dX12_factOf_146 (by decide) ?_
    obtain rfl := Option.some.inj hf
    exact ro_iret hK hR dX12_factOf_147 hq
  have hf := ro_ie hf c_20
  by_cases c_21 : v0 = 118
  · have hf := ro_it hf c_21
    refine ro_tabIn hK 118 116 dX12_factOf_1 c_21 (by decide) (by decide) rfl (by decide) ?_
    refine ro_iconst (v := 0) hK dX12_factOf_116 (by decide) ?_
    obtain rfl := Option.some.inj hf
    exact ro_iret hK hR dX12_factOf_117 hq
  have hf := ro_ie hf c_21
  by_cases c_22 : v0 = 119
  · have hf := ro_it hf c_22
    refine ro_tabIn hK 119 143 dX12_factOf_1 c_22 (by decide) (by decide) rfl (by decide) ?_
    refine ro_bipush (v := 11) hK dX12_factOf_143 (by decide) ?_
    obtain rfl := Option.some.inj hf
    exact ro_iret hK hR dX12_factOf_145 hq
  have hf := ro_ie hf c_22
  by_cases c_23 : v0 = 120
  · have hf := ro_it hf c_23
    refine ro_tabIn hK 120 137 dX12_factOf_1 c_23 (by decide) (by decide) rfl (by decide) ?_
    refine ro_bipush (v := 9) hK dX12_factOf_137 (by decide) ?_
    obtain rfl := Option.some.inj hf
    exact ro_iret hK hR dX12_factOf_139 hq
  have hf := ro_ie hf c_23
  by_cases c_24 : v0 = 121
  · have hf := ro_it hf c_24
    refine ro_tabIn hK 121 134 dX12_factOf_1 c_24 (by decide) (by decide) rfl (by decide) ?_
    refine ro_bipush (v := 8) hK dX12_factOf_134 (by decide) ?_
    obtain rfl := Option.some.inj hf
    exact ro_iret hK hR dX12_factOf_136 hq
  have hf := ro_ie hf c_24
  have tw0 : ¬ v0.toInt = 97 := lv_neT (a := 97) c_0 rfl
  have tw1 : ¬ v0.toInt = 98 := lv_neT (a := 98) c_1 rfl
  have tw2 : ¬ v0.toInt = 99 := lv_neT (a := 99) c_2 rfl
  have tw3 : ¬ v0.toInt = 100 := lv_neT (a := 100) c_3 rfl
  have tw4 : ¬ v0.toInt = 101 := lv_neT (a := 101) c_4 rfl
  have tw5 : ¬ v0.toInt = 102 := lv_neT (a := 102) c_5 rfl
  have tw6 : ¬ v0.toInt = 103 := lv_neT (a := 103) c_6 rfl
  have tw7 : ¬ v0.toInt = 104 := lv_neT (a := 104) c_7 rfl
  have tw8 : ¬ v0.toInt = 105 := lv_neT (a := 105) c_8 rfl
  have tw9 : ¬ v0.toInt = 106 := lv_neT (a := 106) c_9 rfl
  have tw10 : ¬ v0.toInt = 107 := lv_neT (a := 107) c_10 rfl
  have tw11 : ¬ v0.toInt = 108 := lv_neT (a := 108) c_11 rfl
  have tw12 : ¬ v0.toInt = 109 := lv_neT (a := 109) c_12 rfl
  have tw13 : ¬ v0.toInt = 110 := lv_neT (a := 110) c_13 rfl
  have tw14 : ¬ v0.toInt = 111 := lv_neT (a := 111) c_14 rfl
  have tw15 : ¬ v0.toInt = 112 := lv_neT (a := 112) c_15 rfl
  have tw16 : ¬ v0.toInt = 113 := lv_neT (a := 113) c_16 rfl
  have tw17 : ¬ v0.toInt = 114 := lv_neT (a := 114) c_17 rfl
  have tw18 : ¬ v0.toInt = 115 := lv_neT (a := 115) c_18 rfl
  have tw19 : ¬ v0.toInt = 116 := lv_neT (a := 116) c_19 rfl
  have tw20 : ¬ v0.toInt = 117 := lv_neT (a := 117) c_20 rfl
  have tw21 : ¬ v0.toInt = 118 := lv_neT (a := 118) c_21 rfl
  have tw22 : ¬ v0.toInt = 119 := lv_neT (a := 119) c_22 rfl
  have tw23 : ¬ v0.toInt = 120 := lv_neT (a := 120) c_23 rfl
  have tw24 : ¬ v0.toInt = 121 := lv_neT (a := 121) c_24 rfl
  refine ro_tabOut hK 146 dX12_factOf_1 (by omega) (by decide) ?_
  refine ro_iconst (v := (-1)) hK dX12_factOf_146 (by decide) ?_
  obtain rfl := Option.some.inj hf
  exact ro_iret hK hR dX12_factOf_147 hq
theorem mt_X12_factOf (l : Launch) (G : ro_G) {v0 : Int32}  {μ : ro_Mem} {out : Int32} (hf : fn_X12_factOf v0 = some out) : ro_MX l G yX12_factOf cX12_factOf 1 (some .int) 0 [.int v0] μ (some (.int out)) μ := by
  refine ro_MX.of (by decide +kernel) (Nat.le_of_ble_eq_true rfl) (fun K hG hl hq hK hR => ?_)
  subst hG
  exact be_X12_factOf hK hR  hf hq
-- ===== X12_sumSign =====
theorem dX12_sumSign_0 : decode cX12_sumSign 0 = .ok (.iload_n 0, 1) := by decide +kernel
theorem dX12_sumSign_1 : decode cX12_sumSign 1 = .ok (.bipush 43, 2) := by decide +kernel
theorem dX12_sumSign_3 : decode cX12_sumSign 3 = .ok (.if_icmp .ne 7, 3) := by decide +kernel
theorem dX12_sumSign_6 : decode cX12_sumSign 6 = .ok (.iconst 2, 1) := by decide +kernel
theorem dX12_sumSign_7 : decode cX12_sumSign 7 = .ok (.goto 45, 3) := by decide +kernel
theorem dX12_sumSign_10 : decode cX12_sumSign 10 = .ok (.iload_n 0, 1) := by decide +kernel
theorem dX12_sumSign_11 : decode cX12_sumSign 11 = .ok (.bipush 45, 2) := by decide +kernel
theorem dX12_sumSign_13 : decode cX12_sumSign 13 = .ok (.if_icmp .ne 7, 3) := by decide +kernel
theorem dX12_sumSign_16 : decode cX12_sumSign 16 = .ok (.iconst 3, 1) := by decide +kernel
theorem dX12_sumSign_17 : decode cX12_sumSign 17 = .ok (.goto 35, 3) := by decide +kernel
theorem dX12_sumSign_20 : decode cX12_sumSign 20 = .ok (.iload_n 0, 1) := by decide +kernel
theorem dX12_sumSign_21 : decode cX12_sumSign 21 = .ok (.bipush 42, 2) := by decide +kernel
theorem dX12_sumSign_23 : decode cX12_sumSign 23 = .ok (.if_icmp .ne 7, 3) := by decide +kernel
theorem dX12_sumSign_26 : decode cX12_sumSign 26 = .ok (.iconst 4, 1) := by decide +kernel
theorem dX12_sumSign_27 : decode cX12_sumSign 27 = .ok (.goto 25, 3) := by decide +kernel
theorem dX12_sumSign_30 : decode cX12_sumSign 30 = .ok (.iload_n 0, 1) := by decide +kernel
theorem dX12_sumSign_31 : decode cX12_sumSign 31 = .ok (.bipush 47, 2) := by decide +kernel
theorem dX12_sumSign_33 : decode cX12_sumSign 33 = .ok (.if_icmp .ne 7, 3) := by decide +kernel
theorem dX12_sumSign_36 : decode cX12_sumSign 36 = .ok (.iconst 5, 1) := by decide +kernel
theorem dX12_sumSign_37 : decode cX12_sumSign 37 = .ok (.goto 15, 3) := by decide +kernel
theorem dX12_sumSign_40 : decode cX12_sumSign 40 = .ok (.iload_n 0, 1) := by decide +kernel
theorem dX12_sumSign_41 : decode cX12_sumSign 41 = .ok (.bipush 37, 2) := by decide +kernel
theorem dX12_sumSign_43 : decode cX12_sumSign 43 = .ok (.if_icmp .ne 8, 3) := by decide +kernel
theorem dX12_sumSign_46 : decode cX12_sumSign 46 = .ok (.bipush 6, 2) := by decide +kernel
theorem dX12_sumSign_48 : decode cX12_sumSign 48 = .ok (.goto 4, 3) := by decide +kernel
theorem dX12_sumSign_51 : decode cX12_sumSign 51 = .ok (.iconst (-1), 1) := by decide +kernel
theorem dX12_sumSign_52 : decode cX12_sumSign 52 = .ok (.ireturn, 1) := by decide +kernel
def fn_X12_sumSign (v0 : Int32) : Option Int32 :=
  if v0 = 43 then
  (some 2)
  else
  (if v0 = 45 then
  (some 3)
  else
  (if v0 = 42 then
  (some 4)
  else
  (if v0 = 47 then
  (some 5)
  else
  (if v0 = 37 then
  (some 6)
  else
  (some (-1))))))
theorem be_X12_sumSign {K : ro_K} (hK : ro_C K RX12 cX12_sumSign 1 0) (hR : ro_R K (some .int)) {v0 : Int32}  {μ : ro_Mem} {out : Int32} (hf : fn_X12_sumSign v0 = some out) (hq : kQ K (some (.int out)) μ) : ro_X K 0 [(0, .int v0)] [] μ := by
  unfold fn_X12_sumSign at hf
  refine ro_iload_n hK 0 rfl dX12_sumSign_0 rfl ?_
  refine ro_bipush (v := 43) hK dX12_sumSign_1 (by decide) ?_
  refine ro_icmp_ne hK 10 dX12_sumSign_3 (by decide) (fun c1 => ?_) (fun c1 => ?_)
  · have hf := ro_ie hf c1
    refine ro_iload_n hK 0 rfl dX12_sumSign_10 rfl ?_
    refine ro_bipush (v := 45) hK dX12_sumSign_11 (by decide) ?_
    refine ro_icmp_ne hK 20 dX12_sumSign_13 (by decide) (fun c2 => ?_) (fun c2 => ?_)
    · have hf := ro_ie hf c2
      refine ro_iload_n hK 0 rfl dX12_sumSign_20 rfl ?_
      refine ro_bipush (v := 42) hK dX12_sumSign_21 (by decide) ?_
      refine ro_icmp_ne hK 30 dX12_sumSign_23 (by decide) (fun c3 => ?_) (fun c3 => ?_)
      · have hf := ro_ie hf c3
        refine ro_iload_n hK 0 rfl dX12_sumSign_30 rfl ?_
        refine ro_bipush (v := 47) hK dX12_sumSign_31 (by decide) ?_
        refine ro_icmp_ne hK 40 dX12_sumSign_33 (by decide) (fun c4 => ?_) (fun c4 => ?_)
        · have hf := ro_ie hf c4
          refine ro_iload_n hK 0 rfl dX12_sumSign_40 rfl ?_
          refine ro_bipush (v := 37) hK dX12_sumSign_41 (by decide) ?_
          refine ro_icmp_ne hK 51 dX12_sumSign_43 (by decide) (fun c5 => ?_) (fun c5 => ?_)
          · have hf := ro_ie hf c5
            refine ro_iconst (v := (-1)) hK dX12_sumSign_51 (by decide) ?_
            obtain rfl := Option.some.inj hf
            exact ro_iret hK hR dX12_sumSign_52 hq
          · have hf := ro_it hf c5
            refine ro_bipush (v := 6) hK dX12_sumSign_46 (by decide) ?_
            refine ro_goto hK 52 dX12_sumSign_48 (by decide) ?_
            obtain rfl := Option.some.inj hf
            exact ro_iret hK hR dX12_sumSign_52 hq
        · have hf := ro_it hf c4
          refine ro_iconst (v := 5) hK dX12_sumSign_36 (by decide) ?_
          refine ro_goto hK 52 dX12_sumSign_37 (by decide) ?_
          obtain rfl := Option.some.inj hf
          exact ro_iret hK hR dX12_sumSign_52 hq
      · have hf := ro_it hf c3
        refine ro_iconst (v := 4) hK dX12_sumSign_26 (by decide) ?_
        refine ro_goto hK 52 dX12_sumSign_27 (by decide) ?_
        obtain rfl := Option.some.inj hf
        exact ro_iret hK hR dX12_sumSign_52 hq
    · have hf := ro_it hf c2
      refine ro_iconst (v := 3) hK dX12_sumSign_16 (by decide) ?_
      refine ro_goto hK 52 dX12_sumSign_17 (by decide) ?_
      obtain rfl := Option.some.inj hf
      exact ro_iret hK hR dX12_sumSign_52 hq
  · have hf := ro_it hf c1
    refine ro_iconst (v := 2) hK dX12_sumSign_6 (by decide) ?_
    refine ro_goto hK 52 dX12_sumSign_7 (by decide) ?_
    obtain rfl := Option.some.inj hf
    exact ro_iret hK hR dX12_sumSign_52 hq
theorem mt_X12_sumSign (l : Launch) (G : ro_G) {v0 : Int32}  {μ : ro_Mem} {out : Int32} (hf : fn_X12_sumSign v0 = some out) : ro_MX l G yX12_sumSign cX12_sumSign 1 (some .int) 0 [.int v0] μ (some (.int out)) μ := by
  refine ro_MX.of (by decide +kernel) (Nat.le_of_ble_eq_true rfl) (fun K hG hl hq hK hR => ?_)
  subst hG
  exact be_X12_sumSign hK hR  hf hq
-- ===== X12_closesSums =====
theorem dX12_closesSums_0 : decode cX12_closesSums 0 = .ok (.aload_n 0, 1) := by decide +kernel
theorem dX12_closesSums_1 : decode cX12_closesSums 1 = .ok (.invokevirtual 322, 3) := by decide +kernel
theorem dX12_closesSums_4 : decode cX12_closesSums 4 = .ok (.iconst 4, 1) := by decide +kernel
theorem dX12_closesSums_5 : decode cX12_closesSums 5 = .ok (.if_icmp .lt 12, 3) := by decide +kernel
theorem dX12_closesSums_8 : decode cX12_closesSums 8 = .ok (.aload_n 0, 1) := by decide +kernel
theorem dX12_closesSums_9 : decode cX12_closesSums 9 = .ok (.invokevirtual 322, 3) := by decide +kernel
theorem dX12_closesSums_12 : decode cX12_closesSums 12 = .ok (.bipush 6, 2) := by decide +kernel
theorem dX12_closesSums_14 : decode cX12_closesSums 14 = .ok (.if_icmp .le 23, 3) := by decide +kernel
theorem dX12_closesSums_17 : decode cX12_closesSums 17 = .ok (.iload_n 1, 1) := by decide +kernel
theorem dX12_closesSums_18 : decode cX12_closesSums 18 = .ok (.ifCond .eq 41, 3) := by decide +kernel
theorem dX12_closesSums_21 : decode cX12_closesSums 21 = .ok (.aload_n 0, 1) := by decide +kernel
theorem dX12_closesSums_22 : decode cX12_closesSums 22 = .ok (.invokevirtual 322, 3) := by decide +kernel
theorem dX12_closesSums_25 : decode cX12_closesSums 25 = .ok (.iconst 2, 1) := by decide +kernel
theorem dX12_closesSums_26 : decode cX12_closesSums 26 = .ok (.if_icmp .eq 11, 3) := by decide +kernel
theorem dX12_closesSums_29 : decode cX12_closesSums 29 = .ok (.aload_n 0, 1) := by decide +kernel
theorem dX12_closesSums_30 : decode cX12_closesSums 30 = .ok (.invokevirtual 322, 3) := by decide +kernel
theorem dX12_closesSums_33 : decode cX12_closesSums 33 = .ok (.iconst 3, 1) := by decide +kernel
theorem dX12_closesSums_34 : decode cX12_closesSums 34 = .ok (.if_icmp .ne 25, 3) := by decide +kernel
theorem dX12_closesSums_37 : decode cX12_closesSums 37 = .ok (.aload_n 0, 1) := by decide +kernel
theorem dX12_closesSums_38 : decode cX12_closesSums 38 = .ok (.aload_n 0, 1) := by decide +kernel
theorem dX12_closesSums_39 : decode cX12_closesSums 39 = .ok (.invokevirtual 322, 3) := by decide +kernel
theorem dX12_closesSums_42 : decode cX12_closesSums 42 = .ok (.iconst 0, 1) := by decide +kernel
theorem dX12_closesSums_43 : decode cX12_closesSums 43 = .ok (.invokevirtual 325, 3) := by decide +kernel
theorem dX12_closesSums_46 : decode cX12_closesSums 46 = .ok (.aload_n 0, 1) := by decide +kernel
theorem dX12_closesSums_47 : decode cX12_closesSums 47 = .ok (.aload_n 0, 1) := by decide +kernel
theorem dX12_closesSums_48 : decode cX12_closesSums 48 = .ok (.getfield 319, 3) := by decide +kernel
theorem dX12_closesSums_51 : decode cX12_closesSums 51 = .ok (.iconst 1, 1) := by decide +kernel
theorem dX12_closesSums_52 : decode cX12_closesSums 52 = .ok (.isub, 1) := by decide +kernel
theorem dX12_closesSums_53 : decode cX12_closesSums 53 = .ok (.putfield 319, 3) := by decide +kernel
theorem dX12_closesSums_56 : decode cX12_closesSums 56 = .ok (.goto (-56), 3) := by decide +kernel
theorem dX12_closesSums_59 : decode cX12_closesSums 59 = .ok (.return_, 1) := by decide +kernel
def ok_X12_closesSums_0 (K : ro_K) (v1 : Int32) : ro_Mem → Prop := fun e => ro_X K 59 [] [] e
def fj_X12_closesSums_37 (rec : ro_Mem → Option ro_Mem) (v1 : Int32) (μ : ro_Mem) : Option ro_Mem :=
  (fn_X12_waitTop μ).bind fun q8 =>
  (fn_X12_notes q8 0 μ).bind fun q10 =>
  ro_lt (ro_set q10 207 36 ((q10 207 36) - 1)) fun m12 =>
  rec m12
theorem bj_X12_closesSums_37 {K : ro_K} (hK : ro_C K RX12 cX12_closesSums 2 1) (hR : ro_R K none) {v1 : Int32}  {rec : ro_Mem → Option ro_Mem} {μ : ro_Mem} (hrec : ∀ (s : ro_Mem) (q : ro_Mem), rec s = some q → ok_X12_closesSums_0 K v1 q → ro_X K 0 [(0, .ref (ro_ad (kG K) 207)), (1, .int v1)] [] s) {out : ro_Mem} (hf : fj_X12_closesSums_37 rec v1 μ = some out) (hq : ok_X12_closesSums_0 K v1 out) : ro_X K 37 [(0, .ref (ro_ad (kG K) 207)), (1, .int v1)] [] μ := by
  unfold fj_X12_closesSums_37 at hf
  refine ro_aload_n hK 0 rfl dX12_closesSums_37 rfl ?_
  refine ro_aload_n hK 0 rfl dX12_closesSums_38 rfl ?_
  obtain ⟨q8, e9, hf⟩ := ro_bd hf
  refine ro_callvi hK [] ml_X12_322 mv_X12_waitTop (mt_X12_waitTop (kl K) (kG K)  e9) sh_207 ⟨_, rfl, rfl⟩ (by decide) rfl rfl (Nat.le_of_ble_eq_true rfl) dX12_closesSums_39 ?_
  refine ro_iconst (v := 0) hK dX12_closesSums_42 (by decide) ?_
  obtain ⟨q10, e11, hf⟩ := ro_bd hf
  refine ro_callvv hK [.int q8, .int 0] ml_X12_325 mv_X12_notes (mt_X12_notes (kl K) (kG K)  e11) sh_207 ⟨_, rfl, rfl⟩ (by decide) rfl rfl (Nat.le_of_ble_eq_true rfl) dX12_closesSums_43 ?_
  refine ro_aload_n hK 0 rfl dX12_closesSums_46 rfl ?_
  refine ro_aload_n hK 0 rfl dX12_closesSums_47 rfl ?_
  refine ro_geti hK fl_X12_319 sh_207 dX12_closesSums_48 ?_
  refine ro_iconst (v := 1) hK dX12_closesSums_51 (by decide) ?_
  refine ro_isub hK dX12_closesSums_52 ?_
  obtain ⟨m12, e13, hf⟩ := ro_ld hf
  refine ro_puti hK fl_X12_319 sh_207 rfl rfl dX12_closesSums_53 ?_
  refine ro_mv e13 ?_
  refine ro_goto hK 0 dX12_closesSums_56 (by decide) ?_
  exact hrec m12 _ hf hq
def fj_X12_closesSums_17 (rec : ro_Mem → Option ro_Mem) (v1 : Int32) (μ : ro_Mem) : Option ro_Mem :=
  if v1 = 0 then
  (some μ)
  else
  ((fn_X12_waitTop μ).bind fun q5 =>
  if q5 = 2 then
  (fj_X12_closesSums_37 rec v1 μ)
  else
  ((fn_X12_waitTop μ).bind fun q14 =>
  if q14 = 3 then
  (fj_X12_closesSums_37 rec v1 μ)
  else
  (some μ)))
theorem bj_X12_closesSums_17 {K : ro_K} (hK : ro_C K RX12 cX12_closesSums 2 1) (hR : ro_R K none) {v1 : Int32}  {rec : ro_Mem → Option ro_Mem} {μ : ro_Mem} (hrec : ∀ (s : ro_Mem) (q : ro_Mem), rec s = some q → ok_X12_closesSums_0 K v1 q → ro_X K 0 [(0, .ref (ro_ad (kG K) 207)), (1, .int v1)] [] s) {out : ro_Mem} (hf : fj_X12_closesSums_17 rec v1 μ = some out) (hq : ok_X12_closesSums_0 K v1 out) : ro_X K 17 [(0, .ref (ro_ad (kG K) 207)), (1, .int v1)] [] μ := by
  unfold fj_X12_closesSums_17 at hf
  refine ro_iload_n hK 1 rfl dX12_closesSums_17 rfl ?_
  refine ro_if_eq hK 59 dX12_closesSums_18 (by decide) (fun c4 => ?_) (fun c4 => ?_)
  · have hf := ro_it hf c4
    refine ro_sub (L' := []) [] rfl ?_
    obtain rfl := Option.some.inj hf
    exact hq
  · have hf := ro_ie hf c4
    refine ro_aload_n hK 0 rfl dX12_closesSums_21 rfl ?_
    obtain ⟨q5, e6, hf⟩ := ro_bd hf
    refine ro_callvi hK [] ml_X12_322 mv_X12_waitTop (mt_X12_waitTop (kl K) (kG K)  e6) sh_207 ⟨_, rfl, rfl⟩ (by decide) rfl rfl (Nat.le_of_ble_eq_true rfl) dX12_closesSums_22 ?_
    refine ro_iconst (v := 2) hK dX12_closesSums_25 (by decide) ?_
    refine ro_icmp_eq hK 37 dX12_closesSums_26 (by decide) (fun c7 => ?_) (fun c7 => ?_)
    · have hf := ro_it hf c7
      exact bj_X12_closesSums_37 hK hR  hrec hf hq
    · have hf := ro_ie hf c7
      refine ro_aload_n hK 0 rfl dX12_closesSums_29 rfl ?_
      obtain ⟨q14, e15, hf⟩ := ro_bd hf
      refine ro_callvi hK [] ml_X12_322 mv_X12_waitTop (mt_X12_waitTop (kl K) (kG K)  e15) sh_207 ⟨_, rfl, rfl⟩ (by decide) rfl rfl (Nat.le_of_ble_eq_true rfl) dX12_closesSums_30 ?_
      refine ro_iconst (v := 3) hK dX12_closesSums_33 (by decide) ?_
      refine ro_icmp_ne hK 59 dX12_closesSums_34 (by decide) (fun c16 => ?_) (fun c16 => ?_)
      · have hf := ro_ie hf c16
        refine ro_sub (L' := []) [] rfl ?_
        obtain rfl := Option.some.inj hf
        exact hq
      · have hf := ro_it hf c16
        exact bj_X12_closesSums_37 hK hR  hrec hf hq
def fb_X12_closesSums_0 (v1 : Int32) (rec : ro_Mem → Option ro_Mem) (μ : ro_Mem) : Option ro_Mem :=
  (fn_X12_waitTop μ).bind fun q1 =>
  if q1 < 4 then
  (fj_X12_closesSums_17 rec v1 μ)
  else
  ((fn_X12_waitTop μ).bind fun q17 =>
  if q17 ≤ 6 then
  (fj_X12_closesSums_37 rec v1 μ)
  else
  (fj_X12_closesSums_17 rec v1 μ))
theorem bb_X12_closesSums_0 {K : ro_K} (hK : ro_C K RX12 cX12_closesSums 2 1) (hR : ro_R K none) {v1 : Int32}  {μ : ro_Mem} {rec : ro_Mem → Option ro_Mem}  {q : ro_Mem} (hrec : ∀ (s : ro_Mem) (q : ro_Mem), rec s = some q → ok_X12_closesSums_0 K v1 q → ro_X K 0 [(0, .ref (ro_ad (kG K) 207)), (1, .int v1)] [] s) (hf : fb_X12_closesSums_0 v1 rec μ = some q) (hq : ok_X12_closesSums_0 K v1 q) : ro_X K 0 [(0, .ref (ro_ad (kG K) 207)), (1, .int v1)] [] μ := by
  unfold fb_X12_closesSums_0 at hf
  refine ro_aload_n hK 0 rfl dX12_closesSums_0 rfl ?_
  obtain ⟨q1, e2, hf⟩ := ro_bd hf
  refine ro_callvi hK [] ml_X12_322 mv_X12_waitTop (mt_X12_waitTop (kl K) (kG K)  e2) sh_207 ⟨_, rfl, rfl⟩ (by decide) rfl rfl (Nat.le_of_ble_eq_true rfl) dX12_closesSums_1 ?_
  refine ro_iconst (v := 4) hK dX12_closesSums_4 (by decide) ?_
  refine ro_icmp_lt hK 17 dX12_closesSums_5 (by decide) (fun c3 => ?_) (fun c3 => ?_)
  · have hf := ro_it hf c3
    exact bj_X12_closesSums_17 hK hR  hrec hf hq
  · have hf := ro_ie hf c3
    refine ro_aload_n hK 0 rfl dX12_closesSums_8 rfl ?_
    obtain ⟨q17, e18, hf⟩ := ro_bd hf
    refine ro_callvi hK [] ml_X12_322 mv_X12_waitTop (mt_X12_waitTop (kl K) (kG K)  e18) sh_207 ⟨_, rfl, rfl⟩ (by decide) rfl rfl (Nat.le_of_ble_eq_true rfl) dX12_closesSums_9 ?_
    refine ro_bipush (v := 6) hK dX12_closesSums_12 (by decide) ?_
    refine ro_icmp_le hK 37 dX12_closesSums_14 (by decide) (fun c19 => ?_) (fun c19 => ?_)
    · have hf := ro_it hf c19
      exact bj_X12_closesSums_37 hK hR  hrec hf hq
    · have hf := ro_ie hf c19
      exact bj_X12_closesSums_17 hK hR  hrec hf hq
def fl_X12_closesSums_0 (v1 : Int32) : ro_Mem → Option ro_Mem :=
  ro_loop (fun rec s => fb_X12_closesSums_0 v1 rec s) ro_FU
theorem lp_X12_closesSums_0 {K : ro_K} (hK : ro_C K RX12 cX12_closesSums 2 1) (hR : ro_R K none) {v1 : Int32}  {s : ro_Mem} {q : ro_Mem} (hf : fl_X12_closesSums_0 v1 s = some q) (hq : ok_X12_closesSums_0 K v1 q) : ro_X K 0 [(0, .ref (ro_ad (kG K) 207)), (1, .int v1)] [] s :=
  ro_loopX (b := fun rec s => fb_X12_closesSums_0 v1 rec s) (X := fun s => ro_X K 0 [(0, .ref (ro_ad (kG K) 207)), (1, .int v1)] [] s) (OK := ok_X12_closesSums_0 K v1) (fun rec s q hrec hb ho => bb_X12_closesSums_0 hK hR  hrec hb ho) ro_FU s q hf hq
def fn_X12_closesSums (v1 : Int32) (μ : ro_Mem) : Option ro_Mem :=
  (fl_X12_closesSums_0 v1 μ).bind fun q20 =>
  some q20
theorem be_X12_closesSums {K : ro_K} (hK : ro_C K RX12 cX12_closesSums 2 1) (hR : ro_R K none) {v1 : Int32}  {μ : ro_Mem} {out : ro_Mem} (hf : fn_X12_closesSums v1 μ = some out) (hq : kQ K none out) : ro_X K 0 [(0, .ref (ro_ad (kG K) 207)), (1, .int v1)] [] μ := by
  unfold fn_X12_closesSums at hf
  obtain ⟨q20, e21, hf⟩ := ro_bd hf
  refine lp_X12_closesSums_0 hK hR  e21 ?_
  show ro_X K 59 [] [] q20
  obtain rfl := Option.some.inj hf
  exact ro_vret hK hR dX12_closesSums_59 hq
theorem mt_X12_closesSums (l : Launch) (G : ro_G) {v1 : Int32}  {μ : ro_Mem} {out : ro_Mem} (hf : fn_X12_closesSums v1 μ = some out) : ro_MX l G yX12_closesSums cX12_closesSums 2 none 1 [.ref (ro_ad G 207), .int v1] μ none out := by
  refine ro_MX.of (by decide +kernel) (Nat.le_of_ble_eq_true rfl) (fun K hG hl hq hK hR => ?_)
  subst hG
  exact be_X12_closesSums hK hR  hf hq
-- ===== X12_readsFactor =====
theorem dX12_readsFactor_0 : decode cX12_readsFactor 0 = .ok (.aload_n 0, 1) := by decide +kernel
theorem dX12_readsFactor_1 : decode cX12_readsFactor 1 = .ok (.invokevirtual 259, 3) := by decide +kernel
theorem dX12_readsFactor_4 : decode cX12_readsFactor 4 = .ok (.bipush 91, 2) := by decide +kernel
theorem dX12_readsFactor_6 : decode cX12_readsFactor 6 = .ok (.if_icmp .ne 14, 3) := by decide +kernel
theorem dX12_readsFactor_9 : decode cX12_readsFactor 9 = .ok (.aload_n 0, 1) := by decide +kernel
theorem dX12_readsFactor_10 : decode cX12_readsFactor 10 = .ok (.bipush 14, 2) := by decide +kernel
theorem dX12_readsFactor_12 : decode cX12_readsFactor 12 = .ok (.invokevirtual 329, 3) := by decide +kernel
theorem dX12_readsFactor_15 : decode cX12_readsFactor 15 = .ok (.ifCond .ne (-15), 3) := by decide +kernel
theorem dX12_readsFactor_18 : decode cX12_readsFactor 18 = .ok (.iconst 0, 1) := by decide +kernel
theorem dX12_readsFactor_19 : decode cX12_readsFactor 19 = .ok (.ireturn, 1) := by decide +kernel
theorem dX12_readsFactor_20 : decode cX12_readsFactor 20 = .ok (.aload_n 0, 1) := by decide +kernel
theorem dX12_readsFactor_21 : decode cX12_readsFactor 21 = .ok (.invokevirtual 255, 3) := by decide +kernel
theorem dX12_readsFactor_24 : decode cX12_readsFactor 24 = .ok (.ifCond .eq 23, 3) := by decide +kernel
theorem dX12_readsFactor_27 : decode cX12_readsFactor 27 = .ok (.aload_n 0, 1) := by decide +kernel
theorem dX12_readsFactor_28 : decode cX12_readsFactor 28 = .ok (.invokevirtual 332, 3) := by decide +kernel
theorem dX12_readsFactor_31 : decode cX12_readsFactor 31 = .ok (.ifCond .ne 5, 3) := by decide +kernel
theorem dX12_readsFactor_34 : decode cX12_readsFactor 34 = .ok (.iconst 0, 1) := by decide +kernel
theorem dX12_readsFactor_35 : decode cX12_readsFactor 35 = .ok (.ireturn, 1) := by decide +kernel
theorem dX12_readsFactor_36 : decode cX12_readsFactor 36 = .ok (.aload_n 0, 1) := by decide +kernel
theorem dX12_readsFactor_37 : decode cX12_readsFactor 37 = .ok (.iconst 0, 1) := by decide +kernel
theorem dX12_readsFactor_38 : decode cX12_readsFactor 38 = .ok (.aload_n 0, 1) := by decide +kernel
theorem dX12_readsFactor_39 : decode cX12_readsFactor 39 = .ok (.getfield 252, 3) := by decide +kernel
theorem dX12_readsFactor_42 : decode cX12_readsFactor 42 = .ok (.invokevirtual 325, 3) := by decide +kernel
theorem dX12_readsFactor_45 : decode cX12_readsFactor 45 = .ok (.iconst 1, 1) := by decide +kernel
theorem dX12_readsFactor_46 : decode cX12_readsFactor 46 = .ok (.ireturn, 1) := by decide +kernel
theorem dX12_readsFactor_47 : decode cX12_readsFactor 47 = .ok (.aload_n 0, 1) := by decide +kernel
theorem dX12_readsFactor_48 : decode cX12_readsFactor 48 = .ok (.invokevirtual 259, 3) := by decide +kernel
theorem dX12_readsFactor_51 : decode cX12_readsFactor 51 = .ok (.invokestatic 335, 3) := by decide +kernel
theorem dX12_readsFactor_54 : decode cX12_readsFactor 54 = .ok (.istore_n 1, 1) := by decide +kernel
theorem dX12_readsFactor_55 : decode cX12_readsFactor 55 = .ok (.iload_n 1, 1) := by decide +kernel
theorem dX12_readsFactor_56 : decode cX12_readsFactor 56 = .ok (.iconst (-1), 1) := by decide +kernel
theorem dX12_readsFactor_57 : decode cX12_readsFactor 57 = .ok (.if_icmp .ne 13, 3) := by decide +kernel
theorem dX12_readsFactor_60 : decode cX12_readsFactor 60 = .ok (.aload_n 0, 1) := by decide +kernel
theorem dX12_readsFactor_61 : decode cX12_readsFactor 61 = .ok (.iconst 1, 1) := by decide +kernel
theorem dX12_readsFactor_62 : decode cX12_readsFactor 62 = .ok (.aload_n 0, 1) := by decide +kernel
theorem dX12_readsFactor_63 : decode cX12_readsFactor 63 = .ok (.getfield 249, 3) := by decide +kernel
theorem dX12_readsFactor_66 : decode cX12_readsFactor 66 = .ok (.invokevirtual 263, 3) := by decide +kernel
theorem dX12_readsFactor_69 : decode cX12_readsFactor 69 = .ok (.ireturn, 1) := by decide +kernel
theorem dX12_readsFactor_70 : decode cX12_readsFactor 70 = .ok (.aload_n 0, 1) := by decide +kernel
theorem dX12_readsFactor_71 : decode cX12_readsFactor 71 = .ok (.iconst 1, 1) := by decide +kernel
theorem dX12_readsFactor_72 : decode cX12_readsFactor 72 = .ok (.iload_n 1, 1) := by decide +kernel
theorem dX12_readsFactor_73 : decode cX12_readsFactor 73 = .ok (.invokevirtual 325, 3) := by decide +kernel
theorem dX12_readsFactor_76 : decode cX12_readsFactor 76 = .ok (.aload_n 0, 1) := by decide +kernel
theorem dX12_readsFactor_77 : decode cX12_readsFactor 77 = .ok (.aload_n 0, 1) := by decide +kernel
theorem dX12_readsFactor_78 : decode cX12_readsFactor 78 = .ok (.getfield 249, 3) := by decide +kernel
theorem dX12_readsFactor_81 : decode cX12_readsFactor 81 = .ok (.iconst 1, 1) := by decide +kernel
theorem dX12_readsFactor_82 : decode cX12_readsFactor 82 = .ok (.iadd, 1) := by decide +kernel
theorem dX12_readsFactor_83 : decode cX12_readsFactor 83 = .ok (.putfield 249, 3) := by decide +kernel
theorem dX12_readsFactor_86 : decode cX12_readsFactor 86 = .ok (.iconst 1, 1) := by decide +kernel
theorem dX12_readsFactor_87 : decode cX12_readsFactor 87 = .ok (.ireturn, 1) := by decide +kernel
def ok_X12_readsFactor_0 (K : ro_K)  : (ro_Mem ⊕ ro_Mem) → Prop := Sum.elim (fun e => ro_X K 18 [] [] e) (fun e => ro_X K 20 [(0, .ref (ro_ad (kG K) 207))] [] e)
def fb_X12_readsFactor_0  (rec : ro_Mem → Option (ro_Mem ⊕ ro_Mem)) (μ : ro_Mem) : Option (ro_Mem ⊕ ro_Mem) :=
  (fn_X12_here μ).bind fun q1 =>
  if q1 = 91 then
  ((fn_X12_opens 14 μ).bind fun q4 =>
  if q4.1 = 0 then
  (some (.inl q4.2))
  else
  (rec q4.2))
  else
  (some (.inr μ))
theorem bb_X12_readsFactor_0 {K : ro_K} (hK : ro_C K RX12 cX12_readsFactor 2 3) (hR : ro_R K (some .boolean))   {μ : ro_Mem} {rec : ro_Mem → Option (ro_Mem ⊕ ro_Mem)}  {q : (ro_Mem ⊕ ro_Mem)} (hrec : ∀ (s : ro_Mem) (q : (ro_Mem ⊕ ro_Mem)), rec s = some q → ok_X12_readsFactor_0 K q → ro_X K 0 [(0, .ref (ro_ad (kG K) 207))] [] s) (hf : fb_X12_readsFactor_0 rec μ = some q) (hq : ok_X12_readsFactor_0 K q) : ro_X K 0 [(0, .ref (ro_ad (kG K) 207))] [] μ := by
  unfold fb_X12_readsFactor_0 at hf
  refine ro_aload_n hK 0 rfl dX12_readsFactor_0 rfl ?_
  obtain ⟨q1, e2, hf⟩ := ro_bd hf
  refine ro_callvi hK [] ml_X12_259 mv_X12_here (mt_X12_here (kl K) (kG K)  e2) sh_207 ⟨_, rfl, rfl⟩ (by decide) rfl rfl (Nat.le_of_ble_eq_true rfl) dX12_readsFactor_1 ?_
  refine ro_bipush (v := 91) hK dX12_readsFactor_4 (by decide) ?_
  refine ro_icmp_ne hK 20 dX12_readsFactor_6 (by decide) (fun c3 => ?_) (fun c3 => ?_)
  · have hf := ro_ie hf c3
    obtain rfl := Option.some.inj hf
    exact hq
  · have hf := ro_it hf c3
    refine ro_aload_n hK 0 rfl dX12_readsFactor_9 rfl ?_
    refine ro_bipush (v := 14) hK dX12_readsFactor_10 (by decide) ?_
    obtain ⟨q4, e5, hf⟩ := ro_bd hf
    refine ro_callvi hK [.int 14] ml_X12_329 mv_X12_opens (mt_X12_opens (kl K) (kG K)  e5) sh_207 ⟨_, rfl, rfl⟩ (by decide) rfl rfl (Nat.le_of_ble_eq_true rfl) dX12_readsFactor_12 ?_
    refine ro_if_ne hK 0 dX12_readsFactor_15 (by decide) (fun c6 => ?_) (fun c6 => ?_)
    · have hf := ro_ie hf c6
      exact hrec q4.2 _ hf hq
    · have hf := ro_it hf c6
      refine ro_sub (L' := []) [] rfl ?_
      obtain rfl := Option.some.inj hf
      exact hq
def fl_X12_readsFactor_0  : ro_Mem → Option (ro_Mem ⊕ ro_Mem) :=
  ro_loop (fun rec s => fb_X12_readsFactor_0 rec s) ro_FU
theorem lp_X12_readsFactor_0 {K : ro_K} (hK : ro_C K RX12 cX12_readsFactor 2 3) (hR : ro_R K (some .boolean))   {s : ro_Mem} {q : (ro_Mem ⊕ ro_Mem)} (hf : fl_X12_readsFactor_0 s = some q) (hq : ok_X12_readsFactor_0 K q) : ro_X K 0 [(0, .ref (ro_ad (kG K) 207))] [] s :=
  ro_loopX (b := fun rec s => fb_X12_readsFactor_0 rec s) (X := fun s => ro_X K 0 [(0, .ref (ro_ad (kG K) 207))] [] s) (OK := ok_X12_readsFactor_0 K) (fun rec s q hrec hb ho => bb_X12_readsFactor_0 hK hR  hrec hb ho) ro_FU s q hf hq
def fn_X12_readsFactor (μ : ro_Mem) : Option (Int32 × ro_Mem) :=
  (fl_X12_readsFactor_0  μ).bind fun q7 =>
  q7.elim (fun e9 => some (0, e9)) (fun e10 => (fn_X12_isDigit e10).bind fun q11 =>
  if q11 = 0 then
  ((fn_X12_here e10).bind fun q14 =>
  (fn_X12_factOf q14).bind fun q16 =>
  if q16 = (-1) then
  ((fn_X12_wrongAt 1 (e10 207 14) e10).bind fun q23 =>
  if q23.1 = 0 ∨ q23.1 = 1 then
  (some (q23.1, q23.2)) else none)
  else
  ((fn_X12_notes 1 q16 e10).bind fun q19 =>
  ro_lt (ro_set q19 207 14 ((q19 207 14) + 1)) fun m21 =>
  some (1, m21)))
  else
  ((fn_X12_readsNumber e10).bind fun q26 =>
  if q26.1 = 0 then
  (some (0, q26.2))
  else
  ((fn_X12_notes 0 (q26.2 207 17) q26.2).bind fun q29 =>
  some (1, q29))))
theorem be_X12_readsFactor {K : ro_K} (hK : ro_C K RX12 cX12_readsFactor 2 3) (hR : ro_R K (some .boolean))   {μ : ro_Mem} {out : Int32 × ro_Mem} (hf : fn_X12_readsFactor μ = some out) (hq : kQ K (some (.int out.1)) out.2) : ro_X K 0 [(0, .ref (ro_ad (kG K) 207))] [] μ := by
  unfold fn_X12_readsFactor at hf
  obtain ⟨q7, e8, hf⟩ := ro_bd hf
  refine lp_X12_readsFactor_0 hK hR  e8 ?_
  rcases q7 with e9 | e10
  · have hf := ro_el hf
    show ro_X K 18 [] [] e9
    refine ro_iconst (v := 0) hK dX12_readsFactor_18 (by decide) ?_
    obtain rfl := Option.some.inj hf
    exact ro_zret hK hR dX12_readsFactor_19 (by decide) hq
  · have hf := ro_er hf
    show ro_X K 20 [(0, .ref (ro_ad (kG K) 207))] [] e10
    refine ro_aload_n hK 0 rfl dX12_readsFactor_20 rfl ?_
    obtain ⟨q11, e12, hf⟩ := ro_bd hf
    refine ro_callvi hK [] ml_X12_255 mv_X12_isDigit (mt_X12_isDigit (kl K) (kG K)  e12) sh_207 ⟨_, rfl, rfl⟩ (by decide) rfl rfl (Nat.le_of_ble_eq_true rfl) dX12_readsFactor_21 ?_
    refine ro_if_eq hK 47 dX12_readsFactor_24 (by decide) (fun c13 => ?_) (fun c13 => ?_)
    · have hf := ro_it hf c13
      refine ro_aload_n hK 0 rfl dX12_readsFactor_47 rfl ?_
      obtain ⟨q14, e15, hf⟩ := ro_bd hf
      refine ro_callvi hK [] ml_X12_259 mv_X12_here (mt_X12_here (kl K) (kG K)  e15) sh_207 ⟨_, rfl, rfl⟩ (by decide) rfl rfl (Nat.le_of_ble_eq_true rfl) dX12_readsFactor_48 ?_
      obtain ⟨q16, e17, hf⟩ := ro_bd hf
      refine ro_callsi hK [.int q14] ml_X12_335 ms_X12_factOf (mt_X12_factOf (kl K) (kG K)  e17) (by decide) rfl rfl (Nat.le_of_ble_eq_true rfl) dX12_readsFactor_51 ?_
      refine ro_istore_n (L' := [(1, .int q16), (0, .ref (ro_ad (kG K) 207))]) hK dX12_readsFactor_54 rfl (by decide) rfl ?_
      refine ro_iload_n hK 0 rfl dX12_readsFactor_55 rfl ?_
      refine ro_iconst (v := (-1)) hK dX12_readsFactor_56 (by decide) ?_
      refine ro_icmp_ne hK 70 dX12_readsFactor_57 (by decide) (fun c18 => ?_) (fun c18 => ?_)
      · have hf := ro_ie hf c18
        refine ro_aload_n hK 1 rfl dX12_readsFactor_70 rfl ?_
        refine ro_iconst (v := 1) hK dX12_readsFactor_71 (by decide) ?_
        refine ro_iload_n hK 0 rfl dX12_readsFactor_72 rfl ?_
        obtain ⟨q19, e20, hf⟩ := ro_bd hf
        refine ro_callvv hK [.int 1, .int q16] ml_X12_325 mv_X12_notes (mt_X12_notes (kl K) (kG K)  e20) sh_207 ⟨_, rfl, rfl⟩ (by decide) rfl rfl (Nat.le_of_ble_eq_true rfl) dX12_readsFactor_73 ?_
        refine ro_aload_n hK 1 rfl dX12_readsFactor_76 rfl ?_
        refine ro_aload_n hK 1 rfl dX12_readsFactor_77 rfl ?_
        refine ro_geti hK fl_X12_249 sh_207 dX12_readsFactor_78 ?_
        refine ro_iconst (v := 1) hK dX12_readsFactor_81 (by decide) ?_
        refine ro_iadd hK dX12_readsFactor_82 ?_
        obtain ⟨m21, e22, hf⟩ := ro_ld hf
        refine ro_puti hK fl_X12_249 sh_207 rfl rfl dX12_readsFactor_83 ?_
        refine ro_mv e22 ?_
        refine ro_iconst (v := 1) hK dX12_readsFactor_86 (by decide) ?_
        obtain rfl := Option.some.inj hf
        exact ro_zret hK hR dX12_readsFactor_87 (by decide) hq
      · have hf := ro_it hf c18
        refine ro_aload_n hK 1 rfl dX12_readsFactor_60 rfl ?_
        refine ro_iconst (v := 1) hK dX12_readsFactor_61 (by decide) ?_
        refine ro_aload_n hK 1 rfl dX12_readsFactor_62 rfl ?_
        refine ro_geti hK fl_X12_249 sh_207 dX12_readsFactor_63 ?_
        obtain ⟨q23, e24, hf⟩ := ro_bd hf
        refine ro_callvi hK [.int 1, .int (e10 207 14)] ml_X12_263 mv_X12_wrongAt (mt_X12_wrongAt (kl K) (kG K)  e24) sh_207 ⟨_, rfl, rfl⟩ (by decide) rfl rfl (Nat.le_of_ble_eq_true rfl) dX12_readsFactor_66 ?_
        obtain ⟨g25, hf⟩ := ro_gd hf
        obtain rfl := Option.some.inj hf
        exact ro_zret hK hR dX12_readsFactor_69 g25 hq
    · have hf := ro_ie hf c13
      refine ro_aload_n hK 0 rfl dX12_readsFactor_27 rfl ?_
      obtain ⟨q26, e27, hf⟩ := ro_bd hf
      refine ro_callvi hK [] ml_X12_332 mv_X12_readsNumber (mt_X12_readsNumber (kl K) (kG K)  e27) sh_207 ⟨_, rfl, rfl⟩ (by decide) rfl rfl (Nat.le_of_ble_eq_true rfl) dX12_readsFactor_28 ?_
      refine ro_if_ne hK 36 dX12_readsFactor_31 (by decide) (fun c28 => ?_) (fun c28 => ?_)
      · have hf := ro_ie hf c28
        refine ro_aload_n hK 0 rfl dX12_readsFactor_36 rfl ?_
        refine ro_iconst (v := 0) hK dX12_readsFactor_37 (by decide) ?_
        refine ro_aload_n hK 0 rfl dX12_readsFactor_38 rfl ?_
        refine ro_geti hK fl_X12_252 sh_207 dX12_readsFactor_39 ?_
        obtain ⟨q29, e30, hf⟩ := ro_bd hf
        refine ro_callvv hK [.int 0, .int (q26.2 207 17)] ml_X12_325 mv_X12_notes (mt_X12_notes (kl K) (kG K)  e30) sh_207 ⟨_, rfl, rfl⟩ (by decide) rfl rfl (Nat.le_of_ble_eq_true rfl) dX12_readsFactor_42 ?_
        refine ro_iconst (v := 1) hK dX12_readsFactor_45 (by decide) ?_
        obtain rfl := Option.some.inj hf
        exact ro_zret hK hR dX12_readsFactor_46 (by decide) hq
      · have hf := ro_it hf c28
        refine ro_iconst (v := 0) hK dX12_readsFactor_34 (by decide) ?_
        obtain rfl := Option.some.inj hf
        exact ro_zret hK hR dX12_readsFactor_35 (by decide) hq
theorem mt_X12_readsFactor (l : Launch) (G : ro_G)   {μ : ro_Mem} {out : Int32 × ro_Mem} (hf : fn_X12_readsFactor μ = some out) : ro_MX l G yX12_readsFactor cX12_readsFactor 2 (some .boolean) 3 [.ref (ro_ad G 207)] μ (some (.int out.1)) out.2 := by
  refine ro_MX.of (by decide +kernel) (Nat.le_of_ble_eq_true rfl) (fun K hG hl hq hK hR => ?_)
  subst hG
  exact be_X12_readsFactor hK hR  hf hq
-- ===== X12_hasOpenSum =====
theorem dX12_hasOpenSum_0 : decode cX12_hasOpenSum 0 = .ok (.iload_n 1, 1) := by decide +kernel
theorem dX12_hasOpenSum_1 : decode cX12_hasOpenSum 1 = .ok (.istore_n 2, 1) := by decide +kernel
theorem dX12_hasOpenSum_2 : decode cX12_hasOpenSum 2 = .ok (.iload_n 2, 1) := by decide +kernel
theorem dX12_hasOpenSum_3 : decode cX12_hasOpenSum 3 = .ok (.aload_n 0, 1) := by decide +kernel
theorem dX12_hasOpenSum_4 : decode cX12_hasOpenSum 4 = .ok (.getfield 319, 3) := by decide +kernel
theorem dX12_hasOpenSum_7 : decode cX12_hasOpenSum 7 = .ok (.if_icmp .ge 26, 3) := by decide +kernel
theorem dX12_hasOpenSum_10 : decode cX12_hasOpenSum 10 = .ok (.aload_n 0, 1) := by decide +kernel
theorem dX12_hasOpenSum_11 : decode cX12_hasOpenSum 11 = .ok (.getfield 75, 3) := by decide +kernel
theorem dX12_hasOpenSum_14 : decode cX12_hasOpenSum 14 = .ok (.iload_n 2, 1) := by decide +kernel
theorem dX12_hasOpenSum_15 : decode cX12_hasOpenSum 15 = .ok (.iaload, 1) := by decide +kernel
theorem dX12_hasOpenSum_16 : decode cX12_hasOpenSum 16 = .ok (.ldc_w 315, 3) := by decide +kernel
theorem dX12_hasOpenSum_19 : decode cX12_hasOpenSum 19 = .ok (.idiv, 1) := by decide +kernel
theorem dX12_hasOpenSum_20 : decode cX12_hasOpenSum 20 = .ok (.bipush 14, 2) := by decide +kernel
theorem dX12_hasOpenSum_22 : decode cX12_hasOpenSum 22 = .ok (.if_icmp .ne 5, 3) := by decide +kernel
theorem dX12_hasOpenSum_25 : decode cX12_hasOpenSum 25 = .ok (.iconst 1, 1) := by decide +kernel
theorem dX12_hasOpenSum_26 : decode cX12_hasOpenSum 26 = .ok (.ireturn, 1) := by decide +kernel
theorem dX12_hasOpenSum_27 : decode cX12_hasOpenSum 27 = .ok (.iinc 2 1, 3) := by decide +kernel
theorem dX12_hasOpenSum_30 : decode cX12_hasOpenSum 30 = .ok (.goto (-28), 3) := by decide +kernel
theorem dX12_hasOpenSum_33 : decode cX12_hasOpenSum 33 = .ok (.iconst 0, 1) := by decide +kernel
theorem dX12_hasOpenSum_34 : decode cX12_hasOpenSum 34 = .ok (.ireturn, 1) := by decide +kernel
def ok_X12_hasOpenSum_2 (K : ro_K)  (μ : ro_Mem) : (Unit ⊕ Unit) → Prop := Sum.elim (fun e => ro_X K 25 [] [] μ) (fun e => ro_X K 33 [] [] μ)
def fb_X12_hasOpenSum_2 (μ : ro_Mem) (rec : Int32 → Option (Unit ⊕ Unit)) (v2 : Int32) : Option (Unit ⊕ Unit) :=
  if (μ 207 36) ≤ v2 then
  (some (.inr ()))
  else
  (if ro_in v2 220 then
  (if ((μ 229 v2.toNatClampNeg) / 1048576) = 14 then
  (some (.inl ()))
  else
  (rec (v2 + 1))) else none)
theorem bb_X12_hasOpenSum_2 {K : ro_K} (hK : ro_C K RX12 cX12_hasOpenSum 3 0) (hR : ro_R K (some .boolean))   {μ : ro_Mem} {rec : Int32 → Option (Unit ⊕ Unit)} {v2 : Int32} {q : (Unit ⊕ Unit)} (hrec : ∀ (s : Int32) (q : (Unit ⊕ Unit)), rec s = some q → ok_X12_hasOpenSum_2 K μ q → ro_X K 2 [(0, .ref (ro_ad (kG K) 207)), (2, .int s)] [] μ) (hf : fb_X12_hasOpenSum_2 μ rec v2 = some q) (hq : ok_X12_hasOpenSum_2 K μ q) : ro_X K 2 [(0, .ref (ro_ad (kG K) 207)), (2, .int v2)] [] μ := by
  unfold fb_X12_hasOpenSum_2 at hf
  refine ro_iload_n hK 1 rfl dX12_hasOpenSum_2 rfl ?_
  refine ro_aload_n hK 0 rfl dX12_hasOpenSum_3 rfl ?_
  refine ro_geti hK fl_X12_319 sh_207 dX12_hasOpenSum_4 ?_
  refine ro_icmp_ge hK 33 dX12_hasOpenSum_7 (by decide) (fun c1 => ?_) (fun c1 => ?_)
  · have hf := ro_it hf c1
    refine ro_sub (L' := []) [] rfl ?_
    obtain rfl := Option.some.inj hf
    exact hq
  · have hf := ro_ie hf c1
    refine ro_aload_n hK 0 rfl dX12_hasOpenSum_10 rfl ?_
    refine ro_getr hK fl_X12_75 sh_207 dX12_hasOpenSum_11 ?_
    refine ro_iload_n hK 1 rfl dX12_hasOpenSum_14 rfl ?_
    obtain ⟨g2, hf⟩ := ro_gd hf
    refine ro_iald hK sh_229 g2 dX12_hasOpenSum_15 ?_
    refine ro_ldcw hK kc_X12_315 dX12_hasOpenSum_16 ?_
    refine ro_idiv hK dX12_hasOpenSum_19 (by decide) ?_
    refine ro_bipush (v := 14) hK dX12_hasOpenSum_20 (by decide) ?_
    refine ro_icmp_ne hK 27 dX12_hasOpenSum_22 (by decide) (fun c3 => ?_) (fun c3 => ?_)
    · have hf := ro_ie hf c3
      refine ro_iinc (v := v2 + 1) (L' := [(2, .int (v2 + 1)), (0, .ref (ro_ad (kG K) 207))]) hK 1 rfl dX12_hasOpenSum_27 rfl (by decide) rfl ?_
      refine ro_goto hK 2 dX12_hasOpenSum_30 (by decide) ?_
      refine ro_sub (L' := [(0, .ref (ro_ad (kG K) 207)), (2, .int (v2 + 1))]) [1, 0] rfl ?_
      exact hrec (v2 + 1) _ hf hq
    · have hf := ro_it hf c3
      refine ro_sub (L' := []) [] rfl ?_
      obtain rfl := Option.some.inj hf
      exact hq
def fl_X12_hasOpenSum_2 (μ : ro_Mem) : Int32 → Option (Unit ⊕ Unit) :=
  ro_loop (fun rec s => fb_X12_hasOpenSum_2 μ rec s) ro_FU
theorem lp_X12_hasOpenSum_2 {K : ro_K} (hK : ro_C K RX12 cX12_hasOpenSum 3 0) (hR : ro_R K (some .boolean))   {μ : ro_Mem} {s : Int32} {q : (Unit ⊕ Unit)} (hf : fl_X12_hasOpenSum_2 μ s = some q) (hq : ok_X12_hasOpenSum_2 K μ q) : ro_X K 2 [(0, .ref (ro_ad (kG K) 207)), (2, .int s)] [] μ :=
  ro_loopX (b := fun rec s => fb_X12_hasOpenSum_2 μ rec s) (X := fun s => ro_X K 2 [(0, .ref (ro_ad (kG K) 207)), (2, .int s)] [] μ) (OK := ok_X12_hasOpenSum_2 K μ) (fun rec s q hrec hb ho => bb_X12_hasOpenSum_2 hK hR  hrec hb ho) ro_FU s q hf hq
def fn_X12_hasOpenSum (v1 : Int32) (μ : ro_Mem) : Option Int32 :=
  (fl_X12_hasOpenSum_2 μ v1).bind fun q4 =>
  q4.elim (fun e6 => some 1) (fun e7 => some 0)
theorem be_X12_hasOpenSum {K : ro_K} (hK : ro_C K RX12 cX12_hasOpenSum 3 0) (hR : ro_R K (some .boolean)) {v1 : Int32}  {μ : ro_Mem} {out : Int32} (hf : fn_X12_hasOpenSum v1 μ = some out) (hq : kQ K (some (.int out)) μ) : ro_X K 0 [(0, .ref (ro_ad (kG K) 207)), (1, .int v1)] [] μ := by
  unfold fn_X12_hasOpenSum at hf
  refine ro_iload_n hK 1 rfl dX12_hasOpenSum_0 rfl ?_
  refine ro_istore_n (L' := [(2, .int v1), (0, .ref (ro_ad (kG K) 207)), (1, .int v1)]) hK dX12_hasOpenSum_1 rfl (by decide) rfl ?_
  obtain ⟨q4, e5, hf⟩ := ro_bd hf
  refine ro_sub (L' := [(0, .ref (ro_ad (kG K) 207)), (2, .int v1)]) [1, 0] rfl ?_
  refine lp_X12_hasOpenSum_2 hK hR  e5 ?_
  rcases q4 with e6 | e7
  · have hf := ro_el hf
    show ro_X K 25 [] [] μ
    refine ro_iconst (v := 1) hK dX12_hasOpenSum_25 (by decide) ?_
    obtain rfl := Option.some.inj hf
    exact ro_zret hK hR dX12_hasOpenSum_26 (by decide) hq
  · have hf := ro_er hf
    show ro_X K 33 [] [] μ
    refine ro_iconst (v := 0) hK dX12_hasOpenSum_33 (by decide) ?_
    obtain rfl := Option.some.inj hf
    exact ro_zret hK hR dX12_hasOpenSum_34 (by decide) hq
theorem mt_X12_hasOpenSum (l : Launch) (G : ro_G) {v1 : Int32}  {μ : ro_Mem} {out : Int32} (hf : fn_X12_hasOpenSum v1 μ = some out) : ro_MX l G yX12_hasOpenSum cX12_hasOpenSum 3 (some .boolean) 0 [.ref (ro_ad G 207), .int v1] μ (some (.int out)) μ := by
  refine ro_MX.of (by decide +kernel) (Nat.le_of_ble_eq_true rfl) (fun K hG hl hq hK hR => ?_)
  subst hG
  exact be_X12_hasOpenSum hK hR  hf hq
-- ===== X12_readsSum =====
theorem dX12_readsSum_0 : decode cX12_readsSum 0 = .ok (.aload_n 0, 1) := by decide +kernel
theorem dX12_readsSum_1 : decode cX12_readsSum 1 = .ok (.getfield 319, 3) := by decide +kernel
theorem dX12_readsSum_4 : decode cX12_readsSum 4 = .ok (.istore_n 1, 1) := by decide +kernel
theorem dX12_readsSum_5 : decode cX12_readsSum 5 = .ok (.aload_n 0, 1) := by decide +kernel
theorem dX12_readsSum_6 : decode cX12_readsSum 6 = .ok (.invokevirtual 338, 3) := by decide +kernel
theorem dX12_readsSum_9 : decode cX12_readsSum 9 = .ok (.ifCond .ne 5, 3) := by decide +kernel
theorem dX12_readsSum_12 : decode cX12_readsSum 12 = .ok (.iconst 0, 1) := by decide +kernel
theorem dX12_readsSum_13 : decode cX12_readsSum 13 = .ok (.ireturn, 1) := by decide +kernel
theorem dX12_readsSum_14 : decode cX12_readsSum 14 = .ok (.aload_n 0, 1) := by decide +kernel
theorem dX12_readsSum_15 : decode cX12_readsSum 15 = .ok (.invokevirtual 259, 3) := by decide +kernel
theorem dX12_readsSum_18 : decode cX12_readsSum 18 = .ok (.invokestatic 341, 3) := by decide +kernel
theorem dX12_readsSum_21 : decode cX12_readsSum 21 = .ok (.istore_n 2, 1) := by decide +kernel
theorem dX12_readsSum_22 : decode cX12_readsSum 22 = .ok (.iload_n 2, 1) := by decide +kernel
theorem dX12_readsSum_23 : decode cX12_readsSum 23 = .ok (.iconst (-1), 1) := by decide +kernel
theorem dX12_readsSum_24 : decode cX12_readsSum 24 = .ok (.if_icmp .eq 60, 3) := by decide +kernel
theorem dX12_readsSum_27 : decode cX12_readsSum 27 = .ok (.aload_n 0, 1) := by decide +kernel
theorem dX12_readsSum_28 : decode cX12_readsSum 28 = .ok (.iload_n 2, 1) := by decide +kernel
theorem dX12_readsSum_29 : decode cX12_readsSum 29 = .ok (.iconst 4, 1) := by decide +kernel
theorem dX12_readsSum_30 : decode cX12_readsSum 30 = .ok (.if_icmp .ge 7, 3) := by decide +kernel
theorem dX12_readsSum_33 : decode cX12_readsSum 33 = .ok (.iconst 1, 1) := by decide +kernel
theorem dX12_readsSum_34 : decode cX12_readsSum 34 = .ok (.goto 4, 3) := by decide +kernel
theorem dX12_readsSum_37 : decode cX12_readsSum 37 = .ok (.iconst 0, 1) := by decide +kernel
theorem dX12_readsSum_38 : decode cX12_readsSum 38 = .ok (.invokevirtual 344, 3) := by decide +kernel
theorem dX12_readsSum_41 : decode cX12_readsSum 41 = .ok (.aload_n 0, 1) := by decide +kernel
theorem dX12_readsSum_42 : decode cX12_readsSum 42 = .ok (.getfield 75, 3) := by decide +kernel
theorem dX12_readsSum_45 : decode cX12_readsSum 45 = .ok (.aload_n 0, 1) := by decide +kernel
theorem dX12_readsSum_46 : decode cX12_readsSum 46 = .ok (.getfield 319, 3) := by decide +kernel
theorem dX12_readsSum_49 : decode cX12_readsSum 49 = .ok (.ldc_w 315, 3) := by decide +kernel
theorem dX12_readsSum_52 : decode cX12_readsSum 52 = .ok (.iload_n 2, 1) := by decide +kernel
theorem dX12_readsSum_53 : decode cX12_readsSum 53 = .ok (.imul, 1) := by decide +kernel
theorem dX12_readsSum_54 : decode cX12_readsSum 54 = .ok (.iastore, 1) := by decide +kernel
theorem dX12_readsSum_55 : decode cX12_readsSum 55 = .ok (.aload_n 0, 1) := by decide +kernel
theorem dX12_readsSum_56 : decode cX12_readsSum 56 = .ok (.aload_n 0, 1) := by decide +kernel
theorem dX12_readsSum_57 : decode cX12_readsSum 57 = .ok (.getfield 319, 3) := by decide +kernel
theorem dX12_readsSum_60 : decode cX12_readsSum 60 = .ok (.iconst 1, 1) := by decide +kernel
theorem dX12_readsSum_61 : decode cX12_readsSum 61 = .ok (.iadd, 1) := by decide +kernel
theorem dX12_readsSum_62 : decode cX12_readsSum 62 = .ok (.putfield 319, 3) := by decide +kernel
theorem dX12_readsSum_65 : decode cX12_readsSum 65 = .ok (.aload_n 0, 1) := by decide +kernel
theorem dX12_readsSum_66 : decode cX12_readsSum 66 = .ok (.aload_n 0, 1) := by decide +kernel
theorem dX12_readsSum_67 : decode cX12_readsSum 67 = .ok (.getfield 249, 3) := by decide +kernel
theorem dX12_readsSum_70 : decode cX12_readsSum 70 = .ok (.iconst 1, 1) := by decide +kernel
theorem dX12_readsSum_71 : decode cX12_readsSum 71 = .ok (.iadd, 1) := by decide +kernel
theorem dX12_readsSum_72 : decode cX12_readsSum 72 = .ok (.putfield 249, 3) := by decide +kernel
theorem dX12_readsSum_75 : decode cX12_readsSum 75 = .ok (.aload_n 0, 1) := by decide +kernel
theorem dX12_readsSum_76 : decode cX12_readsSum 76 = .ok (.invokevirtual 338, 3) := by decide +kernel
theorem dX12_readsSum_79 : decode cX12_readsSum 79 = .ok (.ifCond .ne 85, 3) := by decide +kernel
theorem dX12_readsSum_82 : decode cX12_readsSum 82 = .ok (.iconst 0, 1) := by decide +kernel
theorem dX12_readsSum_83 : decode cX12_readsSum 83 = .ok (.ireturn, 1) := by decide +kernel
theorem dX12_readsSum_84 : decode cX12_readsSum 84 = .ok (.aload_n 0, 1) := by decide +kernel
theorem dX12_readsSum_85 : decode cX12_readsSum 85 = .ok (.invokevirtual 259, 3) := by decide +kernel
theorem dX12_readsSum_88 : decode cX12_readsSum 88 = .ok (.bipush 93, 2) := by decide +kernel
theorem dX12_readsSum_90 : decode cX12_readsSum 90 = .ok (.if_icmp .ne 49, 3) := by decide +kernel
theorem dX12_readsSum_93 : decode cX12_readsSum 93 = .ok (.aload_n 0, 1) := by decide +kernel
theorem dX12_readsSum_94 : decode cX12_readsSum 94 = .ok (.iload_n 1, 1) := by decide +kernel
theorem dX12_readsSum_95 : decode cX12_readsSum 95 = .ok (.invokevirtual 348, 3) := by decide +kernel
theorem dX12_readsSum_98 : decode cX12_readsSum 98 = .ok (.ifCond .eq 41, 3) := by decide +kernel
theorem dX12_readsSum_101 : decode cX12_readsSum 101 = .ok (.aload_n 0, 1) := by decide +kernel
theorem dX12_readsSum_102 : decode cX12_readsSum 102 = .ok (.iconst 1, 1) := by decide +kernel
theorem dX12_readsSum_103 : decode cX12_readsSum 103 = .ok (.invokevirtual 344, 3) := by decide +kernel
theorem dX12_readsSum_106 : decode cX12_readsSum 106 = .ok (.aload_n 0, 1) := by decide +kernel
theorem dX12_readsSum_107 : decode cX12_readsSum 107 = .ok (.aload_n 0, 1) := by decide +kernel
theorem dX12_readsSum_108 : decode cX12_readsSum 108 = .ok (.getfield 319, 3) := by decide +kernel
theorem dX12_readsSum_111 : decode cX12_readsSum 111 = .ok (.iconst 1, 1) := by decide +kernel
theorem dX12_readsSum_112 : decode cX12_readsSum 112 = .ok (.isub, 1) := by decide +kernel
theorem dX12_readsSum_113 : decode cX12_readsSum 113 = .ok (.putfield 319, 3) := by decide +kernel
theorem dX12_readsSum_116 : decode cX12_readsSum 116 = .ok (.aload_n 0, 1) := by decide +kernel
theorem dX12_readsSum_117 : decode cX12_readsSum 117 = .ok (.aload_n 0, 1) := by decide +kernel
theorem dX12_readsSum_118 : decode cX12_readsSum 118 = .ok (.getfield 316, 3) := by decide +kernel
theorem dX12_readsSum_121 : decode cX12_readsSum 121 = .ok (.iconst 1, 1) := by decide +kernel
theorem dX12_readsSum_122 : decode cX12_readsSum 122 = .ok (.isub, 1) := by decide +kernel
theorem dX12_readsSum_123 : decode cX12_readsSum 123 = .ok (.putfield 316, 3) := by decide +kernel
theorem dX12_readsSum_126 : decode cX12_readsSum 126 = .ok (.aload_n 0, 1) := by decide +kernel
theorem dX12_readsSum_127 : decode cX12_readsSum 127 = .ok (.aload_n 0, 1) := by decide +kernel
theorem dX12_readsSum_128 : decode cX12_readsSum 128 = .ok (.getfield 249, 3) := by decide +kernel
theorem dX12_readsSum_131 : decode cX12_readsSum 131 = .ok (.iconst 1, 1) := by decide +kernel
theorem dX12_readsSum_132 : decode cX12_readsSum 132 = .ok (.iadd, 1) := by decide +kernel
theorem dX12_readsSum_133 : decode cX12_readsSum 133 = .ok (.putfield 249, 3) := by decide +kernel
theorem dX12_readsSum_136 : decode cX12_readsSum 136 = .ok (.goto 28, 3) := by decide +kernel
theorem dX12_readsSum_139 : decode cX12_readsSum 139 = .ok (.aload_n 0, 1) := by decide +kernel
theorem dX12_readsSum_140 : decode cX12_readsSum 140 = .ok (.iload_n 1, 1) := by decide +kernel
theorem dX12_readsSum_141 : decode cX12_readsSum 141 = .ok (.invokevirtual 348, 3) := by decide +kernel
theorem dX12_readsSum_144 : decode cX12_readsSum 144 = .ok (.ifCond .eq 13, 3) := by decide +kernel
theorem dX12_readsSum_147 : decode cX12_readsSum 147 = .ok (.aload_n 0, 1) := by decide +kernel
theorem dX12_readsSum_148 : decode cX12_readsSum 148 = .ok (.iconst 1, 1) := by decide +kernel
theorem dX12_readsSum_149 : decode cX12_readsSum 149 = .ok (.aload_n 0, 1) := by decide +kernel
theorem dX12_readsSum_150 : decode cX12_readsSum 150 = .ok (.getfield 249, 3) := by decide +kernel
theorem dX12_readsSum_153 : decode cX12_readsSum 153 = .ok (.invokevirtual 263, 3) := by decide +kernel
theorem dX12_readsSum_156 : decode cX12_readsSum 156 = .ok (.ireturn, 1) := by decide +kernel
theorem dX12_readsSum_157 : decode cX12_readsSum 157 = .ok (.aload_n 0, 1) := by decide +kernel
theorem dX12_readsSum_158 : decode cX12_readsSum 158 = .ok (.iconst 1, 1) := by decide +kernel
theorem dX12_readsSum_159 : decode cX12_readsSum 159 = .ok (.invokevirtual 344, 3) := by decide +kernel
theorem dX12_readsSum_162 : decode cX12_readsSum 162 = .ok (.iconst 1, 1) := by decide +kernel
theorem dX12_readsSum_163 : decode cX12_readsSum 163 = .ok (.ireturn, 1) := by decide +kernel
theorem dX12_readsSum_164 : decode cX12_readsSum 164 = .ok (.goto (-150), 3) := by decide +kernel
def ok_X12_readsSum_14 (K : ro_K) (v1 : Int32) : (ro_Mem ⊕ ro_Mem) → Prop := Sum.elim (fun e => ro_X K 82 [] [] e) (fun e => ro_X K 139 [(0, .ref (ro_ad (kG K) 207)), (1, .int v1)] [] e)
def fj_X12_readsSum_38 (rec : ro_Mem → Option (ro_Mem ⊕ ro_Mem)) (v1 : Int32) (v2 : Int32) (t1 : Int32) (μ : ro_Mem) : Option (ro_Mem ⊕ ro_Mem) :=
  (fn_X12_closesSums t1 μ).bind fun q26 =>
  if ro_in (q26 207 36) 220 then
  (ro_lt (ro_set q26 229 (q26 207 36).toNatClampNeg (1048576 * v2)) fun m29 =>
  ro_lt (ro_set m29 207 36 ((m29 207 36) + 1)) fun m31 =>
  ro_lt (ro_set m31 207 14 ((m31 207 14) + 1)) fun m33 =>
  (fn_X12_readsFactor m33).bind fun q35 =>
  if q35.1 = 0 then
  (some (.inl q35.2))
  else
  (rec q35.2)) else none
theorem bj_X12_readsSum_38 {K : ro_K} (hK : ro_C K RX12 cX12_readsSum 3 4) (hR : ro_R K (some .boolean)) {v1 : Int32} {v2 : Int32} {t1 : Int32}  {rec : ro_Mem → Option (ro_Mem ⊕ ro_Mem)} {μ : ro_Mem} (hrec : ∀ (s : ro_Mem) (q : (ro_Mem ⊕ ro_Mem)), rec s = some q → ok_X12_readsSum_14 K v1 q → ro_X K 14 [(0, .ref (ro_ad (kG K) 207)), (1, .int v1)] [] s) {out : (ro_Mem ⊕ ro_Mem)} (hf : fj_X12_readsSum_38 rec v1 v2 t1 μ = some out) (hq : ok_X12_readsSum_14 K v1 out) : ro_X K 38 [(0, .ref (ro_ad (kG K) 207)), (1, .int v1), (2, .int v2)] [.int t1, .ref (ro_ad (kG K) 207)] μ := by
  unfold fj_X12_readsSum_38 at hf
  obtain ⟨q26, e27, hf⟩ := ro_bd hf
  refine ro_callvv hK [.int t1] ml_X12_344 mv_X12_closesSums (mt_X12_closesSums (kl K) (kG K)  e27) sh_207 ⟨_, rfl, rfl⟩ (by decide) rfl rfl (Nat.le_of_ble_eq_true rfl) dX12_readsSum_38 ?_
  refine ro_aload_n hK 0 rfl dX12_readsSum_41 rfl ?_
  refine ro_getr hK fl_X12_75 sh_207 dX12_readsSum_42 ?_
  refine ro_aload_n hK 0 rfl dX12_readsSum_45 rfl ?_
  refine ro_geti hK fl_X12_319 sh_207 dX12_readsSum_46 ?_
  refine ro_ldcw hK kc_X12_315 dX12_readsSum_49 ?_
  refine ro_iload_n hK 2 rfl dX12_readsSum_52 rfl ?_
  refine ro_imul hK dX12_readsSum_53 ?_
  obtain ⟨g28, hf⟩ := ro_gd hf
  obtain ⟨m29, e30, hf⟩ := ro_ld hf
  refine ro_iast hK sh_229 g28 dX12_readsSum_54 ?_
  refine ro_mv e30 ?_
  refine ro_aload_n hK 0 rfl dX12_readsSum_55 rfl ?_
  refine ro_aload_n hK 0 rfl dX12_readsSum_56 rfl ?_
  refine ro_geti hK fl_X12_319 sh_207 dX12_readsSum_57 ?_
  refine ro_iconst (v := 1) hK dX12_readsSum_60 (by decide) ?_
  refine ro_iadd hK dX12_readsSum_61 ?_
  obtain ⟨m31, e32, hf⟩ := ro_ld hf
  refine ro_puti hK fl_X12_319 sh_207 rfl rfl dX12_readsSum_62 ?_
  refine ro_mv e32 ?_
  refine ro_aload_n hK 0 rfl dX12_readsSum_65 rfl ?_
  refine ro_aload_n hK 0 rfl dX12_readsSum_66 rfl ?_
  refine ro_geti hK fl_X12_249 sh_207 dX12_readsSum_67 ?_
  refine ro_iconst (v := 1) hK dX12_readsSum_70 (by decide) ?_
  refine ro_iadd hK dX12_readsSum_71 ?_
  obtain ⟨m33, e34, hf⟩ := ro_ld hf
  refine ro_puti hK fl_X12_249 sh_207 rfl rfl dX12_readsSum_72 ?_
  refine ro_mv e34 ?_
  refine ro_aload_n hK 0 rfl dX12_readsSum_75 rfl ?_
  obtain ⟨q35, e36, hf⟩ := ro_bd hf
  refine ro_callvi hK [] ml_X12_338 mv_X12_readsFactor (mt_X12_readsFactor (kl K) (kG K)  e36) sh_207 ⟨_, rfl, rfl⟩ (by decide) rfl rfl (Nat.le_of_ble_eq_true rfl) dX12_readsSum_76 ?_
  refine ro_if_ne hK 164 dX12_readsSum_79 (by decide) (fun c37 => ?_) (fun c37 => ?_)
  · have hf := ro_ie hf c37
    refine ro_goto hK 14 dX12_readsSum_164 (by decide) ?_
    refine ro_sub (L' := [(0, .ref (ro_ad (kG K) 207)), (1, .int v1)]) [0, 1] rfl ?_
    exact hrec q35.2 _ hf hq
  · have hf := ro_it hf c37
    refine ro_sub (L' := []) [] rfl ?_
    obtain rfl := Option.some.inj hf
    exact hq
def fb_X12_readsSum_14 (v1 : Int32) (rec : ro_Mem → Option (ro_Mem ⊕ ro_Mem)) (μ : ro_Mem) : Option (ro_Mem ⊕ ro_Mem) :=
  (fn_X12_here μ).bind fun q6 =>
  (fn_X12_sumSign q6).bind fun q8 =>
  if q8 = (-1) then
  ((fn_X12_here μ).bind fun q11 =>
  if q11 = 93 then
  ((fn_X12_hasOpenSum v1 μ).bind fun q14 =>
  if q14 = 0 then
  (some (.inr μ))
  else
  ((fn_X12_closesSums 1 μ).bind fun q17 =>
  ro_lt (ro_set q17 207 36 ((q17 207 36) - 1)) fun m19 =>
  ro_lt (ro_set m19 207 34 ((m19 207 34) - 1)) fun m21 =>
  ro_lt (ro_set m21 207 14 ((m21 207 14) + 1)) fun m23 =>
  rec m23))
  else
  (some (.inr μ)))
  else
  (if 4 ≤ q8 then
  (fj_X12_readsSum_38 rec v1 q8 0 μ)
  else
  (fj_X12_readsSum_38 rec v1 q8 1 μ))
theorem bb_X12_readsSum_14 {K : ro_K} (hK : ro_C K RX12 cX12_readsSum 3 4) (hR : ro_R K (some .boolean)) {v1 : Int32}  {μ : ro_Mem} {rec : ro_Mem → Option (ro_Mem ⊕ ro_Mem)}  {q : (ro_Mem ⊕ ro_Mem)} (hrec : ∀ (s : ro_Mem) (q : (ro_Mem ⊕ ro_Mem)), rec s = some q → ok_X12_readsSum_14 K v1 q → ro_X K 14 [(0, .ref (ro_ad (kG K) 207)), (1, .int v1)] [] s) (hf : fb_X12_readsSum_14 v1 rec μ = some q) (hq : ok_X12_readsSum_14 K v1 q) : ro_X K 14 [(0, .ref (ro_ad (kG K) 207)), (1, .int v1)] [] μ := by
  unfold fb_X12_readsSum_14 at hf
  refine ro_aload_n hK 0 rfl dX12_readsSum_14 rfl ?_
  obtain ⟨q6, e7, hf⟩ := ro_bd hf
  refine ro_callvi hK [] ml_X12_259 mv_X12_here (mt_X12_here (kl K) (kG K)  e7) sh_207 ⟨_, rfl, rfl⟩ (by decide) rfl rfl (Nat.le_of_ble_eq_true rfl) dX12_readsSum_15 ?_
  obtain ⟨q8, e9, hf⟩ := ro_bd hf
  refine ro_callsi hK [.int q6] ml_X12_341 ms_X12_sumSign (mt_X12_sumSign (kl K) (kG K)  e9) (by decide) rfl rfl (Nat.le_of_ble_eq_true rfl) dX12_readsSum_18 ?_
  refine ro_istore_n (L' := [(2, .int q8), (0, .ref (ro_ad (kG K) 207)), (1, .int v1)]) hK dX12_readsSum_21 rfl (by decide) rfl ?_
  refine ro_iload_n hK 0 rfl dX12_readsSum_22 rfl ?_
  refine ro_iconst (v := (-1)) hK dX12_readsSum_23 (by decide) ?_
  refine ro_icmp_eq hK 84 dX12_readsSum_24 (by decide) (fun c10 => ?_) (fun c10 => ?_)
  · have hf := ro_it hf c10
    refine ro_aload_n hK 1 rfl dX12_readsSum_84 rfl ?_
    obtain ⟨q11, e12, hf⟩ := ro_bd hf
    refine ro_callvi hK [] ml_X12_259 mv_X12_here (mt_X12_here (kl K) (kG K)  e12) sh_207 ⟨_, rfl, rfl⟩ (by decide) rfl rfl (Nat.le_of_ble_eq_true rfl) dX12_readsSum_85 ?_
    refine ro_bipush (v := 93) hK dX12_readsSum_88 (by decide) ?_
    refine ro_icmp_ne hK 139 dX12_readsSum_90 (by decide) (fun c13 => ?_) (fun c13 => ?_)
    · have hf := ro_ie hf c13
      refine ro_sub (L' := [(0, .ref (ro_ad (kG K) 207)), (1, .int v1)]) [1, 2] rfl ?_
      obtain rfl := Option.some.inj hf
      exact hq
    · have hf := ro_it hf c13
      refine ro_aload_n hK 1 rfl dX12_readsSum_93 rfl ?_
      refine ro_iload_n hK 2 rfl dX12_readsSum_94 rfl ?_
      obtain ⟨q14, e15, hf⟩ := ro_bd hf
      refine ro_callvi hK [.int v1] ml_X12_348 mv_X12_hasOpenSum (mt_X12_hasOpenSum (kl K) (kG K)  e15) sh_207 ⟨_, rfl, rfl⟩ (by decide) rfl rfl (Nat.le_of_ble_eq_true rfl) dX12_readsSum_95 ?_
      refine ro_if_eq hK 139 dX12_readsSum_98 (by decide) (fun c16 => ?_) (fun c16 => ?_)
      · have hf := ro_it hf c16
        refine ro_sub (L' := [(0, .ref (ro_ad (kG K) 207)), (1, .int v1)]) [1, 2] rfl ?_
        obtain rfl := Option.some.inj hf
        exact hq
      · have hf := ro_ie hf c16
        refine ro_aload_n hK 1 rfl dX12_readsSum_101 rfl ?_
        refine ro_iconst (v := 1) hK dX12_readsSum_102 (by decide) ?_
        obtain ⟨q17, e18, hf⟩ := ro_bd hf
        refine ro_callvv hK [.int 1] ml_X12_344 mv_X12_closesSums (mt_X12_closesSums (kl K) (kG K)  e18) sh_207 ⟨_, rfl, rfl⟩ (by decide) rfl rfl (Nat.le_of_ble_eq_true rfl) dX12_readsSum_103 ?_
        refine ro_aload_n hK 1 rfl dX12_readsSum_106 rfl ?_
        refine ro_aload_n hK 1 rfl dX12_readsSum_107 rfl ?_
        refine ro_geti hK fl_X12_319 sh_207 dX12_readsSum_108 ?_
        refine ro_iconst (v := 1) hK dX12_readsSum_111 (by decide) ?_
        refine ro_isub hK dX12_readsSum_112 ?_
        obtain ⟨m19, e20, hf⟩ := ro_ld hf
        refine ro_puti hK fl_X12_319 sh_207 rfl rfl dX12_readsSum_113 ?_
        refine ro_mv e20 ?_
        refine ro_aload_n hK 1 rfl dX12_readsSum_116 rfl ?_
        refine ro_aload_n hK 1 rfl dX12_readsSum_117 rfl ?_
        refine ro_geti hK fl_X12_316 sh_207 dX12_readsSum_118 ?_
        refine ro_iconst (v := 1) hK dX12_readsSum_121 (by decide) ?_
        refine ro_isub hK dX12_readsSum_122 ?_
        obtain ⟨m21, e22, hf⟩ := ro_ld hf
        refine ro_puti hK fl_X12_316 sh_207 rfl rfl dX12_readsSum_123 ?_
        refine ro_mv e22 ?_
        refine ro_aload_n hK 1 rfl dX12_readsSum_126 rfl ?_
        refine ro_aload_n hK 1 rfl dX12_readsSum_127 rfl ?_
        refine ro_geti hK fl_X12_249 sh_207 dX12_readsSum_128 ?_
        refine ro_iconst (v := 1) hK dX12_readsSum_131 (by decide) ?_
        refine ro_iadd hK dX12_readsSum_132 ?_
        obtain ⟨m23, e24, hf⟩ := ro_ld hf
        refine ro_puti hK fl_X12_249 sh_207 rfl rfl dX12_readsSum_133 ?_
        refine ro_mv e24 ?_
        refine ro_goto hK 164 dX12_readsSum_136 (by decide) ?_
        refine ro_goto hK 14 dX12_readsSum_164 (by decide) ?_
        refine ro_sub (L' := [(0, .ref (ro_ad (kG K) 207)), (1, .int v1)]) [1, 2] rfl ?_
        exact hrec m23 _ hf hq
  · have hf := ro_ie hf c10
    refine ro_aload_n hK 1 rfl dX12_readsSum_27 rfl ?_
    refine ro_iload_n hK 0 rfl dX12_readsSum_28 rfl ?_
    refine ro_iconst (v := 4) hK dX12_readsSum_29 (by decide) ?_
    refine ro_icmp_ge hK 37 dX12_readsSum_30 (by decide) (fun c25 => ?_) (fun c25 => ?_)
    · have hf := ro_it hf c25
      refine ro_iconst (v := 0) hK dX12_readsSum_37 (by decide) ?_
      refine ro_sub (L' := [(0, .ref (ro_ad (kG K) 207)), (1, .int v1), (2, .int q8)]) [1, 2, 0] rfl ?_
      exact bj_X12_readsSum_38 hK hR  hrec hf hq
    · have hf := ro_ie hf c25
      refine ro_iconst (v := 1) hK dX12_readsSum_33 (by decide) ?_
      refine ro_goto hK 38 dX12_readsSum_34 (by decide) ?_
      refine ro_sub (L' := [(0, .ref (ro_ad (kG K) 207)), (1, .int v1), (2, .int q8)]) [1, 2, 0] rfl ?_
      exact bj_X12_readsSum_38 hK hR  hrec hf hq
def fl_X12_readsSum_14 (v1 : Int32) : ro_Mem → Option (ro_Mem ⊕ ro_Mem) :=
  ro_loop (fun rec s => fb_X12_readsSum_14 v1 rec s) ro_FU
theorem lp_X12_readsSum_14 {K : ro_K} (hK : ro_C K RX12 cX12_readsSum 3 4) (hR : ro_R K (some .boolean)) {v1 : Int32}  {s : ro_Mem} {q : (ro_Mem ⊕ ro_Mem)} (hf : fl_X12_readsSum_14 v1 s = some q) (hq : ok_X12_readsSum_14 K v1 q) : ro_X K 14 [(0, .ref (ro_ad (kG K) 207)), (1, .int v1)] [] s :=
  ro_loopX (b := fun rec s => fb_X12_readsSum_14 v1 rec s) (X := fun s => ro_X K 14 [(0, .ref (ro_ad (kG K) 207)), (1, .int v1)] [] s) (OK := ok_X12_readsSum_14 K v1) (fun rec s q hrec hb ho => bb_X12_readsSum_14 hK hR  hrec hb ho) ro_FU s q hf hq
def fj_X12_readsSum_139 (v1 : Int32) (μ : ro_Mem) : Option (Int32 × ro_Mem) :=
  (fn_X12_hasOpenSum v1 μ).bind fun q42 =>
  if q42 = 0 then
  ((fn_X12_closesSums 1 μ).bind fun q45 =>
  some (1, q45))
  else
  ((fn_X12_wrongAt 1 (μ 207 14) μ).bind fun q47 =>
  if q47.1 = 0 ∨ q47.1 = 1 then
  (some (q47.1, q47.2)) else none)
theorem bj_X12_readsSum_139 {K : ro_K} (hK : ro_C K RX12 cX12_readsSum 3 4) (hR : ro_R K (some .boolean)) {v1 : Int32}   {μ : ro_Mem}  {out : Int32 × ro_Mem} (hf : fj_X12_readsSum_139 v1 μ = some out) (hq : kQ K (some (.int out.1)) out.2) : ro_X K 139 [(0, .ref (ro_ad (kG K) 207)), (1, .int v1)] [] μ := by
  unfold fj_X12_readsSum_139 at hf
  refine ro_aload_n hK 0 rfl dX12_readsSum_139 rfl ?_
  refine ro_iload_n hK 1 rfl dX12_readsSum_140 rfl ?_
  obtain ⟨q42, e43, hf⟩ := ro_bd hf
  refine ro_callvi hK [.int v1] ml_X12_348 mv_X12_hasOpenSum (mt_X12_hasOpenSum (kl K) (kG K)  e43) sh_207 ⟨_, rfl, rfl⟩ (by decide) rfl rfl (Nat.le_of_ble_eq_true rfl) dX12_readsSum_141 ?_
  refine ro_if_eq hK 157 dX12_readsSum_144 (by decide) (fun c44 => ?_) (fun c44 => ?_)
  · have hf := ro_it hf c44
    refine ro_aload_n hK 0 rfl dX12_readsSum_157 rfl ?_
    refine ro_iconst (v := 1) hK dX12_readsSum_158 (by decide) ?_
    obtain ⟨q45, e46, hf⟩ := ro_bd hf
    refine ro_callvv hK [.int 1] ml_X12_344 mv_X12_closesSums (mt_X12_closesSums (kl K) (kG K)  e46) sh_207 ⟨_, rfl, rfl⟩ (by decide) rfl rfl (Nat.le_of_ble_eq_true rfl) dX12_readsSum_159 ?_
    refine ro_iconst (v := 1) hK dX12_readsSum_162 (by decide) ?_
    obtain rfl := Option.some.inj hf
    exact ro_zret hK hR dX12_readsSum_163 (by decide) hq
  · have hf := ro_ie hf c44
    refine ro_aload_n hK 0 rfl dX12_readsSum_147 rfl ?_
    refine ro_iconst (v := 1) hK dX12_readsSum_148 (by decide) ?_
    refine ro_aload_n hK 0 rfl dX12_readsSum_149 rfl ?_
    refine ro_geti hK fl_X12_249 sh_207 dX12_readsSum_150 ?_
    obtain ⟨q47, e48, hf⟩ := ro_bd hf
    refine ro_callvi hK [.int 1, .int (μ 207 14)] ml_X12_263 mv_X12_wrongAt (mt_X12_wrongAt (kl K) (kG K)  e48) sh_207 ⟨_, rfl, rfl⟩ (by decide) rfl rfl (Nat.le_of_ble_eq_true rfl) dX12_readsSum_153 ?_
    obtain ⟨g49, hf⟩ := ro_gd hf
    obtain rfl := Option.some.inj hf
    exact ro_zret hK hR dX12_readsSum_156 g49 hq
def fn_X12_readsSum (μ : ro_Mem) : Option (Int32 × ro_Mem) :=
  ro_lt (μ 207 36) fun z1 =>
  (fn_X12_readsFactor μ).bind fun q3 =>
  if q3.1 = 0 then
  (some (0, q3.2))
  else
  ((fl_X12_readsSum_14 z1 q3.2).bind fun q38 =>
  q38.elim (fun e40 => some (0, e40)) (fun e41 => fj_X12_readsSum_139 z1 e41))
theorem be_X12_readsSum {K : ro_K} (hK : ro_C K RX12 cX12_readsSum 3 4) (hR : ro_R K (some .boolean))   {μ : ro_Mem} {out : Int32 × ro_Mem} (hf : fn_X12_readsSum μ = some out) (hq : kQ K (some (.int out.1)) out.2) : ro_X K 0 [(0, .ref (ro_ad (kG K) 207))] [] μ := by
  unfold fn_X12_readsSum at hf
  refine ro_aload_n hK 0 rfl dX12_readsSum_0 rfl ?_
  refine ro_geti hK fl_X12_319 sh_207 dX12_readsSum_1 ?_
  obtain ⟨z1, e2, hf⟩ := ro_ld hf
  refine ro_iv e2 ?_
  refine ro_istore_n (L' := [(1, .int z1), (0, .ref (ro_ad (kG K) 207))]) hK dX12_readsSum_4 rfl (by decide) rfl ?_
  refine ro_aload_n hK 1 rfl dX12_readsSum_5 rfl ?_
  obtain ⟨q3, e4, hf⟩ := ro_bd hf
  refine ro_callvi hK [] ml_X12_338 mv_X12_readsFactor (mt_X12_readsFactor (kl K) (kG K)  e4) sh_207 ⟨_, rfl, rfl⟩ (by decide) rfl rfl (Nat.le_of_ble_eq_true rfl) dX12_readsSum_6 ?_
  refine ro_if_ne hK 14 dX12_readsSum_9 (by decide) (fun c5 => ?_) (fun c5 => ?_)
  · have hf := ro_ie hf c5
    obtain ⟨q38, e39, hf⟩ := ro_bd hf
    refine ro_sub (L' := [(0, .ref (ro_ad (kG K) 207)), (1, .int z1)]) [1, 0] rfl ?_
    refine lp_X12_readsSum_14 hK hR  e39 ?_
    rcases q38 with e40 | e41
    · have hf := ro_el hf
      show ro_X K 82 [] [] e40
      refine ro_iconst (v := 0) hK dX12_readsSum_82 (by decide) ?_
      obtain rfl := Option.some.inj hf
      exact ro_zret hK hR dX12_readsSum_83 (by decide) hq
    · have hf := ro_er hf
      show ro_X K 139 [(0, .ref (ro_ad (kG K) 207)), (1, .int z1)] [] e41
      exact bj_X12_readsSum_139 hK hR  hf hq
  · have hf := ro_it hf c5
    refine ro_iconst (v := 0) hK dX12_readsSum_12 (by decide) ?_
    obtain rfl := Option.some.inj hf
    exact ro_zret hK hR dX12_readsSum_13 (by decide) hq
theorem mt_X12_readsSum (l : Launch) (G : ro_G)   {μ : ro_Mem} {out : Int32 × ro_Mem} (hf : fn_X12_readsSum μ = some out) : ro_MX l G yX12_readsSum cX12_readsSum 3 (some .boolean) 4 [.ref (ro_ad G 207)] μ (some (.int out.1)) out.2 := by
  refine ro_MX.of (by decide +kernel) (Nat.le_of_ble_eq_true rfl) (fun K hG hl hq hK hR => ?_)
  subst hG
  exact be_X12_readsSum hK hR  hf hq
-- ===== X12_endsPiece =====
theorem dX12_endsPiece_0 : decode cX12_endsPiece 0 = .ok (.aload_n 0, 1) := by decide +kernel
theorem dX12_endsPiece_1 : decode cX12_endsPiece 1 = .ok (.invokevirtual 322, 3) := by decide +kernel
theorem dX12_endsPiece_4 : decode cX12_endsPiece 4 = .ok (.bipush 10, 2) := by decide +kernel
theorem dX12_endsPiece_6 : decode cX12_endsPiece 6 = .ok (.if_icmp .ne 33, 3) := by decide +kernel
theorem dX12_endsPiece_9 : decode cX12_endsPiece 9 = .ok (.aload_n 0, 1) := by decide +kernel
theorem dX12_endsPiece_10 : decode cX12_endsPiece 10 = .ok (.bipush 10, 2) := by decide +kernel
theorem dX12_endsPiece_12 : decode cX12_endsPiece 12 = .ok (.iconst 0, 1) := by decide +kernel
theorem dX12_endsPiece_13 : decode cX12_endsPiece 13 = .ok (.invokevirtual 325, 3) := by decide +kernel
theorem dX12_endsPiece_16 : decode cX12_endsPiece 16 = .ok (.aload_n 0, 1) := by decide +kernel
theorem dX12_endsPiece_17 : decode cX12_endsPiece 17 = .ok (.aload_n 0, 1) := by decide +kernel
theorem dX12_endsPiece_18 : decode cX12_endsPiece 18 = .ok (.getfield 319, 3) := by decide +kernel
theorem dX12_endsPiece_21 : decode cX12_endsPiece 21 = .ok (.iconst 1, 1) := by decide +kernel
theorem dX12_endsPiece_22 : decode cX12_endsPiece 22 = .ok (.isub, 1) := by decide +kernel
theorem dX12_endsPiece_23 : decode cX12_endsPiece 23 = .ok (.putfield 319, 3) := by decide +kernel
theorem dX12_endsPiece_26 : decode cX12_endsPiece 26 = .ok (.aload_n 0, 1) := by decide +kernel
theorem dX12_endsPiece_27 : decode cX12_endsPiece 27 = .ok (.aload_n 0, 1) := by decide +kernel
theorem dX12_endsPiece_28 : decode cX12_endsPiece 28 = .ok (.getfield 316, 3) := by decide +kernel
theorem dX12_endsPiece_31 : decode cX12_endsPiece 31 = .ok (.iconst 1, 1) := by decide +kernel
theorem dX12_endsPiece_32 : decode cX12_endsPiece 32 = .ok (.isub, 1) := by decide +kernel
theorem dX12_endsPiece_33 : decode cX12_endsPiece 33 = .ok (.putfield 316, 3) := by decide +kernel
theorem dX12_endsPiece_36 : decode cX12_endsPiece 36 = .ok (.goto (-36), 3) := by decide +kernel
theorem dX12_endsPiece_39 : decode cX12_endsPiece 39 = .ok (.return_, 1) := by decide +kernel
def ok_X12_endsPiece_0 (K : ro_K)  : ro_Mem → Prop := fun e => ro_X K 39 [] [] e
def fb_X12_endsPiece_0  (rec : ro_Mem → Option ro_Mem) (μ : ro_Mem) : Option ro_Mem :=
  (fn_X12_waitTop μ).bind fun q1 =>
  if q1 = 10 then
  ((fn_X12_notes 10 0 μ).bind fun q4 =>
  ro_lt (ro_set q4 207 36 ((q4 207 36) - 1)) fun m6 =>
  ro_lt (ro_set m6 207 34 ((m6 207 34) - 1)) fun m8 =>
  rec m8)
  else
  (some μ)
theorem bb_X12_endsPiece_0 {K : ro_K} (hK : ro_C K RX12 cX12_endsPiece 1 1) (hR : ro_R K none)   {μ : ro_Mem} {rec : ro_Mem → Option ro_Mem}  {q : ro_Mem} (hrec : ∀ (s : ro_Mem) (q : ro_Mem), rec s = some q → ok_X12_endsPiece_0 K q → ro_X K 0 [(0, .ref (ro_ad (kG K) 207))] [] s) (hf : fb_X12_endsPiece_0 rec μ = some q) (hq : ok_X12_endsPiece_0 K q) : ro_X K 0 [(0, .ref (ro_ad (kG K) 207))] [] μ := by
  unfold fb_X12_endsPiece_0 at hf
  refine ro_aload_n hK 0 rfl dX12_endsPiece_0 rfl ?_
  obtain ⟨q1, e2, hf⟩ := ro_bd hf
  refine ro_callvi hK [] ml_X12_322 mv_X12_waitTop (mt_X12_waitTop (kl K) (kG K)  e2) sh_207 ⟨_, rfl, rfl⟩ (by decide) rfl rfl (Nat.le_of_ble_eq_true rfl) dX12_endsPiece_1 ?_
  refine ro_bipush (v := 10) hK dX12_endsPiece_4 (by decide) ?_
  refine ro_icmp_ne hK 39 dX12_endsPiece_6 (by decide) (fun c3 => ?_) (fun c3 => ?_)
  · have hf := ro_ie hf c3
    refine ro_sub (L' := []) [] rfl ?_
    obtain rfl := Option.some.inj hf
    exact hq
  · have hf := ro_it hf c3
    refine ro_aload_n hK 0 rfl dX12_endsPiece_9 rfl ?_
    refine ro_bipush (v := 10) hK dX12_endsPiece_10 (by decide) ?_
    refine ro_iconst (v := 0) hK dX12_endsPiece_12 (by decide) ?_
    obtain ⟨q4, e5, hf⟩ := ro_bd hf
    refine ro_callvv hK [.int 10, .int 0] ml_X12_325 mv_X12_notes (mt_X12_notes (kl K) (kG K)  e5) sh_207 ⟨_, rfl, rfl⟩ (by decide) rfl rfl (Nat.le_of_ble_eq_true rfl) dX12_endsPiece_13 ?_
    refine ro_aload_n hK 0 rfl dX12_endsPiece_16 rfl ?_
    refine ro_aload_n hK 0 rfl dX12_endsPiece_17 rfl ?_
    refine ro_geti hK fl_X12_319 sh_207 dX12_endsPiece_18 ?_
    refine ro_iconst (v := 1) hK dX12_endsPiece_21 (by decide) ?_
    refine ro_isub hK dX12_endsPiece_22 ?_
    obtain ⟨m6, e7, hf⟩ := ro_ld hf
    refine ro_puti hK fl_X12_319 sh_207 rfl rfl dX12_endsPiece_23 ?_
    refine ro_mv e7 ?_
    refine ro_aload_n hK 0 rfl dX12_endsPiece_26 rfl ?_
    refine ro_aload_n hK 0 rfl dX12_endsPiece_27 rfl ?_
    refine ro_geti hK fl_X12_316 sh_207 dX12_endsPiece_28 ?_
    refine ro_iconst (v := 1) hK dX12_endsPiece_31 (by decide) ?_
    refine ro_isub hK dX12_endsPiece_32 ?_
    obtain ⟨m8, e9, hf⟩ := ro_ld hf
    refine ro_puti hK fl_X12_316 sh_207 rfl rfl dX12_endsPiece_33 ?_
    refine ro_mv e9 ?_
    refine ro_goto hK 0 dX12_endsPiece_36 (by decide) ?_
    exact hrec m8 _ hf hq
def fl_X12_endsPiece_0  : ro_Mem → Option ro_Mem :=
  ro_loop (fun rec s => fb_X12_endsPiece_0 rec s) ro_FU
theorem lp_X12_endsPiece_0 {K : ro_K} (hK : ro_C K RX12 cX12_endsPiece 1 1) (hR : ro_R K none)   {s : ro_Mem} {q : ro_Mem} (hf : fl_X12_endsPiece_0 s = some q) (hq : ok_X12_endsPiece_0 K q) : ro_X K 0 [(0, .ref (ro_ad (kG K) 207))] [] s :=
  ro_loopX (b := fun rec s => fb_X12_endsPiece_0 rec s) (X := fun s => ro_X K 0 [(0, .ref (ro_ad (kG K) 207))] [] s) (OK := ok_X12_endsPiece_0 K) (fun rec s q hrec hb ho => bb_X12_endsPiece_0 hK hR  hrec hb ho) ro_FU s q hf hq
def fn_X12_endsPiece (μ : ro_Mem) : Option ro_Mem :=
  (fl_X12_endsPiece_0  μ).bind fun q10 =>
  some q10
theorem be_X12_endsPiece {K : ro_K} (hK : ro_C K RX12 cX12_endsPiece 1 1) (hR : ro_R K none)   {μ : ro_Mem} {out : ro_Mem} (hf : fn_X12_endsPiece μ = some out) (hq : kQ K none out) : ro_X K 0 [(0, .ref (ro_ad (kG K) 207))] [] μ := by
  unfold fn_X12_endsPiece at hf
  obtain ⟨q10, e11, hf⟩ := ro_bd hf
  refine lp_X12_endsPiece_0 hK hR  e11 ?_
  show ro_X K 39 [] [] q10
  obtain rfl := Option.some.inj hf
  exact ro_vret hK hR dX12_endsPiece_39 hq
theorem mt_X12_endsPiece (l : Launch) (G : ro_G)   {μ : ro_Mem} {out : ro_Mem} (hf : fn_X12_endsPiece μ = some out) : ro_MX l G yX12_endsPiece cX12_endsPiece 1 none 1 [.ref (ro_ad G 207)] μ none out := by
  refine ro_MX.of (by decide +kernel) (Nat.le_of_ble_eq_true rfl) (fun K hG hl hq hK hR => ?_)
  subst hG
  exact be_X12_endsPiece hK hR  hf hq
-- ===== X12_lands =====
theorem dX12_lands_0 : decode cX12_lands 0 = .ok (.aload_n 0, 1) := by decide +kernel
theorem dX12_lands_1 : decode cX12_lands 1 = .ok (.invokevirtual 322, 3) := by decide +kernel
theorem dX12_lands_4 : decode cX12_lands 4 = .ok (.bipush 11, 2) := by decide +kernel
theorem dX12_lands_6 : decode cX12_lands 6 = .ok (.if_icmp .eq 16, 3) := by decide +kernel
theorem dX12_lands_9 : decode cX12_lands 9 = .ok (.iload_n 1, 1) := by decide +kernel
theorem dX12_lands_10 : decode cX12_lands 10 = .ok (.ifCond .eq 66, 3) := by decide +kernel
theorem dX12_lands_13 : decode cX12_lands 13 = .ok (.aload_n 0, 1) := by decide +kernel
theorem dX12_lands_14 : decode cX12_lands 14 = .ok (.invokevirtual 322, 3) := by decide +kernel
theorem dX12_lands_17 : decode cX12_lands 17 = .ok (.bipush 12, 2) := by decide +kernel
theorem dX12_lands_19 : decode cX12_lands 19 = .ok (.if_icmp .ne 57, 3) := by decide +kernel
theorem dX12_lands_22 : decode cX12_lands 22 = .ok (.aload_n 0, 1) := by decide +kernel
theorem dX12_lands_23 : decode cX12_lands 23 = .ok (.getfield 75, 3) := by decide +kernel
theorem dX12_lands_26 : decode cX12_lands 26 = .ok (.aload_n 0, 1) := by decide +kernel
theorem dX12_lands_27 : decode cX12_lands 27 = .ok (.getfield 319, 3) := by decide +kernel
theorem dX12_lands_30 : decode cX12_lands 30 = .ok (.iconst 1, 1) := by decide +kernel
theorem dX12_lands_31 : decode cX12_lands 31 = .ok (.isub, 1) := by decide +kernel
theorem dX12_lands_32 : decode cX12_lands 32 = .ok (.iaload, 1) := by decide +kernel
theorem dX12_lands_33 : decode cX12_lands 33 = .ok (.ldc_w 315, 3) := by decide +kernel
theorem dX12_lands_36 : decode cX12_lands 36 = .ok (.irem, 1) := by decide +kernel
theorem dX12_lands_37 : decode cX12_lands 37 = .ok (.istore_n 2, 1) := by decide +kernel
theorem dX12_lands_38 : decode cX12_lands 38 = .ok (.aload_n 0, 1) := by decide +kernel
theorem dX12_lands_39 : decode cX12_lands 39 = .ok (.getfield 72, 3) := by decide +kernel
theorem dX12_lands_42 : decode cX12_lands 42 = .ok (.iload_n 2, 1) := by decide +kernel
theorem dX12_lands_43 : decode cX12_lands 43 = .ok (.ldc_w 315, 3) := by decide +kernel
theorem dX12_lands_46 : decode cX12_lands 46 = .ok (.aload_n 0, 1) := by decide +kernel
theorem dX12_lands_47 : decode cX12_lands 47 = .ok (.getfield 72, 3) := by decide +kernel
theorem dX12_lands_50 : decode cX12_lands 50 = .ok (.iload_n 2, 1) := by decide +kernel
theorem dX12_lands_51 : decode cX12_lands 51 = .ok (.iaload, 1) := by decide +kernel
theorem dX12_lands_52 : decode cX12_lands 52 = .ok (.ldc_w 315, 3) := by decide +kernel
theorem dX12_lands_55 : decode cX12_lands 55 = .ok (.idiv, 1) := by decide +kernel
theorem dX12_lands_56 : decode cX12_lands 56 = .ok (.imul, 1) := by decide +kernel
theorem dX12_lands_57 : decode cX12_lands 57 = .ok (.aload_n 0, 1) := by decide +kernel
theorem dX12_lands_58 : decode cX12_lands 58 = .ok (.getfield 312, 3) := by decide +kernel
theorem dX12_lands_61 : decode cX12_lands 61 = .ok (.iadd, 1) := by decide +kernel
theorem dX12_lands_62 : decode cX12_lands 62 = .ok (.iastore, 1) := by decide +kernel
theorem dX12_lands_63 : decode cX12_lands 63 = .ok (.aload_n 0, 1) := by decide +kernel
theorem dX12_lands_64 : decode cX12_lands 64 = .ok (.aload_n 0, 1) := by decide +kernel
theorem dX12_lands_65 : decode cX12_lands 65 = .ok (.getfield 319, 3) := by decide +kernel
theorem dX12_lands_68 : decode cX12_lands 68 = .ok (.iconst 1, 1) := by decide +kernel
theorem dX12_lands_69 : decode cX12_lands 69 = .ok (.isub, 1) := by decide +kernel
theorem dX12_lands_70 : decode cX12_lands 70 = .ok (.putfield 319, 3) := by decide +kernel
theorem dX12_lands_73 : decode cX12_lands 73 = .ok (.goto (-73), 3) := by decide +kernel
theorem dX12_lands_76 : decode cX12_lands 76 = .ok (.return_, 1) := by decide +kernel
def ok_X12_lands_0 (K : ro_K) (v1 : Int32) : ro_Mem → Prop := fun e => ro_X K 76 [] [] e
def fj_X12_lands_22 (rec : ro_Mem → Option ro_Mem) (v1 : Int32) (μ : ro_Mem) : Option ro_Mem :=
  if ro_in ((μ 207 36) - 1) 220 then
  (ro_lt (ro_rem (μ 229 ((μ 207 36) - 1).toNatClampNeg) 1048576) fun z5 =>
  if ro_in z5 220 then
  (ro_lt (ro_set μ 228 z5.toNatClampNeg ((1048576 * ((μ 228 z5.toNatClampNeg) / 1048576)) + (μ 207 35))) fun m8 =>
  ro_lt (ro_set m8 207 36 ((m8 207 36) - 1)) fun m10 =>
  rec m10) else none) else none
theorem bj_X12_lands_22 {K : ro_K} (hK : ro_C K RX12 cX12_lands 3 1) (hR : ro_R K none) {v1 : Int32}  {rec : ro_Mem → Option ro_Mem} {μ : ro_Mem} (hrec : ∀ (s : ro_Mem) (q : ro_Mem), rec s = some q → ok_X12_lands_0 K v1 q → ro_X K 0 [(0, .ref (ro_ad (kG K) 207)), (1, .int v1)] [] s) {out : ro_Mem} (hf : fj_X12_lands_22 rec v1 μ = some out) (hq : ok_X12_lands_0 K v1 out) : ro_X K 22 [(0, .ref (ro_ad (kG K) 207)), (1, .int v1)] [] μ := by
  unfold fj_X12_lands_22 at hf
  refine ro_aload_n hK 0 rfl dX12_lands_22 rfl ?_
  refine ro_getr hK fl_X12_75 sh_207 dX12_lands_23 ?_
  refine ro_aload_n hK 0 rfl dX12_lands_26 rfl ?_
  refine ro_geti hK fl_X12_319 sh_207 dX12_lands_27 ?_
  refine ro_iconst (v := 1) hK dX12_lands_30 (by decide) ?_
  refine ro_isub hK dX12_lands_31 ?_
  obtain ⟨g4, hf⟩ := ro_gd hf
  refine ro_iald hK sh_229 g4 dX12_lands_32 ?_
  refine ro_ldcw hK kc_X12_315 dX12_lands_33 ?_
  refine ro_irem hK dX12_lands_36 (by decide) ?_
  obtain ⟨z5, e6, hf⟩ := ro_ld hf
  refine ro_iv e6 ?_
  refine ro_istore_n (L' := [(2, .int z5), (0, .ref (ro_ad (kG K) 207)), (1, .int v1)]) hK dX12_lands_37 rfl (by decide) rfl ?_
  refine ro_aload_n hK 1 rfl dX12_lands_38 rfl ?_
  refine ro_getr hK fl_X12_72 sh_207 dX12_lands_39 ?_
  refine ro_iload_n hK 0 rfl dX12_lands_42 rfl ?_
  refine ro_ldcw hK kc_X12_315 dX12_lands_43 ?_
  refine ro_aload_n hK 1 rfl dX12_lands_46 rfl ?_
  refine ro_getr hK fl_X12_72 sh_207 dX12_lands_47 ?_
  refine ro_iload_n hK 0 rfl dX12_lands_50 rfl ?_
  obtain ⟨g7, hf⟩ := ro_gd hf
  refine ro_iald hK sh_228 g7 dX12_lands_51 ?_
  refine ro_ldcw hK kc_X12_315 dX12_lands_52 ?_
  refine ro_idiv hK dX12_lands_55 (by decide) ?_
  refine ro_imul hK dX12_lands_56 ?_
  refine ro_aload_n hK 1 rfl dX12_lands_57 rfl ?_
  refine ro_geti hK fl_X12_312 sh_207 dX12_lands_58 ?_
  refine ro_iadd hK dX12_lands_61 ?_
  obtain ⟨m8, e9, hf⟩ := ro_ld hf
  refine ro_iast hK sh_228 g7 dX12_lands_62 ?_
  refine ro_mv e9 ?_
  refine ro_aload_n hK 1 rfl dX12_lands_63 rfl ?_
  refine ro_aload_n hK 1 rfl dX12_lands_64 rfl ?_
  refine ro_geti hK fl_X12_319 sh_207 dX12_lands_65 ?_
  refine ro_iconst (v := 1) hK dX12_lands_68 (by decide) ?_
  refine ro_isub hK dX12_lands_69 ?_
  obtain ⟨m10, e11, hf⟩ := ro_ld hf
  refine ro_puti hK fl_X12_319 sh_207 rfl rfl dX12_lands_70 ?_
  refine ro_mv e11 ?_
  refine ro_goto hK 0 dX12_lands_73 (by decide) ?_
  refine ro_sub (L' := [(0, .ref (ro_ad (kG K) 207)), (1, .int v1)]) [1, 2] rfl ?_
  exact hrec m10 _ hf hq
def fb_X12_lands_0 (v1 : Int32) (rec : ro_Mem → Option ro_Mem) (μ : ro_Mem) : Option ro_Mem :=
  (fn_X12_waitTop μ).bind fun q1 =>
  if q1 = 11 then
  (fj_X12_lands_22 rec v1 μ)
  else
  (if v1 = 0 then
  (some μ)
  else
  ((fn_X12_waitTop μ).bind fun q13 =>
  if q13 = 12 then
  (fj_X12_lands_22 rec v1 μ)
  else
  (some μ)))
theorem bb_X12_lands_0 {K : ro_K} (hK : ro_C K RX12 cX12_lands 3 1) (hR : ro_R K none) {v1 : Int32}  {μ : ro_Mem} {rec : ro_Mem → Option ro_Mem}  {q : ro_Mem} (hrec : ∀ (s : ro_Mem) (q : ro_Mem), rec s = some q → ok_X12_lands_0 K v1 q → ro_X K 0 [(0, .ref (ro_ad (kG K) 207)), (1, .int v1)] [] s) (hf : fb_X12_lands_0 v1 rec μ = some q) (hq : ok_X12_lands_0 K v1 q) : ro_X K 0 [(0, .ref (ro_ad (kG K) 207)), (1, .int v1)] [] μ := by
  unfold fb_X12_lands_0 at hf
  refine ro_aload_n hK 0 rfl dX12_lands_0 rfl ?_
  obtain ⟨q1, e2, hf⟩ := ro_bd hf
  refine ro_callvi hK [] ml_X12_322 mv_X12_waitTop (mt_X12_waitTop (kl K) (kG K)  e2) sh_207 ⟨_, rfl, rfl⟩ (by decide) rfl rfl (Nat.le_of_ble_eq_true rfl) dX12_lands_1 ?_
  refine ro_bipush (v := 11) hK dX12_lands_4 (by decide) ?_
  refine ro_icmp_eq hK 22 dX12_lands_6 (by decide) (fun c3 => ?_) (fun c3 => ?_)
  · have hf := ro_it hf c3
    exact bj_X12_lands_22 hK hR  hrec hf hq
  · have hf := ro_ie hf c3
    refine ro_iload_n hK 1 rfl dX12_lands_9 rfl ?_
    refine ro_if_eq hK 76 dX12_lands_10 (by decide) (fun c12 => ?_) (fun c12 => ?_)
    · have hf := ro_it hf c12
      refine ro_sub (L' := []) [] rfl ?_
      obtain rfl := Option.some.inj hf
      exact hq
    · have hf := ro_ie hf c12
      refine ro_aload_n hK 0 rfl dX12_lands_13 rfl ?_
      obtain ⟨q13, e14, hf⟩ := ro_bd hf
      refine ro_callvi hK [] ml_X12_322 mv_X12_waitTop (mt_X12_waitTop (kl K) (kG K)  e14) sh_207 ⟨_, rfl, rfl⟩ (by decide) rfl rfl (Nat.le_of_ble_eq_true rfl) dX12_lands_14 ?_
      refine ro_bipush (v := 12) hK dX12_lands_17 (by decide) ?_
      refine ro_icmp_ne hK 76 dX12_lands_19 (by decide) (fun c15 => ?_) (fun c15 => ?_)
      · have hf := ro_ie hf c15
        refine ro_sub (L' := []) [] rfl ?_
        obtain rfl := Option.some.inj hf
        exact hq
      · have hf := ro_it hf c15
        exact bj_X12_lands_22 hK hR  hrec hf hq
def fl_X12_lands_0 (v1 : Int32) : ro_Mem → Option ro_Mem :=
  ro_loop (fun rec s => fb_X12_lands_0 v1 rec s) ro_FU
theorem lp_X12_lands_0 {K : ro_K} (hK : ro_C K RX12 cX12_lands 3 1) (hR : ro_R K none) {v1 : Int32}  {s : ro_Mem} {q : ro_Mem} (hf : fl_X12_lands_0 v1 s = some q) (hq : ok_X12_lands_0 K v1 q) : ro_X K 0 [(0, .ref (ro_ad (kG K) 207)), (1, .int v1)] [] s :=
  ro_loopX (b := fun rec s => fb_X12_lands_0 v1 rec s) (X := fun s => ro_X K 0 [(0, .ref (ro_ad (kG K) 207)), (1, .int v1)] [] s) (OK := ok_X12_lands_0 K v1) (fun rec s q hrec hb ho => bb_X12_lands_0 hK hR  hrec hb ho) ro_FU s q hf hq
def fn_X12_lands (v1 : Int32) (μ : ro_Mem) : Option ro_Mem :=
  (fl_X12_lands_0 v1 μ).bind fun q16 =>
  some q16
theorem be_X12_lands {K : ro_K} (hK : ro_C K RX12 cX12_lands 3 1) (hR : ro_R K none) {v1 : Int32}  {μ : ro_Mem} {out : ro_Mem} (hf : fn_X12_lands v1 μ = some out) (hq : kQ K none out) : ro_X K 0 [(0, .ref (ro_ad (kG K) 207)), (1, .int v1)] [] μ := by
  unfold fn_X12_lands at hf
  obtain ⟨q16, e17, hf⟩ := ro_bd hf
  refine lp_X12_lands_0 hK hR  e17 ?_
  show ro_X K 76 [] [] q16
  obtain rfl := Option.some.inj hf
  exact ro_vret hK hR dX12_lands_76 hq
theorem mt_X12_lands (l : Launch) (G : ro_G) {v1 : Int32}  {μ : ro_Mem} {out : ro_Mem} (hf : fn_X12_lands v1 μ = some out) : ro_MX l G yX12_lands cX12_lands 3 none 1 [.ref (ro_ad G 207), .int v1] μ none out := by
  refine ro_MX.of (by decide +kernel) (Nat.le_of_ble_eq_true rfl) (fun K hG hl hq hK hR => ?_)
  subst hG
  exact be_X12_lands hK hR  hf hq
-- ===== X12_jumps =====
theorem dX12_jumps_0 : decode cX12_jumps 0 = .ok (.aload_n 0, 1) := by decide +kernel
theorem dX12_jumps_1 : decode cX12_jumps 1 = .ok (.getfield 75, 3) := by decide +kernel
theorem dX12_jumps_4 : decode cX12_jumps 4 = .ok (.aload_n 0, 1) := by decide +kernel
theorem dX12_jumps_5 : decode cX12_jumps 5 = .ok (.getfield 319, 3) := by decide +kernel
theorem dX12_jumps_8 : decode cX12_jumps 8 = .ok (.ldc_w 315, 3) := by decide +kernel
theorem dX12_jumps_11 : decode cX12_jumps 11 = .ok (.iload_n 1, 1) := by decide +kernel
theorem dX12_jumps_12 : decode cX12_jumps 12 = .ok (.imul, 1) := by decide +kernel
theorem dX12_jumps_13 : decode cX12_jumps 13 = .ok (.aload_n 0, 1) := by decide +kernel
theorem dX12_jumps_14 : decode cX12_jumps 14 = .ok (.getfield 312, 3) := by decide +kernel
theorem dX12_jumps_17 : decode cX12_jumps 17 = .ok (.iadd, 1) := by decide +kernel
theorem dX12_jumps_18 : decode cX12_jumps 18 = .ok (.iastore, 1) := by decide +kernel
theorem dX12_jumps_19 : decode cX12_jumps 19 = .ok (.aload_n 0, 1) := by decide +kernel
theorem dX12_jumps_20 : decode cX12_jumps 20 = .ok (.aload_n 0, 1) := by decide +kernel
theorem dX12_jumps_21 : decode cX12_jumps 21 = .ok (.getfield 319, 3) := by decide +kernel
theorem dX12_jumps_24 : decode cX12_jumps 24 = .ok (.iconst 1, 1) := by decide +kernel
theorem dX12_jumps_25 : decode cX12_jumps 25 = .ok (.iadd, 1) := by decide +kernel
theorem dX12_jumps_26 : decode cX12_jumps 26 = .ok (.putfield 319, 3) := by decide +kernel
theorem dX12_jumps_29 : decode cX12_jumps 29 = .ok (.aload_n 0, 1) := by decide +kernel
theorem dX12_jumps_30 : decode cX12_jumps 30 = .ok (.iload_n 1, 1) := by decide +kernel
theorem dX12_jumps_31 : decode cX12_jumps 31 = .ok (.iconst 0, 1) := by decide +kernel
theorem dX12_jumps_32 : decode cX12_jumps 32 = .ok (.invokevirtual 325, 3) := by decide +kernel
theorem dX12_jumps_35 : decode cX12_jumps 35 = .ok (.aload_n 0, 1) := by decide +kernel
theorem dX12_jumps_36 : decode cX12_jumps 36 = .ok (.aload_n 0, 1) := by decide +kernel
theorem dX12_jumps_37 : decode cX12_jumps 37 = .ok (.getfield 249, 3) := by decide +kernel
theorem dX12_jumps_40 : decode cX12_jumps 40 = .ok (.iconst 1, 1) := by decide +kernel
theorem dX12_jumps_41 : decode cX12_jumps 41 = .ok (.iadd, 1) := by decide +kernel
theorem dX12_jumps_42 : decode cX12_jumps 42 = .ok (.putfield 249, 3) := by decide +kernel
theorem dX12_jumps_45 : decode cX12_jumps 45 = .ok (.return_, 1) := by decide +kernel
def fn_X12_jumps (v1 : Int32) (μ : ro_Mem) : Option ro_Mem :=
  if ro_in (μ 207 36) 220 then
  (ro_lt (ro_set μ 229 (μ 207 36).toNatClampNeg ((1048576 * v1) + (μ 207 35))) fun m2 =>
  ro_lt (ro_set m2 207 36 ((m2 207 36) + 1)) fun m4 =>
  (fn_X12_notes v1 0 m4).bind fun q6 =>
  ro_lt (ro_set q6 207 14 ((q6 207 14) + 1)) fun m8 =>
  some m8) else none
theorem be_X12_jumps {K : ro_K} (hK : ro_C K RX12 cX12_jumps 2 1) (hR : ro_R K none) {v1 : Int32}  {μ : ro_Mem} {out : ro_Mem} (hf : fn_X12_jumps v1 μ = some out) (hq : kQ K none out) : ro_X K 0 [(0, .ref (ro_ad (kG K) 207)), (1, .int v1)] [] μ := by
  unfold fn_X12_jumps at hf
  refine ro_aload_n hK 0 rfl dX12_jumps_0 rfl ?_
  refine ro_getr hK fl_X12_75 sh_207 dX12_jumps_1 ?_
  refine ro_aload_n hK 0 rfl dX12_jumps_4 rfl ?_
  refine ro_geti hK fl_X12_319 sh_207 dX12_jumps_5 ?_
  refine ro_ldcw hK kc_X12_315 dX12_jumps_8 ?_
  refine ro_iload_n hK 1 rfl dX12_jumps_11 rfl ?_
  refine ro_imul hK dX12_jumps_12 ?_
  refine ro_aload_n hK 0 rfl dX12_jumps_13 rfl ?_
  refine ro_geti hK fl_X12_312 sh_207 dX12_jumps_14 ?_
  refine ro_iadd hK dX12_jumps_17 ?_
  obtain ⟨g1, hf⟩ := ro_gd hf
  obtain ⟨m2, e3, hf⟩ := ro_ld hf
  refine ro_iast hK sh_229 g1 dX12_jumps_18 ?_
  refine ro_mv e3 ?_
  refine ro_aload_n hK 0 rfl dX12_jumps_19 rfl ?_
  refine ro_aload_n hK 0 rfl dX12_jumps_20 rfl ?_
  refine ro_geti hK fl_X12_319 sh_207 dX12_jumps_21 ?_
  refine ro_iconst (v := 1) hK dX12_jumps_24 (by decide) ?_
  refine ro_iadd hK dX12_jumps_25 ?_
  obtain ⟨m4, e5, hf⟩ := ro_ld hf
  refine ro_puti hK fl_X12_319 sh_207 rfl rfl dX12_jumps_26 ?_
  refine ro_mv e5 ?_
  refine ro_aload_n hK 0 rfl dX12_jumps_29 rfl ?_
  refine ro_iload_n hK 1 rfl dX12_jumps_30 rfl ?_
  refine ro_iconst (v := 0) hK dX12_jumps_31 (by decide) ?_
  obtain ⟨q6, e7, hf⟩ := ro_bd hf
  refine ro_callvv hK [.int v1, .int 0] ml_X12_325 mv_X12_notes (mt_X12_notes (kl K) (kG K)  e7) sh_207 ⟨_, rfl, rfl⟩ (by decide) rfl rfl (Nat.le_of_ble_eq_true rfl) dX12_jumps_32 ?_
  refine ro_aload_n hK 0 rfl dX12_jumps_35 rfl ?_
  refine ro_aload_n hK 0 rfl dX12_jumps_36 rfl ?_
  refine ro_geti hK fl_X12_249 sh_207 dX12_jumps_37 ?_
  refine ro_iconst (v := 1) hK dX12_jumps_40 (by decide) ?_
  refine ro_iadd hK dX12_jumps_41 ?_
  obtain ⟨m8, e9, hf⟩ := ro_ld hf
  refine ro_puti hK fl_X12_249 sh_207 rfl rfl dX12_jumps_42 ?_
  refine ro_mv e9 ?_
  obtain rfl := Option.some.inj hf
  exact ro_vret hK hR dX12_jumps_45 hq
theorem mt_X12_jumps (l : Launch) (G : ro_G) {v1 : Int32}  {μ : ro_Mem} {out : ro_Mem} (hf : fn_X12_jumps v1 μ = some out) : ro_MX l G yX12_jumps cX12_jumps 2 none 1 [.ref (ro_ad G 207), .int v1] μ none out := by
  refine ro_MX.of (by decide +kernel) (Nat.le_of_ble_eq_true rfl) (fun K hG hl hq hK hR => ?_)
  subst hG
  exact be_X12_jumps hK hR  hf hq
-- ===== X12_readsCompared =====
theorem dX12_readsCompared_0 : decode cX12_readsCompared 0 = .ok (.aload_n 0, 1) := by decide +kernel
theorem dX12_readsCompared_1 : decode cX12_readsCompared 1 = .ok (.invokevirtual 351, 3) := by decide +kernel
theorem dX12_readsCompared_4 : decode cX12_readsCompared 4 = .ok (.ifCond .ne 5, 3) := by decide +kernel
theorem dX12_readsCompared_7 : decode cX12_readsCompared 7 = .ok (.iconst 0, 1) := by decide +kernel
theorem dX12_readsCompared_8 : decode cX12_readsCompared 8 = .ok (.ireturn, 1) := by decide +kernel
theorem dX12_readsCompared_9 : decode cX12_readsCompared 9 = .ok (.aload_n 0, 1) := by decide +kernel
theorem dX12_readsCompared_10 : decode cX12_readsCompared 10 = .ok (.invokevirtual 259, 3) := by decide +kernel
theorem dX12_readsCompared_13 : decode cX12_readsCompared 13 = .ok (.bipush 60, 2) := by decide +kernel
theorem dX12_readsCompared_15 : decode cX12_readsCompared 15 = .ok (.if_icmp .ne 8, 3) := by decide +kernel
theorem dX12_readsCompared_18 : decode cX12_readsCompared 18 = .ok (.bipush 7, 2) := by decide +kernel
theorem dX12_readsCompared_20 : decode cX12_readsCompared 20 = .ok (.goto 32, 3) := by decide +kernel
theorem dX12_readsCompared_23 : decode cX12_readsCompared 23 = .ok (.aload_n 0, 1) := by decide +kernel
theorem dX12_readsCompared_24 : decode cX12_readsCompared 24 = .ok (.invokevirtual 259, 3) := by decide +kernel
theorem dX12_readsCompared_27 : decode cX12_readsCompared 27 = .ok (.bipush 62, 2) := by decide +kernel
theorem dX12_readsCompared_29 : decode cX12_readsCompared 29 = .ok (.if_icmp .ne 8, 3) := by decide +kernel
theorem dX12_readsCompared_32 : decode cX12_readsCompared 32 = .ok (.bipush 8, 2) := by decide +kernel
theorem dX12_readsCompared_34 : decode cX12_readsCompared 34 = .ok (.goto 18, 3) := by decide +kernel
theorem dX12_readsCompared_37 : decode cX12_readsCompared 37 = .ok (.aload_n 0, 1) := by decide +kernel
theorem dX12_readsCompared_38 : decode cX12_readsCompared 38 = .ok (.invokevirtual 259, 3) := by decide +kernel
theorem dX12_readsCompared_41 : decode cX12_readsCompared 41 = .ok (.bipush 61, 2) := by decide +kernel
theorem dX12_readsCompared_43 : decode cX12_readsCompared 43 = .ok (.if_icmp .ne 8, 3) := by decide +kernel
theorem dX12_readsCompared_46 : decode cX12_readsCompared 46 = .ok (.bipush 9, 2) := by decide +kernel
theorem dX12_readsCompared_48 : decode cX12_readsCompared 48 = .ok (.goto 4, 3) := by decide +kernel
theorem dX12_readsCompared_51 : decode cX12_readsCompared 51 = .ok (.iconst (-1), 1) := by decide +kernel
theorem dX12_readsCompared_52 : decode cX12_readsCompared 52 = .ok (.istore_n 1, 1) := by decide +kernel
theorem dX12_readsCompared_53 : decode cX12_readsCompared 53 = .ok (.iload_n 1, 1) := by decide +kernel
theorem dX12_readsCompared_54 : decode cX12_readsCompared 54 = .ok (.iconst (-1), 1) := by decide +kernel
theorem dX12_readsCompared_55 : decode cX12_readsCompared 55 = .ok (.if_icmp .ne 13, 3) := by decide +kernel
theorem dX12_readsCompared_58 : decode cX12_readsCompared 58 = .ok (.aload_n 0, 1) := by decide +kernel
theorem dX12_readsCompared_59 : decode cX12_readsCompared 59 = .ok (.iconst 1, 1) := by decide +kernel
theorem dX12_readsCompared_60 : decode cX12_readsCompared 60 = .ok (.aload_n 0, 1) := by decide +kernel
theorem dX12_readsCompared_61 : decode cX12_readsCompared 61 = .ok (.getfield 249, 3) := by decide +kernel
theorem dX12_readsCompared_64 : decode cX12_readsCompared 64 = .ok (.invokevirtual 263, 3) := by decide +kernel
theorem dX12_readsCompared_67 : decode cX12_readsCompared 67 = .ok (.ireturn, 1) := by decide +kernel
theorem dX12_readsCompared_68 : decode cX12_readsCompared 68 = .ok (.aload_n 0, 1) := by decide +kernel
theorem dX12_readsCompared_69 : decode cX12_readsCompared 69 = .ok (.aload_n 0, 1) := by decide +kernel
theorem dX12_readsCompared_70 : decode cX12_readsCompared 70 = .ok (.getfield 249, 3) := by decide +kernel
theorem dX12_readsCompared_73 : decode cX12_readsCompared 73 = .ok (.iconst 1, 1) := by decide +kernel
theorem dX12_readsCompared_74 : decode cX12_readsCompared 74 = .ok (.iadd, 1) := by decide +kernel
theorem dX12_readsCompared_75 : decode cX12_readsCompared 75 = .ok (.putfield 249, 3) := by decide +kernel
theorem dX12_readsCompared_78 : decode cX12_readsCompared 78 = .ok (.aload_n 0, 1) := by decide +kernel
theorem dX12_readsCompared_79 : decode cX12_readsCompared 79 = .ok (.invokevirtual 351, 3) := by decide +kernel
theorem dX12_readsCompared_82 : decode cX12_readsCompared 82 = .ok (.ifCond .ne 5, 3) := by decide +kernel
theorem dX12_readsCompared_85 : decode cX12_readsCompared 85 = .ok (.iconst 0, 1) := by decide +kernel
theorem dX12_readsCompared_86 : decode cX12_readsCompared 86 = .ok (.ireturn, 1) := by decide +kernel
theorem dX12_readsCompared_87 : decode cX12_readsCompared 87 = .ok (.aload_n 0, 1) := by decide +kernel
theorem dX12_readsCompared_88 : decode cX12_readsCompared 88 = .ok (.iload_n 1, 1) := by decide +kernel
theorem dX12_readsCompared_89 : decode cX12_readsCompared 89 = .ok (.iconst 0, 1) := by decide +kernel
theorem dX12_readsCompared_90 : decode cX12_readsCompared 90 = .ok (.invokevirtual 325, 3) := by decide +kernel
theorem dX12_readsCompared_93 : decode cX12_readsCompared 93 = .ok (.aload_n 0, 1) := by decide +kernel
theorem dX12_readsCompared_94 : decode cX12_readsCompared 94 = .ok (.invokevirtual 354, 3) := by decide +kernel
theorem dX12_readsCompared_97 : decode cX12_readsCompared 97 = .ok (.iconst 1, 1) := by decide +kernel
theorem dX12_readsCompared_98 : decode cX12_readsCompared 98 = .ok (.ireturn, 1) := by decide +kernel
def fj_X12_readsCompared_52 (t0 : Int32) (μ : ro_Mem) : Option (Int32 × ro_Mem) :=
  if t0 = (-1) then
  ((fn_X12_wrongAt 1 (μ 207 14) μ).bind fun q23 =>
  if q23.1 = 0 ∨ q23.1 = 1 then
  (some (q23.1, q23.2)) else none)
  else
  (ro_lt (ro_set μ 207 14 ((μ 207 14) + 1)) fun m14 =>
  (fn_X12_readsSum m14).bind fun q16 =>
  if q16.1 = 0 then
  (some (0, q16.2))
  else
  ((fn_X12_notes t0 0 q16.2).bind fun q19 =>
  (fn_X12_endsPiece q19).bind fun q21 =>
  some (1, q21)))
theorem bj_X12_readsCompared_52 {K : ro_K} (hK : ro_C K RX12 cX12_readsCompared 2 5) (hR : ro_R K (some .boolean)) {t0 : Int32}   {μ : ro_Mem}  {out : Int32 × ro_Mem} (hf : fj_X12_readsCompared_52 t0 μ = some out) (hq : kQ K (some (.int out.1)) out.2) : ro_X K 52 [(0, .ref (ro_ad (kG K) 207))] [.int t0] μ := by
  unfold fj_X12_readsCompared_52 at hf
  refine ro_istore_n (L' := [(1, .int t0), (0, .ref (ro_ad (kG K) 207))]) hK dX12_readsCompared_52 rfl (by decide) rfl ?_
  refine ro_iload_n hK 0 rfl dX12_readsCompared_53 rfl ?_
  refine ro_iconst (v := (-1)) hK dX12_readsCompared_54 (by decide) ?_
  refine ro_icmp_ne hK 68 dX12_readsCompared_55 (by decide) (fun c13 => ?_) (fun c13 => ?_)
  · have hf := ro_ie hf c13
    refine ro_aload_n hK 1 rfl dX12_readsCompared_68 rfl ?_
    refine ro_aload_n hK 1 rfl dX12_readsCompared_69 rfl ?_
    refine ro_geti hK fl_X12_249 sh_207 dX12_readsCompared_70 ?_
    refine ro_iconst (v := 1) hK dX12_readsCompared_73 (by decide) ?_
    refine ro_iadd hK dX12_readsCompared_74 ?_
    obtain ⟨m14, e15, hf⟩ := ro_ld hf
    refine ro_puti hK fl_X12_249 sh_207 rfl rfl dX12_readsCompared_75 ?_
    refine ro_mv e15 ?_
    refine ro_aload_n hK 1 rfl dX12_readsCompared_78 rfl ?_
    obtain ⟨q16, e17, hf⟩ := ro_bd hf
    refine ro_callvi hK [] ml_X12_351 mv_X12_readsSum (mt_X12_readsSum (kl K) (kG K)  e17) sh_207 ⟨_, rfl, rfl⟩ (by decide) rfl rfl (Nat.le_of_ble_eq_true rfl) dX12_readsCompared_79 ?_
    refine ro_if_ne hK 87 dX12_readsCompared_82 (by decide) (fun c18 => ?_) (fun c18 => ?_)
    · have hf := ro_ie hf c18
      refine ro_aload_n hK 1 rfl dX12_readsCompared_87 rfl ?_
      refine ro_iload_n hK 0 rfl dX12_readsCompared_88 rfl ?_
      refine ro_iconst (v := 0) hK dX12_readsCompared_89 (by decide) ?_
      obtain ⟨q19, e20, hf⟩ := ro_bd hf
      refine ro_callvv hK [.int t0, .int 0] ml_X12_325 mv_X12_notes (mt_X12_notes (kl K) (kG K)  e20) sh_207 ⟨_, rfl, rfl⟩ (by decide) rfl rfl (Nat.le_of_ble_eq_true rfl) dX12_readsCompared_90 ?_
      refine ro_aload_n hK 1 rfl dX12_readsCompared_93 rfl ?_
      obtain ⟨q21, e22, hf⟩ := ro_bd hf
      refine ro_callvv hK [] ml_X12_354 mv_X12_endsPiece (mt_X12_endsPiece (kl K) (kG K)  e22) sh_207 ⟨_, rfl, rfl⟩ (by decide) rfl rfl (Nat.le_of_ble_eq_true rfl) dX12_readsCompared_94 ?_
      refine ro_iconst (v := 1) hK dX12_readsCompared_97 (by decide) ?_
      obtain rfl := Option.some.inj hf
      exact ro_zret hK hR dX12_readsCompared_98 (by decide) hq
    · have hf := ro_it hf c18
      refine ro_iconst (v := 0) hK dX12_readsCompared_85 (by decide) ?_
      obtain rfl := Option.some.inj hf
      exact ro_zret hK hR dX12_readsCompared_86 (by decide) hq
  · have hf := ro_it hf c13
    refine ro_aload_n hK 1 rfl dX12_readsCompared_58 rfl ?_
    refine ro_iconst (v := 1) hK dX12_readsCompared_59 (by decide) ?_
    refine ro_aload_n hK 1 rfl dX12_readsCompared_60 rfl ?_
    refine ro_geti hK fl_X12_249 sh_207 dX12_readsCompared_61 ?_
    obtain ⟨q23, e24, hf⟩ := ro_bd hf
    refine ro_callvi hK [.int 1, .int (μ 207 14)] ml_X12_263 mv_X12_wrongAt (mt_X12_wrongAt (kl K) (kG K)  e24) sh_207 ⟨_, rfl, rfl⟩ (by decide) rfl rfl (Nat.le_of_ble_eq_true rfl) dX12_readsCompared_64 ?_
    obtain ⟨g25, hf⟩ := ro_gd hf
    obtain rfl := Option.some.inj hf
    exact ro_zret hK hR dX12_readsCompared_67 g25 hq
def fn_X12_readsCompared (μ : ro_Mem) : Option (Int32 × ro_Mem) :=
  (fn_X12_readsSum μ).bind fun q1 =>
  if q1.1 = 0 then
  (some (0, q1.2))
  else
  ((fn_X12_here q1.2).bind fun q4 =>
  if q4 = 60 then
  (fj_X12_readsCompared_52 7 q1.2)
  else
  ((fn_X12_here q1.2).bind fun q7 =>
  if q7 = 62 then
  (fj_X12_readsCompared_52 8 q1.2)
  else
  ((fn_X12_here q1.2).bind fun q10 =>
  if q10 = 61 then
  (fj_X12_readsCompared_52 9 q1.2)
  else
  (fj_X12_readsCompared_52 (-1) q1.2))))
theorem be_X12_readsCompared {K : ro_K} (hK : ro_C K RX12 cX12_readsCompared 2 5) (hR : ro_R K (some .boolean))   {μ : ro_Mem} {out : Int32 × ro_Mem} (hf : fn_X12_readsCompared μ = some out) (hq : kQ K (some (.int out.1)) out.2) : ro_X K 0 [(0, .ref (ro_ad (kG K) 207))] [] μ := by
  unfold fn_X12_readsCompared at hf
  refine ro_aload_n hK 0 rfl dX12_readsCompared_0 rfl ?_
  obtain ⟨q1, e2, hf⟩ := ro_bd hf
  refine ro_callvi hK [] ml_X12_351 mv_X12_readsSum (mt_X12_readsSum (kl K) (kG K)  e2) sh_207 ⟨_, rfl, rfl⟩ (by decide) rfl rfl (Nat.le_of_ble_eq_true rfl) dX12_readsCompared_1 ?_
  refine ro_if_ne hK 9 dX12_readsCompared_4 (by decide) (fun c3 => ?_) (fun c3 => ?_)
  · have hf := ro_ie hf c3
    refine ro_aload_n hK 0 rfl dX12_readsCompared_9 rfl ?_
    obtain ⟨q4, e5, hf⟩ := ro_bd hf
    refine ro_callvi hK [] ml_X12_259 mv_X12_here (mt_X12_here (kl K) (kG K)  e5) sh_207 ⟨_, rfl, rfl⟩ (by decide) rfl rfl (Nat.le_of_ble_eq_true rfl) dX12_readsCompared_10 ?_
    refine ro_bipush (v := 60) hK dX12_readsCompared_13 (by decide) ?_
    refine ro_icmp_ne hK 23 dX12_readsCompared_15 (by decide) (fun c6 => ?_) (fun c6 => ?_)
    · have hf := ro_ie hf c6
      refine ro_aload_n hK 0 rfl dX12_readsCompared_23 rfl ?_
      obtain ⟨q7, e8, hf⟩ := ro_bd hf
      refine ro_callvi hK [] ml_X12_259 mv_X12_here (mt_X12_here (kl K) (kG K)  e8) sh_207 ⟨_, rfl, rfl⟩ (by decide) rfl rfl (Nat.le_of_ble_eq_true rfl) dX12_readsCompared_24 ?_
      refine ro_bipush (v := 62) hK dX12_readsCompared_27 (by decide) ?_
      refine ro_icmp_ne hK 37 dX12_readsCompared_29 (by decide) (fun c9 => ?_) (fun c9 => ?_)
      · have hf := ro_ie hf c9
        refine ro_aload_n hK 0 rfl dX12_readsCompared_37 rfl ?_
        obtain ⟨q10, e11, hf⟩ := ro_bd hf
        refine ro_callvi hK [] ml_X12_259 mv_X12_here (mt_X12_here (kl K) (kG K)  e11) sh_207 ⟨_, rfl, rfl⟩ (by decide) rfl rfl (Nat.le_of_ble_eq_true rfl) dX12_readsCompared_38 ?_
        refine ro_bipush (v := 61) hK dX12_readsCompared_41 (by decide) ?_
        refine ro_icmp_ne hK 51 dX12_readsCompared_43 (by decide) (fun c12 => ?_) (fun c12 => ?_)
        · have hf := ro_ie hf c12
          refine ro_iconst (v := (-1)) hK dX12_readsCompared_51 (by decide) ?_
          exact bj_X12_readsCompared_52 hK hR  hf hq
        · have hf := ro_it hf c12
          refine ro_bipush (v := 9) hK dX12_readsCompared_46 (by decide) ?_
          refine ro_goto hK 52 dX12_readsCompared_48 (by decide) ?_
          exact bj_X12_readsCompared_52 hK hR  hf hq
      · have hf := ro_it hf c9
        refine ro_bipush (v := 8) hK dX12_readsCompared_32 (by decide) ?_
        refine ro_goto hK 52 dX12_readsCompared_34 (by decide) ?_
        exact bj_X12_readsCompared_52 hK hR  hf hq
    · have hf := ro_it hf c6
      refine ro_bipush (v := 7) hK dX12_readsCompared_18 (by decide) ?_
      refine ro_goto hK 52 dX12_readsCompared_20 (by decide) ?_
      exact bj_X12_readsCompared_52 hK hR  hf hq
  · have hf := ro_it hf c3
    refine ro_iconst (v := 0) hK dX12_readsCompared_7 (by decide) ?_
    obtain rfl := Option.some.inj hf
    exact ro_zret hK hR dX12_readsCompared_8 (by decide) hq
theorem mt_X12_readsCompared (l : Launch) (G : ro_G)   {μ : ro_Mem} {out : Int32 × ro_Mem} (hf : fn_X12_readsCompared μ = some out) : ro_MX l G yX12_readsCompared cX12_readsCompared 2 (some .boolean) 5 [.ref (ro_ad G 207)] μ (some (.int out.1)) out.2 := by
  refine ro_MX.of (by decide +kernel) (Nat.le_of_ble_eq_true rfl) (fun K hG hl hq hK hR => ?_)
  subst hG
  exact be_X12_readsCompared hK hR  hf hq
