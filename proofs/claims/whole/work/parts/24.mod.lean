-- ===== X12_readsCondition =====
theorem dX12_readsCondition_0 : decode cX12_readsCondition 0 = .ok (.aload_n 0, 1) := by decide +kernel
theorem dX12_readsCondition_1 : decode cX12_readsCondition 1 = .ok (.invokevirtual 259, 3) := by decide +kernel
theorem dX12_readsCondition_4 : decode cX12_readsCondition 4 = .ok (.bipush 40, 2) := by decide +kernel
theorem dX12_readsCondition_6 : decode cX12_readsCondition 6 = .ok (.if_icmp .eq 13, 3) := by decide +kernel
theorem dX12_readsCondition_9 : decode cX12_readsCondition 9 = .ok (.aload_n 0, 1) := by decide +kernel
theorem dX12_readsCondition_10 : decode cX12_readsCondition 10 = .ok (.iconst 1, 1) := by decide +kernel
theorem dX12_readsCondition_11 : decode cX12_readsCondition 11 = .ok (.aload_n 0, 1) := by decide +kernel
theorem dX12_readsCondition_12 : decode cX12_readsCondition 12 = .ok (.getfield 249, 3) := by decide +kernel
theorem dX12_readsCondition_15 : decode cX12_readsCondition 15 = .ok (.invokevirtual 263, 3) := by decide +kernel
theorem dX12_readsCondition_18 : decode cX12_readsCondition 18 = .ok (.ireturn, 1) := by decide +kernel
theorem dX12_readsCondition_19 : decode cX12_readsCondition 19 = .ok (.aload_n 0, 1) := by decide +kernel
theorem dX12_readsCondition_20 : decode cX12_readsCondition 20 = .ok (.iconst 0, 1) := by decide +kernel
theorem dX12_readsCondition_21 : decode cX12_readsCondition 21 = .ok (.putfield 316, 3) := by decide +kernel
theorem dX12_readsCondition_24 : decode cX12_readsCondition 24 = .ok (.aload_n 0, 1) := by decide +kernel
theorem dX12_readsCondition_25 : decode cX12_readsCondition 25 = .ok (.iconst 0, 1) := by decide +kernel
theorem dX12_readsCondition_26 : decode cX12_readsCondition 26 = .ok (.putfield 319, 3) := by decide +kernel
theorem dX12_readsCondition_29 : decode cX12_readsCondition 29 = .ok (.aload_n 0, 1) := by decide +kernel
theorem dX12_readsCondition_30 : decode cX12_readsCondition 30 = .ok (.bipush 13, 2) := by decide +kernel
theorem dX12_readsCondition_32 : decode cX12_readsCondition 32 = .ok (.invokevirtual 329, 3) := by decide +kernel
theorem dX12_readsCondition_35 : decode cX12_readsCondition 35 = .ok (.ifCond .ne 5, 3) := by decide +kernel
theorem dX12_readsCondition_38 : decode cX12_readsCondition 38 = .ok (.iconst 0, 1) := by decide +kernel
theorem dX12_readsCondition_39 : decode cX12_readsCondition 39 = .ok (.ireturn, 1) := by decide +kernel
theorem dX12_readsCondition_40 : decode cX12_readsCondition 40 = .ok (.aload_n 0, 1) := by decide +kernel
theorem dX12_readsCondition_41 : decode cX12_readsCondition 41 = .ok (.invokevirtual 259, 3) := by decide +kernel
theorem dX12_readsCondition_44 : decode cX12_readsCondition 44 = .ok (.bipush 33, 2) := by decide +kernel
theorem dX12_readsCondition_46 : decode cX12_readsCondition 46 = .ok (.if_icmp .eq 12, 3) := by decide +kernel
theorem dX12_readsCondition_49 : decode cX12_readsCondition 49 = .ok (.aload_n 0, 1) := by decide +kernel
theorem dX12_readsCondition_50 : decode cX12_readsCondition 50 = .ok (.invokevirtual 259, 3) := by decide +kernel
theorem dX12_readsCondition_53 : decode cX12_readsCondition 53 = .ok (.bipush 40, 2) := by decide +kernel
theorem dX12_readsCondition_55 : decode cX12_readsCondition 55 = .ok (.if_icmp .ne 28, 3) := by decide +kernel
theorem dX12_readsCondition_58 : decode cX12_readsCondition 58 = .ok (.aload_n 0, 1) := by decide +kernel
theorem dX12_readsCondition_59 : decode cX12_readsCondition 59 = .ok (.aload_n 0, 1) := by decide +kernel
theorem dX12_readsCondition_60 : decode cX12_readsCondition 60 = .ok (.invokevirtual 259, 3) := by decide +kernel
theorem dX12_readsCondition_63 : decode cX12_readsCondition 63 = .ok (.bipush 33, 2) := by decide +kernel
theorem dX12_readsCondition_65 : decode cX12_readsCondition 65 = .ok (.if_icmp .ne 8, 3) := by decide +kernel
theorem dX12_readsCondition_68 : decode cX12_readsCondition 68 = .ok (.bipush 10, 2) := by decide +kernel
theorem dX12_readsCondition_70 : decode cX12_readsCondition 70 = .ok (.goto 5, 3) := by decide +kernel
theorem dX12_readsCondition_73 : decode cX12_readsCondition 73 = .ok (.bipush 13, 2) := by decide +kernel
theorem dX12_readsCondition_75 : decode cX12_readsCondition 75 = .ok (.invokevirtual 329, 3) := by decide +kernel
theorem dX12_readsCondition_78 : decode cX12_readsCondition 78 = .ok (.ifCond .ne (-38), 3) := by decide +kernel
theorem dX12_readsCondition_81 : decode cX12_readsCondition 81 = .ok (.iconst 0, 1) := by decide +kernel
theorem dX12_readsCondition_82 : decode cX12_readsCondition 82 = .ok (.ireturn, 1) := by decide +kernel
theorem dX12_readsCondition_83 : decode cX12_readsCondition 83 = .ok (.aload_n 0, 1) := by decide +kernel
theorem dX12_readsCondition_84 : decode cX12_readsCondition 84 = .ok (.invokevirtual 357, 3) := by decide +kernel
theorem dX12_readsCondition_87 : decode cX12_readsCondition 87 = .ok (.ifCond .ne 5, 3) := by decide +kernel
theorem dX12_readsCondition_90 : decode cX12_readsCondition 90 = .ok (.iconst 0, 1) := by decide +kernel
theorem dX12_readsCondition_91 : decode cX12_readsCondition 91 = .ok (.ireturn, 1) := by decide +kernel
theorem dX12_readsCondition_92 : decode cX12_readsCondition 92 = .ok (.aload_n 0, 1) := by decide +kernel
theorem dX12_readsCondition_93 : decode cX12_readsCondition 93 = .ok (.invokevirtual 259, 3) := by decide +kernel
theorem dX12_readsCondition_96 : decode cX12_readsCondition 96 = .ok (.bipush 41, 2) := by decide +kernel
theorem dX12_readsCondition_98 : decode cX12_readsCondition 98 = .ok (.if_icmp .ne 54, 3) := by decide +kernel
theorem dX12_readsCondition_101 : decode cX12_readsCondition 101 = .ok (.aload_n 0, 1) := by decide +kernel
theorem dX12_readsCondition_102 : decode cX12_readsCondition 102 = .ok (.iconst 1, 1) := by decide +kernel
theorem dX12_readsCondition_103 : decode cX12_readsCondition 103 = .ok (.invokevirtual 360, 3) := by decide +kernel
theorem dX12_readsCondition_106 : decode cX12_readsCondition 106 = .ok (.aload_n 0, 1) := by decide +kernel
theorem dX12_readsCondition_107 : decode cX12_readsCondition 107 = .ok (.aload_n 0, 1) := by decide +kernel
theorem dX12_readsCondition_108 : decode cX12_readsCondition 108 = .ok (.getfield 319, 3) := by decide +kernel
theorem dX12_readsCondition_111 : decode cX12_readsCondition 111 = .ok (.iconst 1, 1) := by decide +kernel
theorem dX12_readsCondition_112 : decode cX12_readsCondition 112 = .ok (.isub, 1) := by decide +kernel
theorem dX12_readsCondition_113 : decode cX12_readsCondition 113 = .ok (.putfield 319, 3) := by decide +kernel
theorem dX12_readsCondition_116 : decode cX12_readsCondition 116 = .ok (.aload_n 0, 1) := by decide +kernel
theorem dX12_readsCondition_117 : decode cX12_readsCondition 117 = .ok (.aload_n 0, 1) := by decide +kernel
theorem dX12_readsCondition_118 : decode cX12_readsCondition 118 = .ok (.getfield 316, 3) := by decide +kernel
theorem dX12_readsCondition_121 : decode cX12_readsCondition 121 = .ok (.iconst 1, 1) := by decide +kernel
theorem dX12_readsCondition_122 : decode cX12_readsCondition 122 = .ok (.isub, 1) := by decide +kernel
theorem dX12_readsCondition_123 : decode cX12_readsCondition 123 = .ok (.putfield 316, 3) := by decide +kernel
theorem dX12_readsCondition_126 : decode cX12_readsCondition 126 = .ok (.aload_n 0, 1) := by decide +kernel
theorem dX12_readsCondition_127 : decode cX12_readsCondition 127 = .ok (.aload_n 0, 1) := by decide +kernel
theorem dX12_readsCondition_128 : decode cX12_readsCondition 128 = .ok (.getfield 249, 3) := by decide +kernel
theorem dX12_readsCondition_131 : decode cX12_readsCondition 131 = .ok (.iconst 1, 1) := by decide +kernel
theorem dX12_readsCondition_132 : decode cX12_readsCondition 132 = .ok (.iadd, 1) := by decide +kernel
theorem dX12_readsCondition_133 : decode cX12_readsCondition 133 = .ok (.putfield 249, 3) := by decide +kernel
theorem dX12_readsCondition_136 : decode cX12_readsCondition 136 = .ok (.aload_n 0, 1) := by decide +kernel
theorem dX12_readsCondition_137 : decode cX12_readsCondition 137 = .ok (.getfield 319, 3) := by decide +kernel
theorem dX12_readsCondition_140 : decode cX12_readsCondition 140 = .ok (.ifCond .ne 5, 3) := by decide +kernel
theorem dX12_readsCondition_143 : decode cX12_readsCondition 143 = .ok (.iconst 1, 1) := by decide +kernel
theorem dX12_readsCondition_144 : decode cX12_readsCondition 144 = .ok (.ireturn, 1) := by decide +kernel
theorem dX12_readsCondition_145 : decode cX12_readsCondition 145 = .ok (.aload_n 0, 1) := by decide +kernel
theorem dX12_readsCondition_146 : decode cX12_readsCondition 146 = .ok (.invokevirtual 354, 3) := by decide +kernel
theorem dX12_readsCondition_149 : decode cX12_readsCondition 149 = .ok (.goto (-57), 3) := by decide +kernel
theorem dX12_readsCondition_152 : decode cX12_readsCondition 152 = .ok (.aload_n 0, 1) := by decide +kernel
theorem dX12_readsCondition_153 : decode cX12_readsCondition 153 = .ok (.invokevirtual 259, 3) := by decide +kernel
theorem dX12_readsCondition_156 : decode cX12_readsCondition 156 = .ok (.bipush 38, 2) := by decide +kernel
theorem dX12_readsCondition_158 : decode cX12_readsCondition 158 = .ok (.if_icmp .eq 22, 3) := by decide +kernel
theorem dX12_readsCondition_161 : decode cX12_readsCondition 161 = .ok (.aload_n 0, 1) := by decide +kernel
theorem dX12_readsCondition_162 : decode cX12_readsCondition 162 = .ok (.invokevirtual 259, 3) := by decide +kernel
theorem dX12_readsCondition_165 : decode cX12_readsCondition 165 = .ok (.bipush 124, 2) := by decide +kernel
theorem dX12_readsCondition_167 : decode cX12_readsCondition 167 = .ok (.if_icmp .eq 13, 3) := by decide +kernel
theorem dX12_readsCondition_170 : decode cX12_readsCondition 170 = .ok (.aload_n 0, 1) := by decide +kernel
theorem dX12_readsCondition_171 : decode cX12_readsCondition 171 = .ok (.iconst 1, 1) := by decide +kernel
theorem dX12_readsCondition_172 : decode cX12_readsCondition 172 = .ok (.aload_n 0, 1) := by decide +kernel
theorem dX12_readsCondition_173 : decode cX12_readsCondition 173 = .ok (.getfield 249, 3) := by decide +kernel
theorem dX12_readsCondition_176 : decode cX12_readsCondition 176 = .ok (.invokevirtual 263, 3) := by decide +kernel
theorem dX12_readsCondition_179 : decode cX12_readsCondition 179 = .ok (.ireturn, 1) := by decide +kernel
theorem dX12_readsCondition_180 : decode cX12_readsCondition 180 = .ok (.aload_n 0, 1) := by decide +kernel
theorem dX12_readsCondition_181 : decode cX12_readsCondition 181 = .ok (.aload_n 0, 1) := by decide +kernel
theorem dX12_readsCondition_182 : decode cX12_readsCondition 182 = .ok (.invokevirtual 259, 3) := by decide +kernel
theorem dX12_readsCondition_185 : decode cX12_readsCondition 185 = .ok (.bipush 124, 2) := by decide +kernel
theorem dX12_readsCondition_187 : decode cX12_readsCondition 187 = .ok (.if_icmp .ne 7, 3) := by decide +kernel
theorem dX12_readsCondition_190 : decode cX12_readsCondition 190 = .ok (.iconst 1, 1) := by decide +kernel
theorem dX12_readsCondition_191 : decode cX12_readsCondition 191 = .ok (.goto 4, 3) := by decide +kernel
theorem dX12_readsCondition_194 : decode cX12_readsCondition 194 = .ok (.iconst 0, 1) := by decide +kernel
theorem dX12_readsCondition_195 : decode cX12_readsCondition 195 = .ok (.invokevirtual 360, 3) := by decide +kernel
theorem dX12_readsCondition_198 : decode cX12_readsCondition 198 = .ok (.aload_n 0, 1) := by decide +kernel
theorem dX12_readsCondition_199 : decode cX12_readsCondition 199 = .ok (.aload_n 0, 1) := by decide +kernel
theorem dX12_readsCondition_200 : decode cX12_readsCondition 200 = .ok (.invokevirtual 259, 3) := by decide +kernel
theorem dX12_readsCondition_203 : decode cX12_readsCondition 203 = .ok (.bipush 38, 2) := by decide +kernel
theorem dX12_readsCondition_205 : decode cX12_readsCondition 205 = .ok (.if_icmp .ne 8, 3) := by decide +kernel
theorem dX12_readsCondition_208 : decode cX12_readsCondition 208 = .ok (.bipush 11, 2) := by decide +kernel
theorem dX12_readsCondition_210 : decode cX12_readsCondition 210 = .ok (.goto 5, 3) := by decide +kernel
theorem dX12_readsCondition_213 : decode cX12_readsCondition 213 = .ok (.bipush 12, 2) := by decide +kernel
theorem dX12_readsCondition_215 : decode cX12_readsCondition 215 = .ok (.invokevirtual 363, 3) := by decide +kernel
theorem dX12_readsCondition_218 : decode cX12_readsCondition 218 = .ok (.goto (-178), 3) := by decide +kernel
def ok_X12_readsCondition_40 (K : ro_K)  : (ro_Mem ⊕ (ro_Mem ⊕ (ro_Mem ⊕ ro_Mem))) → Prop := Sum.elim (fun e => ro_X K 81 [] [] e) (Sum.elim (fun e => ro_X K 90 [] [] e) (Sum.elim (fun e => ro_X K 143 [] [] e) (fun e => ro_X K 170 [(0, .ref (ro_ad (kG K) 207))] [] e)))
def fj_X12_readsCondition_75 (rec : ro_Mem → Option (ro_Mem ⊕ (ro_Mem ⊕ (ro_Mem ⊕ ro_Mem)))) (t1 : Int32) (μ : ro_Mem) : Option (ro_Mem ⊕ (ro_Mem ⊕ (ro_Mem ⊕ ro_Mem))) :=
  (fn_X12_opens t1 μ).bind fun q17 =>
  if q17.1 = 0 then
  (some (.inl q17.2))
  else
  (rec q17.2)
theorem bj_X12_readsCondition_75 {K : ro_K} (hK : ro_C K RX12 cX12_readsCondition 1 6) (hR : ro_R K (some .boolean)) {t1 : Int32}  {rec : ro_Mem → Option (ro_Mem ⊕ (ro_Mem ⊕ (ro_Mem ⊕ ro_Mem)))} {μ : ro_Mem} (hrec : ∀ (s : ro_Mem) (q : (ro_Mem ⊕ (ro_Mem ⊕ (ro_Mem ⊕ ro_Mem)))), rec s = some q → ok_X12_readsCondition_40 K q → ro_X K 40 [(0, .ref (ro_ad (kG K) 207))] [] s) {out : (ro_Mem ⊕ (ro_Mem ⊕ (ro_Mem ⊕ ro_Mem)))} (hf : fj_X12_readsCondition_75 rec t1 μ = some out) (hq : ok_X12_readsCondition_40 K out) : ro_X K 75 [(0, .ref (ro_ad (kG K) 207))] [.int t1, .ref (ro_ad (kG K) 207)] μ := by
  unfold fj_X12_readsCondition_75 at hf
  obtain ⟨q17, e18, hf⟩ := ro_bd hf
  refine ro_callvi hK [.int t1] ml_X12_329 mv_X12_opens (mt_X12_opens (kl K) (kG K)  e18) sh_207 ⟨_, rfl, rfl⟩ (by decide) rfl rfl (Nat.le_of_ble_eq_true rfl) dX12_readsCondition_75 ?_
  refine ro_if_ne hK 40 dX12_readsCondition_78 (by decide) (fun c19 => ?_) (fun c19 => ?_)
  · have hf := ro_ie hf c19
    exact hrec q17.2 _ hf hq
  · have hf := ro_it hf c19
    refine ro_sub (L' := []) [] rfl ?_
    obtain rfl := Option.some.inj hf
    exact hq
def fj_X12_readsCondition_58 (rec : ro_Mem → Option (ro_Mem ⊕ (ro_Mem ⊕ (ro_Mem ⊕ ro_Mem)))) (μ : ro_Mem) : Option (ro_Mem ⊕ (ro_Mem ⊕ (ro_Mem ⊕ ro_Mem))) :=
  (fn_X12_here μ).bind fun q14 =>
  if q14 = 33 then
  (fj_X12_readsCondition_75 rec 10 μ)
  else
  (fj_X12_readsCondition_75 rec 13 μ)
theorem bj_X12_readsCondition_58 {K : ro_K} (hK : ro_C K RX12 cX12_readsCondition 1 6) (hR : ro_R K (some .boolean))   {rec : ro_Mem → Option (ro_Mem ⊕ (ro_Mem ⊕ (ro_Mem ⊕ ro_Mem)))} {μ : ro_Mem} (hrec : ∀ (s : ro_Mem) (q : (ro_Mem ⊕ (ro_Mem ⊕ (ro_Mem ⊕ ro_Mem)))), rec s = some q → ok_X12_readsCondition_40 K q → ro_X K 40 [(0, .ref (ro_ad (kG K) 207))] [] s) {out : (ro_Mem ⊕ (ro_Mem ⊕ (ro_Mem ⊕ ro_Mem)))} (hf : fj_X12_readsCondition_58 rec μ = some out) (hq : ok_X12_readsCondition_40 K out) : ro_X K 58 [(0, .ref (ro_ad (kG K) 207))] [] μ := by
  unfold fj_X12_readsCondition_58 at hf
  refine ro_aload_n hK 0 rfl dX12_readsCondition_58 rfl ?_
  refine ro_aload_n hK 0 rfl dX12_readsCondition_59 rfl ?_
  obtain ⟨q14, e15, hf⟩ := ro_bd hf
  refine ro_callvi hK [] ml_X12_259 mv_X12_here (mt_X12_here (kl K) (kG K)  e15) sh_207 ⟨_, rfl, rfl⟩ (by decide) rfl rfl (Nat.le_of_ble_eq_true rfl) dX12_readsCondition_60 ?_
  refine ro_bipush (v := 33) hK dX12_readsCondition_63 (by decide) ?_
  refine ro_icmp_ne hK 73 dX12_readsCondition_65 (by decide) (fun c16 => ?_) (fun c16 => ?_)
  · have hf := ro_ie hf c16
    refine ro_bipush (v := 13) hK dX12_readsCondition_73 (by decide) ?_
    exact bj_X12_readsCondition_75 hK hR  hrec hf hq
  · have hf := ro_it hf c16
    refine ro_bipush (v := 10) hK dX12_readsCondition_68 (by decide) ?_
    refine ro_goto hK 75 dX12_readsCondition_70 (by decide) ?_
    exact bj_X12_readsCondition_75 hK hR  hrec hf hq
def ok_X12_readsCondition_92 (K : ro_K)  : (ro_Mem ⊕ ro_Mem) → Prop := Sum.elim (fun e => ro_X K 143 [] [] e) (fun e => ro_X K 152 [(0, .ref (ro_ad (kG K) 207))] [] e)
def fb_X12_readsCondition_92  (rec : ro_Mem → Option (ro_Mem ⊕ ro_Mem)) (μ : ro_Mem) : Option (ro_Mem ⊕ ro_Mem) :=
  (fn_X12_here μ).bind fun q26 =>
  if q26 = 41 then
  ((fn_X12_lands 1 μ).bind fun q29 =>
  ro_lt (ro_set q29 207 36 ((q29 207 36) - 1)) fun m31 =>
  ro_lt (ro_set m31 207 34 ((m31 207 34) - 1)) fun m33 =>
  ro_lt (ro_set m33 207 14 ((m33 207 14) + 1)) fun m35 =>
  if (m35 207 36) = 0 then
  (some (.inl m35))
  else
  ((fn_X12_endsPiece m35).bind fun q38 =>
  rec q38))
  else
  (some (.inr μ))
theorem bb_X12_readsCondition_92 {K : ro_K} (hK : ro_C K RX12 cX12_readsCondition 1 6) (hR : ro_R K (some .boolean))   {μ : ro_Mem} {rec : ro_Mem → Option (ro_Mem ⊕ ro_Mem)}  {q : (ro_Mem ⊕ ro_Mem)} (hrec : ∀ (s : ro_Mem) (q : (ro_Mem ⊕ ro_Mem)), rec s = some q → ok_X12_readsCondition_92 K q → ro_X K 92 [(0, .ref (ro_ad (kG K) 207))] [] s) (hf : fb_X12_readsCondition_92 rec μ = some q) (hq : ok_X12_readsCondition_92 K q) : ro_X K 92 [(0, .ref (ro_ad (kG K) 207))] [] μ := by
  unfold fb_X12_readsCondition_92 at hf
  refine ro_aload_n hK 0 rfl dX12_readsCondition_92 rfl ?_
  obtain ⟨q26, e27, hf⟩ := ro_bd hf
  refine ro_callvi hK [] ml_X12_259 mv_X12_here (mt_X12_here (kl K) (kG K)  e27) sh_207 ⟨_, rfl, rfl⟩ (by decide) rfl rfl (Nat.le_of_ble_eq_true rfl) dX12_readsCondition_93 ?_
  refine ro_bipush (v := 41) hK dX12_readsCondition_96 (by decide) ?_
  refine ro_icmp_ne hK 152 dX12_readsCondition_98 (by decide) (fun c28 => ?_) (fun c28 => ?_)
  · have hf := ro_ie hf c28
    obtain rfl := Option.some.inj hf
    exact hq
  · have hf := ro_it hf c28
    refine ro_aload_n hK 0 rfl dX12_readsCondition_101 rfl ?_
    refine ro_iconst (v := 1) hK dX12_readsCondition_102 (by decide) ?_
    obtain ⟨q29, e30, hf⟩ := ro_bd hf
    refine ro_callvv hK [.int 1] ml_X12_360 mv_X12_lands (mt_X12_lands (kl K) (kG K)  e30) sh_207 ⟨_, rfl, rfl⟩ (by decide) rfl rfl (Nat.le_of_ble_eq_true rfl) dX12_readsCondition_103 ?_
    refine ro_aload_n hK 0 rfl dX12_readsCondition_106 rfl ?_
    refine ro_aload_n hK 0 rfl dX12_readsCondition_107 rfl ?_
    refine ro_geti hK fl_X12_319 sh_207 dX12_readsCondition_108 ?_
    refine ro_iconst (v := 1) hK dX12_readsCondition_111 (by decide) ?_
    refine ro_isub hK dX12_readsCondition_112 ?_
    obtain ⟨m31, e32, hf⟩ := ro_ld hf
    refine ro_puti hK fl_X12_319 sh_207 rfl rfl dX12_readsCondition_113 ?_
    refine ro_mv e32 ?_
    refine ro_aload_n hK 0 rfl dX12_readsCondition_116 rfl ?_
    refine ro_aload_n hK 0 rfl dX12_readsCondition_117 rfl ?_
    refine ro_geti hK fl_X12_316 sh_207 dX12_readsCondition_118 ?_
    refine ro_iconst (v := 1) hK dX12_readsCondition_121 (by decide) ?_
    refine ro_isub hK dX12_readsCondition_122 ?_
    obtain ⟨m33, e34, hf⟩ := ro_ld hf
    refine ro_puti hK fl_X12_316 sh_207 rfl rfl dX12_readsCondition_123 ?_
    refine ro_mv e34 ?_
    refine ro_aload_n hK 0 rfl dX12_readsCondition_126 rfl ?_
    refine ro_aload_n hK 0 rfl dX12_readsCondition_127 rfl ?_
    refine ro_geti hK fl_X12_249 sh_207 dX12_readsCondition_128 ?_
    refine ro_iconst (v := 1) hK dX12_readsCondition_131 (by decide) ?_
    refine ro_iadd hK dX12_readsCondition_132 ?_
    obtain ⟨m35, e36, hf⟩ := ro_ld hf
    refine ro_puti hK fl_X12_249 sh_207 rfl rfl dX12_readsCondition_133 ?_
    refine ro_mv e36 ?_
    refine ro_aload_n hK 0 rfl dX12_readsCondition_136 rfl ?_
    refine ro_geti hK fl_X12_319 sh_207 dX12_readsCondition_137 ?_
    refine ro_if_ne hK 145 dX12_readsCondition_140 (by decide) (fun c37 => ?_) (fun c37 => ?_)
    · have hf := ro_ie hf c37
      refine ro_aload_n hK 0 rfl dX12_readsCondition_145 rfl ?_
      obtain ⟨q38, e39, hf⟩ := ro_bd hf
      refine ro_callvv hK [] ml_X12_354 mv_X12_endsPiece (mt_X12_endsPiece (kl K) (kG K)  e39) sh_207 ⟨_, rfl, rfl⟩ (by decide) rfl rfl (Nat.le_of_ble_eq_true rfl) dX12_readsCondition_146 ?_
      refine ro_goto hK 92 dX12_readsCondition_149 (by decide) ?_
      exact hrec q38 _ hf hq
    · have hf := ro_it hf c37
      refine ro_sub (L' := []) [] rfl ?_
      obtain rfl := Option.some.inj hf
      exact hq
def fl_X12_readsCondition_92  : ro_Mem → Option (ro_Mem ⊕ ro_Mem) :=
  ro_loop (fun rec s => fb_X12_readsCondition_92 rec s) ro_FU
theorem lp_X12_readsCondition_92 {K : ro_K} (hK : ro_C K RX12 cX12_readsCondition 1 6) (hR : ro_R K (some .boolean))   {s : ro_Mem} {q : (ro_Mem ⊕ ro_Mem)} (hf : fl_X12_readsCondition_92 s = some q) (hq : ok_X12_readsCondition_92 K q) : ro_X K 92 [(0, .ref (ro_ad (kG K) 207))] [] s :=
  ro_loopX (b := fun rec s => fb_X12_readsCondition_92 rec s) (X := fun s => ro_X K 92 [(0, .ref (ro_ad (kG K) 207))] [] s) (OK := ok_X12_readsCondition_92 K) (fun rec s q hrec hb ho => bb_X12_readsCondition_92 hK hR  hrec hb ho) ro_FU s q hf hq
def fj_X12_readsCondition_195 (rec : ro_Mem → Option (ro_Mem ⊕ (ro_Mem ⊕ (ro_Mem ⊕ ro_Mem)))) (t1 : Int32) (μ : ro_Mem) : Option (ro_Mem ⊕ (ro_Mem ⊕ (ro_Mem ⊕ ro_Mem))) :=
  (fn_X12_lands t1 μ).bind fun q50 =>
  (fn_X12_here q50).bind fun q52 =>
  if q52 = 38 then
  ((fn_X12_jumps 11 q50).bind fun q57 =>
  rec q57)
  else
  ((fn_X12_jumps 12 q50).bind fun q55 =>
  rec q55)
theorem bj_X12_readsCondition_195 {K : ro_K} (hK : ro_C K RX12 cX12_readsCondition 1 6) (hR : ro_R K (some .boolean)) {t1 : Int32}  {rec : ro_Mem → Option (ro_Mem ⊕ (ro_Mem ⊕ (ro_Mem ⊕ ro_Mem)))} {μ : ro_Mem} (hrec : ∀ (s : ro_Mem) (q : (ro_Mem ⊕ (ro_Mem ⊕ (ro_Mem ⊕ ro_Mem)))), rec s = some q → ok_X12_readsCondition_40 K q → ro_X K 40 [(0, .ref (ro_ad (kG K) 207))] [] s) {out : (ro_Mem ⊕ (ro_Mem ⊕ (ro_Mem ⊕ ro_Mem)))} (hf : fj_X12_readsCondition_195 rec t1 μ = some out) (hq : ok_X12_readsCondition_40 K out) : ro_X K 195 [(0, .ref (ro_ad (kG K) 207))] [.int t1, .ref (ro_ad (kG K) 207)] μ := by
  unfold fj_X12_readsCondition_195 at hf
  obtain ⟨q50, e51, hf⟩ := ro_bd hf
  refine ro_callvv hK [.int t1] ml_X12_360 mv_X12_lands (mt_X12_lands (kl K) (kG K)  e51) sh_207 ⟨_, rfl, rfl⟩ (by decide) rfl rfl (Nat.le_of_ble_eq_true rfl) dX12_readsCondition_195 ?_
  refine ro_aload_n hK 0 rfl dX12_readsCondition_198 rfl ?_
  refine ro_aload_n hK 0 rfl dX12_readsCondition_199 rfl ?_
  obtain ⟨q52, e53, hf⟩ := ro_bd hf
  refine ro_callvi hK [] ml_X12_259 mv_X12_here (mt_X12_here (kl K) (kG K)  e53) sh_207 ⟨_, rfl, rfl⟩ (by decide) rfl rfl (Nat.le_of_ble_eq_true rfl) dX12_readsCondition_200 ?_
  refine ro_bipush (v := 38) hK dX12_readsCondition_203 (by decide) ?_
  refine ro_icmp_ne hK 213 dX12_readsCondition_205 (by decide) (fun c54 => ?_) (fun c54 => ?_)
  · have hf := ro_ie hf c54
    refine ro_bipush (v := 12) hK dX12_readsCondition_213 (by decide) ?_
    obtain ⟨q55, e56, hf⟩ := ro_bd hf
    refine ro_callvv hK [.int 12] ml_X12_363 mv_X12_jumps (mt_X12_jumps (kl K) (kG K)  e56) sh_207 ⟨_, rfl, rfl⟩ (by decide) rfl rfl (Nat.le_of_ble_eq_true rfl) dX12_readsCondition_215 ?_
    refine ro_goto hK 40 dX12_readsCondition_218 (by decide) ?_
    exact hrec q55 _ hf hq
  · have hf := ro_it hf c54
    refine ro_bipush (v := 11) hK dX12_readsCondition_208 (by decide) ?_
    refine ro_goto hK 215 dX12_readsCondition_210 (by decide) ?_
    obtain ⟨q57, e58, hf⟩ := ro_bd hf
    refine ro_callvv hK [.int 11] ml_X12_363 mv_X12_jumps (mt_X12_jumps (kl K) (kG K)  e58) sh_207 ⟨_, rfl, rfl⟩ (by decide) rfl rfl (Nat.le_of_ble_eq_true rfl) dX12_readsCondition_215 ?_
    refine ro_goto hK 40 dX12_readsCondition_218 (by decide) ?_
    exact hrec q57 _ hf hq
def fj_X12_readsCondition_180 (rec : ro_Mem → Option (ro_Mem ⊕ (ro_Mem ⊕ (ro_Mem ⊕ ro_Mem)))) (μ : ro_Mem) : Option (ro_Mem ⊕ (ro_Mem ⊕ (ro_Mem ⊕ ro_Mem))) :=
  (fn_X12_here μ).bind fun q47 =>
  if q47 = 124 then
  (fj_X12_readsCondition_195 rec 1 μ)
  else
  (fj_X12_readsCondition_195 rec 0 μ)
theorem bj_X12_readsCondition_180 {K : ro_K} (hK : ro_C K RX12 cX12_readsCondition 1 6) (hR : ro_R K (some .boolean))   {rec : ro_Mem → Option (ro_Mem ⊕ (ro_Mem ⊕ (ro_Mem ⊕ ro_Mem)))} {μ : ro_Mem} (hrec : ∀ (s : ro_Mem) (q : (ro_Mem ⊕ (ro_Mem ⊕ (ro_Mem ⊕ ro_Mem)))), rec s = some q → ok_X12_readsCondition_40 K q → ro_X K 40 [(0, .ref (ro_ad (kG K) 207))] [] s) {out : (ro_Mem ⊕ (ro_Mem ⊕ (ro_Mem ⊕ ro_Mem)))} (hf : fj_X12_readsCondition_180 rec μ = some out) (hq : ok_X12_readsCondition_40 K out) : ro_X K 180 [(0, .ref (ro_ad (kG K) 207))] [] μ := by
  unfold fj_X12_readsCondition_180 at hf
  refine ro_aload_n hK 0 rfl dX12_readsCondition_180 rfl ?_
  refine ro_aload_n hK 0 rfl dX12_readsCondition_181 rfl ?_
  obtain ⟨q47, e48, hf⟩ := ro_bd hf
  refine ro_callvi hK [] ml_X12_259 mv_X12_here (mt_X12_here (kl K) (kG K)  e48) sh_207 ⟨_, rfl, rfl⟩ (by decide) rfl rfl (Nat.le_of_ble_eq_true rfl) dX12_readsCondition_182 ?_
  refine ro_bipush (v := 124) hK dX12_readsCondition_185 (by decide) ?_
  refine ro_icmp_ne hK 194 dX12_readsCondition_187 (by decide) (fun c49 => ?_) (fun c49 => ?_)
  · have hf := ro_ie hf c49
    refine ro_iconst (v := 0) hK dX12_readsCondition_194 (by decide) ?_
    exact bj_X12_readsCondition_195 hK hR  hrec hf hq
  · have hf := ro_it hf c49
    refine ro_iconst (v := 1) hK dX12_readsCondition_190 (by decide) ?_
    refine ro_goto hK 195 dX12_readsCondition_191 (by decide) ?_
    exact bj_X12_readsCondition_195 hK hR  hrec hf hq
def fb_X12_readsCondition_40  (rec : ro_Mem → Option (ro_Mem ⊕ (ro_Mem ⊕ (ro_Mem ⊕ ro_Mem)))) (μ : ro_Mem) : Option (ro_Mem ⊕ (ro_Mem ⊕ (ro_Mem ⊕ ro_Mem))) :=
  (fn_X12_here μ).bind fun q11 =>
  if q11 = 33 then
  (fj_X12_readsCondition_58 rec μ)
  else
  ((fn_X12_here μ).bind fun q20 =>
  if q20 = 40 then
  (fj_X12_readsCondition_58 rec μ)
  else
  ((fn_X12_readsCompared μ).bind fun q23 =>
  if q23.1 = 0 then
  (some (.inr (.inl q23.2)))
  else
  ((fl_X12_readsCondition_92  q23.2).bind fun q40 =>
  q40.elim (fun e42 => some (.inr (.inr (.inl e42)))) (fun e43 => (fn_X12_here e43).bind fun q44 =>
  if q44 = 38 then
  (fj_X12_readsCondition_180 rec e43)
  else
  ((fn_X12_here e43).bind fun q59 =>
  if q59 = 124 then
  (fj_X12_readsCondition_180 rec e43)
  else
  (some (.inr (.inr (.inr e43)))))))))
theorem bb_X12_readsCondition_40 {K : ro_K} (hK : ro_C K RX12 cX12_readsCondition 1 6) (hR : ro_R K (some .boolean))   {μ : ro_Mem} {rec : ro_Mem → Option (ro_Mem ⊕ (ro_Mem ⊕ (ro_Mem ⊕ ro_Mem)))}  {q : (ro_Mem ⊕ (ro_Mem ⊕ (ro_Mem ⊕ ro_Mem)))} (hrec : ∀ (s : ro_Mem) (q : (ro_Mem ⊕ (ro_Mem ⊕ (ro_Mem ⊕ ro_Mem)))), rec s = some q → ok_X12_readsCondition_40 K q → ro_X K 40 [(0, .ref (ro_ad (kG K) 207))] [] s) (hf : fb_X12_readsCondition_40 rec μ = some q) (hq : ok_X12_readsCondition_40 K q) : ro_X K 40 [(0, .ref (ro_ad (kG K) 207))] [] μ := by
  unfold fb_X12_readsCondition_40 at hf
  refine ro_aload_n hK 0 rfl dX12_readsCondition_40 rfl ?_
  obtain ⟨q11, e12, hf⟩ := ro_bd hf
  refine ro_callvi hK [] ml_X12_259 mv_X12_here (mt_X12_here (kl K) (kG K)  e12) sh_207 ⟨_, rfl, rfl⟩ (by decide) rfl rfl (Nat.le_of_ble_eq_true rfl) dX12_readsCondition_41 ?_
  refine ro_bipush (v := 33) hK dX12_readsCondition_44 (by decide) ?_
  refine ro_icmp_eq hK 58 dX12_readsCondition_46 (by decide) (fun c13 => ?_) (fun c13 => ?_)
  · have hf := ro_it hf c13
    exact bj_X12_readsCondition_58 hK hR  hrec hf hq
  · have hf := ro_ie hf c13
    refine ro_aload_n hK 0 rfl dX12_readsCondition_49 rfl ?_
    obtain ⟨q20, e21, hf⟩ := ro_bd hf
    refine ro_callvi hK [] ml_X12_259 mv_X12_here (mt_X12_here (kl K) (kG K)  e21) sh_207 ⟨_, rfl, rfl⟩ (by decide) rfl rfl (Nat.le_of_ble_eq_true rfl) dX12_readsCondition_50 ?_
    refine ro_bipush (v := 40) hK dX12_readsCondition_53 (by decide) ?_
    refine ro_icmp_ne hK 83 dX12_readsCondition_55 (by decide) (fun c22 => ?_) (fun c22 => ?_)
    · have hf := ro_ie hf c22
      refine ro_aload_n hK 0 rfl dX12_readsCondition_83 rfl ?_
      obtain ⟨q23, e24, hf⟩ := ro_bd hf
      refine ro_callvi hK [] ml_X12_357 mv_X12_readsCompared (mt_X12_readsCompared (kl K) (kG K)  e24) sh_207 ⟨_, rfl, rfl⟩ (by decide) rfl rfl (Nat.le_of_ble_eq_true rfl) dX12_readsCondition_84 ?_
      refine ro_if_ne hK 92 dX12_readsCondition_87 (by decide) (fun c25 => ?_) (fun c25 => ?_)
      · have hf := ro_ie hf c25
        obtain ⟨q40, e41, hf⟩ := ro_bd hf
        refine lp_X12_readsCondition_92 hK hR  e41 ?_
        rcases q40 with e42 | e43
        · have hf := ro_el hf
          show ro_X K 143 [] [] e42
          obtain rfl := Option.some.inj hf
          exact hq
        · have hf := ro_er hf
          show ro_X K 152 [(0, .ref (ro_ad (kG K) 207))] [] e43
          refine ro_aload_n hK 0 rfl dX12_readsCondition_152 rfl ?_
          obtain ⟨q44, e45, hf⟩ := ro_bd hf
          refine ro_callvi hK [] ml_X12_259 mv_X12_here (mt_X12_here (kl K) (kG K)  e45) sh_207 ⟨_, rfl, rfl⟩ (by decide) rfl rfl (Nat.le_of_ble_eq_true rfl) dX12_readsCondition_153 ?_
          refine ro_bipush (v := 38) hK dX12_readsCondition_156 (by decide) ?_
          refine ro_icmp_eq hK 180 dX12_readsCondition_158 (by decide) (fun c46 => ?_) (fun c46 => ?_)
          · have hf := ro_it hf c46
            exact bj_X12_readsCondition_180 hK hR  hrec hf hq
          · have hf := ro_ie hf c46
            refine ro_aload_n hK 0 rfl dX12_readsCondition_161 rfl ?_
            obtain ⟨q59, e60, hf⟩ := ro_bd hf
            refine ro_callvi hK [] ml_X12_259 mv_X12_here (mt_X12_here (kl K) (kG K)  e60) sh_207 ⟨_, rfl, rfl⟩ (by decide) rfl rfl (Nat.le_of_ble_eq_true rfl) dX12_readsCondition_162 ?_
            refine ro_bipush (v := 124) hK dX12_readsCondition_165 (by decide) ?_
            refine ro_icmp_eq hK 180 dX12_readsCondition_167 (by decide) (fun c61 => ?_) (fun c61 => ?_)
            · have hf := ro_it hf c61
              exact bj_X12_readsCondition_180 hK hR  hrec hf hq
            · have hf := ro_ie hf c61
              obtain rfl := Option.some.inj hf
              exact hq
      · have hf := ro_it hf c25
        refine ro_sub (L' := []) [] rfl ?_
        obtain rfl := Option.some.inj hf
        exact hq
    · have hf := ro_it hf c22
      exact bj_X12_readsCondition_58 hK hR  hrec hf hq
def fl_X12_readsCondition_40  : ro_Mem → Option (ro_Mem ⊕ (ro_Mem ⊕ (ro_Mem ⊕ ro_Mem))) :=
  ro_loop (fun rec s => fb_X12_readsCondition_40 rec s) ro_FU
theorem lp_X12_readsCondition_40 {K : ro_K} (hK : ro_C K RX12 cX12_readsCondition 1 6) (hR : ro_R K (some .boolean))   {s : ro_Mem} {q : (ro_Mem ⊕ (ro_Mem ⊕ (ro_Mem ⊕ ro_Mem)))} (hf : fl_X12_readsCondition_40 s = some q) (hq : ok_X12_readsCondition_40 K q) : ro_X K 40 [(0, .ref (ro_ad (kG K) 207))] [] s :=
  ro_loopX (b := fun rec s => fb_X12_readsCondition_40 rec s) (X := fun s => ro_X K 40 [(0, .ref (ro_ad (kG K) 207))] [] s) (OK := ok_X12_readsCondition_40 K) (fun rec s q hrec hb ho => bb_X12_readsCondition_40 hK hR  hrec hb ho) ro_FU s q hf hq
def fn_X12_readsCondition (μ : ro_Mem) : Option (Int32 × ro_Mem) :=
  (fn_X12_here μ).bind fun q1 =>
  if q1 = 40 then
  (ro_lt (ro_set μ 207 34 0) fun m4 =>
  ro_lt (ro_set m4 207 36 0) fun m6 =>
  (fn_X12_opens 13 m6).bind fun q8 =>
  if q8.1 = 0 then
  (some (0, q8.2))
  else
  ((fl_X12_readsCondition_40  q8.2).bind fun q62 =>
  q62.elim (fun e64 => some (0, e64)) (fun e65 => e65.elim (fun e66 => some (0, e66)) (fun e67 => e67.elim (fun e68 => some (1, e68)) (fun e69 => (fn_X12_wrongAt 1 (e69 207 14) e69).bind fun q70 =>
  if q70.1 = 0 ∨ q70.1 = 1 then
  (some (q70.1, q70.2)) else none)))))
  else
  ((fn_X12_wrongAt 1 (μ 207 14) μ).bind fun q73 =>
  if q73.1 = 0 ∨ q73.1 = 1 then
  (some (q73.1, q73.2)) else none)
theorem be_X12_readsCondition {K : ro_K} (hK : ro_C K RX12 cX12_readsCondition 1 6) (hR : ro_R K (some .boolean))   {μ : ro_Mem} {out : Int32 × ro_Mem} (hf : fn_X12_readsCondition μ = some out) (hq : kQ K (some (.int out.1)) out.2) : ro_X K 0 [(0, .ref (ro_ad (kG K) 207))] [] μ := by
  unfold fn_X12_readsCondition at hf
  refine ro_aload_n hK 0 rfl dX12_readsCondition_0 rfl ?_
  obtain ⟨q1, e2, hf⟩ := ro_bd hf
  refine ro_callvi hK [] ml_X12_259 mv_X12_here (mt_X12_here (kl K) (kG K)  e2) sh_207 ⟨_, rfl, rfl⟩ (by decide) rfl rfl (Nat.le_of_ble_eq_true rfl) dX12_readsCondition_1 ?_
  refine ro_bipush (v := 40) hK dX12_readsCondition_4 (by decide) ?_
  refine ro_icmp_eq hK 19 dX12_readsCondition_6 (by decide) (fun c3 => ?_) (fun c3 => ?_)
  · have hf := ro_it hf c3
    refine ro_aload_n hK 0 rfl dX12_readsCondition_19 rfl ?_
    refine ro_iconst (v := 0) hK dX12_readsCondition_20 (by decide) ?_
    obtain ⟨m4, e5, hf⟩ := ro_ld hf
    refine ro_puti hK fl_X12_316 sh_207 rfl rfl dX12_readsCondition_21 ?_
    refine ro_mv e5 ?_
    refine ro_aload_n hK 0 rfl dX12_readsCondition_24 rfl ?_
    refine ro_iconst (v := 0) hK dX12_readsCondition_25 (by decide) ?_
    obtain ⟨m6, e7, hf⟩ := ro_ld hf
    refine ro_puti hK fl_X12_319 sh_207 rfl rfl dX12_readsCondition_26 ?_
    refine ro_mv e7 ?_
    refine ro_aload_n hK 0 rfl dX12_readsCondition_29 rfl ?_
    refine ro_bipush (v := 13) hK dX12_readsCondition_30 (by decide) ?_
    obtain ⟨q8, e9, hf⟩ := ro_bd hf
    refine ro_callvi hK [.int 13] ml_X12_329 mv_X12_opens (mt_X12_opens (kl K) (kG K)  e9) sh_207 ⟨_, rfl, rfl⟩ (by decide) rfl rfl (Nat.le_of_ble_eq_true rfl) dX12_readsCondition_32 ?_
    refine ro_if_ne hK 40 dX12_readsCondition_35 (by decide) (fun c10 => ?_) (fun c10 => ?_)
    · have hf := ro_ie hf c10
      obtain ⟨q62, e63, hf⟩ := ro_bd hf
      refine lp_X12_readsCondition_40 hK hR  e63 ?_
      rcases q62 with e64 | e65
      · have hf := ro_el hf
        show ro_X K 81 [] [] e64
        refine ro_iconst (v := 0) hK dX12_readsCondition_81 (by decide) ?_
        obtain rfl := Option.some.inj hf
        exact ro_zret hK hR dX12_readsCondition_82 (by decide) hq
      · have hf := ro_er hf
        rcases e65 with e66 | e67
        · have hf := ro_el hf
          show ro_X K 90 [] [] e66
          refine ro_iconst (v := 0) hK dX12_readsCondition_90 (by decide) ?_
          obtain rfl := Option.some.inj hf
          exact ro_zret hK hR dX12_readsCondition_91 (by decide) hq
        · have hf := ro_er hf
          rcases e67 with e68 | e69
          · have hf := ro_el hf
            show ro_X K 143 [] [] e68
            refine ro_iconst (v := 1) hK dX12_readsCondition_143 (by decide) ?_
            obtain rfl := Option.some.inj hf
            exact ro_zret hK hR dX12_readsCondition_144 (by decide) hq
          · have hf := ro_er hf
            show ro_X K 170 [(0, .ref (ro_ad (kG K) 207))] [] e69
            refine ro_aload_n hK 0 rfl dX12_readsCondition_170 rfl ?_
            refine ro_iconst (v := 1) hK dX12_readsCondition_171 (by decide) ?_
            refine ro_aload_n hK 0 rfl dX12_readsCondition_172 rfl ?_
            refine ro_geti hK fl_X12_249 sh_207 dX12_readsCondition_173 ?_
            obtain ⟨q70, e71, hf⟩ := ro_bd hf
            refine ro_callvi hK [.int 1, .int (e69 207 14)] ml_X12_263 mv_X12_wrongAt (mt_X12_wrongAt (kl K) (kG K)  e71) sh_207 ⟨_, rfl, rfl⟩ (by decide) rfl rfl (Nat.le_of_ble_eq_true rfl) dX12_readsCondition_176 ?_
            obtain ⟨g72, hf⟩ := ro_gd hf
            obtain rfl := Option.some.inj hf
            exact ro_zret hK hR dX12_readsCondition_179 g72 hq
    · have hf := ro_it hf c10
      refine ro_iconst (v := 0) hK dX12_readsCondition_38 (by decide) ?_
      obtain rfl := Option.some.inj hf
      exact ro_zret hK hR dX12_readsCondition_39 (by decide) hq
  · have hf := ro_ie hf c3
    refine ro_aload_n hK 0 rfl dX12_readsCondition_9 rfl ?_
    refine ro_iconst (v := 1) hK dX12_readsCondition_10 (by decide) ?_
    refine ro_aload_n hK 0 rfl dX12_readsCondition_11 rfl ?_
    refine ro_geti hK fl_X12_249 sh_207 dX12_readsCondition_12 ?_
    obtain ⟨q73, e74, hf⟩ := ro_bd hf
    refine ro_callvi hK [.int 1, .int (μ 207 14)] ml_X12_263 mv_X12_wrongAt (mt_X12_wrongAt (kl K) (kG K)  e74) sh_207 ⟨_, rfl, rfl⟩ (by decide) rfl rfl (Nat.le_of_ble_eq_true rfl) dX12_readsCondition_15 ?_
    obtain ⟨g75, hf⟩ := ro_gd hf
    obtain rfl := Option.some.inj hf
    exact ro_zret hK hR dX12_readsCondition_18 g75 hq
theorem mt_X12_readsCondition (l : Launch) (G : ro_G)   {μ : ro_Mem} {out : Int32 × ro_Mem} (hf : fn_X12_readsCondition μ = some out) : ro_MX l G yX12_readsCondition cX12_readsCondition 1 (some .boolean) 6 [.ref (ro_ad G 207)] μ (some (.int out.1)) out.2 := by
  refine ro_MX.of (by decide +kernel) (Nat.le_of_ble_eq_true rfl) (fun K hG hl hq hK hR => ?_)
  subst hG
  exact be_X12_readsCondition hK hR  hf hq
-- ===== X12_readsClause =====
theorem dX12_readsClause_0 : decode cX12_readsClause 0 = .ok (.aload_n 0, 1) := by decide +kernel
theorem dX12_readsClause_1 : decode cX12_readsClause 1 = .ok (.invokevirtual 259, 3) := by decide +kernel
theorem dX12_readsClause_4 : decode cX12_readsClause 4 = .ok (.istore_n 1, 1) := by decide +kernel
theorem dX12_readsClause_5 : decode cX12_readsClause 5 = .ok (.iload_n 1, 1) := by decide +kernel
theorem dX12_readsClause_6 : decode cX12_readsClause 6 = .ok (.bipush 100, 2) := by decide +kernel
theorem dX12_readsClause_8 : decode cX12_readsClause 8 = .ok (.if_icmp .eq 31, 3) := by decide +kernel
theorem dX12_readsClause_11 : decode cX12_readsClause 11 = .ok (.iload_n 1, 1) := by decide +kernel
theorem dX12_readsClause_12 : decode cX12_readsClause 12 = .ok (.bipush 115, 2) := by decide +kernel
theorem dX12_readsClause_14 : decode cX12_readsClause 14 = .ok (.if_icmp .eq 25, 3) := by decide +kernel
theorem dX12_readsClause_17 : decode cX12_readsClause 17 = .ok (.iload_n 1, 1) := by decide +kernel
theorem dX12_readsClause_18 : decode cX12_readsClause 18 = .ok (.bipush 109, 2) := by decide +kernel
theorem dX12_readsClause_20 : decode cX12_readsClause 20 = .ok (.if_icmp .eq 19, 3) := by decide +kernel
theorem dX12_readsClause_23 : decode cX12_readsClause 23 = .ok (.iload_n 1, 1) := by decide +kernel
theorem dX12_readsClause_24 : decode cX12_readsClause 24 = .ok (.bipush 113, 2) := by decide +kernel
theorem dX12_readsClause_26 : decode cX12_readsClause 26 = .ok (.if_icmp .eq 13, 3) := by decide +kernel
theorem dX12_readsClause_29 : decode cX12_readsClause 29 = .ok (.aload_n 0, 1) := by decide +kernel
theorem dX12_readsClause_30 : decode cX12_readsClause 30 = .ok (.iconst 1, 1) := by decide +kernel
theorem dX12_readsClause_31 : decode cX12_readsClause 31 = .ok (.aload_n 0, 1) := by decide +kernel
theorem dX12_readsClause_32 : decode cX12_readsClause 32 = .ok (.getfield 249, 3) := by decide +kernel
theorem dX12_readsClause_35 : decode cX12_readsClause 35 = .ok (.invokevirtual 263, 3) := by decide +kernel
theorem dX12_readsClause_38 : decode cX12_readsClause 38 = .ok (.ireturn, 1) := by decide +kernel
theorem dX12_readsClause_39 : decode cX12_readsClause 39 = .ok (.aload_n 0, 1) := by decide +kernel
theorem dX12_readsClause_40 : decode cX12_readsClause 40 = .ok (.getfield 366, 3) := by decide +kernel
theorem dX12_readsClause_43 : decode cX12_readsClause 43 = .ok (.bipush 14, 2) := by decide +kernel
theorem dX12_readsClause_45 : decode cX12_readsClause 45 = .ok (.if_icmp .ne 13, 3) := by decide +kernel
theorem dX12_readsClause_48 : decode cX12_readsClause 48 = .ok (.aload_n 0, 1) := by decide +kernel
theorem dX12_readsClause_49 : decode cX12_readsClause 49 = .ok (.iconst 4, 1) := by decide +kernel
theorem dX12_readsClause_50 : decode cX12_readsClause 50 = .ok (.aload_n 0, 1) := by decide +kernel
theorem dX12_readsClause_51 : decode cX12_readsClause 51 = .ok (.getfield 249, 3) := by decide +kernel
theorem dX12_readsClause_54 : decode cX12_readsClause 54 = .ok (.invokevirtual 263, 3) := by decide +kernel
theorem dX12_readsClause_57 : decode cX12_readsClause 57 = .ok (.ireturn, 1) := by decide +kernel
theorem dX12_readsClause_58 : decode cX12_readsClause 58 = .ok (.aload_n 0, 1) := by decide +kernel
theorem dX12_readsClause_59 : decode cX12_readsClause 59 = .ok (.getfield 78, 3) := by decide +kernel
theorem dX12_readsClause_62 : decode cX12_readsClause 62 = .ok (.aload_n 0, 1) := by decide +kernel
theorem dX12_readsClause_63 : decode cX12_readsClause 63 = .ok (.getfield 366, 3) := by decide +kernel
theorem dX12_readsClause_66 : decode cX12_readsClause 66 = .ok (.iload_n 1, 1) := by decide +kernel
theorem dX12_readsClause_67 : decode cX12_readsClause 67 = .ok (.iastore, 1) := by decide +kernel
theorem dX12_readsClause_68 : decode cX12_readsClause 68 = .ok (.aload_n 0, 1) := by decide +kernel
theorem dX12_readsClause_69 : decode cX12_readsClause 69 = .ok (.aload_n 0, 1) := by decide +kernel
theorem dX12_readsClause_70 : decode cX12_readsClause 70 = .ok (.getfield 249, 3) := by decide +kernel
theorem dX12_readsClause_73 : decode cX12_readsClause 73 = .ok (.iconst 1, 1) := by decide +kernel
theorem dX12_readsClause_74 : decode cX12_readsClause 74 = .ok (.iadd, 1) := by decide +kernel
theorem dX12_readsClause_75 : decode cX12_readsClause 75 = .ok (.putfield 249, 3) := by decide +kernel
theorem dX12_readsClause_78 : decode cX12_readsClause 78 = .ok (.aload_n 0, 1) := by decide +kernel
theorem dX12_readsClause_79 : decode cX12_readsClause 79 = .ok (.getfield 81, 3) := by decide +kernel
theorem dX12_readsClause_82 : decode cX12_readsClause 82 = .ok (.aload_n 0, 1) := by decide +kernel
theorem dX12_readsClause_83 : decode cX12_readsClause 83 = .ok (.getfield 366, 3) := by decide +kernel
theorem dX12_readsClause_86 : decode cX12_readsClause 86 = .ok (.aload_n 0, 1) := by decide +kernel
theorem dX12_readsClause_87 : decode cX12_readsClause 87 = .ok (.getfield 312, 3) := by decide +kernel
theorem dX12_readsClause_90 : decode cX12_readsClause 90 = .ok (.iastore, 1) := by decide +kernel
theorem dX12_readsClause_91 : decode cX12_readsClause 91 = .ok (.aload_n 0, 1) := by decide +kernel
theorem dX12_readsClause_92 : decode cX12_readsClause 92 = .ok (.iconst 0, 1) := by decide +kernel
theorem dX12_readsClause_93 : decode cX12_readsClause 93 = .ok (.putfield 316, 3) := by decide +kernel
theorem dX12_readsClause_96 : decode cX12_readsClause 96 = .ok (.aload_n 0, 1) := by decide +kernel
theorem dX12_readsClause_97 : decode cX12_readsClause 97 = .ok (.iconst 0, 1) := by decide +kernel
theorem dX12_readsClause_98 : decode cX12_readsClause 98 = .ok (.putfield 319, 3) := by decide +kernel
theorem dX12_readsClause_101 : decode cX12_readsClause 101 = .ok (.iload_n 1, 1) := by decide +kernel
theorem dX12_readsClause_102 : decode cX12_readsClause 102 = .ok (.bipush 115, 2) := by decide +kernel
theorem dX12_readsClause_104 : decode cX12_readsClause 104 = .ok (.if_icmp .eq 12, 3) := by decide +kernel
theorem dX12_readsClause_107 : decode cX12_readsClause 107 = .ok (.aload_n 0, 1) := by decide +kernel
theorem dX12_readsClause_108 : decode cX12_readsClause 108 = .ok (.invokevirtual 351, 3) := by decide +kernel
theorem dX12_readsClause_111 : decode cX12_readsClause 111 = .ok (.ifCond .ne 5, 3) := by decide +kernel
theorem dX12_readsClause_114 : decode cX12_readsClause 114 = .ok (.iconst 0, 1) := by decide +kernel
theorem dX12_readsClause_115 : decode cX12_readsClause 115 = .ok (.ireturn, 1) := by decide +kernel
theorem dX12_readsClause_116 : decode cX12_readsClause 116 = .ok (.aload_n 0, 1) := by decide +kernel
theorem dX12_readsClause_117 : decode cX12_readsClause 117 = .ok (.getfield 84, 3) := by decide +kernel
theorem dX12_readsClause_120 : decode cX12_readsClause 120 = .ok (.aload_n 0, 1) := by decide +kernel
theorem dX12_readsClause_121 : decode cX12_readsClause 121 = .ok (.getfield 366, 3) := by decide +kernel
theorem dX12_readsClause_124 : decode cX12_readsClause 124 = .ok (.aload_n 0, 1) := by decide +kernel
theorem dX12_readsClause_125 : decode cX12_readsClause 125 = .ok (.getfield 312, 3) := by decide +kernel
theorem dX12_readsClause_128 : decode cX12_readsClause 128 = .ok (.iastore, 1) := by decide +kernel
theorem dX12_readsClause_129 : decode cX12_readsClause 129 = .ok (.aload_n 0, 1) := by decide +kernel
theorem dX12_readsClause_130 : decode cX12_readsClause 130 = .ok (.invokevirtual 369, 3) := by decide +kernel
theorem dX12_readsClause_133 : decode cX12_readsClause 133 = .ok (.ifCond .ne 5, 3) := by decide +kernel
theorem dX12_readsClause_136 : decode cX12_readsClause 136 = .ok (.iconst 0, 1) := by decide +kernel
theorem dX12_readsClause_137 : decode cX12_readsClause 137 = .ok (.ireturn, 1) := by decide +kernel
theorem dX12_readsClause_138 : decode cX12_readsClause 138 = .ok (.aload_n 0, 1) := by decide +kernel
theorem dX12_readsClause_139 : decode cX12_readsClause 139 = .ok (.getfield 87, 3) := by decide +kernel
theorem dX12_readsClause_142 : decode cX12_readsClause 142 = .ok (.aload_n 0, 1) := by decide +kernel
theorem dX12_readsClause_143 : decode cX12_readsClause 143 = .ok (.getfield 366, 3) := by decide +kernel
theorem dX12_readsClause_146 : decode cX12_readsClause 146 = .ok (.aload_n 0, 1) := by decide +kernel
theorem dX12_readsClause_147 : decode cX12_readsClause 147 = .ok (.getfield 312, 3) := by decide +kernel
theorem dX12_readsClause_150 : decode cX12_readsClause 150 = .ok (.iastore, 1) := by decide +kernel
theorem dX12_readsClause_151 : decode cX12_readsClause 151 = .ok (.aload_n 0, 1) := by decide +kernel
theorem dX12_readsClause_152 : decode cX12_readsClause 152 = .ok (.aload_n 0, 1) := by decide +kernel
theorem dX12_readsClause_153 : decode cX12_readsClause 153 = .ok (.getfield 366, 3) := by decide +kernel
theorem dX12_readsClause_156 : decode cX12_readsClause 156 = .ok (.iconst 1, 1) := by decide +kernel
theorem dX12_readsClause_157 : decode cX12_readsClause 157 = .ok (.iadd, 1) := by decide +kernel
theorem dX12_readsClause_158 : decode cX12_readsClause 158 = .ok (.putfield 366, 3) := by decide +kernel
theorem dX12_readsClause_161 : decode cX12_readsClause 161 = .ok (.iconst 1, 1) := by decide +kernel
theorem dX12_readsClause_162 : decode cX12_readsClause 162 = .ok (.ireturn, 1) := by decide +kernel
def fj_X12_readsClause_116 (μ : ro_Mem) : Option (Int32 × ro_Mem) :=
  if ro_in (μ 207 37) 14 then
  (ro_lt (ro_set μ 232 (μ 207 37).toNatClampNeg (μ 207 35)) fun m19 =>
  (fn_X12_readsCondition m19).bind fun q21 =>
  if q21.1 = 0 then
  (some (0, q21.2))
  else
  (if ro_in (q21.2 207 37) 14 then
  (ro_lt (ro_set q21.2 233 (q21.2 207 37).toNatClampNeg (q21.2 207 35)) fun m25 =>
  ro_lt (ro_set m25 207 37 ((m25 207 37) + 1)) fun m27 =>
  some (1, m27)) else none)) else none
theorem bj_X12_readsClause_116 {K : ro_K} (hK : ro_C K RX12 cX12_readsClause 2 7) (hR : ro_R K (some .boolean))    {μ : ro_Mem}  {out : Int32 × ro_Mem} (hf : fj_X12_readsClause_116 μ = some out) (hq : kQ K (some (.int out.1)) out.2) : ro_X K 116 [(0, .ref (ro_ad (kG K) 207))] [] μ := by
  unfold fj_X12_readsClause_116 at hf
  refine ro_aload_n hK 0 rfl dX12_readsClause_116 rfl ?_
  refine ro_getr hK fl_X12_84 sh_207 dX12_readsClause_117 ?_
  refine ro_aload_n hK 0 rfl dX12_readsClause_120 rfl ?_
  refine ro_geti hK fl_X12_366 sh_207 dX12_readsClause_121 ?_
  refine ro_aload_n hK 0 rfl dX12_readsClause_124 rfl ?_
  refine ro_geti hK fl_X12_312 sh_207 dX12_readsClause_125 ?_
  obtain ⟨g18, hf⟩ := ro_gd hf
  obtain ⟨m19, e20, hf⟩ := ro_ld hf
  refine ro_iast hK sh_232 g18 dX12_readsClause_128 ?_
  refine ro_mv e20 ?_
  refine ro_aload_n hK 0 rfl dX12_readsClause_129 rfl ?_
  obtain ⟨q21, e22, hf⟩ := ro_bd hf
  refine ro_callvi hK [] ml_X12_369 mv_X12_readsCondition (mt_X12_readsCondition (kl K) (kG K)  e22) sh_207 ⟨_, rfl, rfl⟩ (by decide) rfl rfl (Nat.le_of_ble_eq_true rfl) dX12_readsClause_130 ?_
  refine ro_if_ne hK 138 dX12_readsClause_133 (by decide) (fun c23 => ?_) (fun c23 => ?_)
  · have hf := ro_ie hf c23
    refine ro_aload_n hK 0 rfl dX12_readsClause_138 rfl ?_
    refine ro_getr hK fl_X12_87 sh_207 dX12_readsClause_139 ?_
    refine ro_aload_n hK 0 rfl dX12_readsClause_142 rfl ?_
    refine ro_geti hK fl_X12_366 sh_207 dX12_readsClause_143 ?_
    refine ro_aload_n hK 0 rfl dX12_readsClause_146 rfl ?_
    refine ro_geti hK fl_X12_312 sh_207 dX12_readsClause_147 ?_
    obtain ⟨g24, hf⟩ := ro_gd hf
    obtain ⟨m25, e26, hf⟩ := ro_ld hf
    refine ro_iast hK sh_233 g24 dX12_readsClause_150 ?_
    refine ro_mv e26 ?_
    refine ro_aload_n hK 0 rfl dX12_readsClause_151 rfl ?_
    refine ro_aload_n hK 0 rfl dX12_readsClause_152 rfl ?_
    refine ro_geti hK fl_X12_366 sh_207 dX12_readsClause_153 ?_
    refine ro_iconst (v := 1) hK dX12_readsClause_156 (by decide) ?_
    refine ro_iadd hK dX12_readsClause_157 ?_
    obtain ⟨m27, e28, hf⟩ := ro_ld hf
    refine ro_puti hK fl_X12_366 sh_207 rfl rfl dX12_readsClause_158 ?_
    refine ro_mv e28 ?_
    refine ro_iconst (v := 1) hK dX12_readsClause_161 (by decide) ?_
    obtain rfl := Option.some.inj hf
    exact ro_zret hK hR dX12_readsClause_162 (by decide) hq
  · have hf := ro_it hf c23
    refine ro_iconst (v := 0) hK dX12_readsClause_136 (by decide) ?_
    obtain rfl := Option.some.inj hf
    exact ro_zret hK hR dX12_readsClause_137 (by decide) hq
def fj_X12_readsClause_39 (v1 : Int32) (μ : ro_Mem) : Option (Int32 × ro_Mem) :=
  if (μ 207 37) = 14 then
  ((fn_X12_wrongAt 4 (μ 207 14) μ).bind fun q32 =>
  if q32.1 = 0 ∨ q32.1 = 1 then
  (some (q32.1, q32.2)) else none)
  else
  (if ro_in (μ 207 37) 14 then
  (ro_lt (ro_set μ 230 (μ 207 37).toNatClampNeg v1) fun m6 =>
  ro_lt (ro_set m6 207 14 ((m6 207 14) + 1)) fun m8 =>
  if ro_in (m8 207 37) 14 then
  (ro_lt (ro_set m8 231 (m8 207 37).toNatClampNeg (m8 207 35)) fun m11 =>
  ro_lt (ro_set m11 207 34 0) fun m13 =>
  ro_lt (ro_set m13 207 36 0) fun m15 =>
  if v1 = 115 then
  (fj_X12_readsClause_116 m15)
  else
  ((fn_X12_readsSum m15).bind fun q29 =>
  if q29.1 = 0 then
  (some (0, q29.2))
  else
  (fj_X12_readsClause_116 q29.2))) else none) else none)
theorem bj_X12_readsClause_39 {K : ro_K} (hK : ro_C K RX12 cX12_readsClause 2 7) (hR : ro_R K (some .boolean)) {v1 : Int32}   {μ : ro_Mem}  {out : Int32 × ro_Mem} (hf : fj_X12_readsClause_39 v1 μ = some out) (hq : kQ K (some (.int out.1)) out.2) : ro_X K 39 [(0, .ref (ro_ad (kG K) 207)), (1, .int v1)] [] μ := by
  unfold fj_X12_readsClause_39 at hf
  refine ro_aload_n hK 0 rfl dX12_readsClause_39 rfl ?_
  refine ro_geti hK fl_X12_366 sh_207 dX12_readsClause_40 ?_
  refine ro_bipush (v := 14) hK dX12_readsClause_43 (by decide) ?_
  refine ro_icmp_ne hK 58 dX12_readsClause_45 (by decide) (fun c4 => ?_) (fun c4 => ?_)
  · have hf := ro_ie hf c4
    refine ro_aload_n hK 0 rfl dX12_readsClause_58 rfl ?_
    refine ro_getr hK fl_X12_78 sh_207 dX12_readsClause_59 ?_
    refine ro_aload_n hK 0 rfl dX12_readsClause_62 rfl ?_
    refine ro_geti hK fl_X12_366 sh_207 dX12_readsClause_63 ?_
    refine ro_iload_n hK 1 rfl dX12_readsClause_66 rfl ?_
    obtain ⟨g5, hf⟩ := ro_gd hf
    obtain ⟨m6, e7, hf⟩ := ro_ld hf
    refine ro_iast hK sh_230 g5 dX12_readsClause_67 ?_
    refine ro_mv e7 ?_
    refine ro_aload_n hK 0 rfl dX12_readsClause_68 rfl ?_
    refine ro_aload_n hK 0 rfl dX12_readsClause_69 rfl ?_
    refine ro_geti hK fl_X12_249 sh_207 dX12_readsClause_70 ?_
    refine ro_iconst (v := 1) hK dX12_readsClause_73 (by decide) ?_
    refine ro_iadd hK dX12_readsClause_74 ?_
    obtain ⟨m8, e9, hf⟩ := ro_ld hf
    refine ro_puti hK fl_X12_249 sh_207 rfl rfl dX12_readsClause_75 ?_
    refine ro_mv e9 ?_
    refine ro_aload_n hK 0 rfl dX12_readsClause_78 rfl ?_
    refine ro_getr hK fl_X12_81 sh_207 dX12_readsClause_79 ?_
    refine ro_aload_n hK 0 rfl dX12_readsClause_82 rfl ?_
    refine ro_geti hK fl_X12_366 sh_207 dX12_readsClause_83 ?_
    refine ro_aload_n hK 0 rfl dX12_readsClause_86 rfl ?_
    refine ro_geti hK fl_X12_312 sh_207 dX12_readsClause_87 ?_
    obtain ⟨g10, hf⟩ := ro_gd hf
    obtain ⟨m11, e12, hf⟩ := ro_ld hf
    refine ro_iast hK sh_231 g10 dX12_readsClause_90 ?_
    refine ro_mv e12 ?_
    refine ro_aload_n hK 0 rfl dX12_readsClause_91 rfl ?_
    refine ro_iconst (v := 0) hK dX12_readsClause_92 (by decide) ?_
    obtain ⟨m13, e14, hf⟩ := ro_ld hf
    refine ro_puti hK fl_X12_316 sh_207 rfl rfl dX12_readsClause_93 ?_
    refine ro_mv e14 ?_
    refine ro_aload_n hK 0 rfl dX12_readsClause_96 rfl ?_
    refine ro_iconst (v := 0) hK dX12_readsClause_97 (by decide) ?_
    obtain ⟨m15, e16, hf⟩ := ro_ld hf
    refine ro_puti hK fl_X12_319 sh_207 rfl rfl dX12_readsClause_98 ?_
    refine ro_mv e16 ?_
    refine ro_iload_n hK 1 rfl dX12_readsClause_101 rfl ?_
    refine ro_bipush (v := 115) hK dX12_readsClause_102 (by decide) ?_
    refine ro_icmp_eq hK 116 dX12_readsClause_104 (by decide) (fun c17 => ?_) (fun c17 => ?_)
    · have hf := ro_it hf c17
      refine ro_sub (L' := [(0, .ref (ro_ad (kG K) 207))]) [0] rfl ?_
      exact bj_X12_readsClause_116 hK hR  hf hq
    · have hf := ro_ie hf c17
      refine ro_aload_n hK 0 rfl dX12_readsClause_107 rfl ?_
      obtain ⟨q29, e30, hf⟩ := ro_bd hf
      refine ro_callvi hK [] ml_X12_351 mv_X12_readsSum (mt_X12_readsSum (kl K) (kG K)  e30) sh_207 ⟨_, rfl, rfl⟩ (by decide) rfl rfl (Nat.le_of_ble_eq_true rfl) dX12_readsClause_108 ?_
      refine ro_if_ne hK 116 dX12_readsClause_111 (by decide) (fun c31 => ?_) (fun c31 => ?_)
      · have hf := ro_ie hf c31
        refine ro_sub (L' := [(0, .ref (ro_ad (kG K) 207))]) [0] rfl ?_
        exact bj_X12_readsClause_116 hK hR  hf hq
      · have hf := ro_it hf c31
        refine ro_iconst (v := 0) hK dX12_readsClause_114 (by decide) ?_
        obtain rfl := Option.some.inj hf
        exact ro_zret hK hR dX12_readsClause_115 (by decide) hq
  · have hf := ro_it hf c4
    refine ro_aload_n hK 0 rfl dX12_readsClause_48 rfl ?_
    refine ro_iconst (v := 4) hK dX12_readsClause_49 (by decide) ?_
    refine ro_aload_n hK 0 rfl dX12_readsClause_50 rfl ?_
    refine ro_geti hK fl_X12_249 sh_207 dX12_readsClause_51 ?_
    obtain ⟨q32, e33, hf⟩ := ro_bd hf
    refine ro_callvi hK [.int 4, .int (μ 207 14)] ml_X12_263 mv_X12_wrongAt (mt_X12_wrongAt (kl K) (kG K)  e33) sh_207 ⟨_, rfl, rfl⟩ (by decide) rfl rfl (Nat.le_of_ble_eq_true rfl) dX12_readsClause_54 ?_
    obtain ⟨g34, hf⟩ := ro_gd hf
    obtain rfl := Option.some.inj hf
    exact ro_zret hK hR dX12_readsClause_57 g34 hq
def fn_X12_readsClause (μ : ro_Mem) : Option (Int32 × ro_Mem) :=
  (fn_X12_here μ).bind fun q1 =>
  if q1 = 100 then
  (fj_X12_readsClause_39 q1 μ)
  else
  (if q1 = 115 then
  (fj_X12_readsClause_39 q1 μ)
  else
  (if q1 = 109 then
  (fj_X12_readsClause_39 q1 μ)
  else
  (if q1 = 113 then
  (fj_X12_readsClause_39 q1 μ)
  else
  ((fn_X12_wrongAt 1 (μ 207 14) μ).bind fun q38 =>
  if q38.1 = 0 ∨ q38.1 = 1 then
  (some (q38.1, q38.2)) else none))))
theorem be_X12_readsClause {K : ro_K} (hK : ro_C K RX12 cX12_readsClause 2 7) (hR : ro_R K (some .boolean))   {μ : ro_Mem} {out : Int32 × ro_Mem} (hf : fn_X12_readsClause μ = some out) (hq : kQ K (some (.int out.1)) out.2) : ro_X K 0 [(0, .ref (ro_ad (kG K) 207))] [] μ := by
  unfold fn_X12_readsClause at hf
  refine ro_aload_n hK 0 rfl dX12_readsClause_0 rfl ?_
  obtain ⟨q1, e2, hf⟩ := ro_bd hf
  refine ro_callvi hK [] ml_X12_259 mv_X12_here (mt_X12_here (kl K) (kG K)  e2) sh_207 ⟨_, rfl, rfl⟩ (by decide) rfl rfl (Nat.le_of_ble_eq_true rfl) dX12_readsClause_1 ?_
  refine ro_istore_n (L' := [(1, .int q1), (0, .ref (ro_ad (kG K) 207))]) hK dX12_readsClause_4 rfl (by decide) rfl ?_
  refine ro_iload_n hK 0 rfl dX12_readsClause_5 rfl ?_
  refine ro_bipush (v := 100) hK dX12_readsClause_6 (by decide) ?_
  refine ro_icmp_eq hK 39 dX12_readsClause_8 (by decide) (fun c3 => ?_) (fun c3 => ?_)
  · have hf := ro_it hf c3
    refine ro_sub (L' := [(0, .ref (ro_ad (kG K) 207)), (1, .int q1)]) [1, 0] rfl ?_
    exact bj_X12_readsClause_39 hK hR  hf hq
  · have hf := ro_ie hf c3
    refine ro_iload_n hK 0 rfl dX12_readsClause_11 rfl ?_
    refine ro_bipush (v := 115) hK dX12_readsClause_12 (by decide) ?_
    refine ro_icmp_eq hK 39 dX12_readsClause_14 (by decide) (fun c35 => ?_) (fun c35 => ?_)
    · have hf := ro_it hf c35
      refine ro_sub (L' := [(0, .ref (ro_ad (kG K) 207)), (1, .int q1)]) [1, 0] rfl ?_
      exact bj_X12_readsClause_39 hK hR  hf hq
    · have hf := ro_ie hf c35
      refine ro_iload_n hK 0 rfl dX12_readsClause_17 rfl ?_
      refine ro_bipush (v := 109) hK dX12_readsClause_18 (by decide) ?_
      refine ro_icmp_eq hK 39 dX12_readsClause_20 (by decide) (fun c36 => ?_) (fun c36 => ?_)
      · have hf := ro_it hf c36
        refine ro_sub (L' := [(0, .ref (ro_ad (kG K) 207)), (1, .int q1)]) [1, 0] rfl ?_
        exact bj_X12_readsClause_39 hK hR  hf hq
      · have hf := ro_ie hf c36
        refine ro_iload_n hK 0 rfl dX12_readsClause_23 rfl ?_
        refine ro_bipush (v := 113) hK dX12_readsClause_24 (by decide) ?_
        refine ro_icmp_eq hK 39 dX12_readsClause_26 (by decide) (fun c37 => ?_) (fun c37 => ?_)
        · have hf := ro_it hf c37
          refine ro_sub (L' := [(0, .ref (ro_ad (kG K) 207)), (1, .int q1)]) [1, 0] rfl ?_
          exact bj_X12_readsClause_39 hK hR  hf hq
        · have hf := ro_ie hf c37
          refine ro_aload_n hK 1 rfl dX12_readsClause_29 rfl ?_
          refine ro_iconst (v := 1) hK dX12_readsClause_30 (by decide) ?_
          refine ro_aload_n hK 1 rfl dX12_readsClause_31 rfl ?_
          refine ro_geti hK fl_X12_249 sh_207 dX12_readsClause_32 ?_
          obtain ⟨q38, e39, hf⟩ := ro_bd hf
          refine ro_callvi hK [.int 1, .int (μ 207 14)] ml_X12_263 mv_X12_wrongAt (mt_X12_wrongAt (kl K) (kG K)  e39) sh_207 ⟨_, rfl, rfl⟩ (by decide) rfl rfl (Nat.le_of_ble_eq_true rfl) dX12_readsClause_35 ?_
          obtain ⟨g40, hf⟩ := ro_gd hf
          obtain rfl := Option.some.inj hf
          exact ro_zret hK hR dX12_readsClause_38 g40 hq
theorem mt_X12_readsClause (l : Launch) (G : ro_G)   {μ : ro_Mem} {out : Int32 × ro_Mem} (hf : fn_X12_readsClause μ = some out) : ro_MX l G yX12_readsClause cX12_readsClause 2 (some .boolean) 7 [.ref (ro_ad G 207)] μ (some (.int out.1)) out.2 := by
  refine ro_MX.of (by decide +kernel) (Nat.le_of_ble_eq_true rfl) (fun K hG hl hq hK hR => ?_)
  subst hG
  exact be_X12_readsClause hK hR  hf hq
-- ===== X12_law =====
theorem dX12_law_0 : decode cX12_law 0 = .ok (.iload_n 1, 1) := by decide +kernel
theorem dX12_law_1 : decode cX12_law 1 = .ok (.iconst 1, 1) := by decide +kernel
theorem dX12_law_2 : decode cX12_law 2 = .ok (.sipush 200, 3) := by decide +kernel
theorem dX12_law_5 : decode cX12_law 5 = .ok (.invokestatic 215, 3) := by decide +kernel
theorem dX12_law_8 : decode cX12_law 8 = .ok (.ifCond .eq 11, 3) := by decide +kernel
theorem dX12_law_11 : decode cX12_law 11 = .ok (.iload_n 1, 1) := by decide +kernel
theorem dX12_law_12 : decode cX12_law 12 = .ok (.aload_n 0, 1) := by decide +kernel
theorem dX12_law_13 : decode cX12_law 13 = .ok (.getfield 242, 3) := by decide +kernel
theorem dX12_law_16 : decode cX12_law 16 = .ok (.if_icmp .le 5, 3) := by decide +kernel
theorem dX12_law_19 : decode cX12_law 19 = .ok (.iconst (-1), 1) := by decide +kernel
theorem dX12_law_20 : decode cX12_law 20 = .ok (.ireturn, 1) := by decide +kernel
theorem dX12_law_21 : decode cX12_law 21 = .ok (.aload_n 0, 1) := by decide +kernel
theorem dX12_law_22 : decode cX12_law 22 = .ok (.iconst 0, 1) := by decide +kernel
theorem dX12_law_23 : decode cX12_law 23 = .ok (.putfield 249, 3) := by decide +kernel
theorem dX12_law_26 : decode cX12_law 26 = .ok (.aload_n 0, 1) := by decide +kernel
theorem dX12_law_27 : decode cX12_law 27 = .ok (.iload_n 1, 1) := by decide +kernel
theorem dX12_law_28 : decode cX12_law 28 = .ok (.putfield 288, 3) := by decide +kernel
theorem dX12_law_31 : decode cX12_law 31 = .ok (.aload_n 0, 1) := by decide +kernel
theorem dX12_law_32 : decode cX12_law 32 = .ok (.iconst 0, 1) := by decide +kernel
theorem dX12_law_33 : decode cX12_law 33 = .ok (.putfield 312, 3) := by decide +kernel
theorem dX12_law_36 : decode cX12_law 36 = .ok (.aload_n 0, 1) := by decide +kernel
theorem dX12_law_37 : decode cX12_law 37 = .ok (.iconst 0, 1) := by decide +kernel
theorem dX12_law_38 : decode cX12_law 38 = .ok (.putfield 366, 3) := by decide +kernel
theorem dX12_law_41 : decode cX12_law 41 = .ok (.aload_n 0, 1) := by decide +kernel
theorem dX12_law_42 : decode cX12_law 42 = .ok (.invokevirtual 372, 3) := by decide +kernel
theorem dX12_law_45 : decode cX12_law 45 = .ok (.istore_n 2, 1) := by decide +kernel
theorem dX12_law_46 : decode cX12_law 46 = .ok (.iload_n 2, 1) := by decide +kernel
theorem dX12_law_47 : decode cX12_law 47 = .ok (.ifCond .eq 39, 3) := by decide +kernel
theorem dX12_law_50 : decode cX12_law 50 = .ok (.aload_n 0, 1) := by decide +kernel
theorem dX12_law_51 : decode cX12_law 51 = .ok (.getfield 249, 3) := by decide +kernel
theorem dX12_law_54 : decode cX12_law 54 = .ok (.aload_n 0, 1) := by decide +kernel
theorem dX12_law_55 : decode cX12_law 55 = .ok (.getfield 288, 3) := by decide +kernel
theorem dX12_law_58 : decode cX12_law 58 = .ok (.if_icmp .ge 28, 3) := by decide +kernel
theorem dX12_law_61 : decode cX12_law 61 = .ok (.aload_n 0, 1) := by decide +kernel
theorem dX12_law_62 : decode cX12_law 62 = .ok (.bipush 59, 2) := by decide +kernel
theorem dX12_law_64 : decode cX12_law 64 = .ok (.invokevirtual 276, 3) := by decide +kernel
theorem dX12_law_67 : decode cX12_law 67 = .ok (.ifCond .eq 14, 3) := by decide +kernel
theorem dX12_law_70 : decode cX12_law 70 = .ok (.aload_n 0, 1) := by decide +kernel
theorem dX12_law_71 : decode cX12_law 71 = .ok (.invokevirtual 372, 3) := by decide +kernel
theorem dX12_law_74 : decode cX12_law 74 = .ok (.ifCond .eq 7, 3) := by decide +kernel
theorem dX12_law_77 : decode cX12_law 77 = .ok (.iconst 1, 1) := by decide +kernel
theorem dX12_law_78 : decode cX12_law 78 = .ok (.goto 4, 3) := by decide +kernel
theorem dX12_law_81 : decode cX12_law 81 = .ok (.iconst 0, 1) := by decide +kernel
theorem dX12_law_82 : decode cX12_law 82 = .ok (.istore_n 2, 1) := by decide +kernel
theorem dX12_law_83 : decode cX12_law 83 = .ok (.goto (-37), 3) := by decide +kernel
theorem dX12_law_86 : decode cX12_law 86 = .ok (.aload_n 0, 1) := by decide +kernel
theorem dX12_law_87 : decode cX12_law 87 = .ok (.iconst 0, 1) := by decide +kernel
theorem dX12_law_88 : decode cX12_law 88 = .ok (.putfield 242, 3) := by decide +kernel
theorem dX12_law_91 : decode cX12_law 91 = .ok (.iload_n 2, 1) := by decide +kernel
theorem dX12_law_92 : decode cX12_law 92 = .ok (.ifCond .ne 8, 3) := by decide +kernel
theorem dX12_law_95 : decode cX12_law 95 = .ok (.aload_n 0, 1) := by decide +kernel
theorem dX12_law_96 : decode cX12_law 96 = .ok (.getfield 297, 3) := by decide +kernel
theorem dX12_law_99 : decode cX12_law 99 = .ok (.ireturn, 1) := by decide +kernel
theorem dX12_law_100 : decode cX12_law 100 = .ok (.aload_n 0, 1) := by decide +kernel
theorem dX12_law_101 : decode cX12_law 101 = .ok (.aload_n 0, 1) := by decide +kernel
theorem dX12_law_102 : decode cX12_law 102 = .ok (.getfield 366, 3) := by decide +kernel
theorem dX12_law_105 : decode cX12_law 105 = .ok (.putfield 375, 3) := by decide +kernel
theorem dX12_law_108 : decode cX12_law 108 = .ok (.iconst 0, 1) := by decide +kernel
theorem dX12_law_109 : decode cX12_law 109 = .ok (.istore_n 3, 1) := by decide +kernel
theorem dX12_law_110 : decode cX12_law 110 = .ok (.iload_n 3, 1) := by decide +kernel
theorem dX12_law_111 : decode cX12_law 111 = .ok (.aload_n 0, 1) := by decide +kernel
theorem dX12_law_112 : decode cX12_law 112 = .ok (.getfield 312, 3) := by decide +kernel
theorem dX12_law_115 : decode cX12_law 115 = .ok (.if_icmp .ge 21, 3) := by decide +kernel
theorem dX12_law_118 : decode cX12_law 118 = .ok (.aload_n 0, 1) := by decide +kernel
theorem dX12_law_119 : decode cX12_law 119 = .ok (.getfield 90, 3) := by decide +kernel
theorem dX12_law_122 : decode cX12_law 122 = .ok (.iload_n 3, 1) := by decide +kernel
theorem dX12_law_123 : decode cX12_law 123 = .ok (.aload_n 0, 1) := by decide +kernel
theorem dX12_law_124 : decode cX12_law 124 = .ok (.getfield 72, 3) := by decide +kernel
theorem dX12_law_127 : decode cX12_law 127 = .ok (.iload_n 3, 1) := by decide +kernel
theorem dX12_law_128 : decode cX12_law 128 = .ok (.iaload, 1) := by decide +kernel
theorem dX12_law_129 : decode cX12_law 129 = .ok (.iastore, 1) := by decide +kernel
theorem dX12_law_130 : decode cX12_law 130 = .ok (.iinc 3 1, 3) := by decide +kernel
theorem dX12_law_133 : decode cX12_law 133 = .ok (.goto (-23), 3) := by decide +kernel
theorem dX12_law_136 : decode cX12_law 136 = .ok (.iconst 0, 1) := by decide +kernel
theorem dX12_law_137 : decode cX12_law 137 = .ok (.istore_n 3, 1) := by decide +kernel
theorem dX12_law_138 : decode cX12_law 138 = .ok (.iload_n 3, 1) := by decide +kernel
theorem dX12_law_139 : decode cX12_law 139 = .ok (.aload_n 0, 1) := by decide +kernel
theorem dX12_law_140 : decode cX12_law 140 = .ok (.getfield 366, 3) := by decide +kernel
theorem dX12_law_143 : decode cX12_law 143 = .ok (.if_icmp .ge 57, 3) := by decide +kernel
theorem dX12_law_146 : decode cX12_law 146 = .ok (.aload_n 0, 1) := by decide +kernel
theorem dX12_law_147 : decode cX12_law 147 = .ok (.getfield 93, 3) := by decide +kernel
theorem dX12_law_150 : decode cX12_law 150 = .ok (.iload_n 3, 1) := by decide +kernel
theorem dX12_law_151 : decode cX12_law 151 = .ok (.aload_n 0, 1) := by decide +kernel
theorem dX12_law_152 : decode cX12_law 152 = .ok (.getfield 78, 3) := by decide +kernel
theorem dX12_law_155 : decode cX12_law 155 = .ok (.iload_n 3, 1) := by decide +kernel
theorem dX12_law_156 : decode cX12_law 156 = .ok (.iaload, 1) := by decide +kernel
theorem dX12_law_157 : decode cX12_law 157 = .ok (.iastore, 1) := by decide +kernel
theorem dX12_law_158 : decode cX12_law 158 = .ok (.aload_n 0, 1) := by decide +kernel
theorem dX12_law_159 : decode cX12_law 159 = .ok (.getfield 96, 3) := by decide +kernel
theorem dX12_law_162 : decode cX12_law 162 = .ok (.iload_n 3, 1) := by decide +kernel
theorem dX12_law_163 : decode cX12_law 163 = .ok (.aload_n 0, 1) := by decide +kernel
theorem dX12_law_164 : decode cX12_law 164 = .ok (.getfield 81, 3) := by decide +kernel
theorem dX12_law_167 : decode cX12_law 167 = .ok (.iload_n 3, 1) := by decide +kernel
theorem dX12_law_168 : decode cX12_law 168 = .ok (.iaload, 1) := by decide +kernel
theorem dX12_law_169 : decode cX12_law 169 = .ok (.iastore, 1) := by decide +kernel
theorem dX12_law_170 : decode cX12_law 170 = .ok (.aload_n 0, 1) := by decide +kernel
theorem dX12_law_171 : decode cX12_law 171 = .ok (.getfield 99, 3) := by decide +kernel
theorem dX12_law_174 : decode cX12_law 174 = .ok (.iload_n 3, 1) := by decide +kernel
theorem dX12_law_175 : decode cX12_law 175 = .ok (.aload_n 0, 1) := by decide +kernel
theorem dX12_law_176 : decode cX12_law 176 = .ok (.getfield 84, 3) := by decide +kernel
theorem dX12_law_179 : decode cX12_law 179 = .ok (.iload_n 3, 1) := by decide +kernel
theorem dX12_law_180 : decode cX12_law 180 = .ok (.iaload, 1) := by decide +kernel
theorem dX12_law_181 : decode cX12_law 181 = .ok (.iastore, 1) := by decide +kernel
theorem dX12_law_182 : decode cX12_law 182 = .ok (.aload_n 0, 1) := by decide +kernel
theorem dX12_law_183 : decode cX12_law 183 = .ok (.getfield 102, 3) := by decide +kernel
theorem dX12_law_186 : decode cX12_law 186 = .ok (.iload_n 3, 1) := by decide +kernel
theorem dX12_law_187 : decode cX12_law 187 = .ok (.aload_n 0, 1) := by decide +kernel
theorem dX12_law_188 : decode cX12_law 188 = .ok (.getfield 87, 3) := by decide +kernel
theorem dX12_law_191 : decode cX12_law 191 = .ok (.iload_n 3, 1) := by decide +kernel
theorem dX12_law_192 : decode cX12_law 192 = .ok (.iaload, 1) := by decide +kernel
theorem dX12_law_193 : decode cX12_law 193 = .ok (.iastore, 1) := by decide +kernel
theorem dX12_law_194 : decode cX12_law 194 = .ok (.iinc 3 1, 3) := by decide +kernel
theorem dX12_law_197 : decode cX12_law 197 = .ok (.goto (-59), 3) := by decide +kernel
theorem dX12_law_200 : decode cX12_law 200 = .ok (.aload_n 0, 1) := by decide +kernel
theorem dX12_law_201 : decode cX12_law 201 = .ok (.getfield 366, 3) := by decide +kernel
theorem dX12_law_204 : decode cX12_law 204 = .ok (.ireturn, 1) := by decide +kernel
def ok_X12_law_46 (K : ro_K)  : (Int32 × ro_Mem) → Prop := fun e => ro_X K 86 [(0, .ref (ro_ad (kG K) 207)), (2, .int e.1)] [] e.2
def fb_X12_law_46  (rec : (Int32 × ro_Mem) → Option (Int32 × ro_Mem)) (v2 : Int32) (μ : ro_Mem) : Option (Int32 × ro_Mem) :=
  if v2 = 0 then
  (some (v2, μ))
  else
  (if (μ 207 15) ≤ (μ 207 14) then
  (some (v2, μ))
  else
  ((fn_X12_takes 59 μ).bind fun q17 =>
  if q17.1 = 0 then
  (rec (0, q17.2))
  else
  ((fn_X12_readsClause q17.2).bind fun q20 =>
  if q20.1 = 0 then
  (rec (0, q20.2))
  else
  (rec (1, q20.2)))))
theorem bb_X12_law_46 {K : ro_K} (hK : ro_C K RX12 cX12_law 4 8) (hR : ro_R K (some .int))   {μ : ro_Mem} {rec : (Int32 × ro_Mem) → Option (Int32 × ro_Mem)} {v2 : Int32} {q : (Int32 × ro_Mem)} (hrec : ∀ (s : Int32 × ro_Mem) (q : (Int32 × ro_Mem)), rec s = some q → ok_X12_law_46 K q → ro_X K 46 [(0, .ref (ro_ad (kG K) 207)), (2, .int s.1)] [] s.2) (hf : fb_X12_law_46 rec v2 μ = some q) (hq : ok_X12_law_46 K q) : ro_X K 46 [(0, .ref (ro_ad (kG K) 207)), (2, .int v2)] [] μ := by
  unfold fb_X12_law_46 at hf
  refine ro_iload_n hK 1 rfl dX12_law_46 rfl ?_
  refine ro_if_eq hK 86 dX12_law_47 (by decide) (fun c15 => ?_) (fun c15 => ?_)
  · have hf := ro_it hf c15
    obtain rfl := Option.some.inj hf
    exact hq
  · have hf := ro_ie hf c15
    refine ro_aload_n hK 0 rfl dX12_law_50 rfl ?_
    refine ro_geti hK fl_X12_249 sh_207 dX12_law_51 ?_
    refine ro_aload_n hK 0 rfl dX12_law_54 rfl ?_
    refine ro_geti hK fl_X12_288 sh_207 dX12_law_55 ?_
    refine ro_icmp_ge hK 86 dX12_law_58 (by decide) (fun c16 => ?_) (fun c16 => ?_)
    · have hf := ro_it hf c16
      obtain rfl := Option.some.inj hf
      exact hq
    · have hf := ro_ie hf c16
      refine ro_aload_n hK 0 rfl dX12_law_61 rfl ?_
      refine ro_bipush (v := 59) hK dX12_law_62 (by decide) ?_
      obtain ⟨q17, e18, hf⟩ := ro_bd hf
      refine ro_callvi hK [.int 59] ml_X12_276 mv_X12_takes (mt_X12_takes (kl K) (kG K)  e18) sh_207 ⟨_, rfl, rfl⟩ (by decide) rfl rfl (Nat.le_of_ble_eq_true rfl) dX12_law_64 ?_
      refine ro_if_eq hK 81 dX12_law_67 (by decide) (fun c19 => ?_) (fun c19 => ?_)
      · have hf := ro_it hf c19
        refine ro_iconst (v := 0) hK dX12_law_81 (by decide) ?_
        refine ro_istore_n (L' := [(2, .int 0), (0, .ref (ro_ad (kG K) 207))]) hK dX12_law_82 rfl (by decide) rfl ?_
        refine ro_goto hK 46 dX12_law_83 (by decide) ?_
        refine ro_sub (L' := [(0, .ref (ro_ad (kG K) 207)), (2, .int 0)]) [1, 0] rfl ?_
        exact hrec (0, q17.2) _ hf hq
      · have hf := ro_ie hf c19
        refine ro_aload_n hK 0 rfl dX12_law_70 rfl ?_
        obtain ⟨q20, e21, hf⟩ := ro_bd hf
        refine ro_callvi hK [] ml_X12_372 mv_X12_readsClause (mt_X12_readsClause (kl K) (kG K)  e21) sh_207 ⟨_, rfl, rfl⟩ (by decide) rfl rfl (Nat.le_of_ble_eq_true rfl) dX12_law_71 ?_
        refine ro_if_eq hK 81 dX12_law_74 (by decide) (fun c22 => ?_) (fun c22 => ?_)
        · have hf := ro_it hf c22
          refine ro_iconst (v := 0) hK dX12_law_81 (by decide) ?_
          refine ro_istore_n (L' := [(2, .int 0), (0, .ref (ro_ad (kG K) 207))]) hK dX12_law_82 rfl (by decide) rfl ?_
          refine ro_goto hK 46 dX12_law_83 (by decide) ?_
          refine ro_sub (L' := [(0, .ref (ro_ad (kG K) 207)), (2, .int 0)]) [1, 0] rfl ?_
          exact hrec (0, q20.2) _ hf hq
        · have hf := ro_ie hf c22
          refine ro_iconst (v := 1) hK dX12_law_77 (by decide) ?_
          refine ro_goto hK 82 dX12_law_78 (by decide) ?_
          refine ro_istore_n (L' := [(2, .int 1), (0, .ref (ro_ad (kG K) 207))]) hK dX12_law_82 rfl (by decide) rfl ?_
          refine ro_goto hK 46 dX12_law_83 (by decide) ?_
          refine ro_sub (L' := [(0, .ref (ro_ad (kG K) 207)), (2, .int 1)]) [1, 0] rfl ?_
          exact hrec (1, q20.2) _ hf hq
def fl_X12_law_46  : (Int32 × ro_Mem) → Option (Int32 × ro_Mem) :=
  ro_loop (fun rec s => fb_X12_law_46 rec s.1 s.2) ro_FU
theorem lp_X12_law_46 {K : ro_K} (hK : ro_C K RX12 cX12_law 4 8) (hR : ro_R K (some .int))   {s : Int32 × ro_Mem} {q : (Int32 × ro_Mem)} (hf : fl_X12_law_46 s = some q) (hq : ok_X12_law_46 K q) : ro_X K 46 [(0, .ref (ro_ad (kG K) 207)), (2, .int s.1)] [] s.2 :=
  ro_loopX (b := fun rec s => fb_X12_law_46 rec s.1 s.2) (X := fun s => ro_X K 46 [(0, .ref (ro_ad (kG K) 207)), (2, .int s.1)] [] s.2) (OK := ok_X12_law_46 K) (fun rec s q hrec hb ho => bb_X12_law_46 hK hR  hrec hb ho) ro_FU s q hf hq
def ok_X12_law_110 (K : ro_K)  : ro_Mem → Prop := fun e => ro_X K 136 [(0, .ref (ro_ad (kG K) 207))] [] e
def fb_X12_law_110  (rec : (Int32 × ro_Mem) → Option ro_Mem) (v3 : Int32) (μ : ro_Mem) : Option ro_Mem :=
  if (μ 207 35) ≤ v3 then
  (some μ)
  else
  (if ro_in v3 220 then
  (ro_lt (ro_set μ 234 v3.toNatClampNeg (μ 228 v3.toNatClampNeg)) fun m32 =>
  rec (v3 + 1, m32)) else none)
theorem bb_X12_law_110 {K : ro_K} (hK : ro_C K RX12 cX12_law 4 8) (hR : ro_R K (some .int))   {μ : ro_Mem} {rec : (Int32 × ro_Mem) → Option ro_Mem} {v3 : Int32} {q : ro_Mem} (hrec : ∀ (s : Int32 × ro_Mem) (q : ro_Mem), rec s = some q → ok_X12_law_110 K q → ro_X K 110 [(0, .ref (ro_ad (kG K) 207)), (3, .int s.1)] [] s.2) (hf : fb_X12_law_110 rec v3 μ = some q) (hq : ok_X12_law_110 K q) : ro_X K 110 [(0, .ref (ro_ad (kG K) 207)), (3, .int v3)] [] μ := by
  unfold fb_X12_law_110 at hf
  refine ro_iload_n hK 1 rfl dX12_law_110 rfl ?_
  refine ro_aload_n hK 0 rfl dX12_law_111 rfl ?_
  refine ro_geti hK fl_X12_312 sh_207 dX12_law_112 ?_
  refine ro_icmp_ge hK 136 dX12_law_115 (by decide) (fun c30 => ?_) (fun c30 => ?_)
  · have hf := ro_it hf c30
    refine ro_sub (L' := [(0, .ref (ro_ad (kG K) 207))]) [0] rfl ?_
    obtain rfl := Option.some.inj hf
    exact hq
  · have hf := ro_ie hf c30
    refine ro_aload_n hK 0 rfl dX12_law_118 rfl ?_
    refine ro_getr hK fl_X12_90 sh_207 dX12_law_119 ?_
    refine ro_iload_n hK 1 rfl dX12_law_122 rfl ?_
    refine ro_aload_n hK 0 rfl dX12_law_123 rfl ?_
    refine ro_getr hK fl_X12_72 sh_207 dX12_law_124 ?_
    refine ro_iload_n hK 1 rfl dX12_law_127 rfl ?_
    obtain ⟨g31, hf⟩ := ro_gd hf
    refine ro_iald hK sh_228 g31 dX12_law_128 ?_
    obtain ⟨m32, e33, hf⟩ := ro_ld hf
    refine ro_iast hK sh_234 g31 dX12_law_129 ?_
    refine ro_mv e33 ?_
    refine ro_iinc (v := v3 + 1) (L' := [(3, .int (v3 + 1)), (0, .ref (ro_ad (kG K) 207))]) hK 1 rfl dX12_law_130 rfl (by decide) rfl ?_
    refine ro_goto hK 110 dX12_law_133 (by decide) ?_
    refine ro_sub (L' := [(0, .ref (ro_ad (kG K) 207)), (3, .int (v3 + 1))]) [1, 0] rfl ?_
    exact hrec (v3 + 1, m32) _ hf hq
def fl_X12_law_110  : (Int32 × ro_Mem) → Option ro_Mem :=
  ro_loop (fun rec s => fb_X12_law_110 rec s.1 s.2) ro_FU
theorem lp_X12_law_110 {K : ro_K} (hK : ro_C K RX12 cX12_law 4 8) (hR : ro_R K (some .int))   {s : Int32 × ro_Mem} {q : ro_Mem} (hf : fl_X12_law_110 s = some q) (hq : ok_X12_law_110 K q) : ro_X K 110 [(0, .ref (ro_ad (kG K) 207)), (3, .int s.1)] [] s.2 :=
  ro_loopX (b := fun rec s => fb_X12_law_110 rec s.1 s.2) (X := fun s => ro_X K 110 [(0, .ref (ro_ad (kG K) 207)), (3, .int s.1)] [] s.2) (OK := ok_X12_law_110 K) (fun rec s q hrec hb ho => bb_X12_law_110 hK hR  hrec hb ho) ro_FU s q hf hq
def ok_X12_law_138 (K : ro_K)  : ro_Mem → Prop := fun e => ro_X K 200 [(0, .ref (ro_ad (kG K) 207))] [] e
def fb_X12_law_138  (rec : (Int32 × ro_Mem) → Option ro_Mem) (v3 : Int32) (μ : ro_Mem) : Option ro_Mem :=
  if (μ 207 37) ≤ v3 then
  (some μ)
  else
  (if ro_in v3 14 then
  (ro_lt (ro_set μ 235 v3.toNatClampNeg (μ 230 v3.toNatClampNeg)) fun m38 =>
  ro_lt (ro_set m38 236 v3.toNatClampNeg (m38 231 v3.toNatClampNeg)) fun m40 =>
  ro_lt (ro_set m40 237 v3.toNatClampNeg (m40 232 v3.toNatClampNeg)) fun m42 =>
  ro_lt (ro_set m42 238 v3.toNatClampNeg (m42 233 v3.toNatClampNeg)) fun m44 =>
  rec (v3 + 1, m44)) else none)
theorem bb_X12_law_138 {K : ro_K} (hK : ro_C K RX12 cX12_law 4 8) (hR : ro_R K (some .int))   {μ : ro_Mem} {rec : (Int32 × ro_Mem) → Option ro_Mem} {v3 : Int32} {q : ro_Mem} (hrec : ∀ (s : Int32 × ro_Mem) (q : ro_Mem), rec s = some q → ok_X12_law_138 K q → ro_X K 138 [(0, .ref (ro_ad (kG K) 207)), (3, .int s.1)] [] s.2) (hf : fb_X12_law_138 rec v3 μ = some q) (hq : ok_X12_law_138 K q) : ro_X K 138 [(0, .ref (ro_ad (kG K) 207)), (3, .int v3)] [] μ := by
  unfold fb_X12_law_138 at hf
  refine ro_iload_n hK 1 rfl dX12_law_138 rfl ?_
  refine ro_aload_n hK 0 rfl dX12_law_139 rfl ?_
  refine ro_geti hK fl_X12_366 sh_207 dX12_law_140 ?_
  refine ro_icmp_ge hK 200 dX12_law_143 (by decide) (fun c36 => ?_) (fun c36 => ?_)
  · have hf := ro_it hf c36
    refine ro_sub (L' := [(0, .ref (ro_ad (kG K) 207))]) [0] rfl ?_
    obtain rfl := Option.some.inj hf
    exact hq
  · have hf := ro_ie hf c36
    refine ro_aload_n hK 0 rfl dX12_law_146 rfl ?_
    refine ro_getr hK fl_X12_93 sh_207 dX12_law_147 ?_
    refine ro_iload_n hK 1 rfl dX12_law_150 rfl ?_
    refine ro_aload_n hK 0 rfl dX12_law_151 rfl ?_
    refine ro_getr hK fl_X12_78 sh_207 dX12_law_152 ?_
    refine ro_iload_n hK 1 rfl dX12_law_155 rfl ?_
    obtain ⟨g37, hf⟩ := ro_gd hf
    refine ro_iald hK sh_230 g37 dX12_law_156 ?_
    obtain ⟨m38, e39, hf⟩ := ro_ld hf
    refine ro_iast hK sh_235 g37 dX12_law_157 ?_
    refine ro_mv e39 ?_
    refine ro_aload_n hK 0 rfl dX12_law_158 rfl ?_
    refine ro_getr hK fl_X12_96 sh_207 dX12_law_159 ?_
    refine ro_iload_n hK 1 rfl dX12_law_162 rfl ?_
    refine ro_aload_n hK 0 rfl dX12_law_163 rfl ?_
    refine ro_getr hK fl_X12_81 sh_207 dX12_law_164 ?_
    refine ro_iload_n hK 1 rfl dX12_law_167 rfl ?_
    refine ro_iald hK sh_231 g37 dX12_law_168 ?_
    obtain ⟨m40, e41, hf⟩ := ro_ld hf
    refine ro_iast hK sh_236 g37 dX12_law_169 ?_
    refine ro_mv e41 ?_
    refine ro_aload_n hK 0 rfl dX12_law_170 rfl ?_
    refine ro_getr hK fl_X12_99 sh_207 dX12_law_171 ?_
    refine ro_iload_n hK 1 rfl dX12_law_174 rfl ?_
    refine ro_aload_n hK 0 rfl dX12_law_175 rfl ?_
    refine ro_getr hK fl_X12_84 sh_207 dX12_law_176 ?_
    refine ro_iload_n hK 1 rfl dX12_law_179 rfl ?_
    refine ro_iald hK sh_232 g37 dX12_law_180 ?_
    obtain ⟨m42, e43, hf⟩ := ro_ld hf
    refine ro_iast hK sh_237 g37 dX12_law_181 ?_
    refine ro_mv e43 ?_
    refine ro_aload_n hK 0 rfl dX12_law_182 rfl ?_
    refine ro_getr hK fl_X12_102 sh_207 dX12_law_183 ?_
    refine ro_iload_n hK 1 rfl dX12_law_186 rfl ?_
    refine ro_aload_n hK 0 rfl dX12_law_187 rfl ?_
    refine ro_getr hK fl_X12_87 sh_207 dX12_law_188 ?_
    refine ro_iload_n hK 1 rfl dX12_law_191 rfl ?_
    refine ro_iald hK sh_233 g37 dX12_law_192 ?_
    obtain ⟨m44, e45, hf⟩ := ro_ld hf
    refine ro_iast hK sh_238 g37 dX12_law_193 ?_
    refine ro_mv e45 ?_
    refine ro_iinc (v := v3 + 1) (L' := [(3, .int (v3 + 1)), (0, .ref (ro_ad (kG K) 207))]) hK 1 rfl dX12_law_194 rfl (by decide) rfl ?_
    refine ro_goto hK 138 dX12_law_197 (by decide) ?_
    refine ro_sub (L' := [(0, .ref (ro_ad (kG K) 207)), (3, .int (v3 + 1))]) [1, 0] rfl ?_
    exact hrec (v3 + 1, m44) _ hf hq
def fl_X12_law_138  : (Int32 × ro_Mem) → Option ro_Mem :=
  ro_loop (fun rec s => fb_X12_law_138 rec s.1 s.2) ro_FU
theorem lp_X12_law_138 {K : ro_K} (hK : ro_C K RX12 cX12_law 4 8) (hR : ro_R K (some .int))   {s : Int32 × ro_Mem} {q : ro_Mem} (hf : fl_X12_law_138 s = some q) (hq : ok_X12_law_138 K q) : ro_X K 138 [(0, .ref (ro_ad (kG K) 207)), (3, .int s.1)] [] s.2 :=
  ro_loopX (b := fun rec s => fb_X12_law_138 rec s.1 s.2) (X := fun s => ro_X K 138 [(0, .ref (ro_ad (kG K) 207)), (3, .int s.1)] [] s.2) (OK := ok_X12_law_138 K) (fun rec s q hrec hb ho => bb_X12_law_138 hK hR  hrec hb ho) ro_FU s q hf hq
def fj_X12_law_86 (v2 : Int32) (μ : ro_Mem) : Option (Int32 × ro_Mem) :=
  ro_lt (ro_set μ 207 13 0) fun m25 =>
  if v2 = 0 then
  (some (m25 207 16, m25))
  else
  (ro_lt (ro_set m25 207 38 (m25 207 37)) fun m28 =>
  (fl_X12_law_110  (0, m28)).bind fun q34 =>
  (fl_X12_law_138  (0, q34)).bind fun q46 =>
  some (q46 207 37, q46))
theorem bj_X12_law_86 {K : ro_K} (hK : ro_C K RX12 cX12_law 4 8) (hR : ro_R K (some .int)) {v2 : Int32}   {μ : ro_Mem}  {out : Int32 × ro_Mem} (hf : fj_X12_law_86 v2 μ = some out) (hq : kQ K (some (.int out.1)) out.2) : ro_X K 86 [(0, .ref (ro_ad (kG K) 207)), (2, .int v2)] [] μ := by
  unfold fj_X12_law_86 at hf
  refine ro_aload_n hK 0 rfl dX12_law_86 rfl ?_
  refine ro_iconst (v := 0) hK dX12_law_87 (by decide) ?_
  obtain ⟨m25, e26, hf⟩ := ro_ld hf
  refine ro_puti hK fl_X12_242 sh_207 rfl rfl dX12_law_88 ?_
  refine ro_mv e26 ?_
  refine ro_iload_n hK 1 rfl dX12_law_91 rfl ?_
  refine ro_if_ne hK 100 dX12_law_92 (by decide) (fun c27 => ?_) (fun c27 => ?_)
  · have hf := ro_ie hf c27
    refine ro_aload_n hK 0 rfl dX12_law_100 rfl ?_
    refine ro_aload_n hK 0 rfl dX12_law_101 rfl ?_
    refine ro_geti hK fl_X12_366 sh_207 dX12_law_102 ?_
    obtain ⟨m28, e29, hf⟩ := ro_ld hf
    refine ro_puti hK fl_X12_375 sh_207 rfl rfl dX12_law_105 ?_
    refine ro_mv e29 ?_
    refine ro_iconst (v := 0) hK dX12_law_108 (by decide) ?_
    refine ro_istore_n (L' := [(3, .int 0), (0, .ref (ro_ad (kG K) 207)), (2, .int v2)]) hK dX12_law_109 rfl (by decide) rfl ?_
    obtain ⟨q34, e35, hf⟩ := ro_bd hf
    refine ro_sub (L' := [(0, .ref (ro_ad (kG K) 207)), (3, .int 0)]) [1, 0] rfl ?_
    refine lp_X12_law_110 hK hR  e35 ?_
    show ro_X K 136 [(0, .ref (ro_ad (kG K) 207))] [] q34
    refine ro_iconst (v := 0) hK dX12_law_136 (by decide) ?_
    refine ro_istore_n (L' := [(3, .int 0), (0, .ref (ro_ad (kG K) 207))]) hK dX12_law_137 rfl (by decide) rfl ?_
    obtain ⟨q46, e47, hf⟩ := ro_bd hf
    refine ro_sub (L' := [(0, .ref (ro_ad (kG K) 207)), (3, .int 0)]) [1, 0] rfl ?_
    refine lp_X12_law_138 hK hR  e47 ?_
    show ro_X K 200 [(0, .ref (ro_ad (kG K) 207))] [] q46
    refine ro_aload_n hK 0 rfl dX12_law_200 rfl ?_
    refine ro_geti hK fl_X12_366 sh_207 dX12_law_201 ?_
    obtain rfl := Option.some.inj hf
    exact ro_iret hK hR dX12_law_204 hq
  · have hf := ro_it hf c27
    refine ro_aload_n hK 0 rfl dX12_law_95 rfl ?_
    refine ro_geti hK fl_X12_297 sh_207 dX12_law_96 ?_
    obtain rfl := Option.some.inj hf
    exact ro_iret hK hR dX12_law_99 hq
def fn_X12_law (v1 : Int32) (μ : ro_Mem) : Option (Int32 × ro_Mem) :=
  (fn_X12_in v1 1 200).bind fun q1 =>
  if q1 = 0 then
  (some ((-1), μ))
  else
  (if v1 ≤ (μ 207 13) then
  (ro_lt (ro_set μ 207 14 0) fun m5 =>
  ro_lt (ro_set m5 207 15 v1) fun m7 =>
  ro_lt (ro_set m7 207 35 0) fun m9 =>
  ro_lt (ro_set m9 207 37 0) fun m11 =>
  (fn_X12_readsClause m11).bind fun q13 =>
  (fl_X12_law_46  (q13.1, q13.2)).bind fun q23 =>
  fj_X12_law_86 q23.1 q23.2)
  else
  (some ((-1), μ)))
theorem be_X12_law {K : ro_K} (hK : ro_C K RX12 cX12_law 4 8) (hR : ro_R K (some .int)) {v1 : Int32}  {μ : ro_Mem} {out : Int32 × ro_Mem} (hf : fn_X12_law v1 μ = some out) (hq : kQ K (some (.int out.1)) out.2) : ro_X K 0 [(0, .ref (ro_ad (kG K) 207)), (1, .int v1)] [] μ := by
  unfold fn_X12_law at hf
  refine ro_iload_n hK 1 rfl dX12_law_0 rfl ?_
  refine ro_iconst (v := 1) hK dX12_law_1 (by decide) ?_
  refine ro_sipush (v := 200) hK dX12_law_2 (by decide) ?_
  obtain ⟨q1, e2, hf⟩ := ro_bd hf
  refine ro_callsi hK [.int v1, .int 1, .int 200] ml_X12_215 ms_X12_in (mt_X12_in (kl K) (kG K)  e2) (by decide) rfl rfl (Nat.le_of_ble_eq_true rfl) dX12_law_5 ?_
  refine ro_if_eq hK 19 dX12_law_8 (by decide) (fun c3 => ?_) (fun c3 => ?_)
  · have hf := ro_it hf c3
    refine ro_iconst (v := (-1)) hK dX12_law_19 (by decide) ?_
    obtain rfl := Option.some.inj hf
    exact ro_iret hK hR dX12_law_20 hq
  · have hf := ro_ie hf c3
    refine ro_iload_n hK 1 rfl dX12_law_11 rfl ?_
    refine ro_aload_n hK 0 rfl dX12_law_12 rfl ?_
    refine ro_geti hK fl_X12_242 sh_207 dX12_law_13 ?_
    refine ro_icmp_le hK 21 dX12_law_16 (by decide) (fun c4 => ?_) (fun c4 => ?_)
    · have hf := ro_it hf c4
      refine ro_aload_n hK 0 rfl dX12_law_21 rfl ?_
      refine ro_iconst (v := 0) hK dX12_law_22 (by decide) ?_
      obtain ⟨m5, e6, hf⟩ := ro_ld hf
      refine ro_puti hK fl_X12_249 sh_207 rfl rfl dX12_law_23 ?_
      refine ro_mv e6 ?_
      refine ro_aload_n hK 0 rfl dX12_law_26 rfl ?_
      refine ro_iload_n hK 1 rfl dX12_law_27 rfl ?_
      obtain ⟨m7, e8, hf⟩ := ro_ld hf
      refine ro_puti hK fl_X12_288 sh_207 rfl rfl dX12_law_28 ?_
      refine ro_mv e8 ?_
      refine ro_aload_n hK 0 rfl dX12_law_31 rfl ?_
      refine ro_iconst (v := 0) hK dX12_law_32 (by decide) ?_
      obtain ⟨m9, e10, hf⟩ := ro_ld hf
      refine ro_puti hK fl_X12_312 sh_207 rfl rfl dX12_law_33 ?_
      refine ro_mv e10 ?_
      refine ro_aload_n hK 0 rfl dX12_law_36 rfl ?_
      refine ro_iconst (v := 0) hK dX12_law_37 (by decide) ?_
      obtain ⟨m11, e12, hf⟩ := ro_ld hf
      refine ro_puti hK fl_X12_366 sh_207 rfl rfl dX12_law_38 ?_
      refine ro_mv e12 ?_
      refine ro_aload_n hK 0 rfl dX12_law_41 rfl ?_
      obtain ⟨q13, e14, hf⟩ := ro_bd hf
      refine ro_callvi hK [] ml_X12_372 mv_X12_readsClause (mt_X12_readsClause (kl K) (kG K)  e14) sh_207 ⟨_, rfl, rfl⟩ (by decide) rfl rfl (Nat.le_of_ble_eq_true rfl) dX12_law_42 ?_
      refine ro_istore_n (L' := [(2, .int q13.1), (0, .ref (ro_ad (kG K) 207)), (1, .int v1)]) hK dX12_law_45 rfl (by decide) rfl ?_
      obtain ⟨q23, e24, hf⟩ := ro_bd hf
      refine ro_sub (L' := [(0, .ref (ro_ad (kG K) 207)), (2, .int q13.1)]) [1, 0] rfl ?_
      refine lp_X12_law_46 hK hR  e24 ?_
      show ro_X K 86 [(0, .ref (ro_ad (kG K) 207)), (2, .int q23.1)] [] q23.2
      exact bj_X12_law_86 hK hR  hf hq
    · have hf := ro_ie hf c4
      refine ro_iconst (v := (-1)) hK dX12_law_19 (by decide) ?_
      obtain rfl := Option.some.inj hf
      exact ro_iret hK hR dX12_law_20 hq
theorem mt_X12_law (l : Launch) (G : ro_G) {v1 : Int32}  {μ : ro_Mem} {out : Int32 × ro_Mem} (hf : fn_X12_law v1 μ = some out) : ro_MX l G yX12_law cX12_law 4 (some .int) 8 [.ref (ro_ad G 207), .int v1] μ (some (.int out.1)) out.2 := by
  refine ro_MX.of (by decide +kernel) (Nat.le_of_ble_eq_true rfl) (fun K hG hl hq hK hR => ?_)
  subst hG
  exact be_X12_law hK hR  hf hq
-- ===== X12_reckon =====
theorem dX12_reckon_0 : decode cX12_reckon 0 = .ok (.iload_n 0, 1) := by decide +kernel
theorem dX12_reckon_1 : decode cX12_reckon 1 = .ok (.tableswitch 85 2 8 #[43, 47, 51, 55, 59, 63, 74], 43) := by decide +kernel
theorem dX12_reckon_44 : decode cX12_reckon 44 = .ok (.iload_n 1, 1) := by decide +kernel
theorem dX12_reckon_45 : decode cX12_reckon 45 = .ok (.iload_n 2, 1) := by decide +kernel
theorem dX12_reckon_46 : decode cX12_reckon 46 = .ok (.iadd, 1) := by decide +kernel
theorem dX12_reckon_47 : decode cX12_reckon 47 = .ok (.ireturn, 1) := by decide +kernel
theorem dX12_reckon_48 : decode cX12_reckon 48 = .ok (.iload_n 1, 1) := by decide +kernel
theorem dX12_reckon_49 : decode cX12_reckon 49 = .ok (.iload_n 2, 1) := by decide +kernel
theorem dX12_reckon_50 : decode cX12_reckon 50 = .ok (.isub, 1) := by decide +kernel
theorem dX12_reckon_51 : decode cX12_reckon 51 = .ok (.ireturn, 1) := by decide +kernel
theorem dX12_reckon_52 : decode cX12_reckon 52 = .ok (.iload_n 1, 1) := by decide +kernel
theorem dX12_reckon_53 : decode cX12_reckon 53 = .ok (.iload_n 2, 1) := by decide +kernel
theorem dX12_reckon_54 : decode cX12_reckon 54 = .ok (.imul, 1) := by decide +kernel
theorem dX12_reckon_55 : decode cX12_reckon 55 = .ok (.ireturn, 1) := by decide +kernel
theorem dX12_reckon_56 : decode cX12_reckon 56 = .ok (.iload_n 1, 1) := by decide +kernel
theorem dX12_reckon_57 : decode cX12_reckon 57 = .ok (.iload_n 2, 1) := by decide +kernel
theorem dX12_reckon_58 : decode cX12_reckon 58 = .ok (.idiv, 1) := by decide +kernel
theorem dX12_reckon_59 : decode cX12_reckon 59 = .ok (.ireturn, 1) := by decide +kernel
theorem dX12_reckon_60 : decode cX12_reckon 60 = .ok (.iload_n 1, 1) := by decide +kernel
theorem dX12_reckon_61 : decode cX12_reckon 61 = .ok (.iload_n 2, 1) := by decide +kernel
theorem dX12_reckon_62 : decode cX12_reckon 62 = .ok (.irem, 1) := by decide +kernel
theorem dX12_reckon_63 : decode cX12_reckon 63 = .ok (.ireturn, 1) := by decide +kernel
theorem dX12_reckon_64 : decode cX12_reckon 64 = .ok (.iload_n 1, 1) := by decide +kernel
theorem dX12_reckon_65 : decode cX12_reckon 65 = .ok (.iload_n 2, 1) := by decide +kernel
theorem dX12_reckon_66 : decode cX12_reckon 66 = .ok (.if_icmp .ge 7, 3) := by decide +kernel
theorem dX12_reckon_69 : decode cX12_reckon 69 = .ok (.iconst 1, 1) := by decide +kernel
theorem dX12_reckon_70 : decode cX12_reckon 70 = .ok (.goto 4, 3) := by decide +kernel
theorem dX12_reckon_73 : decode cX12_reckon 73 = .ok (.iconst 0, 1) := by decide +kernel
theorem dX12_reckon_74 : decode cX12_reckon 74 = .ok (.ireturn, 1) := by decide +kernel
theorem dX12_reckon_75 : decode cX12_reckon 75 = .ok (.iload_n 1, 1) := by decide +kernel
theorem dX12_reckon_76 : decode cX12_reckon 76 = .ok (.iload_n 2, 1) := by decide +kernel
theorem dX12_reckon_77 : decode cX12_reckon 77 = .ok (.if_icmp .le 7, 3) := by decide +kernel
theorem dX12_reckon_80 : decode cX12_reckon 80 = .ok (.iconst 1, 1) := by decide +kernel
theorem dX12_reckon_81 : decode cX12_reckon 81 = .ok (.goto 4, 3) := by decide +kernel
theorem dX12_reckon_84 : decode cX12_reckon 84 = .ok (.iconst 0, 1) := by decide +kernel
theorem dX12_reckon_85 : decode cX12_reckon 85 = .ok (.ireturn, 1) := by decide +kernel
theorem dX12_reckon_86 : decode cX12_reckon 86 = .ok (.iload_n 1, 1) := by decide +kernel
theorem dX12_reckon_87 : decode cX12_reckon 87 = .ok (.iload_n 2, 1) := by decide +kernel
theorem dX12_reckon_88 : decode cX12_reckon 88 = .ok (.if_icmp .ne 7, 3) := by decide +kernel
theorem dX12_reckon_91 : decode cX12_reckon 91 = .ok (.iconst 1, 1) := by decide +kernel
theorem dX12_reckon_92 : decode cX12_reckon 92 = .ok (.goto 4, 3) := by decide +kernel
theorem dX12_reckon_95 : decode cX12_reckon 95 = .ok (.iconst 0, 1) := by decide +kernel
theorem dX12_reckon_96 : decode cX12_reckon 96 = .ok (.ireturn, 1) := by decide +kernel
def fn_X12_reckon (v0 : Int32) (v1 : Int32) (v2 : Int32) : Option Int32 :=
  if v0 = 2 then
  (some (v1 + v2))
  else
  (if v0 = 3 then
  (some (v1 - v2))
  else
  (if v0 = 4 then
  (some (v1 * v2))
  else
  (if v0 = 5 then
  (if ¬ v2 = 0 then
  (some (v1 / v2)) else none)
  else
  (if v0 = 6 then
  (if ¬ v2 = 0 then
  (some (ro_rem v1 v2)) else none)
  else
  (if v0 = 7 then
  (if v2 ≤ v1 then
  (some 0)
  else
  (some 1))
  else
  (if v0 = 8 then
  (if v1 ≤ v2 then
  (some 0)
  else
  (some 1))
  else
  (if v1 = v2 then
  (some 1)
  else
  (some 0))))))))
theorem be_X12_reckon {K : ro_K} (hK : ro_C K RX12 cX12_reckon 3 0) (hR : ro_R K (some .int)) {v0 : Int32} {v1 : Int32} {v2 : Int32}  {μ : ro_Mem} {out : Int32} (hf : fn_X12_reckon v0 v1 v2 = some out) (hq : kQ K (some (.int out)) μ) : ro_X K 0 [(0, .int v0), (1, .int v1), (2, .int v2)] [] μ := by
  unfold fn_X12_reckon at hf
  refine ro_iload_n hK 0 rfl dX12_reckon_0 rfl ?_
  by_cases c_0 : v0 = 2
  · have hf := ro_it hf c_0
    refine ro_tabIn hK 2 44 dX12_reckon_1 c_0 (by decide) (by decide) rfl (by decide) ?_
    refine ro_iload_n hK 1 rfl dX12_reckon_44 rfl ?_
    refine ro_iload_n hK 2 rfl dX12_reckon_45 rfl ?_
    refine ro_iadd hK dX12_reckon_46 ?_
    obtain rfl := Option.some.inj hf
    exact ro_iret hK hR dX12_reckon_47 hq
  have hf := ro_ie hf c_0
  by_cases c_1 : v0 = 3
  · have hf := ro_it hf c_1
    refine ro_tabIn hK 3 48 dX12_reckon_1 c_1 (by decide) (by decide) rfl (by decide) ?_
    refine ro_iload_n hK 1 rfl dX12_reckon_48 rfl ?_
    refine ro_iload_n hK 2 rfl dX12_reckon_49 rfl ?_
    refine ro_isub hK dX12_reckon_50 ?_
    obtain rfl := Option.some.inj hf
    exact ro_iret hK hR dX12_reckon_51 hq
  have hf := ro_ie hf c_1
  by_cases c_2 : v0 = 4
  · have hf := ro_it hf c_2
    refine ro_tabIn hK 4 52 dX12_reckon_1 c_2 (by decide) (by decide) rfl (by decide) ?_
    refine ro_iload_n hK 1 rfl dX12_reckon_52 rfl ?_
    refine ro_iload_n hK 2 rfl dX12_reckon_53 rfl ?_
    refine ro_imul hK dX12_reckon_54 ?_
    obtain rfl := Option.some.inj hf
    exact ro_iret hK hR dX12_reckon_55 hq
  have hf := ro_ie hf c_2
  by_cases c_3 : v0 = 5
  · have hf := ro_it hf c_3
    refine ro_tabIn hK 5 56 dX12_reckon_1 c_3 (by decide) (by decide) rfl (by decide) ?_
    refine ro_iload_n hK 1 rfl dX12_reckon_56 rfl ?_
    refine ro_iload_n hK 2 rfl dX12_reckon_57 rfl ?_
    obtain ⟨g1, hf⟩ := ro_gd hf
    refine ro_idiv hK dX12_reckon_58 g1 ?_
    obtain rfl := Option.some.inj hf
    exact ro_iret hK hR dX12_reckon_59 hq
  have hf := ro_ie hf c_3
  by_cases c_4 : v0 = 6
  · have hf := ro_it hf c_4
    refine ro_tabIn hK 6 60 dX12_reckon_1 c_4 (by decide) (by decide) rfl (by decide) ?_
    refine ro_iload_n hK 1 rfl dX12_reckon_60 rfl ?_
    refine ro_iload_n hK 2 rfl dX12_reckon_61 rfl ?_
    obtain ⟨g2, hf⟩ := ro_gd hf
    refine ro_irem hK dX12_reckon_62 g2 ?_
    obtain rfl := Option.some.inj hf
    exact ro_iret hK hR dX12_reckon_63 hq
  have hf := ro_ie hf c_4
  by_cases c_5 : v0 = 7
  · have hf := ro_it hf c_5
    refine ro_tabIn hK 7 64 dX12_reckon_1 c_5 (by decide) (by decide) rfl (by decide) ?_
    refine ro_iload_n hK 1 rfl dX12_reckon_64 rfl ?_
    refine ro_iload_n hK 2 rfl dX12_reckon_65 rfl ?_
    refine ro_icmp_ge hK 73 dX12_reckon_66 (by decide) (fun c3 => ?_) (fun c3 => ?_)
    · have hf := ro_it hf c3
      refine ro_iconst (v := 0) hK dX12_reckon_73 (by decide) ?_
      obtain rfl := Option.some.inj hf
      exact ro_iret hK hR dX12_reckon_74 hq
    · have hf := ro_ie hf c3
      refine ro_iconst (v := 1) hK dX12_reckon_69 (by decide) ?_
      refine ro_goto hK 74 dX12_reckon_70 (by decide) ?_
      obtain rfl := Option.some.inj hf
      exact ro_iret hK hR dX12_reckon_74 hq
  have hf := ro_ie hf c_5
  by_cases c_6 : v0 = 8
  · have hf := ro_it hf c_6
    refine ro_tabIn hK 8 75 dX12_reckon_1 c_6 (by decide) (by decide) rfl (by decide) ?_
    refine ro_iload_n hK 1 rfl dX12_reckon_75 rfl ?_
    refine ro_iload_n hK 2 rfl dX12_reckon_76 rfl ?_
    refine ro_icmp_le hK 84 dX12_reckon_77 (by decide) (fun c4 => ?_) (fun c4 => ?_)
    · have hf := ro_it hf c4
      refine ro_iconst (v := 0) hK dX12_reckon_84 (by decide) ?_
      obtain rfl := Option.some.inj hf
      exact ro_iret hK hR dX12_reckon_85 hq
    · have hf := ro_ie hf c4
      refine ro_iconst (v := 1) hK dX12_reckon_80 (by decide) ?_
      refine ro_goto hK 85 dX12_reckon_81 (by decide) ?_
      obtain rfl := Option.some.inj hf
      exact ro_iret hK hR dX12_reckon_85 hq
  have hf := ro_ie hf c_6
  have tw0 : ¬ v0.toInt = 2 := lv_neT (a := 2) c_0 rfl
  have tw1 : ¬ v0.toInt = 3 := lv_neT (a := 3) c_1 rfl
  have tw2 : ¬ v0.toInt = 4 := lv_neT (a := 4) c_2 rfl
  have tw3 : ¬ v0.toInt = 5 := lv_neT (a := 5) c_3 rfl
  have tw4 : ¬ v0.toInt = 6 := lv_neT (a := 6) c_4 rfl
  have tw5 : ¬ v0.toInt = 7 := lv_neT (a := 7) c_5 rfl
  have tw6 : ¬ v0.toInt = 8 := lv_neT (a := 8) c_6 rfl
  refine ro_tabOut hK 86 dX12_reckon_1 (by omega) (by decide) ?_
  refine ro_iload_n hK 1 rfl dX12_reckon_86 rfl ?_
  refine ro_iload_n hK 2 rfl dX12_reckon_87 rfl ?_
  refine ro_icmp_ne hK 95 dX12_reckon_88 (by decide) (fun c5 => ?_) (fun c5 => ?_)
  · have hf := ro_ie hf c5
    refine ro_iconst (v := 0) hK dX12_reckon_95 (by decide) ?_
    obtain rfl := Option.some.inj hf
    exact ro_iret hK hR dX12_reckon_96 hq
  · have hf := ro_it hf c5
    refine ro_iconst (v := 1) hK dX12_reckon_91 (by decide) ?_
    refine ro_goto hK 96 dX12_reckon_92 (by decide) ?_
    obtain rfl := Option.some.inj hf
    exact ro_iret hK hR dX12_reckon_96 hq
theorem mt_X12_reckon (l : Launch) (G : ro_G) {v0 : Int32} {v1 : Int32} {v2 : Int32}  {μ : ro_Mem} {out : Int32} (hf : fn_X12_reckon v0 v1 v2 = some out) : ro_MX l G yX12_reckon cX12_reckon 3 (some .int) 0 [.int v0, .int v1, .int v2] μ (some (.int out)) μ := by
  refine ro_MX.of (by decide +kernel) (Nat.le_of_ble_eq_true rfl) (fun K hG hl hq hK hR => ?_)
  subst hG
  exact be_X12_reckon hK hR  hf hq
-- ===== X12_comesTo =====
theorem dX12_comesTo_0 : decode cX12_comesTo 0 = .ok (.iconst 0, 1) := by decide +kernel
theorem dX12_comesTo_1 : decode cX12_comesTo 1 = .ok (.istore_n 3, 1) := by decide +kernel
theorem dX12_comesTo_2 : decode cX12_comesTo 2 = .ok (.sipush 220, 3) := by decide +kernel
theorem dX12_comesTo_5 : decode cX12_comesTo 5 = .ok (.iload_n 1, 1) := by decide +kernel
theorem dX12_comesTo_6 : decode cX12_comesTo 6 = .ok (.sipush 220, 3) := by decide +kernel
theorem dX12_comesTo_9 : decode cX12_comesTo 9 = .ok (.idiv, 1) := by decide +kernel
theorem dX12_comesTo_10 : decode cX12_comesTo 10 = .ok (.imul, 1) := by decide +kernel
theorem dX12_comesTo_11 : decode cX12_comesTo 11 = .ok (.istore 4, 2) := by decide +kernel
theorem dX12_comesTo_13 : decode cX12_comesTo 13 = .ok (.iload_n 1, 1) := by decide +kernel
theorem dX12_comesTo_14 : decode cX12_comesTo 14 = .ok (.istore 5, 2) := by decide +kernel
theorem dX12_comesTo_16 : decode cX12_comesTo 16 = .ok (.iload 5, 2) := by decide +kernel
theorem dX12_comesTo_18 : decode cX12_comesTo 18 = .ok (.iload_n 2, 1) := by decide +kernel
theorem dX12_comesTo_19 : decode cX12_comesTo 19 = .ok (.if_icmp .ge 216, 3) := by decide +kernel
theorem dX12_comesTo_22 : decode cX12_comesTo 22 = .ok (.aload_n 0, 1) := by decide +kernel
theorem dX12_comesTo_23 : decode cX12_comesTo 23 = .ok (.getfield 90, 3) := by decide +kernel
theorem dX12_comesTo_26 : decode cX12_comesTo 26 = .ok (.iload 5, 2) := by decide +kernel
theorem dX12_comesTo_28 : decode cX12_comesTo 28 = .ok (.iaload, 1) := by decide +kernel
theorem dX12_comesTo_29 : decode cX12_comesTo 29 = .ok (.ldc_w 315, 3) := by decide +kernel
theorem dX12_comesTo_32 : decode cX12_comesTo 32 = .ok (.idiv, 1) := by decide +kernel
theorem dX12_comesTo_33 : decode cX12_comesTo 33 = .ok (.istore 6, 2) := by decide +kernel
theorem dX12_comesTo_35 : decode cX12_comesTo 35 = .ok (.aload_n 0, 1) := by decide +kernel
theorem dX12_comesTo_36 : decode cX12_comesTo 36 = .ok (.getfield 90, 3) := by decide +kernel
theorem dX12_comesTo_39 : decode cX12_comesTo 39 = .ok (.iload 5, 2) := by decide +kernel
theorem dX12_comesTo_41 : decode cX12_comesTo 41 = .ok (.iaload, 1) := by decide +kernel
theorem dX12_comesTo_42 : decode cX12_comesTo 42 = .ok (.ldc_w 315, 3) := by decide +kernel
theorem dX12_comesTo_45 : decode cX12_comesTo 45 = .ok (.irem, 1) := by decide +kernel
theorem dX12_comesTo_46 : decode cX12_comesTo 46 = .ok (.istore 7, 2) := by decide +kernel
theorem dX12_comesTo_48 : decode cX12_comesTo 48 = .ok (.iload 5, 2) := by decide +kernel
theorem dX12_comesTo_50 : decode cX12_comesTo 50 = .ok (.iconst 1, 1) := by decide +kernel
theorem dX12_comesTo_51 : decode cX12_comesTo 51 = .ok (.iadd, 1) := by decide +kernel
theorem dX12_comesTo_52 : decode cX12_comesTo 52 = .ok (.istore 5, 2) := by decide +kernel
theorem dX12_comesTo_54 : decode cX12_comesTo 54 = .ok (.iload 6, 2) := by decide +kernel
theorem dX12_comesTo_56 : decode cX12_comesTo 56 = .ok (.ifCond .eq 9, 3) := by decide +kernel
theorem dX12_comesTo_59 : decode cX12_comesTo 59 = .ok (.iload 6, 2) := by decide +kernel
theorem dX12_comesTo_61 : decode cX12_comesTo 61 = .ok (.iconst 1, 1) := by decide +kernel
theorem dX12_comesTo_62 : decode cX12_comesTo 62 = .ok (.if_icmp .ne 33, 3) := by decide +kernel
theorem dX12_comesTo_65 : decode cX12_comesTo 65 = .ok (.aload_n 0, 1) := by decide +kernel
theorem dX12_comesTo_66 : decode cX12_comesTo 66 = .ok (.getfield 105, 3) := by decide +kernel
theorem dX12_comesTo_69 : decode cX12_comesTo 69 = .ok (.iload_n 3, 1) := by decide +kernel
theorem dX12_comesTo_70 : decode cX12_comesTo 70 = .ok (.iload 6, 2) := by decide +kernel
theorem dX12_comesTo_72 : decode cX12_comesTo 72 = .ok (.ifCond .ne 8, 3) := by decide +kernel
theorem dX12_comesTo_75 : decode cX12_comesTo 75 = .ok (.iload 7, 2) := by decide +kernel
theorem dX12_comesTo_77 : decode cX12_comesTo 77 = .ok (.goto 10, 3) := by decide +kernel
theorem dX12_comesTo_80 : decode cX12_comesTo 80 = .ok (.aload_n 0, 1) := by decide +kernel
theorem dX12_comesTo_81 : decode cX12_comesTo 81 = .ok (.getfield 108, 3) := by decide +kernel
theorem dX12_comesTo_84 : decode cX12_comesTo 84 = .ok (.iload 7, 2) := by decide +kernel
theorem dX12_comesTo_86 : decode cX12_comesTo 86 = .ok (.iaload, 1) := by decide +kernel
theorem dX12_comesTo_87 : decode cX12_comesTo 87 = .ok (.iastore, 1) := by decide +kernel
theorem dX12_comesTo_88 : decode cX12_comesTo 88 = .ok (.iload_n 3, 1) := by decide +kernel
theorem dX12_comesTo_89 : decode cX12_comesTo 89 = .ok (.iconst 1, 1) := by decide +kernel
theorem dX12_comesTo_90 : decode cX12_comesTo 90 = .ok (.iadd, 1) := by decide +kernel
theorem dX12_comesTo_91 : decode cX12_comesTo 91 = .ok (.istore_n 3, 1) := by decide +kernel
theorem dX12_comesTo_92 : decode cX12_comesTo 92 = .ok (.goto 140, 3) := by decide +kernel
theorem dX12_comesTo_95 : decode cX12_comesTo 95 = .ok (.iload 6, 2) := by decide +kernel
theorem dX12_comesTo_97 : decode cX12_comesTo 97 = .ok (.bipush 10, 2) := by decide +kernel
theorem dX12_comesTo_99 : decode cX12_comesTo 99 = .ok (.if_icmp .ne 24, 3) := by decide +kernel
theorem dX12_comesTo_102 : decode cX12_comesTo 102 = .ok (.aload_n 0, 1) := by decide +kernel
theorem dX12_comesTo_103 : decode cX12_comesTo 103 = .ok (.getfield 105, 3) := by decide +kernel
theorem dX12_comesTo_106 : decode cX12_comesTo 106 = .ok (.iload_n 3, 1) := by decide +kernel
theorem dX12_comesTo_107 : decode cX12_comesTo 107 = .ok (.iconst 1, 1) := by decide +kernel
theorem dX12_comesTo_108 : decode cX12_comesTo 108 = .ok (.isub, 1) := by decide +kernel
theorem dX12_comesTo_109 : decode cX12_comesTo 109 = .ok (.iconst 1, 1) := by decide +kernel
theorem dX12_comesTo_110 : decode cX12_comesTo 110 = .ok (.aload_n 0, 1) := by decide +kernel
theorem dX12_comesTo_111 : decode cX12_comesTo 111 = .ok (.getfield 105, 3) := by decide +kernel
theorem dX12_comesTo_114 : decode cX12_comesTo 114 = .ok (.iload_n 3, 1) := by decide +kernel
theorem dX12_comesTo_115 : decode cX12_comesTo 115 = .ok (.iconst 1, 1) := by decide +kernel
theorem dX12_comesTo_116 : decode cX12_comesTo 116 = .ok (.isub, 1) := by decide +kernel
theorem dX12_comesTo_117 : decode cX12_comesTo 117 = .ok (.iaload, 1) := by decide +kernel
theorem dX12_comesTo_118 : decode cX12_comesTo 118 = .ok (.isub, 1) := by decide +kernel
theorem dX12_comesTo_119 : decode cX12_comesTo 119 = .ok (.iastore, 1) := by decide +kernel
theorem dX12_comesTo_120 : decode cX12_comesTo 120 = .ok (.goto 112, 3) := by decide +kernel
theorem dX12_comesTo_123 : decode cX12_comesTo 123 = .ok (.iload 6, 2) := by decide +kernel
theorem dX12_comesTo_125 : decode cX12_comesTo 125 = .ok (.bipush 11, 2) := by decide +kernel
theorem dX12_comesTo_127 : decode cX12_comesTo 127 = .ok (.if_icmp .eq 10, 3) := by decide +kernel
theorem dX12_comesTo_130 : decode cX12_comesTo 130 = .ok (.iload 6, 2) := by decide +kernel
theorem dX12_comesTo_132 : decode cX12_comesTo 132 = .ok (.bipush 12, 2) := by decide +kernel
theorem dX12_comesTo_134 : decode cX12_comesTo 134 = .ok (.if_icmp .ne 43, 3) := by decide +kernel
theorem dX12_comesTo_137 : decode cX12_comesTo 137 = .ok (.aload_n 0, 1) := by decide +kernel
theorem dX12_comesTo_138 : decode cX12_comesTo 138 = .ok (.getfield 105, 3) := by decide +kernel
theorem dX12_comesTo_141 : decode cX12_comesTo 141 = .ok (.iload_n 3, 1) := by decide +kernel
theorem dX12_comesTo_142 : decode cX12_comesTo 142 = .ok (.iconst 1, 1) := by decide +kernel
theorem dX12_comesTo_143 : decode cX12_comesTo 143 = .ok (.isub, 1) := by decide +kernel
theorem dX12_comesTo_144 : decode cX12_comesTo 144 = .ok (.iaload, 1) := by decide +kernel
theorem dX12_comesTo_145 : decode cX12_comesTo 145 = .ok (.iload 6, 2) := by decide +kernel
theorem dX12_comesTo_147 : decode cX12_comesTo 147 = .ok (.bipush 12, 2) := by decide +kernel
theorem dX12_comesTo_149 : decode cX12_comesTo 149 = .ok (.if_icmp .ne 7, 3) := by decide +kernel
theorem dX12_comesTo_152 : decode cX12_comesTo 152 = .ok (.iconst 1, 1) := by decide +kernel
theorem dX12_comesTo_153 : decode cX12_comesTo 153 = .ok (.goto 4, 3) := by decide +kernel
theorem dX12_comesTo_156 : decode cX12_comesTo 156 = .ok (.iconst 0, 1) := by decide +kernel
theorem dX12_comesTo_157 : decode cX12_comesTo 157 = .ok (.if_icmp .ne 13, 3) := by decide +kernel
theorem dX12_comesTo_160 : decode cX12_comesTo 160 = .ok (.iload 4, 2) := by decide +kernel
theorem dX12_comesTo_162 : decode cX12_comesTo 162 = .ok (.iload 7, 2) := by decide +kernel
theorem dX12_comesTo_164 : decode cX12_comesTo 164 = .ok (.iadd, 1) := by decide +kernel
theorem dX12_comesTo_165 : decode cX12_comesTo 165 = .ok (.istore 5, 2) := by decide +kernel
theorem dX12_comesTo_167 : decode cX12_comesTo 167 = .ok (.goto 65, 3) := by decide +kernel
theorem dX12_comesTo_170 : decode cX12_comesTo 170 = .ok (.iload_n 3, 1) := by decide +kernel
theorem dX12_comesTo_171 : decode cX12_comesTo 171 = .ok (.iconst 1, 1) := by decide +kernel
theorem dX12_comesTo_172 : decode cX12_comesTo 172 = .ok (.isub, 1) := by decide +kernel
theorem dX12_comesTo_173 : decode cX12_comesTo 173 = .ok (.istore_n 3, 1) := by decide +kernel
theorem dX12_comesTo_174 : decode cX12_comesTo 174 = .ok (.goto 58, 3) := by decide +kernel
theorem dX12_comesTo_177 : decode cX12_comesTo 177 = .ok (.iload_n 3, 1) := by decide +kernel
theorem dX12_comesTo_178 : decode cX12_comesTo 178 = .ok (.iconst 1, 1) := by decide +kernel
theorem dX12_comesTo_179 : decode cX12_comesTo 179 = .ok (.isub, 1) := by decide +kernel
theorem dX12_comesTo_180 : decode cX12_comesTo 180 = .ok (.istore_n 3, 1) := by decide +kernel
theorem dX12_comesTo_181 : decode cX12_comesTo 181 = .ok (.iload 6, 2) := by decide +kernel
theorem dX12_comesTo_183 : decode cX12_comesTo 183 = .ok (.iconst 5, 1) := by decide +kernel
theorem dX12_comesTo_184 : decode cX12_comesTo 184 = .ok (.if_icmp .eq 10, 3) := by decide +kernel
theorem dX12_comesTo_187 : decode cX12_comesTo 187 = .ok (.iload 6, 2) := by decide +kernel
theorem dX12_comesTo_189 : decode cX12_comesTo 189 = .ok (.bipush 6, 2) := by decide +kernel
theorem dX12_comesTo_191 : decode cX12_comesTo 191 = .ok (.if_icmp .ne 14, 3) := by decide +kernel
theorem dX12_comesTo_194 : decode cX12_comesTo 194 = .ok (.aload_n 0, 1) := by decide +kernel
theorem dX12_comesTo_195 : decode cX12_comesTo 195 = .ok (.getfield 105, 3) := by decide +kernel
theorem dX12_comesTo_198 : decode cX12_comesTo 198 = .ok (.iload_n 3, 1) := by decide +kernel
theorem dX12_comesTo_199 : decode cX12_comesTo 199 = .ok (.iaload, 1) := by decide +kernel
theorem dX12_comesTo_200 : decode cX12_comesTo 200 = .ok (.ifCond .ne 5, 3) := by decide +kernel
theorem dX12_comesTo_203 : decode cX12_comesTo 203 = .ok (.iconst 0, 1) := by decide +kernel
theorem dX12_comesTo_204 : decode cX12_comesTo 204 = .ok (.ireturn, 1) := by decide +kernel
theorem dX12_comesTo_205 : decode cX12_comesTo 205 = .ok (.aload_n 0, 1) := by decide +kernel
theorem dX12_comesTo_206 : decode cX12_comesTo 206 = .ok (.getfield 105, 3) := by decide +kernel
theorem dX12_comesTo_209 : decode cX12_comesTo 209 = .ok (.iload_n 3, 1) := by decide +kernel
theorem dX12_comesTo_210 : decode cX12_comesTo 210 = .ok (.iconst 1, 1) := by decide +kernel
theorem dX12_comesTo_211 : decode cX12_comesTo 211 = .ok (.isub, 1) := by decide +kernel
theorem dX12_comesTo_212 : decode cX12_comesTo 212 = .ok (.iload 6, 2) := by decide +kernel
theorem dX12_comesTo_214 : decode cX12_comesTo 214 = .ok (.aload_n 0, 1) := by decide +kernel
theorem dX12_comesTo_215 : decode cX12_comesTo 215 = .ok (.getfield 105, 3) := by decide +kernel
theorem dX12_comesTo_218 : decode cX12_comesTo 218 = .ok (.iload_n 3, 1) := by decide +kernel
theorem dX12_comesTo_219 : decode cX12_comesTo 219 = .ok (.iconst 1, 1) := by decide +kernel
theorem dX12_comesTo_220 : decode cX12_comesTo 220 = .ok (.isub, 1) := by decide +kernel
theorem dX12_comesTo_221 : decode cX12_comesTo 221 = .ok (.iaload, 1) := by decide +kernel
theorem dX12_comesTo_222 : decode cX12_comesTo 222 = .ok (.aload_n 0, 1) := by decide +kernel
theorem dX12_comesTo_223 : decode cX12_comesTo 223 = .ok (.getfield 105, 3) := by decide +kernel
theorem dX12_comesTo_226 : decode cX12_comesTo 226 = .ok (.iload_n 3, 1) := by decide +kernel
theorem dX12_comesTo_227 : decode cX12_comesTo 227 = .ok (.iaload, 1) := by decide +kernel
theorem dX12_comesTo_228 : decode cX12_comesTo 228 = .ok (.invokestatic 378, 3) := by decide +kernel
theorem dX12_comesTo_231 : decode cX12_comesTo 231 = .ok (.iastore, 1) := by decide +kernel
theorem dX12_comesTo_232 : decode cX12_comesTo 232 = .ok (.goto (-216), 3) := by decide +kernel
theorem dX12_comesTo_235 : decode cX12_comesTo 235 = .ok (.aload_n 0, 1) := by decide +kernel
theorem dX12_comesTo_236 : decode cX12_comesTo 236 = .ok (.getfield 105, 3) := by decide +kernel
theorem dX12_comesTo_239 : decode cX12_comesTo 239 = .ok (.iconst 0, 1) := by decide +kernel
theorem dX12_comesTo_240 : decode cX12_comesTo 240 = .ok (.iaload, 1) := by decide +kernel
theorem dX12_comesTo_241 : decode cX12_comesTo 241 = .ok (.ireturn, 1) := by decide +kernel
def ok_X12_comesTo_16 (K : ro_K) (v2 : Int32) (v4 : Int32) : (ro_Mem ⊕ ro_Mem) → Prop := Sum.elim (fun e => ro_X K 203 [] [] e) (fun e => ro_X K 235 [(0, .ref (ro_ad (kG K) 207))] [] e)
def fj_X12_comesTo_87 (rec : (Int32 × Int32 × ro_Mem) → Option (ro_Mem ⊕ ro_Mem)) (v2 : Int32) (v3 : Int32) (v4 : Int32) (v5 : Int32) (t1 : Int32) (t2 : Int32) (μ : ro_Mem) : Option (ro_Mem ⊕ ro_Mem) :=
  if ro_in t1 220 then
  (ro_lt (ro_set μ 239 t1.toNatClampNeg t2) fun m15 =>
  ro_lt (v3 + 1) fun z17 =>
  rec (z17, v5, m15)) else none
theorem bj_X12_comesTo_87 {K : ro_K} (hK : ro_C K RX12 cX12_comesTo 8 1) (hR : ro_R K (some .int)) {v2 : Int32} {v3 : Int32} {v4 : Int32} {v5 : Int32} {t1 : Int32} {t2 : Int32}  {rec : (Int32 × Int32 × ro_Mem) → Option (ro_Mem ⊕ ro_Mem)} {μ : ro_Mem} (hrec : ∀ (s : Int32 × Int32 × ro_Mem) (q : (ro_Mem ⊕ ro_Mem)), rec s = some q → ok_X12_comesTo_16 K v2 v4 q → ro_X K 16 [(0, .ref (ro_ad (kG K) 207)), (2, .int v2), (3, .int s.1), (4, .int v4), (5, .int s.2.1)] [] s.2.2) {out : (ro_Mem ⊕ ro_Mem)} (hf : fj_X12_comesTo_87 rec v2 v3 v4 v5 t1 t2 μ = some out) (hq : ok_X12_comesTo_16 K v2 v4 out) : ro_X K 87 [(0, .ref (ro_ad (kG K) 207)), (2, .int v2), (3, .int v3), (4, .int v4), (5, .int v5)] [.int t2, .int t1, .ref (ro_ad (kG K) 239)] μ := by
  unfold fj_X12_comesTo_87 at hf
  obtain ⟨g14, hf⟩ := ro_gd hf
  obtain ⟨m15, e16, hf⟩ := ro_ld hf
  refine ro_iast hK sh_239 g14 dX12_comesTo_87 ?_
  refine ro_mv e16 ?_
  refine ro_iload_n hK 2 rfl dX12_comesTo_88 rfl ?_
  refine ro_iconst (v := 1) hK dX12_comesTo_89 (by decide) ?_
  refine ro_iadd hK dX12_comesTo_90 ?_
  obtain ⟨z17, e18, hf⟩ := ro_ld hf
  refine ro_iv e18 ?_
  refine ro_istore_n (L' := [(3, .int z17), (0, .ref (ro_ad (kG K) 207)), (2, .int v2), (4, .int v4), (5, .int v5)]) hK dX12_comesTo_91 rfl (by decide) rfl ?_
  refine ro_goto hK 232 dX12_comesTo_92 (by decide) ?_
  refine ro_goto hK 16 dX12_comesTo_232 (by decide) ?_
  refine ro_sub (L' := [(0, .ref (ro_ad (kG K) 207)), (2, .int v2), (3, .int z17), (4, .int v4), (5, .int v5)]) [1, 2, 0, 3, 4] rfl ?_
  exact hrec (z17, v5, m15) _ hf hq
def fj_X12_comesTo_65 (rec : (Int32 × Int32 × ro_Mem) → Option (ro_Mem ⊕ ro_Mem)) (v2 : Int32) (v3 : Int32) (v4 : Int32) (v5 : Int32) (v6 : Int32) (v7 : Int32) (μ : ro_Mem) : Option (ro_Mem ⊕ ro_Mem) :=
  if v6 = 0 then
  (fj_X12_comesTo_87 rec v2 v3 v4 v5 v3 v7 μ)
  else
  (if ro_in v7 12 then
  (fj_X12_comesTo_87 rec v2 v3 v4 v5 v3 (μ 240 v7.toNatClampNeg) μ) else none)
theorem bj_X12_comesTo_65 {K : ro_K} (hK : ro_C K RX12 cX12_comesTo 8 1) (hR : ro_R K (some .int)) {v2 : Int32} {v3 : Int32} {v4 : Int32} {v5 : Int32} {v6 : Int32} {v7 : Int32}  {rec : (Int32 × Int32 × ro_Mem) → Option (ro_Mem ⊕ ro_Mem)} {μ : ro_Mem} (hrec : ∀ (s : Int32 × Int32 × ro_Mem) (q : (ro_Mem ⊕ ro_Mem)), rec s = some q → ok_X12_comesTo_16 K v2 v4 q → ro_X K 16 [(0, .ref (ro_ad (kG K) 207)), (2, .int v2), (3, .int s.1), (4, .int v4), (5, .int s.2.1)] [] s.2.2) {out : (ro_Mem ⊕ ro_Mem)} (hf : fj_X12_comesTo_65 rec v2 v3 v4 v5 v6 v7 μ = some out) (hq : ok_X12_comesTo_16 K v2 v4 out) : ro_X K 65 [(0, .ref (ro_ad (kG K) 207)), (2, .int v2), (3, .int v3), (4, .int v4), (5, .int v5), (6, .int v6), (7, .int v7)] [] μ := by
  unfold fj_X12_comesTo_65 at hf
  refine ro_aload_n hK 0 rfl dX12_comesTo_65 rfl ?_
  refine ro_getr hK fl_X12_105 sh_207 dX12_comesTo_66 ?_
  refine ro_iload_n hK 2 rfl dX12_comesTo_69 rfl ?_
  refine ro_iload hK 5 rfl dX12_comesTo_70 ?_
  refine ro_if_ne hK 80 dX12_comesTo_72 (by decide) (fun c12 => ?_) (fun c12 => ?_)
  · have hf := ro_ie hf c12
    refine ro_aload_n hK 0 rfl dX12_comesTo_80 rfl ?_
    refine ro_getr hK fl_X12_108 sh_207 dX12_comesTo_81 ?_
    refine ro_iload hK 6 rfl dX12_comesTo_84 ?_
    obtain ⟨g13, hf⟩ := ro_gd hf
    refine ro_iald hK sh_240 g13 dX12_comesTo_86 ?_
    refine ro_sub (L' := [(0, .ref (ro_ad (kG K) 207)), (2, .int v2), (3, .int v3), (4, .int v4), (5, .int v5)]) [0, 1, 2, 3, 4] rfl ?_
    exact bj_X12_comesTo_87 hK hR  hrec hf hq
  · have hf := ro_it hf c12
    refine ro_iload hK 6 rfl dX12_comesTo_75 ?_
    refine ro_goto hK 87 dX12_comesTo_77 (by decide) ?_
    refine ro_sub (L' := [(0, .ref (ro_ad (kG K) 207)), (2, .int v2), (3, .int v3), (4, .int v4), (5, .int v5)]) [0, 1, 2, 3, 4] rfl ?_
    exact bj_X12_comesTo_87 hK hR  hrec hf hq
def fj_X12_comesTo_157 (rec : (Int32 × Int32 × ro_Mem) → Option (ro_Mem ⊕ ro_Mem)) (v2 : Int32) (v3 : Int32) (v4 : Int32) (v5 : Int32) (v7 : Int32) (t0 : Int32) (t1 : Int32) (μ : ro_Mem) : Option (ro_Mem ⊕ ro_Mem) :=
  if t0 = t1 then
  (ro_lt (v4 + v7) fun z27 =>
  rec (v3, z27, μ))
  else
  (ro_lt (v3 - 1) fun z25 =>
  rec (z25, v5, μ))
theorem bj_X12_comesTo_157 {K : ro_K} (hK : ro_C K RX12 cX12_comesTo 8 1) (hR : ro_R K (some .int)) {v2 : Int32} {v3 : Int32} {v4 : Int32} {v5 : Int32} {v7 : Int32} {t0 : Int32} {t1 : Int32}  {rec : (Int32 × Int32 × ro_Mem) → Option (ro_Mem ⊕ ro_Mem)} {μ : ro_Mem} (hrec : ∀ (s : Int32 × Int32 × ro_Mem) (q : (ro_Mem ⊕ ro_Mem)), rec s = some q → ok_X12_comesTo_16 K v2 v4 q → ro_X K 16 [(0, .ref (ro_ad (kG K) 207)), (2, .int v2), (3, .int s.1), (4, .int v4), (5, .int s.2.1)] [] s.2.2) {out : (ro_Mem ⊕ ro_Mem)} (hf : fj_X12_comesTo_157 rec v2 v3 v4 v5 v7 t0 t1 μ = some out) (hq : ok_X12_comesTo_16 K v2 v4 out) : ro_X K 157 [(0, .ref (ro_ad (kG K) 207)), (2, .int v2), (3, .int v3), (4, .int v4), (5, .int v5), (7, .int v7)] [.int t1, .int t0] μ := by
  unfold fj_X12_comesTo_157 at hf
  refine ro_icmp_ne hK 170 dX12_comesTo_157 (by decide) (fun c24 => ?_) (fun c24 => ?_)
  · have hf := ro_ie hf c24
    refine ro_iload_n hK 2 rfl dX12_comesTo_170 rfl ?_
    refine ro_iconst (v := 1) hK dX12_comesTo_171 (by decide) ?_
    refine ro_isub hK dX12_comesTo_172 ?_
    obtain ⟨z25, e26, hf⟩ := ro_ld hf
    refine ro_iv e26 ?_
    refine ro_istore_n (L' := [(3, .int z25), (0, .ref (ro_ad (kG K) 207)), (2, .int v2), (4, .int v4), (5, .int v5), (7, .int v7)]) hK dX12_comesTo_173 rfl (by decide) rfl ?_
    refine ro_goto hK 232 dX12_comesTo_174 (by decide) ?_
    refine ro_goto hK 16 dX12_comesTo_232 (by decide) ?_
    refine ro_sub (L' := [(0, .ref (ro_ad (kG K) 207)), (2, .int v2), (3, .int z25), (4, .int v4), (5, .int v5)]) [1, 2, 0, 3, 4] rfl ?_
    exact hrec (z25, v5, μ) _ hf hq
  · have hf := ro_it hf c24
    refine ro_iload hK 3 rfl dX12_comesTo_160 ?_
    refine ro_iload hK 5 rfl dX12_comesTo_162 ?_
    refine ro_iadd hK dX12_comesTo_164 ?_
    obtain ⟨z27, e28, hf⟩ := ro_ld hf
    refine ro_iv e28 ?_
    refine ro_istore (L' := [(5, .int z27), (0, .ref (ro_ad (kG K) 207)), (2, .int v2), (3, .int v3), (4, .int v4), (7, .int v7)]) hK dX12_comesTo_165 (by decide) rfl ?_
    refine ro_goto hK 232 dX12_comesTo_167 (by decide) ?_
    refine ro_goto hK 16 dX12_comesTo_232 (by decide) ?_
    refine ro_sub (L' := [(0, .ref (ro_ad (kG K) 207)), (2, .int v2), (3, .int v3), (4, .int v4), (5, .int z27)]) [1, 2, 3, 4, 0] rfl ?_
    exact hrec (v3, z27, μ) _ hf hq
def fj_X12_comesTo_137 (rec : (Int32 × Int32 × ro_Mem) → Option (ro_Mem ⊕ ro_Mem)) (v2 : Int32) (v3 : Int32) (v4 : Int32) (v5 : Int32) (v6 : Int32) (v7 : Int32) (μ : ro_Mem) : Option (ro_Mem ⊕ ro_Mem) :=
  if ro_in (v3 - 1) 220 then
  (if v6 = 12 then
  (fj_X12_comesTo_157 rec v2 v3 v4 v5 v7 (μ 239 (v3 - 1).toNatClampNeg) 1 μ)
  else
  (fj_X12_comesTo_157 rec v2 v3 v4 v5 v7 (μ 239 (v3 - 1).toNatClampNeg) 0 μ)) else none
theorem bj_X12_comesTo_137 {K : ro_K} (hK : ro_C K RX12 cX12_comesTo 8 1) (hR : ro_R K (some .int)) {v2 : Int32} {v3 : Int32} {v4 : Int32} {v5 : Int32} {v6 : Int32} {v7 : Int32}  {rec : (Int32 × Int32 × ro_Mem) → Option (ro_Mem ⊕ ro_Mem)} {μ : ro_Mem} (hrec : ∀ (s : Int32 × Int32 × ro_Mem) (q : (ro_Mem ⊕ ro_Mem)), rec s = some q → ok_X12_comesTo_16 K v2 v4 q → ro_X K 16 [(0, .ref (ro_ad (kG K) 207)), (2, .int v2), (3, .int s.1), (4, .int v4), (5, .int s.2.1)] [] s.2.2) {out : (ro_Mem ⊕ ro_Mem)} (hf : fj_X12_comesTo_137 rec v2 v3 v4 v5 v6 v7 μ = some out) (hq : ok_X12_comesTo_16 K v2 v4 out) : ro_X K 137 [(0, .ref (ro_ad (kG K) 207)), (2, .int v2), (3, .int v3), (4, .int v4), (5, .int v5), (6, .int v6), (7, .int v7)] [] μ := by
  unfold fj_X12_comesTo_137 at hf
  refine ro_aload_n hK 0 rfl dX12_comesTo_137 rfl ?_
  refine ro_getr hK fl_X12_105 sh_207 dX12_comesTo_138 ?_
  refine ro_iload_n hK 2 rfl dX12_comesTo_141 rfl ?_
  refine ro_iconst (v := 1) hK dX12_comesTo_142 (by decide) ?_
  refine ro_isub hK dX12_comesTo_143 ?_
  obtain ⟨g22, hf⟩ := ro_gd hf
  refine ro_iald hK sh_239 g22 dX12_comesTo_144 ?_
  refine ro_iload hK 5 rfl dX12_comesTo_145 ?_
  refine ro_bipush (v := 12) hK dX12_comesTo_147 (by decide) ?_
  refine ro_icmp_ne hK 156 dX12_comesTo_149 (by decide) (fun c23 => ?_) (fun c23 => ?_)
  · have hf := ro_ie hf c23
    refine ro_iconst (v := 0) hK dX12_comesTo_156 (by decide) ?_
    refine ro_sub (L' := [(0, .ref (ro_ad (kG K) 207)), (2, .int v2), (3, .int v3), (4, .int v4), (5, .int v5), (7, .int v7)]) [0, 1, 2, 3, 4, 6] rfl ?_
    exact bj_X12_comesTo_157 hK hR  hrec hf hq
  · have hf := ro_it hf c23
    refine ro_iconst (v := 1) hK dX12_comesTo_152 (by decide) ?_
    refine ro_goto hK 157 dX12_comesTo_153 (by decide) ?_
    refine ro_sub (L' := [(0, .ref (ro_ad (kG K) 207)), (2, .int v2), (3, .int v3), (4, .int v4), (5, .int v5), (7, .int v7)]) [0, 1, 2, 3, 4, 6] rfl ?_
    exact bj_X12_comesTo_157 hK hR  hrec hf hq
def fj_X12_comesTo_205 (rec : (Int32 × Int32 × ro_Mem) → Option (ro_Mem ⊕ ro_Mem)) (v2 : Int32) (v3 : Int32) (v4 : Int32) (v5 : Int32) (v6 : Int32) (μ : ro_Mem) : Option (ro_Mem ⊕ ro_Mem) :=
  if ro_in (v3 - 1) 220 then
  (if ro_in v3 220 then
  ((fn_X12_reckon v6 (μ 239 (v3 - 1).toNatClampNeg) (μ 239 v3.toNatClampNeg)).bind fun q37 =>
  ro_lt (ro_set μ 239 (v3 - 1).toNatClampNeg q37) fun m39 =>
  rec (v3, v5, m39)) else none) else none
theorem bj_X12_comesTo_205 {K : ro_K} (hK : ro_C K RX12 cX12_comesTo 8 1) (hR : ro_R K (some .int)) {v2 : Int32} {v3 : Int32} {v4 : Int32} {v5 : Int32} {v6 : Int32}  {rec : (Int32 × Int32 × ro_Mem) → Option (ro_Mem ⊕ ro_Mem)} {μ : ro_Mem} (hrec : ∀ (s : Int32 × Int32 × ro_Mem) (q : (ro_Mem ⊕ ro_Mem)), rec s = some q → ok_X12_comesTo_16 K v2 v4 q → ro_X K 16 [(0, .ref (ro_ad (kG K) 207)), (2, .int v2), (3, .int s.1), (4, .int v4), (5, .int s.2.1)] [] s.2.2) {out : (ro_Mem ⊕ ro_Mem)} (hf : fj_X12_comesTo_205 rec v2 v3 v4 v5 v6 μ = some out) (hq : ok_X12_comesTo_16 K v2 v4 out) : ro_X K 205 [(0, .ref (ro_ad (kG K) 207)), (2, .int v2), (3, .int v3), (4, .int v4), (5, .int v5), (6, .int v6)] [] μ := by
  unfold fj_X12_comesTo_205 at hf
  refine ro_aload_n hK 0 rfl dX12_comesTo_205 rfl ?_
  refine ro_getr hK fl_X12_105 sh_207 dX12_comesTo_206 ?_
  refine ro_iload_n hK 2 rfl dX12_comesTo_209 rfl ?_
  refine ro_iconst (v := 1) hK dX12_comesTo_210 (by decide) ?_
  refine ro_isub hK dX12_comesTo_211 ?_
  refine ro_iload hK 5 rfl dX12_comesTo_212 ?_
  refine ro_aload_n hK 0 rfl dX12_comesTo_214 rfl ?_
  refine ro_getr hK fl_X12_105 sh_207 dX12_comesTo_215 ?_
  refine ro_iload_n hK 2 rfl dX12_comesTo_218 rfl ?_
  refine ro_iconst (v := 1) hK dX12_comesTo_219 (by decide) ?_
  refine ro_isub hK dX12_comesTo_220 ?_
  obtain ⟨g35, hf⟩ := ro_gd hf
  refine ro_iald hK sh_239 g35 dX12_comesTo_221 ?_
  refine ro_aload_n hK 0 rfl dX12_comesTo_222 rfl ?_
  refine ro_getr hK fl_X12_105 sh_207 dX12_comesTo_223 ?_
  refine ro_iload_n hK 2 rfl dX12_comesTo_226 rfl ?_
  obtain ⟨g36, hf⟩ := ro_gd hf
  refine ro_iald hK sh_239 g36 dX12_comesTo_227 ?_
  obtain ⟨q37, e38, hf⟩ := ro_bd hf
  refine ro_callsi hK [.int v6, .int (μ 239 (v3 - 1).toNatClampNeg), .int (μ 239 v3.toNatClampNeg)] ml_X12_378 ms_X12_reckon (mt_X12_reckon (kl K) (kG K)  e38) (by decide) rfl rfl (Nat.le_of_ble_eq_true rfl) dX12_comesTo_228 ?_
  obtain ⟨m39, e40, hf⟩ := ro_ld hf
  refine ro_iast hK sh_239 g35 dX12_comesTo_231 ?_
  refine ro_mv e40 ?_
  refine ro_goto hK 16 dX12_comesTo_232 (by decide) ?_
  refine ro_sub (L' := [(0, .ref (ro_ad (kG K) 207)), (2, .int v2), (3, .int v3), (4, .int v4), (5, .int v5)]) [0, 1, 2, 3, 4] rfl ?_
  exact hrec (v3, v5, m39) _ hf hq
def fj_X12_comesTo_194 (rec : (Int32 × Int32 × ro_Mem) → Option (ro_Mem ⊕ ro_Mem)) (v2 : Int32) (v3 : Int32) (v4 : Int32) (v5 : Int32) (v6 : Int32) (μ : ro_Mem) : Option (ro_Mem ⊕ ro_Mem) :=
  if ro_in v3 220 then
  (if (μ 239 v3.toNatClampNeg) = 0 then
  (some (.inl μ))
  else
  (fj_X12_comesTo_205 rec v2 v3 v4 v5 v6 μ)) else none
theorem bj_X12_comesTo_194 {K : ro_K} (hK : ro_C K RX12 cX12_comesTo 8 1) (hR : ro_R K (some .int)) {v2 : Int32} {v3 : Int32} {v4 : Int32} {v5 : Int32} {v6 : Int32}  {rec : (Int32 × Int32 × ro_Mem) → Option (ro_Mem ⊕ ro_Mem)} {μ : ro_Mem} (hrec : ∀ (s : Int32 × Int32 × ro_Mem) (q : (ro_Mem ⊕ ro_Mem)), rec s = some q → ok_X12_comesTo_16 K v2 v4 q → ro_X K 16 [(0, .ref (ro_ad (kG K) 207)), (2, .int v2), (3, .int s.1), (4, .int v4), (5, .int s.2.1)] [] s.2.2) {out : (ro_Mem ⊕ ro_Mem)} (hf : fj_X12_comesTo_194 rec v2 v3 v4 v5 v6 μ = some out) (hq : ok_X12_comesTo_16 K v2 v4 out) : ro_X K 194 [(0, .ref (ro_ad (kG K) 207)), (2, .int v2), (3, .int v3), (4, .int v4), (5, .int v5), (6, .int v6)] [] μ := by
  unfold fj_X12_comesTo_194 at hf
  refine ro_aload_n hK 0 rfl dX12_comesTo_194 rfl ?_
  refine ro_getr hK fl_X12_105 sh_207 dX12_comesTo_195 ?_
  refine ro_iload_n hK 2 rfl dX12_comesTo_198 rfl ?_
  obtain ⟨g33, hf⟩ := ro_gd hf
  refine ro_iald hK sh_239 g33 dX12_comesTo_199 ?_
  refine ro_if_ne hK 205 dX12_comesTo_200 (by decide) (fun c34 => ?_) (fun c34 => ?_)
  · have hf := ro_ie hf c34
    exact bj_X12_comesTo_205 hK hR  hrec hf hq
  · have hf := ro_it hf c34
    refine ro_sub (L' := []) [] rfl ?_
    obtain rfl := Option.some.inj hf
    exact hq
def fb_X12_comesTo_16 (v2 : Int32) (v4 : Int32) (rec : (Int32 × Int32 × ro_Mem) → Option (ro_Mem ⊕ ro_Mem)) (v3 : Int32) (v5 : Int32) (μ : ro_Mem) : Option (ro_Mem ⊕ ro_Mem) :=
  if v2 ≤ v5 then
  (some (.inr μ))
  else
  (if ro_in v5 220 then
  (ro_lt ((μ 234 v5.toNatClampNeg) / 1048576) fun z5 =>
  ro_lt (ro_rem (μ 234 v5.toNatClampNeg) 1048576) fun z7 =>
  ro_lt (v5 + 1) fun z9 =>
  if z5 = 0 then
  (fj_X12_comesTo_65 rec v2 v3 v4 z9 z5 z7 μ)
  else
  (if z5 = 1 then
  (fj_X12_comesTo_65 rec v2 v3 v4 z9 z5 z7 μ)
  else
  (if z5 = 10 then
  (if ro_in (v3 - 1) 220 then
  (ro_lt (ro_set μ 239 (v3 - 1).toNatClampNeg (1 - (μ 239 (v3 - 1).toNatClampNeg))) fun m43 =>
  rec (v3, z9, m43)) else none)
  else
  (if z5 = 11 then
  (fj_X12_comesTo_137 rec v2 v3 v4 z9 z5 z7 μ)
  else
  (if z5 = 12 then
  (fj_X12_comesTo_137 rec v2 v3 v4 z9 z5 z7 μ)
  else
  (ro_lt (v3 - 1) fun z30 =>
  if z5 = 5 then
  (fj_X12_comesTo_194 rec v2 z30 v4 z9 z5 μ)
  else
  (if z5 = 6 then
  (fj_X12_comesTo_194 rec v2 z30 v4 z9 z5 μ)
  else
  (fj_X12_comesTo_205 rec v2 z30 v4 z9 z5 μ)))))))) else none)
theorem bb_X12_comesTo_16 {K : ro_K} (hK : ro_C K RX12 cX12_comesTo 8 1) (hR : ro_R K (some .int)) {v2 : Int32} {v4 : Int32}  {μ : ro_Mem} {rec : (Int32 × Int32 × ro_Mem) → Option (ro_Mem ⊕ ro_Mem)} {v3 : Int32} {v5 : Int32} {q : (ro_Mem ⊕ ro_Mem)} (hrec : ∀ (s : Int32 × Int32 × ro_Mem) (q : (ro_Mem ⊕ ro_Mem)), rec s = some q → ok_X12_comesTo_16 K v2 v4 q → ro_X K 16 [(0, .ref (ro_ad (kG K) 207)), (2, .int v2), (3, .int s.1), (4, .int v4), (5, .int s.2.1)] [] s.2.2) (hf : fb_X12_comesTo_16 v2 v4 rec v3 v5 μ = some q) (hq : ok_X12_comesTo_16 K v2 v4 q) : ro_X K 16 [(0, .ref (ro_ad (kG K) 207)), (2, .int v2), (3, .int v3), (4, .int v4), (5, .int v5)] [] μ := by
  unfold fb_X12_comesTo_16 at hf
  refine ro_iload hK 4 rfl dX12_comesTo_16 ?_
  refine ro_iload_n hK 1 rfl dX12_comesTo_18 rfl ?_
  refine ro_icmp_ge hK 235 dX12_comesTo_19 (by decide) (fun c3 => ?_) (fun c3 => ?_)
  · have hf := ro_it hf c3
    refine ro_sub (L' := [(0, .ref (ro_ad (kG K) 207))]) [0] rfl ?_
    obtain rfl := Option.some.inj hf
    exact hq
  · have hf := ro_ie hf c3
    refine ro_aload_n hK 0 rfl dX12_comesTo_22 rfl ?_
    refine ro_getr hK fl_X12_90 sh_207 dX12_comesTo_23 ?_
    refine ro_iload hK 4 rfl dX12_comesTo_26 ?_
    obtain ⟨g4, hf⟩ := ro_gd hf
    refine ro_iald hK sh_234 g4 dX12_comesTo_28 ?_
    refine ro_ldcw hK kc_X12_315 dX12_comesTo_29 ?_
    refine ro_idiv hK dX12_comesTo_32 (by decide) ?_
    obtain ⟨z5, e6, hf⟩ := ro_ld hf
    refine ro_iv e6 ?_
    refine ro_istore (L' := [(6, .int z5), (0, .ref (ro_ad (kG K) 207)), (2, .int v2), (3, .int v3), (4, .int v4), (5, .int v5)]) hK dX12_comesTo_33 (by decide) rfl ?_
    refine ro_aload_n hK 1 rfl dX12_comesTo_35 rfl ?_
    refine ro_getr hK fl_X12_90 sh_207 dX12_comesTo_36 ?_
    refine ro_iload hK 5 rfl dX12_comesTo_39 ?_
    refine ro_iald hK sh_234 g4 dX12_comesTo_41 ?_
    refine ro_ldcw hK kc_X12_315 dX12_comesTo_42 ?_
    refine ro_irem hK dX12_comesTo_45 (by decide) ?_
    obtain ⟨z7, e8, hf⟩ := ro_ld hf
    refine ro_iv e8 ?_
    refine ro_istore (L' := [(7, .int z7), (6, .int z5), (0, .ref (ro_ad (kG K) 207)), (2, .int v2), (3, .int v3), (4, .int v4), (5, .int v5)]) hK dX12_comesTo_46 (by decide) rfl ?_
    refine ro_iload hK 6 rfl dX12_comesTo_48 ?_
    refine ro_iconst (v := 1) hK dX12_comesTo_50 (by decide) ?_
    refine ro_iadd hK dX12_comesTo_51 ?_
    obtain ⟨z9, e10, hf⟩ := ro_ld hf
    refine ro_iv e10 ?_
    refine ro_istore (L' := [(5, .int z9), (7, .int z7), (6, .int z5), (0, .ref (ro_ad (kG K) 207)), (2, .int v2), (3, .int v3), (4, .int v4)]) hK dX12_comesTo_52 (by decide) rfl ?_
    refine ro_iload hK 2 rfl dX12_comesTo_54 ?_
    refine ro_if_eq hK 65 dX12_comesTo_56 (by decide) (fun c11 => ?_) (fun c11 => ?_)
    · have hf := ro_it hf c11
      refine ro_sub (L' := [(0, .ref (ro_ad (kG K) 207)), (2, .int v2), (3, .int v3), (4, .int v4), (5, .int z9), (6, .int z5), (7, .int z7)]) [3, 4, 5, 6, 0, 2, 1] rfl ?_
      exact bj_X12_comesTo_65 hK hR  hrec hf hq
    · have hf := ro_ie hf c11
      refine ro_iload hK 2 rfl dX12_comesTo_59 ?_
      refine ro_iconst (v := 1) hK dX12_comesTo_61 (by decide) ?_
      refine ro_icmp_ne hK 95 dX12_comesTo_62 (by decide) (fun c19 => ?_) (fun c19 => ?_)
      · have hf := ro_ie hf c19
        refine ro_iload hK 2 rfl dX12_comesTo_95 ?_
        refine ro_bipush (v := 10) hK dX12_comesTo_97 (by decide) ?_
        refine ro_icmp_ne hK 123 dX12_comesTo_99 (by decide) (fun c20 => ?_) (fun c20 => ?_)
        · have hf := ro_ie hf c20
          refine ro_iload hK 2 rfl dX12_comesTo_123 ?_
          refine ro_bipush (v := 11) hK dX12_comesTo_125 (by decide) ?_
          refine ro_icmp_eq hK 137 dX12_comesTo_127 (by decide) (fun c21 => ?_) (fun c21 => ?_)
          · have hf := ro_it hf c21
            refine ro_sub (L' := [(0, .ref (ro_ad (kG K) 207)), (2, .int v2), (3, .int v3), (4, .int v4), (5, .int z9), (6, .int z5), (7, .int z7)]) [3, 4, 5, 6, 0, 2, 1] rfl ?_
            exact bj_X12_comesTo_137 hK hR  hrec hf hq
          · have hf := ro_ie hf c21
            refine ro_iload hK 2 rfl dX12_comesTo_130 ?_
            refine ro_bipush (v := 12) hK dX12_comesTo_132 (by decide) ?_
            refine ro_icmp_ne hK 177 dX12_comesTo_134 (by decide) (fun c29 => ?_) (fun c29 => ?_)
            · have hf := ro_ie hf c29
              refine ro_iload_n hK 5 rfl dX12_comesTo_177 rfl ?_
              refine ro_iconst (v := 1) hK dX12_comesTo_178 (by decide) ?_
              refine ro_isub hK dX12_comesTo_179 ?_
              obtain ⟨z30, e31, hf⟩ := ro_ld hf
              refine ro_iv e31 ?_
              refine ro_istore_n (L' := [(3, .int z30), (5, .int z9), (7, .int z7), (6, .int z5), (0, .ref (ro_ad (kG K) 207)), (2, .int v2), (4, .int v4)]) hK dX12_comesTo_180 rfl (by decide) rfl ?_
              refine ro_iload hK 3 rfl dX12_comesTo_181 ?_
              refine ro_iconst (v := 5) hK dX12_comesTo_183 (by decide) ?_
              refine ro_icmp_eq hK 194 dX12_comesTo_184 (by decide) (fun c32 => ?_) (fun c32 => ?_)
              · have hf := ro_it hf c32
                refine ro_sub (L' := [(0, .ref (ro_ad (kG K) 207)), (2, .int v2), (3, .int z30), (4, .int v4), (5, .int z9), (6, .int z5)]) [4, 5, 0, 6, 1, 3] rfl ?_
                exact bj_X12_comesTo_194 hK hR  hrec hf hq
              · have hf := ro_ie hf c32
                refine ro_iload hK 3 rfl dX12_comesTo_187 ?_
                refine ro_bipush (v := 6) hK dX12_comesTo_189 (by decide) ?_
                refine ro_icmp_ne hK 205 dX12_comesTo_191 (by decide) (fun c41 => ?_) (fun c41 => ?_)
                · have hf := ro_ie hf c41
                  refine ro_sub (L' := [(0, .ref (ro_ad (kG K) 207)), (2, .int v2), (3, .int z30), (4, .int v4), (5, .int z9), (6, .int z5)]) [4, 5, 0, 6, 1, 3] rfl ?_
                  exact bj_X12_comesTo_205 hK hR  hrec hf hq
                · have hf := ro_it hf c41
                  refine ro_sub (L' := [(0, .ref (ro_ad (kG K) 207)), (2, .int v2), (3, .int z30), (4, .int v4), (5, .int z9), (6, .int z5)]) [4, 5, 0, 6, 1, 3] rfl ?_
                  exact bj_X12_comesTo_194 hK hR  hrec hf hq
            · have hf := ro_it hf c29
              refine ro_sub (L' := [(0, .ref (ro_ad (kG K) 207)), (2, .int v2), (3, .int v3), (4, .int v4), (5, .int z9), (6, .int z5), (7, .int z7)]) [3, 4, 5, 6, 0, 2, 1] rfl ?_
              exact bj_X12_comesTo_137 hK hR  hrec hf hq
        · have hf := ro_it hf c20
          refine ro_aload_n hK 3 rfl dX12_comesTo_102 rfl ?_
          refine ro_getr hK fl_X12_105 sh_207 dX12_comesTo_103 ?_
          refine ro_iload_n hK 5 rfl dX12_comesTo_106 rfl ?_
          refine ro_iconst (v := 1) hK dX12_comesTo_107 (by decide) ?_
          refine ro_isub hK dX12_comesTo_108 ?_
          refine ro_iconst (v := 1) hK dX12_comesTo_109 (by decide) ?_
          refine ro_aload_n hK 3 rfl dX12_comesTo_110 rfl ?_
          refine ro_getr hK fl_X12_105 sh_207 dX12_comesTo_111 ?_
          refine ro_iload_n hK 5 rfl dX12_comesTo_114 rfl ?_
          refine ro_iconst (v := 1) hK dX12_comesTo_115 (by decide) ?_
          refine ro_isub hK dX12_comesTo_116 ?_
          obtain ⟨g42, hf⟩ := ro_gd hf
          refine ro_iald hK sh_239 g42 dX12_comesTo_117 ?_
          refine ro_isub hK dX12_comesTo_118 ?_
          obtain ⟨m43, e44, hf⟩ := ro_ld hf
          refine ro_iast hK sh_239 g42 dX12_comesTo_119 ?_
          refine ro_mv e44 ?_
          refine ro_goto hK 232 dX12_comesTo_120 (by decide) ?_
          refine ro_goto hK 16 dX12_comesTo_232 (by decide) ?_
          refine ro_sub (L' := [(0, .ref (ro_ad (kG K) 207)), (2, .int v2), (3, .int v3), (4, .int v4), (5, .int z9)]) [3, 4, 5, 6, 0] rfl ?_
          exact hrec (v3, z9, m43) _ hf hq
      · have hf := ro_it hf c19
        refine ro_sub (L' := [(0, .ref (ro_ad (kG K) 207)), (2, .int v2), (3, .int v3), (4, .int v4), (5, .int z9), (6, .int z5), (7, .int z7)]) [3, 4, 5, 6, 0, 2, 1] rfl ?_
        exact bj_X12_comesTo_65 hK hR  hrec hf hq
def fl_X12_comesTo_16 (v2 : Int32) (v4 : Int32) : (Int32 × Int32 × ro_Mem) → Option (ro_Mem ⊕ ro_Mem) :=
  ro_loop (fun rec s => fb_X12_comesTo_16 v2 v4 rec s.1 s.2.1 s.2.2) ro_FU
theorem lp_X12_comesTo_16 {K : ro_K} (hK : ro_C K RX12 cX12_comesTo 8 1) (hR : ro_R K (some .int)) {v2 : Int32} {v4 : Int32}  {s : Int32 × Int32 × ro_Mem} {q : (ro_Mem ⊕ ro_Mem)} (hf : fl_X12_comesTo_16 v2 v4 s = some q) (hq : ok_X12_comesTo_16 K v2 v4 q) : ro_X K 16 [(0, .ref (ro_ad (kG K) 207)), (2, .int v2), (3, .int s.1), (4, .int v4), (5, .int s.2.1)] [] s.2.2 :=
  ro_loopX (b := fun rec s => fb_X12_comesTo_16 v2 v4 rec s.1 s.2.1 s.2.2) (X := fun s => ro_X K 16 [(0, .ref (ro_ad (kG K) 207)), (2, .int v2), (3, .int s.1), (4, .int v4), (5, .int s.2.1)] [] s.2.2) (OK := ok_X12_comesTo_16 K v2 v4) (fun rec s q hrec hb ho => bb_X12_comesTo_16 hK hR  hrec hb ho) ro_FU s q hf hq
def fn_X12_comesTo (v1 : Int32) (v2 : Int32) (μ : ro_Mem) : Option (Int32 × ro_Mem) :=
  ro_lt (220 * (v1 / 220)) fun z1 =>
  (fl_X12_comesTo_16 v2 z1 (0, v1, μ)).bind fun q45 =>
  q45.elim (fun e47 => some (0, e47)) (fun e48 => some (e48 239 (0 : Int32).toNatClampNeg, e48))
theorem be_X12_comesTo {K : ro_K} (hK : ro_C K RX12 cX12_comesTo 8 1) (hR : ro_R K (some .int)) {v1 : Int32} {v2 : Int32}  {μ : ro_Mem} {out : Int32 × ro_Mem} (hf : fn_X12_comesTo v1 v2 μ = some out) (hq : kQ K (some (.int out.1)) out.2) : ro_X K 0 [(0, .ref (ro_ad (kG K) 207)), (1, .int v1), (2, .int v2)] [] μ := by
  unfold fn_X12_comesTo at hf
  refine ro_iconst (v := 0) hK dX12_comesTo_0 (by decide) ?_
  refine ro_istore_n (L' := [(3, .int 0), (0, .ref (ro_ad (kG K) 207)), (1, .int v1), (2, .int v2)]) hK dX12_comesTo_1 rfl (by decide) rfl ?_
  refine ro_sipush (v := 220) hK dX12_comesTo_2 (by decide) ?_
  refine ro_iload_n hK 2 rfl dX12_comesTo_5 rfl ?_
  refine ro_sipush (v := 220) hK dX12_comesTo_6 (by decide) ?_
  refine ro_idiv hK dX12_comesTo_9 (by decide) ?_
  refine ro_imul hK dX12_comesTo_10 ?_
  obtain ⟨z1, e2, hf⟩ := ro_ld hf
  refine ro_iv e2 ?_
  refine ro_istore (L' := [(4, .int z1), (3, .int 0), (0, .ref (ro_ad (kG K) 207)), (1, .int v1), (2, .int v2)]) hK dX12_comesTo_11 (by decide) rfl ?_
  refine ro_iload_n hK 3 rfl dX12_comesTo_13 rfl ?_
  refine ro_istore (L' := [(5, .int v1), (4, .int z1), (3, .int 0), (0, .ref (ro_ad (kG K) 207)), (1, .int v1), (2, .int v2)]) hK dX12_comesTo_14 (by decide) rfl ?_
  obtain ⟨q45, e46, hf⟩ := ro_bd hf
  refine ro_sub (L' := [(0, .ref (ro_ad (kG K) 207)), (2, .int v2), (3, .int 0), (4, .int z1), (5, .int v1)]) [3, 5, 2, 1, 0] rfl ?_
  refine lp_X12_comesTo_16 hK hR  e46 ?_
  rcases q45 with e47 | e48
  · have hf := ro_el hf
    show ro_X K 203 [] [] e47
    refine ro_iconst (v := 0) hK dX12_comesTo_203 (by decide) ?_
    obtain rfl := Option.some.inj hf
    exact ro_iret hK hR dX12_comesTo_204 hq
  · have hf := ro_er hf
    show ro_X K 235 [(0, .ref (ro_ad (kG K) 207))] [] e48
    refine ro_aload_n hK 0 rfl dX12_comesTo_235 rfl ?_
    refine ro_getr hK fl_X12_105 sh_207 dX12_comesTo_236 ?_
    refine ro_iconst (v := 0) hK dX12_comesTo_239 (by decide) ?_
    refine ro_iald hK sh_239 (by decide) dX12_comesTo_240 ?_
    obtain rfl := Option.some.inj hf
    exact ro_iret hK hR dX12_comesTo_241 hq
theorem mt_X12_comesTo (l : Launch) (G : ro_G) {v1 : Int32} {v2 : Int32}  {μ : ro_Mem} {out : Int32 × ro_Mem} (hf : fn_X12_comesTo v1 v2 μ = some out) : ro_MX l G yX12_comesTo cX12_comesTo 8 (some .int) 1 [.ref (ro_ad G 207), .int v1, .int v2] μ (some (.int out.1)) out.2 := by
  refine ro_MX.of (by decide +kernel) (Nat.le_of_ble_eq_true rfl) (fun K hG hl hq hK hR => ?_)
  subst hG
  exact be_X12_comesTo hK hR  hf hq
