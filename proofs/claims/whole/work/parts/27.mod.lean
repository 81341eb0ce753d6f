-- ===== X12_seatFor =====
theorem dX12_seatFor_0 : decode cX12_seatFor 0 = .ok (.iconst 0, 1) := by decide +kernel
theorem dX12_seatFor_1 : decode cX12_seatFor 1 = .ok (.istore_n 3, 1) := by decide +kernel
theorem dX12_seatFor_2 : decode cX12_seatFor 2 = .ok (.iload_n 2, 1) := by decide +kernel
theorem dX12_seatFor_3 : decode cX12_seatFor 3 = .ok (.iload_n 3, 1) := by decide +kernel
theorem dX12_seatFor_4 : decode cX12_seatFor 4 = .ok (.invokestatic 226, 3) := by decide +kernel
theorem dX12_seatFor_7 : decode cX12_seatFor 7 = .ok (.ifCond .ne 25, 3) := by decide +kernel
theorem dX12_seatFor_10 : decode cX12_seatFor 10 = .ok (.aload_n 0, 1) := by decide +kernel
theorem dX12_seatFor_11 : decode cX12_seatFor 11 = .ok (.iload_n 1, 1) := by decide +kernel
theorem dX12_seatFor_12 : decode cX12_seatFor 12 = .ok (.iload_n 3, 1) := by decide +kernel
theorem dX12_seatFor_13 : decode cX12_seatFor 13 = .ok (.iload_n 2, 1) := by decide +kernel
theorem dX12_seatFor_14 : decode cX12_seatFor 14 = .ok (.invokevirtual 457, 3) := by decide +kernel
theorem dX12_seatFor_17 : decode cX12_seatFor 17 = .ok (.aload_n 0, 1) := by decide +kernel
theorem dX12_seatFor_18 : decode cX12_seatFor 18 = .ok (.getfield 138, 3) := by decide +kernel
theorem dX12_seatFor_21 : decode cX12_seatFor 21 = .ok (.sipush 256, 3) := by decide +kernel
theorem dX12_seatFor_24 : decode cX12_seatFor 24 = .ok (.iload_n 1, 1) := by decide +kernel
theorem dX12_seatFor_25 : decode cX12_seatFor 25 = .ok (.imul, 1) := by decide +kernel
theorem dX12_seatFor_26 : decode cX12_seatFor 26 = .ok (.iload_n 2, 1) := by decide +kernel
theorem dX12_seatFor_27 : decode cX12_seatFor 27 = .ok (.iadd, 1) := by decide +kernel
theorem dX12_seatFor_28 : decode cX12_seatFor 28 = .ok (.iaload, 1) := by decide +kernel
theorem dX12_seatFor_29 : decode cX12_seatFor 29 = .ok (.if_icmp .eq 10, 3) := by decide +kernel
theorem dX12_seatFor_32 : decode cX12_seatFor 32 = .ok (.iload_n 3, 1) := by decide +kernel
theorem dX12_seatFor_33 : decode cX12_seatFor 33 = .ok (.iconst 1, 1) := by decide +kernel
theorem dX12_seatFor_34 : decode cX12_seatFor 34 = .ok (.iadd, 1) := by decide +kernel
theorem dX12_seatFor_35 : decode cX12_seatFor 35 = .ok (.istore_n 3, 1) := by decide +kernel
theorem dX12_seatFor_36 : decode cX12_seatFor 36 = .ok (.goto (-34), 3) := by decide +kernel
theorem dX12_seatFor_39 : decode cX12_seatFor 39 = .ok (.iload_n 3, 1) := by decide +kernel
theorem dX12_seatFor_40 : decode cX12_seatFor 40 = .ok (.ireturn, 1) := by decide +kernel
def ok_X12_seatFor_2 (K : ro_K) (v1 : Int32) (v2 : Int32) (μ : ro_Mem) : Int32 → Prop := fun e => ro_X K 39 [(3, .int e)] [] μ
def fb_X12_seatFor_2 (v1 : Int32) (v2 : Int32) (μ : ro_Mem) (rec : Int32 → Option Int32) (v3 : Int32) : Option Int32 :=
  (fn_X12_has v2 v3).bind fun q1 =>
  if q1 = 0 then
  ((fn_X12_costBy v1 v3 v2 μ).bind fun q6 =>
  if ro_in ((256 * v1) + v2) 2304 then
  (if q6 = (μ 250 ((256 * v1) + v2).toNatClampNeg) then
  (some v3)
  else
  (ro_lt (v3 + 1) fun z10 =>
  rec z10)) else none)
  else
  (ro_lt (v3 + 1) fun z4 =>
  rec z4)
theorem bb_X12_seatFor_2 {K : ro_K} (hK : ro_C K RX12 cX12_seatFor 4 1) (hR : ro_R K (some .int)) {v1 : Int32} {v2 : Int32}  {μ : ro_Mem} {rec : Int32 → Option Int32} {v3 : Int32} {q : Int32} (hrec : ∀ (s : Int32) (q : Int32), rec s = some q → ok_X12_seatFor_2 K v1 v2 μ q → ro_X K 2 [(0, .ref (ro_ad (kG K) 207)), (1, .int v1), (2, .int v2), (3, .int s)] [] μ) (hf : fb_X12_seatFor_2 v1 v2 μ rec v3 = some q) (hq : ok_X12_seatFor_2 K v1 v2 μ q) : ro_X K 2 [(0, .ref (ro_ad (kG K) 207)), (1, .int v1), (2, .int v2), (3, .int v3)] [] μ := by
  unfold fb_X12_seatFor_2 at hf
  refine ro_iload_n hK 2 rfl dX12_seatFor_2 rfl ?_
  refine ro_iload_n hK 3 rfl dX12_seatFor_3 rfl ?_
  obtain ⟨q1, e2, hf⟩ := ro_bd hf
  refine ro_callsi hK [.int v2, .int v3] ml_X12_226 ms_X12_has (mt_X12_has (kl K) (kG K)  e2) (by decide) rfl rfl (Nat.le_of_ble_eq_true rfl) dX12_seatFor_4 ?_
  refine ro_if_ne hK 32 dX12_seatFor_7 (by decide) (fun c3 => ?_) (fun c3 => ?_)
  · have hf := ro_ie hf c3
    refine ro_iload_n hK 3 rfl dX12_seatFor_32 rfl ?_
    refine ro_iconst (v := 1) hK dX12_seatFor_33 (by decide) ?_
    refine ro_iadd hK dX12_seatFor_34 ?_
    obtain ⟨z4, e5, hf⟩ := ro_ld hf
    refine ro_iv e5 ?_
    refine ro_istore_n (L' := [(3, .int z4), (0, .ref (ro_ad (kG K) 207)), (1, .int v1), (2, .int v2)]) hK dX12_seatFor_35 rfl (by decide) rfl ?_
    refine ro_goto hK 2 dX12_seatFor_36 (by decide) ?_
    refine ro_sub (L' := [(0, .ref (ro_ad (kG K) 207)), (1, .int v1), (2, .int v2), (3, .int z4)]) [1, 2, 3, 0] rfl ?_
    exact hrec z4 _ hf hq
  · have hf := ro_it hf c3
    refine ro_aload_n hK 0 rfl dX12_seatFor_10 rfl ?_
    refine ro_iload_n hK 1 rfl dX12_seatFor_11 rfl ?_
    refine ro_iload_n hK 3 rfl dX12_seatFor_12 rfl ?_
    refine ro_iload_n hK 2 rfl dX12_seatFor_13 rfl ?_
    obtain ⟨q6, e7, hf⟩ := ro_bd hf
    refine ro_callvi hK [.int v1, .int v3, .int v2] ml_X12_457 mv_X12_costBy (mt_X12_costBy (kl K) (kG K)  e7) sh_207 ⟨_, rfl, rfl⟩ (by decide) rfl rfl (Nat.le_of_ble_eq_true rfl) dX12_seatFor_14 ?_
    refine ro_aload_n hK 0 rfl dX12_seatFor_17 rfl ?_
    refine ro_getr hK fl_X12_138 sh_207 dX12_seatFor_18 ?_
    refine ro_sipush (v := 256) hK dX12_seatFor_21 (by decide) ?_
    refine ro_iload_n hK 1 rfl dX12_seatFor_24 rfl ?_
    refine ro_imul hK dX12_seatFor_25 ?_
    refine ro_iload_n hK 2 rfl dX12_seatFor_26 rfl ?_
    refine ro_iadd hK dX12_seatFor_27 ?_
    obtain ⟨g8, hf⟩ := ro_gd hf
    refine ro_iald hK sh_250 g8 dX12_seatFor_28 ?_
    refine ro_icmp_eq hK 39 dX12_seatFor_29 (by decide) (fun c9 => ?_) (fun c9 => ?_)
    · have hf := ro_it hf c9
      refine ro_sub (L' := [(3, .int v3)]) [3] rfl ?_
      obtain rfl := Option.some.inj hf
      exact hq
    · have hf := ro_ie hf c9
      refine ro_iload_n hK 3 rfl dX12_seatFor_32 rfl ?_
      refine ro_iconst (v := 1) hK dX12_seatFor_33 (by decide) ?_
      refine ro_iadd hK dX12_seatFor_34 ?_
      obtain ⟨z10, e11, hf⟩ := ro_ld hf
      refine ro_iv e11 ?_
      refine ro_istore_n (L' := [(3, .int z10), (0, .ref (ro_ad (kG K) 207)), (1, .int v1), (2, .int v2)]) hK dX12_seatFor_35 rfl (by decide) rfl ?_
      refine ro_goto hK 2 dX12_seatFor_36 (by decide) ?_
      refine ro_sub (L' := [(0, .ref (ro_ad (kG K) 207)), (1, .int v1), (2, .int v2), (3, .int z10)]) [1, 2, 3, 0] rfl ?_
      exact hrec z10 _ hf hq
def fl_X12_seatFor_2 (v1 : Int32) (v2 : Int32) (μ : ro_Mem) : Int32 → Option Int32 :=
  ro_loop (fun rec s => fb_X12_seatFor_2 v1 v2 μ rec s) ro_FU
theorem lp_X12_seatFor_2 {K : ro_K} (hK : ro_C K RX12 cX12_seatFor 4 1) (hR : ro_R K (some .int)) {v1 : Int32} {v2 : Int32}  {μ : ro_Mem} {s : Int32} {q : Int32} (hf : fl_X12_seatFor_2 v1 v2 μ s = some q) (hq : ok_X12_seatFor_2 K v1 v2 μ q) : ro_X K 2 [(0, .ref (ro_ad (kG K) 207)), (1, .int v1), (2, .int v2), (3, .int s)] [] μ :=
  ro_loopX (b := fun rec s => fb_X12_seatFor_2 v1 v2 μ rec s) (X := fun s => ro_X K 2 [(0, .ref (ro_ad (kG K) 207)), (1, .int v1), (2, .int v2), (3, .int s)] [] μ) (OK := ok_X12_seatFor_2 K v1 v2 μ) (fun rec s q hrec hb ho => bb_X12_seatFor_2 hK hR  hrec hb ho) ro_FU s q hf hq
def fn_X12_seatFor (v1 : Int32) (v2 : Int32) (μ : ro_Mem) : Option Int32 :=
  (fl_X12_seatFor_2 v1 v2 μ 0).bind fun q12 =>
  some q12
theorem be_X12_seatFor {K : ro_K} (hK : ro_C K RX12 cX12_seatFor 4 1) (hR : ro_R K (some .int)) {v1 : Int32} {v2 : Int32}  {μ : ro_Mem} {out : Int32} (hf : fn_X12_seatFor v1 v2 μ = some out) (hq : kQ K (some (.int out)) μ) : ro_X K 0 [(0, .ref (ro_ad (kG K) 207)), (1, .int v1), (2, .int v2)] [] μ := by
  unfold fn_X12_seatFor at hf
  refine ro_iconst (v := 0) hK dX12_seatFor_0 (by decide) ?_
  refine ro_istore_n (L' := [(3, .int 0), (0, .ref (ro_ad (kG K) 207)), (1, .int v1), (2, .int v2)]) hK dX12_seatFor_1 rfl (by decide) rfl ?_
  obtain ⟨q12, e13, hf⟩ := ro_bd hf
  refine ro_sub (L' := [(0, .ref (ro_ad (kG K) 207)), (1, .int v1), (2, .int v2), (3, .int 0)]) [1, 2, 3, 0] rfl ?_
  refine lp_X12_seatFor_2 hK hR  e13 ?_
  show ro_X K 39 [(3, .int q12)] [] μ
  refine ro_iload_n hK 0 rfl dX12_seatFor_39 rfl ?_
  obtain rfl := Option.some.inj hf
  exact ro_iret hK hR dX12_seatFor_40 hq
theorem mt_X12_seatFor (l : Launch) (G : ro_G) {v1 : Int32} {v2 : Int32}  {μ : ro_Mem} {out : Int32} (hf : fn_X12_seatFor v1 v2 μ = some out) : ro_MX l G yX12_seatFor cX12_seatFor 4 (some .int) 1 [.ref (ro_ad G 207), .int v1, .int v2] μ (some (.int out)) μ := by
  refine ro_MX.of (by decide +kernel) (Nat.le_of_ble_eq_true rfl) (fun K hG hl hq hK hR => ?_)
  subst hG
  exact be_X12_seatFor hK hR  hf hq
-- ===== X12_seated =====
theorem dX12_seated_0 : decode cX12_seated 0 = .ok (.iload 4, 2) := by decide +kernel
theorem dX12_seated_2 : decode cX12_seated 2 = .ok (.bipush 10, 2) := by decide +kernel
theorem dX12_seated_4 : decode cX12_seated 4 = .ok (.if_icmp .eq 30, 3) := by decide +kernel
theorem dX12_seated_7 : decode cX12_seated 7 = .ok (.iload 4, 2) := by decide +kernel
theorem dX12_seated_9 : decode cX12_seated 9 = .ok (.bipush 11, 2) := by decide +kernel
theorem dX12_seated_11 : decode cX12_seated 11 = .ok (.if_icmp .eq 23, 3) := by decide +kernel
theorem dX12_seated_14 : decode cX12_seated 14 = .ok (.iload 4, 2) := by decide +kernel
theorem dX12_seated_16 : decode cX12_seated 16 = .ok (.iconst 0, 1) := by decide +kernel
theorem dX12_seated_17 : decode cX12_seated 17 = .ok (.bipush 9, 2) := by decide +kernel
theorem dX12_seated_19 : decode cX12_seated 19 = .ok (.invokestatic 215, 3) := by decide +kernel
theorem dX12_seated_22 : decode cX12_seated 22 = .ok (.ifCond .eq 16, 3) := by decide +kernel
theorem dX12_seated_25 : decode cX12_seated 25 = .ok (.iload_n 2, 1) := by decide +kernel
theorem dX12_seated_26 : decode cX12_seated 26 = .ok (.iload 4, 2) := by decide +kernel
theorem dX12_seated_28 : decode cX12_seated 28 = .ok (.invokestatic 226, 3) := by decide +kernel
theorem dX12_seated_31 : decode cX12_seated 31 = .ok (.ifCond .eq 7, 3) := by decide +kernel
theorem dX12_seated_34 : decode cX12_seated 34 = .ok (.iconst 1, 1) := by decide +kernel
theorem dX12_seated_35 : decode cX12_seated 35 = .ok (.goto 4, 3) := by decide +kernel
theorem dX12_seated_38 : decode cX12_seated 38 = .ok (.iconst 0, 1) := by decide +kernel
theorem dX12_seated_39 : decode cX12_seated 39 = .ok (.istore 5, 2) := by decide +kernel
theorem dX12_seated_41 : decode cX12_seated 41 = .ok (.iload_n 1, 1) := by decide +kernel
theorem dX12_seated_42 : decode cX12_seated 42 = .ok (.invokestatic 229, 3) := by decide +kernel
theorem dX12_seated_45 : decode cX12_seated 45 = .ok (.ifCond .eq 50, 3) := by decide +kernel
theorem dX12_seated_48 : decode cX12_seated 48 = .ok (.iload_n 2, 1) := by decide +kernel
theorem dX12_seated_49 : decode cX12_seated 49 = .ok (.iconst 1, 1) := by decide +kernel
theorem dX12_seated_50 : decode cX12_seated 50 = .ok (.if_icmp .lt 45, 3) := by decide +kernel
theorem dX12_seated_53 : decode cX12_seated 53 = .ok (.iload_n 2, 1) := by decide +kernel
theorem dX12_seated_54 : decode cX12_seated 54 = .ok (.aload_n 0, 1) := by decide +kernel
theorem dX12_seated_55 : decode cX12_seated 55 = .ok (.getfield 232, 3) := by decide +kernel
theorem dX12_seated_58 : decode cX12_seated 58 = .ok (.iconst (-1), 1) := by decide +kernel
theorem dX12_seated_59 : decode cX12_seated 59 = .ok (.ixor, 1) := by decide +kernel
theorem dX12_seated_60 : decode cX12_seated 60 = .ok (.iand, 1) := by decide +kernel
theorem dX12_seated_61 : decode cX12_seated 61 = .ok (.ifCond .ne 34, 3) := by decide +kernel
theorem dX12_seated_64 : decode cX12_seated 64 = .ok (.iload_n 2, 1) := by decide +kernel
theorem dX12_seated_65 : decode cX12_seated 65 = .ok (.invokestatic 460, 3) := by decide +kernel
theorem dX12_seated_68 : decode cX12_seated 68 = .ok (.iload_n 3, 1) := by decide +kernel
theorem dX12_seated_69 : decode cX12_seated 69 = .ok (.if_icmp .ne 26, 3) := by decide +kernel
theorem dX12_seated_72 : decode cX12_seated 72 = .ok (.iload_n 3, 1) := by decide +kernel
theorem dX12_seated_73 : decode cX12_seated 73 = .ok (.iconst 1, 1) := by decide +kernel
theorem dX12_seated_74 : decode cX12_seated 74 = .ok (.bipush 8, 2) := by decide +kernel
theorem dX12_seated_76 : decode cX12_seated 76 = .ok (.invokestatic 215, 3) := by decide +kernel
theorem dX12_seated_79 : decode cX12_seated 79 = .ok (.ifCond .eq 16, 3) := by decide +kernel
theorem dX12_seated_82 : decode cX12_seated 82 = .ok (.iload 5, 2) := by decide +kernel
theorem dX12_seated_84 : decode cX12_seated 84 = .ok (.ifCond .eq 11, 3) := by decide +kernel
theorem dX12_seated_87 : decode cX12_seated 87 = .ok (.iload_n 3, 1) := by decide +kernel
theorem dX12_seated_88 : decode cX12_seated 88 = .ok (.aload_n 0, 1) := by decide +kernel
theorem dX12_seated_89 : decode cX12_seated 89 = .ok (.getfield 242, 3) := by decide +kernel
theorem dX12_seated_92 : decode cX12_seated 92 = .ok (.if_icmp .le 5, 3) := by decide +kernel
theorem dX12_seated_95 : decode cX12_seated 95 = .ok (.iconst (-1), 1) := by decide +kernel
theorem dX12_seated_96 : decode cX12_seated 96 = .ok (.ireturn, 1) := by decide +kernel
theorem dX12_seated_97 : decode cX12_seated 97 = .ok (.aload_n 0, 1) := by decide +kernel
theorem dX12_seated_98 : decode cX12_seated 98 = .ok (.iconst 0, 1) := by decide +kernel
theorem dX12_seated_99 : decode cX12_seated 99 = .ok (.putfield 242, 3) := by decide +kernel
theorem dX12_seated_102 : decode cX12_seated 102 = .ok (.aload_n 0, 1) := by decide +kernel
theorem dX12_seated_103 : decode cX12_seated 103 = .ok (.iload_n 1, 1) := by decide +kernel
theorem dX12_seated_104 : decode cX12_seated 104 = .ok (.iload_n 2, 1) := by decide +kernel
theorem dX12_seated_105 : decode cX12_seated 105 = .ok (.iload_n 3, 1) := by decide +kernel
theorem dX12_seated_106 : decode cX12_seated 106 = .ok (.invokevirtual 463, 3) := by decide +kernel
theorem dX12_seated_109 : decode cX12_seated 109 = .ok (.ifCond .ne 6, 3) := by decide +kernel
theorem dX12_seated_112 : decode cX12_seated 112 = .ok (.bipush (-2), 2) := by decide +kernel
theorem dX12_seated_114 : decode cX12_seated 114 = .ok (.ireturn, 1) := by decide +kernel
theorem dX12_seated_115 : decode cX12_seated 115 = .ok (.aload_n 0, 1) := by decide +kernel
theorem dX12_seated_116 : decode cX12_seated 116 = .ok (.invokevirtual 426, 3) := by decide +kernel
theorem dX12_seated_119 : decode cX12_seated 119 = .ok (.aload_n 0, 1) := by decide +kernel
theorem dX12_seated_120 : decode cX12_seated 120 = .ok (.iload_n 3, 1) := by decide +kernel
theorem dX12_seated_121 : decode cX12_seated 121 = .ok (.putfield 453, 3) := by decide +kernel
theorem dX12_seated_124 : decode cX12_seated 124 = .ok (.iconst 0, 1) := by decide +kernel
theorem dX12_seated_125 : decode cX12_seated 125 = .ok (.istore 6, 2) := by decide +kernel
theorem dX12_seated_127 : decode cX12_seated 127 = .ok (.iconst 0, 1) := by decide +kernel
theorem dX12_seated_128 : decode cX12_seated 128 = .ok (.istore 7, 2) := by decide +kernel
theorem dX12_seated_130 : decode cX12_seated 130 = .ok (.iload 7, 2) := by decide +kernel
theorem dX12_seated_132 : decode cX12_seated 132 = .ok (.bipush 10, 2) := by decide +kernel
theorem dX12_seated_134 : decode cX12_seated 134 = .ok (.if_icmp .ge 55, 3) := by decide +kernel
theorem dX12_seated_137 : decode cX12_seated 137 = .ok (.iload_n 2, 1) := by decide +kernel
theorem dX12_seated_138 : decode cX12_seated 138 = .ok (.iload 7, 2) := by decide +kernel
theorem dX12_seated_140 : decode cX12_seated 140 = .ok (.invokestatic 226, 3) := by decide +kernel
theorem dX12_seated_143 : decode cX12_seated 143 = .ok (.ifCond .ne 6, 3) := by decide +kernel
theorem dX12_seated_146 : decode cX12_seated 146 = .ok (.goto 37, 3) := by decide +kernel
theorem dX12_seated_149 : decode cX12_seated 149 = .ok (.aload_n 0, 1) := by decide +kernel
theorem dX12_seated_150 : decode cX12_seated 150 = .ok (.getfield 132, 3) := by decide +kernel
theorem dX12_seated_153 : decode cX12_seated 153 = .ok (.iload 6, 2) := by decide +kernel
theorem dX12_seated_155 : decode cX12_seated 155 = .ok (.iload 7, 2) := by decide +kernel
theorem dX12_seated_157 : decode cX12_seated 157 = .ok (.iastore, 1) := by decide +kernel
theorem dX12_seated_158 : decode cX12_seated 158 = .ok (.aload_n 0, 1) := by decide +kernel
theorem dX12_seated_159 : decode cX12_seated 159 = .ok (.getfield 135, 3) := by decide +kernel
theorem dX12_seated_162 : decode cX12_seated 162 = .ok (.iload 6, 2) := by decide +kernel
theorem dX12_seated_164 : decode cX12_seated 164 = .ok (.aload_n 0, 1) := by decide +kernel
theorem dX12_seated_165 : decode cX12_seated 165 = .ok (.iload_n 1, 1) := by decide +kernel
theorem dX12_seated_166 : decode cX12_seated 166 = .ok (.aload_n 0, 1) := by decide +kernel
theorem dX12_seated_167 : decode cX12_seated 167 = .ok (.getfield 129, 3) := by decide +kernel
theorem dX12_seated_170 : decode cX12_seated 170 = .ok (.iload 6, 2) := by decide +kernel
theorem dX12_seated_172 : decode cX12_seated 172 = .ok (.iaload, 1) := by decide +kernel
theorem dX12_seated_173 : decode cX12_seated 173 = .ok (.invokevirtual 423, 3) := by decide +kernel
theorem dX12_seated_176 : decode cX12_seated 176 = .ok (.iastore, 1) := by decide +kernel
theorem dX12_seated_177 : decode cX12_seated 177 = .ok (.iload 6, 2) := by decide +kernel
theorem dX12_seated_179 : decode cX12_seated 179 = .ok (.iconst 1, 1) := by decide +kernel
theorem dX12_seated_180 : decode cX12_seated 180 = .ok (.iadd, 1) := by decide +kernel
theorem dX12_seated_181 : decode cX12_seated 181 = .ok (.istore 6, 2) := by decide +kernel
theorem dX12_seated_183 : decode cX12_seated 183 = .ok (.iinc 7 1, 3) := by decide +kernel
theorem dX12_seated_186 : decode cX12_seated 186 = .ok (.goto (-56), 3) := by decide +kernel
theorem dX12_seated_189 : decode cX12_seated 189 = .ok (.aload_n 0, 1) := by decide +kernel
theorem dX12_seated_190 : decode cX12_seated 190 = .ok (.invokevirtual 466, 3) := by decide +kernel
theorem dX12_seated_193 : decode cX12_seated 193 = .ok (.aload_n 0, 1) := by decide +kernel
theorem dX12_seated_194 : decode cX12_seated 194 = .ok (.getfield 138, 3) := by decide +kernel
theorem dX12_seated_197 : decode cX12_seated 197 = .ok (.iconst 0, 1) := by decide +kernel
theorem dX12_seated_198 : decode cX12_seated 198 = .ok (.iaload, 1) := by decide +kernel
theorem dX12_seated_199 : decode cX12_seated 199 = .ok (.istore 7, 2) := by decide +kernel
theorem dX12_seated_201 : decode cX12_seated 201 = .ok (.iconst 0, 1) := by decide +kernel
theorem dX12_seated_202 : decode cX12_seated 202 = .ok (.istore 8, 2) := by decide +kernel
theorem dX12_seated_204 : decode cX12_seated 204 = .ok (.iload 7, 2) := by decide +kernel
theorem dX12_seated_206 : decode cX12_seated 206 = .ok (.istore 9, 2) := by decide +kernel
theorem dX12_seated_208 : decode cX12_seated 208 = .ok (.iconst 0, 1) := by decide +kernel
theorem dX12_seated_209 : decode cX12_seated 209 = .ok (.istore 10, 2) := by decide +kernel
theorem dX12_seated_211 : decode cX12_seated 211 = .ok (.iload 10, 2) := by decide +kernel
theorem dX12_seated_213 : decode cX12_seated 213 = .ok (.iload_n 3, 1) := by decide +kernel
theorem dX12_seated_214 : decode cX12_seated 214 = .ok (.if_icmp .ge 80, 3) := by decide +kernel
theorem dX12_seated_217 : decode cX12_seated 217 = .ok (.aload_n 0, 1) := by decide +kernel
theorem dX12_seated_218 : decode cX12_seated 218 = .ok (.iload 10, 2) := by decide +kernel
theorem dX12_seated_220 : decode cX12_seated 220 = .ok (.iload 8, 2) := by decide +kernel
theorem dX12_seated_222 : decode cX12_seated 222 = .ok (.invokevirtual 469, 3) := by decide +kernel
theorem dX12_seated_225 : decode cX12_seated 225 = .ok (.istore 11, 2) := by decide +kernel
theorem dX12_seated_227 : decode cX12_seated 227 = .ok (.aload_n 0, 1) := by decide +kernel
theorem dX12_seated_228 : decode cX12_seated 228 = .ok (.getfield 132, 3) := by decide +kernel
theorem dX12_seated_231 : decode cX12_seated 231 = .ok (.iload 10, 2) := by decide +kernel
theorem dX12_seated_233 : decode cX12_seated 233 = .ok (.iaload, 1) := by decide +kernel
theorem dX12_seated_234 : decode cX12_seated 234 = .ok (.iload 4, 2) := by decide +kernel
theorem dX12_seated_236 : decode cX12_seated 236 = .ok (.if_icmp .ne 12, 3) := by decide +kernel
theorem dX12_seated_239 : decode cX12_seated 239 = .ok (.aload_n 0, 1) := by decide +kernel
theorem dX12_seated_240 : decode cX12_seated 240 = .ok (.getfield 129, 3) := by decide +kernel
theorem dX12_seated_243 : decode cX12_seated 243 = .ok (.iload 11, 2) := by decide +kernel
theorem dX12_seated_245 : decode cX12_seated 245 = .ok (.iaload, 1) := by decide +kernel
theorem dX12_seated_246 : decode cX12_seated 246 = .ok (.istore 9, 2) := by decide +kernel
theorem dX12_seated_248 : decode cX12_seated 248 = .ok (.iload 4, 2) := by decide +kernel
theorem dX12_seated_250 : decode cX12_seated 250 = .ok (.bipush 11, 2) := by decide +kernel
theorem dX12_seated_252 : decode cX12_seated 252 = .ok (.if_icmp .ne 27, 3) := by decide +kernel
theorem dX12_seated_255 : decode cX12_seated 255 = .ok (.aload_n 0, 1) := by decide +kernel
theorem dX12_seated_256 : decode cX12_seated 256 = .ok (.getfield 35, 3) := by decide +kernel
theorem dX12_seated_259 : decode cX12_seated 259 = .ok (.bipush 10, 2) := by decide +kernel
theorem dX12_seated_261 : decode cX12_seated 261 = .ok (.iload_n 1, 1) := by decide +kernel
theorem dX12_seated_262 : decode cX12_seated 262 = .ok (.imul, 1) := by decide +kernel
theorem dX12_seated_263 : decode cX12_seated 263 = .ok (.aload_n 0, 1) := by decide +kernel
theorem dX12_seated_264 : decode cX12_seated 264 = .ok (.getfield 132, 3) := by decide +kernel
theorem dX12_seated_267 : decode cX12_seated 267 = .ok (.iload 10, 2) := by decide +kernel
theorem dX12_seated_269 : decode cX12_seated 269 = .ok (.iaload, 1) := by decide +kernel
theorem dX12_seated_270 : decode cX12_seated 270 = .ok (.iadd, 1) := by decide +kernel
theorem dX12_seated_271 : decode cX12_seated 271 = .ok (.aload_n 0, 1) := by decide +kernel
theorem dX12_seated_272 : decode cX12_seated 272 = .ok (.getfield 129, 3) := by decide +kernel
theorem dX12_seated_275 : decode cX12_seated 275 = .ok (.iload 11, 2) := by decide +kernel
theorem dX12_seated_277 : decode cX12_seated 277 = .ok (.iaload, 1) := by decide +kernel
theorem dX12_seated_278 : decode cX12_seated 278 = .ok (.iastore, 1) := by decide +kernel
theorem dX12_seated_279 : decode cX12_seated 279 = .ok (.iload 8, 2) := by decide +kernel
theorem dX12_seated_281 : decode cX12_seated 281 = .ok (.iconst 1, 1) := by decide +kernel
theorem dX12_seated_282 : decode cX12_seated 282 = .ok (.iload 11, 2) := by decide +kernel
theorem dX12_seated_284 : decode cX12_seated 284 = .ok (.ishl, 1) := by decide +kernel
theorem dX12_seated_285 : decode cX12_seated 285 = .ok (.ior, 1) := by decide +kernel
theorem dX12_seated_286 : decode cX12_seated 286 = .ok (.istore 8, 2) := by decide +kernel
theorem dX12_seated_288 : decode cX12_seated 288 = .ok (.iinc 10 1, 3) := by decide +kernel
theorem dX12_seated_291 : decode cX12_seated 291 = .ok (.goto (-80), 3) := by decide +kernel
theorem dX12_seated_294 : decode cX12_seated 294 = .ok (.iload 9, 2) := by decide +kernel
theorem dX12_seated_296 : decode cX12_seated 296 = .ok (.ireturn, 1) := by decide +kernel
def ok_X12_seated_130 (K : ro_K) (v1 : Int32) (v2 : Int32) (v3 : Int32) (v4 : Int32) : ro_Mem → Prop := fun e => ro_X K 189 [(0, .ref (ro_ad (kG K) 207)), (1, .int v1), (3, .int v3), (4, .int v4)] [] e
def fb_X12_seated_130 (v1 : Int32) (v2 : Int32) (v3 : Int32) (v4 : Int32) (rec : (Int32 × Int32 × ro_Mem) → Option ro_Mem) (v6 : Int32) (v7 : Int32) (μ : ro_Mem) : Option ro_Mem :=
  if 10 ≤ v7 then
  (some μ)
  else
  ((fn_X12_has v2 v7).bind fun q25 =>
  if q25 = 0 then
  (rec (v6, v7 + 1, μ))
  else
  (if ro_in v6 8 then
  (ro_lt (ro_set μ 248 v6.toNatClampNeg v7) fun m29 =>
  (fn_X12_wetOn v1 (m29 247 v6.toNatClampNeg) m29).bind fun q31 =>
  ro_lt (ro_set m29 249 v6.toNatClampNeg q31) fun m33 =>
  ro_lt (v6 + 1) fun z35 =>
  rec (z35, v7 + 1, m33)) else none))
theorem bb_X12_seated_130 {K : ro_K} (hK : ro_C K RX12 cX12_seated 12 5) (hR : ro_R K (some .int)) {v1 : Int32} {v2 : Int32} {v3 : Int32} {v4 : Int32}  {μ : ro_Mem} {rec : (Int32 × Int32 × ro_Mem) → Option ro_Mem} {v6 : Int32} {v7 : Int32} {q : ro_Mem} (hrec : ∀ (s : Int32 × Int32 × ro_Mem) (q : ro_Mem), rec s = some q → ok_X12_seated_130 K v1 v2 v3 v4 q → ro_X K 130 [(0, .ref (ro_ad (kG K) 207)), (1, .int v1), (2, .int v2), (3, .int v3), (4, .int v4), (6, .int s.1), (7, .int s.2.1)] [] s.2.2) (hf : fb_X12_seated_130 v1 v2 v3 v4 rec v6 v7 μ = some q) (hq : ok_X12_seated_130 K v1 v2 v3 v4 q) : ro_X K 130 [(0, .ref (ro_ad (kG K) 207)), (1, .int v1), (2, .int v2), (3, .int v3), (4, .int v4), (6, .int v6), (7, .int v7)] [] μ := by
  unfold fb_X12_seated_130 at hf
  refine ro_iload hK 6 rfl dX12_seated_130 ?_
  refine ro_bipush (v := 10) hK dX12_seated_132 (by decide) ?_
  refine ro_icmp_ge hK 189 dX12_seated_134 (by decide) (fun c24 => ?_) (fun c24 => ?_)
  · have hf := ro_it hf c24
    refine ro_sub (L' := [(0, .ref (ro_ad (kG K) 207)), (1, .int v1), (3, .int v3), (4, .int v4)]) [0, 1, 3, 4] rfl ?_
    obtain rfl := Option.some.inj hf
    exact hq
  · have hf := ro_ie hf c24
    refine ro_iload_n hK 2 rfl dX12_seated_137 rfl ?_
    refine ro_iload hK 6 rfl dX12_seated_138 ?_
    obtain ⟨q25, e26, hf⟩ := ro_bd hf
    refine ro_callsi hK [.int v2, .int v7] ml_X12_226 ms_X12_has (mt_X12_has (kl K) (kG K)  e26) (by decide) rfl rfl (Nat.le_of_ble_eq_true rfl) dX12_seated_140 ?_
    refine ro_if_ne hK 149 dX12_seated_143 (by decide) (fun c27 => ?_) (fun c27 => ?_)
    · have hf := ro_ie hf c27
      refine ro_aload_n hK 0 rfl dX12_seated_149 rfl ?_
      refine ro_getr hK fl_X12_132 sh_207 dX12_seated_150 ?_
      refine ro_iload hK 5 rfl dX12_seated_153 ?_
      refine ro_iload hK 6 rfl dX12_seated_155 ?_
      obtain ⟨g28, hf⟩ := ro_gd hf
      obtain ⟨m29, e30, hf⟩ := ro_ld hf
      refine ro_iast hK sh_248 g28 dX12_seated_157 ?_
      refine ro_mv e30 ?_
      refine ro_aload_n hK 0 rfl dX12_seated_158 rfl ?_
      refine ro_getr hK fl_X12_135 sh_207 dX12_seated_159 ?_
      refine ro_iload hK 5 rfl dX12_seated_162 ?_
      refine ro_aload_n hK 0 rfl dX12_seated_164 rfl ?_
      refine ro_iload_n hK 1 rfl dX12_seated_165 rfl ?_
      refine ro_aload_n hK 0 rfl dX12_seated_166 rfl ?_
      refine ro_getr hK fl_X12_129 sh_207 dX12_seated_167 ?_
      refine ro_iload hK 5 rfl dX12_seated_170 ?_
      refine ro_iald hK sh_247 g28 dX12_seated_172 ?_
      obtain ⟨q31, e32, hf⟩ := ro_bd hf
      refine ro_callvi hK [.int v1, .int (m29 247 v6.toNatClampNeg)] ml_X12_423 mv_X12_wetOn (mt_X12_wetOn (kl K) (kG K)  e32) sh_207 ⟨_, rfl, rfl⟩ (by decide) rfl rfl (Nat.le_of_ble_eq_true rfl) dX12_seated_173 ?_
      obtain ⟨m33, e34, hf⟩ := ro_ld hf
      refine ro_iast hK sh_249 g28 dX12_seated_176 ?_
      refine ro_mv e34 ?_
      refine ro_iload hK 5 rfl dX12_seated_177 ?_
      refine ro_iconst (v := 1) hK dX12_seated_179 (by decide) ?_
      refine ro_iadd hK dX12_seated_180 ?_
      obtain ⟨z35, e36, hf⟩ := ro_ld hf
      refine ro_iv e36 ?_
      refine ro_istore (L' := [(6, .int z35), (0, .ref (ro_ad (kG K) 207)), (1, .int v1), (2, .int v2), (3, .int v3), (4, .int v4), (7, .int v7)]) hK dX12_seated_181 (by decide) rfl ?_
      refine ro_iinc (v := v7 + 1) (L' := [(7, .int (v7 + 1)), (6, .int z35), (0, .ref (ro_ad (kG K) 207)), (1, .int v1), (2, .int v2), (3, .int v3), (4, .int v4)]) hK 6 rfl dX12_seated_183 rfl (by decide) rfl ?_
      refine ro_goto hK 130 dX12_seated_186 (by decide) ?_
      refine ro_sub (L' := [(0, .ref (ro_ad (kG K) 207)), (1, .int v1), (2, .int v2), (3, .int v3), (4, .int v4), (6, .int z35), (7, .int (v7 + 1))]) [2, 3, 4, 5, 6, 1, 0] rfl ?_
      exact hrec (z35, v7 + 1, m33) _ hf hq
    · have hf := ro_it hf c27
      refine ro_goto hK 183 dX12_seated_146 (by decide) ?_
      refine ro_iinc (v := v7 + 1) (L' := [(7, .int (v7 + 1)), (0, .ref (ro_ad (kG K) 207)), (1, .int v1), (2, .int v2), (3, .int v3), (4, .int v4), (6, .int v6)]) hK 6 rfl dX12_seated_183 rfl (by decide) rfl ?_
      refine ro_goto hK 130 dX12_seated_186 (by decide) ?_
      refine ro_sub (L' := [(0, .ref (ro_ad (kG K) 207)), (1, .int v1), (2, .int v2), (3, .int v3), (4, .int v4), (6, .int v6), (7, .int (v7 + 1))]) [1, 2, 3, 4, 5, 6, 0] rfl ?_
      exact hrec (v6, v7 + 1, μ) _ hf hq
def fl_X12_seated_130 (v1 : Int32) (v2 : Int32) (v3 : Int32) (v4 : Int32) : (Int32 × Int32 × ro_Mem) → Option ro_Mem :=
  ro_loop (fun rec s => fb_X12_seated_130 v1 v2 v3 v4 rec s.1 s.2.1 s.2.2) ro_FU
theorem lp_X12_seated_130 {K : ro_K} (hK : ro_C K RX12 cX12_seated 12 5) (hR : ro_R K (some .int)) {v1 : Int32} {v2 : Int32} {v3 : Int32} {v4 : Int32}  {s : Int32 × Int32 × ro_Mem} {q : ro_Mem} (hf : fl_X12_seated_130 v1 v2 v3 v4 s = some q) (hq : ok_X12_seated_130 K v1 v2 v3 v4 q) : ro_X K 130 [(0, .ref (ro_ad (kG K) 207)), (1, .int v1), (2, .int v2), (3, .int v3), (4, .int v4), (6, .int s.1), (7, .int s.2.1)] [] s.2.2 :=
  ro_loopX (b := fun rec s => fb_X12_seated_130 v1 v2 v3 v4 rec s.1 s.2.1 s.2.2) (X := fun s => ro_X K 130 [(0, .ref (ro_ad (kG K) 207)), (1, .int v1), (2, .int v2), (3, .int v3), (4, .int v4), (6, .int s.1), (7, .int s.2.1)] [] s.2.2) (OK := ok_X12_seated_130 K v1 v2 v3 v4) (fun rec s q hrec hb ho => bb_X12_seated_130 hK hR  hrec hb ho) ro_FU s q hf hq
def ok_X12_seated_211 (K : ro_K) (v1 : Int32) (v3 : Int32) (v4 : Int32) : (Int32 × ro_Mem) → Prop := fun e => ro_X K 294 [(9, .int e.1)] [] e.2
def fj_X12_seated_279 (rec : (Int32 × Int32 × Int32 × ro_Mem) → Option (Int32 × ro_Mem)) (v1 : Int32) (v3 : Int32) (v4 : Int32) (v8 : Int32) (v9 : Int32) (v10 : Int32) (v11 : Int32) (μ : ro_Mem) : Option (Int32 × ro_Mem) :=
  ro_lt (v8 ||| ((1 : Int32) <<< (v11 &&& 31))) fun z49 =>
  rec (z49, v9, v10 + 1, μ)
theorem bj_X12_seated_279 {K : ro_K} (hK : ro_C K RX12 cX12_seated 12 5) (hR : ro_R K (some .int)) {v1 : Int32} {v3 : Int32} {v4 : Int32} {v8 : Int32} {v9 : Int32} {v10 : Int32} {v11 : Int32}  {rec : (Int32 × Int32 × Int32 × ro_Mem) → Option (Int32 × ro_Mem)} {μ : ro_Mem} (hrec : ∀ (s : Int32 × Int32 × Int32 × ro_Mem) (q : (Int32 × ro_Mem)), rec s = some q → ok_X12_seated_211 K v1 v3 v4 q → ro_X K 211 [(0, .ref (ro_ad (kG K) 207)), (1, .int v1), (3, .int v3), (4, .int v4), (8, .int s.1), (9, .int s.2.1), (10, .int s.2.2.1)] [] s.2.2.2) {out : (Int32 × ro_Mem)} (hf : fj_X12_seated_279 rec v1 v3 v4 v8 v9 v10 v11 μ = some out) (hq : ok_X12_seated_211 K v1 v3 v4 out) : ro_X K 279 [(0, .ref (ro_ad (kG K) 207)), (1, .int v1), (3, .int v3), (4, .int v4), (8, .int v8), (9, .int v9), (10, .int v10), (11, .int v11)] [] μ := by
  unfold fj_X12_seated_279 at hf
  refine ro_iload hK 4 rfl dX12_seated_279 ?_
  refine ro_iconst (v := 1) hK dX12_seated_281 (by decide) ?_
  refine ro_iload hK 7 rfl dX12_seated_282 ?_
  refine ro_ishl hK dX12_seated_284 ?_
  refine ro_ior hK dX12_seated_285 ?_
  obtain ⟨z49, e50, hf⟩ := ro_ld hf
  refine ro_iv e50 ?_
  refine ro_istore (L' := [(8, .int z49), (0, .ref (ro_ad (kG K) 207)), (1, .int v1), (3, .int v3), (4, .int v4), (9, .int v9), (10, .int v10), (11, .int v11)]) hK dX12_seated_286 (by decide) rfl ?_
  refine ro_iinc (v := v10 + 1) (L' := [(10, .int (v10 + 1)), (8, .int z49), (0, .ref (ro_ad (kG K) 207)), (1, .int v1), (3, .int v3), (4, .int v4), (9, .int v9), (11, .int v11)]) hK 6 rfl dX12_seated_288 rfl (by decide) rfl ?_
  refine ro_goto hK 211 dX12_seated_291 (by decide) ?_
  refine ro_sub (L' := [(0, .ref (ro_ad (kG K) 207)), (1, .int v1), (3, .int v3), (4, .int v4), (8, .int z49), (9, .int v9), (10, .int (v10 + 1))]) [2, 3, 4, 5, 1, 6, 0] rfl ?_
  exact hrec (z49, v9, v10 + 1, μ) _ hf hq
def fj_X12_seated_248 (rec : (Int32 × Int32 × Int32 × ro_Mem) → Option (Int32 × ro_Mem)) (v1 : Int32) (v3 : Int32) (v4 : Int32) (v8 : Int32) (v9 : Int32) (v10 : Int32) (v11 : Int32) (μ : ro_Mem) : Option (Int32 × ro_Mem) :=
  if v4 = 11 then
  (if ro_in v10 8 then
  (if ro_in v11 8 then
  (if ro_in ((10 * v1) + (μ 248 v10.toNatClampNeg)) 40 then
  (ro_lt (ro_set μ 216 ((10 * v1) + (μ 248 v10.toNatClampNeg)).toNatClampNeg (μ 247 v11.toNatClampNeg)) fun m54 =>
  fj_X12_seated_279 rec v1 v3 v4 v8 v9 v10 v11 m54) else none) else none) else none)
  else
  (fj_X12_seated_279 rec v1 v3 v4 v8 v9 v10 v11 μ)
theorem bj_X12_seated_248 {K : ro_K} (hK : ro_C K RX12 cX12_seated 12 5) (hR : ro_R K (some .int)) {v1 : Int32} {v3 : Int32} {v4 : Int32} {v8 : Int32} {v9 : Int32} {v10 : Int32} {v11 : Int32}  {rec : (Int32 × Int32 × Int32 × ro_Mem) → Option (Int32 × ro_Mem)} {μ : ro_Mem} (hrec : ∀ (s : Int32 × Int32 × Int32 × ro_Mem) (q : (Int32 × ro_Mem)), rec s = some q → ok_X12_seated_211 K v1 v3 v4 q → ro_X K 211 [(0, .ref (ro_ad (kG K) 207)), (1, .int v1), (3, .int v3), (4, .int v4), (8, .int s.1), (9, .int s.2.1), (10, .int s.2.2.1)] [] s.2.2.2) {out : (Int32 × ro_Mem)} (hf : fj_X12_seated_248 rec v1 v3 v4 v8 v9 v10 v11 μ = some out) (hq : ok_X12_seated_211 K v1 v3 v4 out) : ro_X K 248 [(0, .ref (ro_ad (kG K) 207)), (1, .int v1), (3, .int v3), (4, .int v4), (8, .int v8), (9, .int v9), (10, .int v10), (11, .int v11)] [] μ := by
  unfold fj_X12_seated_248 at hf
  refine ro_iload hK 3 rfl dX12_seated_248 ?_
  refine ro_bipush (v := 11) hK dX12_seated_250 (by decide) ?_
  refine ro_icmp_ne hK 279 dX12_seated_252 (by decide) (fun c48 => ?_) (fun c48 => ?_)
  · have hf := ro_ie hf c48
    exact bj_X12_seated_279 hK hR  hrec hf hq
  · have hf := ro_it hf c48
    refine ro_aload_n hK 0 rfl dX12_seated_255 rfl ?_
    refine ro_getr hK fl_X12_35 sh_207 dX12_seated_256 ?_
    refine ro_bipush (v := 10) hK dX12_seated_259 (by decide) ?_
    refine ro_iload_n hK 1 rfl dX12_seated_261 rfl ?_
    refine ro_imul hK dX12_seated_262 ?_
    refine ro_aload_n hK 0 rfl dX12_seated_263 rfl ?_
    refine ro_getr hK fl_X12_132 sh_207 dX12_seated_264 ?_
    refine ro_iload hK 6 rfl dX12_seated_267 ?_
    obtain ⟨g51, hf⟩ := ro_gd hf
    refine ro_iald hK sh_248 g51 dX12_seated_269 ?_
    refine ro_iadd hK dX12_seated_270 ?_
    refine ro_aload_n hK 0 rfl dX12_seated_271 rfl ?_
    refine ro_getr hK fl_X12_129 sh_207 dX12_seated_272 ?_
    refine ro_iload hK 7 rfl dX12_seated_275 ?_
    obtain ⟨g52, hf⟩ := ro_gd hf
    refine ro_iald hK sh_247 g52 dX12_seated_277 ?_
    obtain ⟨g53, hf⟩ := ro_gd hf
    obtain ⟨m54, e55, hf⟩ := ro_ld hf
    refine ro_iast hK sh_216 g53 dX12_seated_278 ?_
    refine ro_mv e55 ?_
    exact bj_X12_seated_279 hK hR  hrec hf hq
def fb_X12_seated_211 (v1 : Int32) (v3 : Int32) (v4 : Int32) (rec : (Int32 × Int32 × Int32 × ro_Mem) → Option (Int32 × ro_Mem)) (v8 : Int32) (v9 : Int32) (v10 : Int32) (μ : ro_Mem) : Option (Int32 × ro_Mem) :=
  if v3 ≤ v10 then
  (some (v9, μ))
  else
  ((fn_X12_seatFor v10 v8 μ).bind fun q44 =>
  if ro_in v10 8 then
  (if (μ 248 v10.toNatClampNeg) = v4 then
  (if ro_in q44 8 then
  (ro_lt (μ 247 q44.toNatClampNeg) fun z57 =>
  fj_X12_seated_248 rec v1 v3 v4 v8 z57 v10 q44 μ) else none)
  else
  (fj_X12_seated_248 rec v1 v3 v4 v8 v9 v10 q44 μ)) else none)
theorem bb_X12_seated_211 {K : ro_K} (hK : ro_C K RX12 cX12_seated 12 5) (hR : ro_R K (some .int)) {v1 : Int32} {v3 : Int32} {v4 : Int32}  {μ : ro_Mem} {rec : (Int32 × Int32 × Int32 × ro_Mem) → Option (Int32 × ro_Mem)} {v8 : Int32} {v9 : Int32} {v10 : Int32} {q : (Int32 × ro_Mem)} (hrec : ∀ (s : Int32 × Int32 × Int32 × ro_Mem) (q : (Int32 × ro_Mem)), rec s = some q → ok_X12_seated_211 K v1 v3 v4 q → ro_X K 211 [(0, .ref (ro_ad (kG K) 207)), (1, .int v1), (3, .int v3), (4, .int v4), (8, .int s.1), (9, .int s.2.1), (10, .int s.2.2.1)] [] s.2.2.2) (hf : fb_X12_seated_211 v1 v3 v4 rec v8 v9 v10 μ = some q) (hq : ok_X12_seated_211 K v1 v3 v4 q) : ro_X K 211 [(0, .ref (ro_ad (kG K) 207)), (1, .int v1), (3, .int v3), (4, .int v4), (8, .int v8), (9, .int v9), (10, .int v10)] [] μ := by
  unfold fb_X12_seated_211 at hf
  refine ro_iload hK 6 rfl dX12_seated_211 ?_
  refine ro_iload_n hK 2 rfl dX12_seated_213 rfl ?_
  refine ro_icmp_ge hK 294 dX12_seated_214 (by decide) (fun c43 => ?_) (fun c43 => ?_)
  · have hf := ro_it hf c43
    refine ro_sub (L' := [(9, .int v9)]) [5] rfl ?_
    obtain rfl := Option.some.inj hf
    exact hq
  · have hf := ro_ie hf c43
    refine ro_aload_n hK 0 rfl dX12_seated_217 rfl ?_
    refine ro_iload hK 6 rfl dX12_seated_218 ?_
    refine ro_iload hK 4 rfl dX12_seated_220 ?_
    obtain ⟨q44, e45, hf⟩ := ro_bd hf
    refine ro_callvi hK [.int v10, .int v8] ml_X12_469 mv_X12_seatFor (mt_X12_seatFor (kl K) (kG K)  e45) sh_207 ⟨_, rfl, rfl⟩ (by decide) rfl rfl (Nat.le_of_ble_eq_true rfl) dX12_seated_222 ?_
    refine ro_istore (L' := [(11, .int q44), (0, .ref (ro_ad (kG K) 207)), (1, .int v1), (3, .int v3), (4, .int v4), (8, .int v8), (9, .int v9), (10, .int v10)]) hK dX12_seated_225 (by decide) rfl ?_
    refine ro_aload_n hK 1 rfl dX12_seated_227 rfl ?_
    refine ro_getr hK fl_X12_132 sh_207 dX12_seated_228 ?_
    refine ro_iload hK 7 rfl dX12_seated_231 ?_
    obtain ⟨g46, hf⟩ := ro_gd hf
    refine ro_iald hK sh_248 g46 dX12_seated_233 ?_
    refine ro_iload hK 4 rfl dX12_seated_234 ?_
    refine ro_icmp_ne hK 248 dX12_seated_236 (by decide) (fun c47 => ?_) (fun c47 => ?_)
    · have hf := ro_ie hf c47
      refine ro_sub (L' := [(0, .ref (ro_ad (kG K) 207)), (1, .int v1), (3, .int v3), (4, .int v4), (8, .int v8), (9, .int v9), (10, .int v10), (11, .int q44)]) [1, 2, 3, 4, 5, 6, 7, 0] rfl ?_
      exact bj_X12_seated_248 hK hR  hrec hf hq
    · have hf := ro_it hf c47
      refine ro_aload_n hK 1 rfl dX12_seated_239 rfl ?_
      refine ro_getr hK fl_X12_129 sh_207 dX12_seated_240 ?_
      refine ro_iload hK 0 rfl dX12_seated_243 ?_
      obtain ⟨g56, hf⟩ := ro_gd hf
      refine ro_iald hK sh_247 g56 dX12_seated_245 ?_
      obtain ⟨z57, e58, hf⟩ := ro_ld hf
      refine ro_iv e58 ?_
      refine ro_istore (L' := [(9, .int z57), (11, .int q44), (0, .ref (ro_ad (kG K) 207)), (1, .int v1), (3, .int v3), (4, .int v4), (8, .int v8), (10, .int v10)]) hK dX12_seated_246 (by decide) rfl ?_
      refine ro_sub (L' := [(0, .ref (ro_ad (kG K) 207)), (1, .int v1), (3, .int v3), (4, .int v4), (8, .int v8), (9, .int z57), (10, .int v10), (11, .int q44)]) [2, 3, 4, 5, 6, 0, 7, 1] rfl ?_
      exact bj_X12_seated_248 hK hR  hrec hf hq
def fl_X12_seated_211 (v1 : Int32) (v3 : Int32) (v4 : Int32) : (Int32 × Int32 × Int32 × ro_Mem) → Option (Int32 × ro_Mem) :=
  ro_loop (fun rec s => fb_X12_seated_211 v1 v3 v4 rec s.1 s.2.1 s.2.2.1 s.2.2.2) ro_FU
theorem lp_X12_seated_211 {K : ro_K} (hK : ro_C K RX12 cX12_seated 12 5) (hR : ro_R K (some .int)) {v1 : Int32} {v3 : Int32} {v4 : Int32}  {s : Int32 × Int32 × Int32 × ro_Mem} {q : (Int32 × ro_Mem)} (hf : fl_X12_seated_211 v1 v3 v4 s = some q) (hq : ok_X12_seated_211 K v1 v3 v4 q) : ro_X K 211 [(0, .ref (ro_ad (kG K) 207)), (1, .int v1), (3, .int v3), (4, .int v4), (8, .int s.1), (9, .int s.2.1), (10, .int s.2.2.1)] [] s.2.2.2 :=
  ro_loopX (b := fun rec s => fb_X12_seated_211 v1 v3 v4 rec s.1 s.2.1 s.2.2.1 s.2.2.2) (X := fun s => ro_X K 211 [(0, .ref (ro_ad (kG K) 207)), (1, .int v1), (3, .int v3), (4, .int v4), (8, .int s.1), (9, .int s.2.1), (10, .int s.2.2.1)] [] s.2.2.2) (OK := ok_X12_seated_211 K v1 v3 v4) (fun rec s q hrec hb ho => bb_X12_seated_211 hK hR  hrec hb ho) ro_FU s q hf hq
def fj_X12_seated_39 (v1 : Int32) (v2 : Int32) (v3 : Int32) (v4 : Int32) (t0 : Int32) (μ : ro_Mem) : Option (Int32 × ro_Mem) :=
  (fn_X12_isAct v1).bind fun q2 =>
  if q2 = 0 then
  (some ((-1), μ))
  else
  (if v2 < 1 then
  (some ((-1), μ))
  else
  (if (v2 &&& ((μ 207 2) ^^^ (-1))) = 0 then
  ((fn_X12_bits v2).bind fun q7 =>
  if q7 = v3 then
  ((fn_X12_in v3 1 8).bind fun q10 =>
  if q10 = 0 then
  (some ((-1), μ))
  else
  (if t0 = 0 then
  (some ((-1), μ))
  else
  (if v3 ≤ (μ 207 13) then
  (ro_lt (ro_set μ 207 13 0) fun m15 =>
  (fn_X12_takesSeats v1 v2 v3 m15).bind fun q17 =>
  if q17.1 = 0 then
  (some ((-2), q17.2))
  else
  ((fn_X12_laysDrops q17.2).bind fun q20 =>
  ro_lt (ro_set q20 207 63 v3) fun m22 =>
  (fl_X12_seated_130 v1 v2 v3 v4 (0, 0, m22)).bind fun q37 =>
  (fn_X12_laysSeated q37).bind fun q39 =>
  ro_lt (q39 250 (0 : Int32).toNatClampNeg) fun z41 =>
  (fl_X12_seated_211 v1 v3 v4 (0, z41, 0, q39)).bind fun q59 =>
  some (q59.1, q59.2)))
  else
  (some ((-1), μ)))))
  else
  (some ((-1), μ)))
  else
  (some ((-1), μ))))
theorem bj_X12_seated_39 {K : ro_K} (hK : ro_C K RX12 cX12_seated 12 5) (hR : ro_R K (some .int)) {v1 : Int32} {v2 : Int32} {v3 : Int32} {v4 : Int32} {t0 : Int32}   {μ : ro_Mem}  {out : Int32 × ro_Mem} (hf : fj_X12_seated_39 v1 v2 v3 v4 t0 μ = some out) (hq : kQ K (some (.int out.1)) out.2) : ro_X K 39 [(0, .ref (ro_ad (kG K) 207)), (1, .int v1), (2, .int v2), (3, .int v3), (4, .int v4)] [.int t0] μ := by
  unfold fj_X12_seated_39 at hf
  refine ro_istore (L' := [(5, .int t0), (0, .ref (ro_ad (kG K) 207)), (1, .int v1), (2, .int v2), (3, .int v3), (4, .int v4)]) hK dX12_seated_39 (by decide) rfl ?_
  refine ro_iload_n hK 2 rfl dX12_seated_41 rfl ?_
  obtain ⟨q2, e3, hf⟩ := ro_bd hf
  refine ro_callsi hK [.int v1] ml_X12_229 ms_X12_isAct (mt_X12_isAct (kl K) (kG K)  e3) (by decide) rfl rfl (Nat.le_of_ble_eq_true rfl) dX12_seated_42 ?_
  refine ro_if_eq hK 95 dX12_seated_45 (by decide) (fun c4 => ?_) (fun c4 => ?_)
  · have hf := ro_it hf c4
    refine ro_iconst (v := (-1)) hK dX12_seated_95 (by decide) ?_
    obtain rfl := Option.some.inj hf
    exact ro_iret hK hR dX12_seated_96 hq
  · have hf := ro_ie hf c4
    refine ro_iload_n hK 3 rfl dX12_seated_48 rfl ?_
    refine ro_iconst (v := 1) hK dX12_seated_49 (by decide) ?_
    refine ro_icmp_lt hK 95 dX12_seated_50 (by decide) (fun c5 => ?_) (fun c5 => ?_)
    · have hf := ro_it hf c5
      refine ro_iconst (v := (-1)) hK dX12_seated_95 (by decide) ?_
      obtain rfl := Option.some.inj hf
      exact ro_iret hK hR dX12_seated_96 hq
    · have hf := ro_ie hf c5
      refine ro_iload_n hK 3 rfl dX12_seated_53 rfl ?_
      refine ro_aload_n hK 1 rfl dX12_seated_54 rfl ?_
      refine ro_geti hK fl_X12_232 sh_207 dX12_seated_55 ?_
      refine ro_iconst (v := (-1)) hK dX12_seated_58 (by decide) ?_
      refine ro_ixor hK dX12_seated_59 ?_
      refine ro_iand hK dX12_seated_60 ?_
      refine ro_if_ne hK 95 dX12_seated_61 (by decide) (fun c6 => ?_) (fun c6 => ?_)
      · have hf := ro_ie hf c6
        refine ro_iconst (v := (-1)) hK dX12_seated_95 (by decide) ?_
        obtain rfl := Option.some.inj hf
        exact ro_iret hK hR dX12_seated_96 hq
      · have hf := ro_it hf c6
        refine ro_iload_n hK 3 rfl dX12_seated_64 rfl ?_
        obtain ⟨q7, e8, hf⟩ := ro_bd hf
        refine ro_callsi hK [.int v2] ml_X12_460 ms_X12_bits (mt_X12_bits (kl K) (kG K)  e8) (by decide) rfl rfl (Nat.le_of_ble_eq_true rfl) dX12_seated_65 ?_
        refine ro_iload_n hK 4 rfl dX12_seated_68 rfl ?_
        refine ro_icmp_ne hK 95 dX12_seated_69 (by decide) (fun c9 => ?_) (fun c9 => ?_)
        · have hf := ro_ie hf c9
          refine ro_iconst (v := (-1)) hK dX12_seated_95 (by decide) ?_
          obtain rfl := Option.some.inj hf
          exact ro_iret hK hR dX12_seated_96 hq
        · have hf := ro_it hf c9
          refine ro_iload_n hK 4 rfl dX12_seated_72 rfl ?_
          refine ro_iconst (v := 1) hK dX12_seated_73 (by decide) ?_
          refine ro_bipush (v := 8) hK dX12_seated_74 (by decide) ?_
          obtain ⟨q10, e11, hf⟩ := ro_bd hf
          refine ro_callsi hK [.int v3, .int 1, .int 8] ml_X12_215 ms_X12_in (mt_X12_in (kl K) (kG K)  e11) (by decide) rfl rfl (Nat.le_of_ble_eq_true rfl) dX12_seated_76 ?_
          refine ro_if_eq hK 95 dX12_seated_79 (by decide) (fun c12 => ?_) (fun c12 => ?_)
          · have hf := ro_it hf c12
            refine ro_iconst (v := (-1)) hK dX12_seated_95 (by decide) ?_
            obtain rfl := Option.some.inj hf
            exact ro_iret hK hR dX12_seated_96 hq
          · have hf := ro_ie hf c12
            refine ro_iload hK 0 rfl dX12_seated_82 ?_
            refine ro_if_eq hK 95 dX12_seated_84 (by decide) (fun c13 => ?_) (fun c13 => ?_)
            · have hf := ro_it hf c13
              refine ro_iconst (v := (-1)) hK dX12_seated_95 (by decide) ?_
              obtain rfl := Option.some.inj hf
              exact ro_iret hK hR dX12_seated_96 hq
            · have hf := ro_ie hf c13
              refine ro_iload_n hK 4 rfl dX12_seated_87 rfl ?_
              refine ro_aload_n hK 1 rfl dX12_seated_88 rfl ?_
              refine ro_geti hK fl_X12_242 sh_207 dX12_seated_89 ?_
              refine ro_icmp_le hK 97 dX12_seated_92 (by decide) (fun c14 => ?_) (fun c14 => ?_)
              · have hf := ro_it hf c14
                refine ro_aload_n hK 1 rfl dX12_seated_97 rfl ?_
                refine ro_iconst (v := 0) hK dX12_seated_98 (by decide) ?_
                obtain ⟨m15, e16, hf⟩ := ro_ld hf
                refine ro_puti hK fl_X12_242 sh_207 rfl rfl dX12_seated_99 ?_
                refine ro_mv e16 ?_
                refine ro_aload_n hK 1 rfl dX12_seated_102 rfl ?_
                refine ro_iload_n hK 2 rfl dX12_seated_103 rfl ?_
                refine ro_iload_n hK 3 rfl dX12_seated_104 rfl ?_
                refine ro_iload_n hK 4 rfl dX12_seated_105 rfl ?_
                obtain ⟨q17, e18, hf⟩ := ro_bd hf
                refine ro_callvi hK [.int v1, .int v2, .int v3] ml_X12_463 mv_X12_takesSeats (mt_X12_takesSeats (kl K) (kG K)  e18) sh_207 ⟨_, rfl, rfl⟩ (by decide) rfl rfl (Nat.le_of_ble_eq_true rfl) dX12_seated_106 ?_
                refine ro_if_ne hK 115 dX12_seated_109 (by decide) (fun c19 => ?_) (fun c19 => ?_)
                · have hf := ro_ie hf c19
                  refine ro_aload_n hK 1 rfl dX12_seated_115 rfl ?_
                  obtain ⟨q20, e21, hf⟩ := ro_bd hf
                  refine ro_callvv hK [] ml_X12_426 mv_X12_laysDrops (mt_X12_laysDrops (kl K) (kG K)  e21) sh_207 ⟨_, rfl, rfl⟩ (by decide) rfl rfl (Nat.le_of_ble_eq_true rfl) dX12_seated_116 ?_
                  refine ro_aload_n hK 1 rfl dX12_seated_119 rfl ?_
                  refine ro_iload_n hK 4 rfl dX12_seated_120 rfl ?_
                  obtain ⟨m22, e23, hf⟩ := ro_ld hf
                  refine ro_puti hK fl_X12_453 sh_207 rfl rfl dX12_seated_121 ?_
                  refine ro_mv e23 ?_
                  refine ro_iconst (v := 0) hK dX12_seated_124 (by decide) ?_
                  refine ro_istore (L' := [(6, .int 0), (5, .int t0), (0, .ref (ro_ad (kG K) 207)), (1, .int v1), (2, .int v2), (3, .int v3), (4, .int v4)]) hK dX12_seated_125 (by decide) rfl ?_
                  refine ro_iconst (v := 0) hK dX12_seated_127 (by decide) ?_
                  refine ro_istore (L' := [(7, .int 0), (6, .int 0), (5, .int t0), (0, .ref (ro_ad (kG K) 207)), (1, .int v1), (2, .int v2), (3, .int v3), (4, .int v4)]) hK dX12_seated_128 (by decide) rfl ?_
                  obtain ⟨q37, e38, hf⟩ := ro_bd hf
                  refine ro_sub (L' := [(0, .ref (ro_ad (kG K) 207)), (1, .int v1), (2, .int v2), (3, .int v3), (4, .int v4), (6, .int 0), (7, .int 0)]) [3, 4, 5, 6, 7, 1, 0] rfl ?_
                  refine lp_X12_seated_130 hK hR  e38 ?_
                  show ro_X K 189 [(0, .ref (ro_ad (kG K) 207)), (1, .int v1), (3, .int v3), (4, .int v4)] [] q37
                  refine ro_aload_n hK 0 rfl dX12_seated_189 rfl ?_
                  obtain ⟨q39, e40, hf⟩ := ro_bd hf
                  refine ro_callvv hK [] ml_X12_466 mv_X12_laysSeated (mt_X12_laysSeated (kl K) (kG K)  e40) sh_207 ⟨_, rfl, rfl⟩ (by decide) rfl rfl (Nat.le_of_ble_eq_true rfl) dX12_seated_190 ?_
                  refine ro_aload_n hK 0 rfl dX12_seated_193 rfl ?_
                  refine ro_getr hK fl_X12_138 sh_207 dX12_seated_194 ?_
                  refine ro_iconst (v := 0) hK dX12_seated_197 (by decide) ?_
                  refine ro_iald hK sh_250 (by decide) dX12_seated_198 ?_
                  obtain ⟨z41, e42, hf⟩ := ro_ld hf
                  refine ro_iv e42 ?_
                  refine ro_istore (L' := [(7, .int z41), (0, .ref (ro_ad (kG K) 207)), (1, .int v1), (3, .int v3), (4, .int v4)]) hK dX12_seated_199 (by decide) rfl ?_
                  refine ro_iconst (v := 0) hK dX12_seated_201 (by decide) ?_
                  refine ro_istore (L' := [(8, .int 0), (7, .int z41), (0, .ref (ro_ad (kG K) 207)), (1, .int v1), (3, .int v3), (4, .int v4)]) hK dX12_seated_202 (by decide) rfl ?_
                  refine ro_iload hK 1 rfl dX12_seated_204 ?_
                  refine ro_istore (L' := [(9, .int z41), (8, .int 0), (7, .int z41), (0, .ref (ro_ad (kG K) 207)), (1, .int v1), (3, .int v3), (4, .int v4)]) hK dX12_seated_206 (by decide) rfl ?_
                  refine ro_iconst (v := 0) hK dX12_seated_208 (by decide) ?_
                  refine ro_istore (L' := [(10, .int 0), (9, .int z41), (8, .int 0), (7, .int z41), (0, .ref (ro_ad (kG K) 207)), (1, .int v1), (3, .int v3), (4, .int v4)]) hK dX12_seated_209 (by decide) rfl ?_
                  obtain ⟨q59, e60, hf⟩ := ro_bd hf
                  refine ro_sub (L' := [(0, .ref (ro_ad (kG K) 207)), (1, .int v1), (3, .int v3), (4, .int v4), (8, .int 0), (9, .int z41), (10, .int 0)]) [4, 5, 6, 7, 2, 1, 0] rfl ?_
                  refine lp_X12_seated_211 hK hR  e60 ?_
                  show ro_X K 294 [(9, .int q59.1)] [] q59.2
                  refine ro_iload hK 0 rfl dX12_seated_294 ?_
                  obtain rfl := Option.some.inj hf
                  exact ro_iret hK hR dX12_seated_296 hq
                · have hf := ro_it hf c19
                  refine ro_bipush (v := (-2)) hK dX12_seated_112 (by decide) ?_
                  obtain rfl := Option.some.inj hf
                  exact ro_iret hK hR dX12_seated_114 hq
              · have hf := ro_ie hf c14
                refine ro_iconst (v := (-1)) hK dX12_seated_95 (by decide) ?_
                obtain rfl := Option.some.inj hf
                exact ro_iret hK hR dX12_seated_96 hq
def fj_X12_seated_34 (v1 : Int32) (v2 : Int32) (v3 : Int32) (v4 : Int32) (μ : ro_Mem) : Option (Int32 × ro_Mem) :=
  fj_X12_seated_39 v1 v2 v3 v4 1 μ
theorem bj_X12_seated_34 {K : ro_K} (hK : ro_C K RX12 cX12_seated 12 5) (hR : ro_R K (some .int)) {v1 : Int32} {v2 : Int32} {v3 : Int32} {v4 : Int32}   {μ : ro_Mem}  {out : Int32 × ro_Mem} (hf : fj_X12_seated_34 v1 v2 v3 v4 μ = some out) (hq : kQ K (some (.int out.1)) out.2) : ro_X K 34 [(0, .ref (ro_ad (kG K) 207)), (1, .int v1), (2, .int v2), (3, .int v3), (4, .int v4)] [] μ := by
  unfold fj_X12_seated_34 at hf
  refine ro_iconst (v := 1) hK dX12_seated_34 (by decide) ?_
  refine ro_goto hK 39 dX12_seated_35 (by decide) ?_
  exact bj_X12_seated_39 hK hR  hf hq
def fj_X12_seated_38 (v1 : Int32) (v2 : Int32) (v3 : Int32) (v4 : Int32) (μ : ro_Mem) : Option (Int32 × ro_Mem) :=
  fj_X12_seated_39 v1 v2 v3 v4 0 μ
theorem bj_X12_seated_38 {K : ro_K} (hK : ro_C K RX12 cX12_seated 12 5) (hR : ro_R K (some .int)) {v1 : Int32} {v2 : Int32} {v3 : Int32} {v4 : Int32}   {μ : ro_Mem}  {out : Int32 × ro_Mem} (hf : fj_X12_seated_38 v1 v2 v3 v4 μ = some out) (hq : kQ K (some (.int out.1)) out.2) : ro_X K 38 [(0, .ref (ro_ad (kG K) 207)), (1, .int v1), (2, .int v2), (3, .int v3), (4, .int v4)] [] μ := by
  unfold fj_X12_seated_38 at hf
  refine ro_iconst (v := 0) hK dX12_seated_38 (by decide) ?_
  exact bj_X12_seated_39 hK hR  hf hq
def fn_X12_seated (v1 : Int32) (v2 : Int32) (v3 : Int32) (v4 : Int32) (μ : ro_Mem) : Option (Int32 × ro_Mem) :=
  if v4 = 10 then
  (fj_X12_seated_34 v1 v2 v3 v4 μ)
  else
  (if v4 = 11 then
  (fj_X12_seated_34 v1 v2 v3 v4 μ)
  else
  ((fn_X12_in v4 0 9).bind fun q62 =>
  if q62 = 0 then
  (fj_X12_seated_38 v1 v2 v3 v4 μ)
  else
  ((fn_X12_has v2 v4).bind fun q65 =>
  if q65 = 0 then
  (fj_X12_seated_38 v1 v2 v3 v4 μ)
  else
  (fj_X12_seated_34 v1 v2 v3 v4 μ))))
theorem be_X12_seated {K : ro_K} (hK : ro_C K RX12 cX12_seated 12 5) (hR : ro_R K (some .int)) {v1 : Int32} {v2 : Int32} {v3 : Int32} {v4 : Int32}  {μ : ro_Mem} {out : Int32 × ro_Mem} (hf : fn_X12_seated v1 v2 v3 v4 μ = some out) (hq : kQ K (some (.int out.1)) out.2) : ro_X K 0 [(0, .ref (ro_ad (kG K) 207)), (1, .int v1), (2, .int v2), (3, .int v3), (4, .int v4)] [] μ := by
  unfold fn_X12_seated at hf
  refine ro_iload hK 4 rfl dX12_seated_0 ?_
  refine ro_bipush (v := 10) hK dX12_seated_2 (by decide) ?_
  refine ro_icmp_eq hK 34 dX12_seated_4 (by decide) (fun c1 => ?_) (fun c1 => ?_)
  · have hf := ro_it hf c1
    exact bj_X12_seated_34 hK hR  hf hq
  · have hf := ro_ie hf c1
    refine ro_iload hK 4 rfl dX12_seated_7 ?_
    refine ro_bipush (v := 11) hK dX12_seated_9 (by decide) ?_
    refine ro_icmp_eq hK 34 dX12_seated_11 (by decide) (fun c61 => ?_) (fun c61 => ?_)
    · have hf := ro_it hf c61
      exact bj_X12_seated_34 hK hR  hf hq
    · have hf := ro_ie hf c61
      refine ro_iload hK 4 rfl dX12_seated_14 ?_
      refine ro_iconst (v := 0) hK dX12_seated_16 (by decide) ?_
      refine ro_bipush (v := 9) hK dX12_seated_17 (by decide) ?_
      obtain ⟨q62, e63, hf⟩ := ro_bd hf
      refine ro_callsi hK [.int v4, .int 0, .int 9] ml_X12_215 ms_X12_in (mt_X12_in (kl K) (kG K)  e63) (by decide) rfl rfl (Nat.le_of_ble_eq_true rfl) dX12_seated_19 ?_
      refine ro_if_eq hK 38 dX12_seated_22 (by decide) (fun c64 => ?_) (fun c64 => ?_)
      · have hf := ro_it hf c64
        exact bj_X12_seated_38 hK hR  hf hq
      · have hf := ro_ie hf c64
        refine ro_iload_n hK 2 rfl dX12_seated_25 rfl ?_
        refine ro_iload hK 4 rfl dX12_seated_26 ?_
        obtain ⟨q65, e66, hf⟩ := ro_bd hf
        refine ro_callsi hK [.int v2, .int v4] ml_X12_226 ms_X12_has (mt_X12_has (kl K) (kG K)  e66) (by decide) rfl rfl (Nat.le_of_ble_eq_true rfl) dX12_seated_28 ?_
        refine ro_if_eq hK 38 dX12_seated_31 (by decide) (fun c67 => ?_) (fun c67 => ?_)
        · have hf := ro_it hf c67
          exact bj_X12_seated_38 hK hR  hf hq
        · have hf := ro_ie hf c67
          exact bj_X12_seated_34 hK hR  hf hq
theorem mt_X12_seated (l : Launch) (G : ro_G) {v1 : Int32} {v2 : Int32} {v3 : Int32} {v4 : Int32}  {μ : ro_Mem} {out : Int32 × ro_Mem} (hf : fn_X12_seated v1 v2 v3 v4 μ = some out) : ro_MX l G yX12_seated cX12_seated 12 (some .int) 5 [.ref (ro_ad G 207), .int v1, .int v2, .int v3, .int v4] μ (some (.int out.1)) out.2 := by
  refine ro_MX.of (by decide +kernel) (Nat.le_of_ble_eq_true rfl) (fun K hG hl hq hK hR => ?_)
  subst hG
  exact be_X12_seated hK hR  hf hq
-- ===== X12_canBeSung =====
theorem dX12_canBeSung_0 : decode cX12_canBeSung 0 = .ok (.iconst 0, 1) := by decide +kernel
theorem dX12_canBeSung_1 : decode cX12_canBeSung 1 = .ok (.istore_n 2, 1) := by decide +kernel
theorem dX12_canBeSung_2 : decode cX12_canBeSung 2 = .ok (.iload_n 2, 1) := by decide +kernel
theorem dX12_canBeSung_3 : decode cX12_canBeSung 3 = .ok (.aload_n 0, 1) := by decide +kernel
theorem dX12_canBeSung_4 : decode cX12_canBeSung 4 = .ok (.getfield 300, 3) := by decide +kernel
theorem dX12_canBeSung_7 : decode cX12_canBeSung 7 = .ok (.if_icmp .ge 28, 3) := by decide +kernel
theorem dX12_canBeSung_10 : decode cX12_canBeSung 10 = .ok (.aload_n 0, 1) := by decide +kernel
theorem dX12_canBeSung_11 : decode cX12_canBeSung 11 = .ok (.getfield 45, 3) := by decide +kernel
theorem dX12_canBeSung_14 : decode cX12_canBeSung 14 = .ok (.iload_n 2, 1) := by decide +kernel
theorem dX12_canBeSung_15 : decode cX12_canBeSung 15 = .ok (.iaload, 1) := by decide +kernel
theorem dX12_canBeSung_16 : decode cX12_canBeSung 16 = .ok (.iload_n 1, 1) := by decide +kernel
theorem dX12_canBeSung_17 : decode cX12_canBeSung 17 = .ok (.iadd, 1) := by decide +kernel
theorem dX12_canBeSung_18 : decode cX12_canBeSung 18 = .ok (.iconst 0, 1) := by decide +kernel
theorem dX12_canBeSung_19 : decode cX12_canBeSung 19 = .ok (.bipush 47, 2) := by decide +kernel
theorem dX12_canBeSung_21 : decode cX12_canBeSung 21 = .ok (.invokestatic 215, 3) := by decide +kernel
theorem dX12_canBeSung_24 : decode cX12_canBeSung 24 = .ok (.ifCond .ne 5, 3) := by decide +kernel
theorem dX12_canBeSung_27 : decode cX12_canBeSung 27 = .ok (.iconst 0, 1) := by decide +kernel
theorem dX12_canBeSung_28 : decode cX12_canBeSung 28 = .ok (.ireturn, 1) := by decide +kernel
theorem dX12_canBeSung_29 : decode cX12_canBeSung 29 = .ok (.iinc 2 1, 3) := by decide +kernel
theorem dX12_canBeSung_32 : decode cX12_canBeSung 32 = .ok (.goto (-30), 3) := by decide +kernel
theorem dX12_canBeSung_35 : decode cX12_canBeSung 35 = .ok (.iconst 1, 1) := by decide +kernel
theorem dX12_canBeSung_36 : decode cX12_canBeSung 36 = .ok (.ireturn, 1) := by decide +kernel
def ok_X12_canBeSung_2 (K : ro_K) (v1 : Int32) (μ : ro_Mem) : (Unit ⊕ Unit) → Prop := Sum.elim (fun e => ro_X K 27 [] [] μ) (fun e => ro_X K 35 [] [] μ)
def fb_X12_canBeSung_2 (v1 : Int32) (μ : ro_Mem) (rec : Int32 → Option (Unit ⊕ Unit)) (v2 : Int32) : Option (Unit ⊕ Unit) :=
  if (μ 207 18) ≤ v2 then
  (some (.inr ()))
  else
  (if ro_in v2 32 then
  ((fn_X12_in ((μ 219 v2.toNatClampNeg) + v1) 0 47).bind fun q3 =>
  if q3 = 0 then
  (some (.inl ()))
  else
  (rec (v2 + 1))) else none)
theorem bb_X12_canBeSung_2 {K : ro_K} (hK : ro_C K RX12 cX12_canBeSung 3 1) (hR : ro_R K (some .boolean)) {v1 : Int32}  {μ : ro_Mem} {rec : Int32 → Option (Unit ⊕ Unit)} {v2 : Int32} {q : (Unit ⊕ Unit)} (hrec : ∀ (s : Int32) (q : (Unit ⊕ Unit)), rec s = some q → ok_X12_canBeSung_2 K v1 μ q → ro_X K 2 [(0, .ref (ro_ad (kG K) 207)), (1, .int v1), (2, .int s)] [] μ) (hf : fb_X12_canBeSung_2 v1 μ rec v2 = some q) (hq : ok_X12_canBeSung_2 K v1 μ q) : ro_X K 2 [(0, .ref (ro_ad (kG K) 207)), (1, .int v1), (2, .int v2)] [] μ := by
  unfold fb_X12_canBeSung_2 at hf
  refine ro_iload_n hK 2 rfl dX12_canBeSung_2 rfl ?_
  refine ro_aload_n hK 0 rfl dX12_canBeSung_3 rfl ?_
  refine ro_geti hK fl_X12_300 sh_207 dX12_canBeSung_4 ?_
  refine ro_icmp_ge hK 35 dX12_canBeSung_7 (by decide) (fun c1 => ?_) (fun c1 => ?_)
  · have hf := ro_it hf c1
    refine ro_sub (L' := []) [] rfl ?_
    obtain rfl := Option.some.inj hf
    exact hq
  · have hf := ro_ie hf c1
    refine ro_aload_n hK 0 rfl dX12_canBeSung_10 rfl ?_
    refine ro_getr hK fl_X12_45 sh_207 dX12_canBeSung_11 ?_
    refine ro_iload_n hK 2 rfl dX12_canBeSung_14 rfl ?_
    obtain ⟨g2, hf⟩ := ro_gd hf
    refine ro_iald hK sh_219 g2 dX12_canBeSung_15 ?_
    refine ro_iload_n hK 1 rfl dX12_canBeSung_16 rfl ?_
    refine ro_iadd hK dX12_canBeSung_17 ?_
    refine ro_iconst (v := 0) hK dX12_canBeSung_18 (by decide) ?_
    refine ro_bipush (v := 47) hK dX12_canBeSung_19 (by decide) ?_
    obtain ⟨q3, e4, hf⟩ := ro_bd hf
    refine ro_callsi hK [.int ((μ 219 v2.toNatClampNeg) + v1), .int 0, .int 47] ml_X12_215 ms_X12_in (mt_X12_in (kl K) (kG K)  e4) (by decide) rfl rfl (Nat.le_of_ble_eq_true rfl) dX12_canBeSung_21 ?_
    refine ro_if_ne hK 29 dX12_canBeSung_24 (by decide) (fun c5 => ?_) (fun c5 => ?_)
    · have hf := ro_ie hf c5
      refine ro_iinc (v := v2 + 1) (L' := [(2, .int (v2 + 1)), (0, .ref (ro_ad (kG K) 207)), (1, .int v1)]) hK 2 rfl dX12_canBeSung_29 rfl (by decide) rfl ?_
      refine ro_goto hK 2 dX12_canBeSung_32 (by decide) ?_
      refine ro_sub (L' := [(0, .ref (ro_ad (kG K) 207)), (1, .int v1), (2, .int (v2 + 1))]) [1, 2, 0] rfl ?_
      exact hrec (v2 + 1) _ hf hq
    · have hf := ro_it hf c5
      refine ro_sub (L' := []) [] rfl ?_
      obtain rfl := Option.some.inj hf
      exact hq
def fl_X12_canBeSung_2 (v1 : Int32) (μ : ro_Mem) : Int32 → Option (Unit ⊕ Unit) :=
  ro_loop (fun rec s => fb_X12_canBeSung_2 v1 μ rec s) ro_FU
theorem lp_X12_canBeSung_2 {K : ro_K} (hK : ro_C K RX12 cX12_canBeSung 3 1) (hR : ro_R K (some .boolean)) {v1 : Int32}  {μ : ro_Mem} {s : Int32} {q : (Unit ⊕ Unit)} (hf : fl_X12_canBeSung_2 v1 μ s = some q) (hq : ok_X12_canBeSung_2 K v1 μ q) : ro_X K 2 [(0, .ref (ro_ad (kG K) 207)), (1, .int v1), (2, .int s)] [] μ :=
  ro_loopX (b := fun rec s => fb_X12_canBeSung_2 v1 μ rec s) (X := fun s => ro_X K 2 [(0, .ref (ro_ad (kG K) 207)), (1, .int v1), (2, .int s)] [] μ) (OK := ok_X12_canBeSung_2 K v1 μ) (fun rec s q hrec hb ho => bb_X12_canBeSung_2 hK hR  hrec hb ho) ro_FU s q hf hq
def fn_X12_canBeSung (v1 : Int32) (μ : ro_Mem) : Option Int32 :=
  (fl_X12_canBeSung_2 v1 μ 0).bind fun q6 =>
  q6.elim (fun e8 => some 0) (fun e9 => some 1)
theorem be_X12_canBeSung {K : ro_K} (hK : ro_C K RX12 cX12_canBeSung 3 1) (hR : ro_R K (some .boolean)) {v1 : Int32}  {μ : ro_Mem} {out : Int32} (hf : fn_X12_canBeSung v1 μ = some out) (hq : kQ K (some (.int out)) μ) : ro_X K 0 [(0, .ref (ro_ad (kG K) 207)), (1, .int v1)] [] μ := by
  unfold fn_X12_canBeSung at hf
  refine ro_iconst (v := 0) hK dX12_canBeSung_0 (by decide) ?_
  refine ro_istore_n (L' := [(2, .int 0), (0, .ref (ro_ad (kG K) 207)), (1, .int v1)]) hK dX12_canBeSung_1 rfl (by decide) rfl ?_
  obtain ⟨q6, e7, hf⟩ := ro_bd hf
  refine ro_sub (L' := [(0, .ref (ro_ad (kG K) 207)), (1, .int v1), (2, .int 0)]) [1, 2, 0] rfl ?_
  refine lp_X12_canBeSung_2 hK hR  e7 ?_
  rcases q6 with e8 | e9
  · have hf := ro_el hf
    show ro_X K 27 [] [] μ
    refine ro_iconst (v := 0) hK dX12_canBeSung_27 (by decide) ?_
    obtain rfl := Option.some.inj hf
    exact ro_zret hK hR dX12_canBeSung_28 (by decide) hq
  · have hf := ro_er hf
    show ro_X K 35 [] [] μ
    refine ro_iconst (v := 1) hK dX12_canBeSung_35 (by decide) ?_
    obtain rfl := Option.some.inj hf
    exact ro_zret hK hR dX12_canBeSung_36 (by decide) hq
theorem mt_X12_canBeSung (l : Launch) (G : ro_G) {v1 : Int32}  {μ : ro_Mem} {out : Int32} (hf : fn_X12_canBeSung v1 μ = some out) : ro_MX l G yX12_canBeSung cX12_canBeSung 3 (some .boolean) 1 [.ref (ro_ad G 207), .int v1] μ (some (.int out)) μ := by
  refine ro_MX.of (by decide +kernel) (Nat.le_of_ble_eq_true rfl) (fun K hG hl hq hK hR => ?_)
  subst hG
  exact be_X12_canBeSung hK hR  hf hq
-- ===== X12_transposed =====
theorem dX12_transposed_0 : decode cX12_transposed 0 = .ok (.aload_n 0, 1) := by decide +kernel
theorem dX12_transposed_1 : decode cX12_transposed 1 = .ok (.iload_n 1, 1) := by decide +kernel
theorem dX12_transposed_2 : decode cX12_transposed 2 = .ok (.invokevirtual 235, 3) := by decide +kernel
theorem dX12_transposed_5 : decode cX12_transposed 5 = .ok (.ifCond .eq 19, 3) := by decide +kernel
theorem dX12_transposed_8 : decode cX12_transposed 8 = .ok (.iload_n 2, 1) := by decide +kernel
theorem dX12_transposed_9 : decode cX12_transposed 9 = .ok (.iconst 0, 1) := by decide +kernel
theorem dX12_transposed_10 : decode cX12_transposed 10 = .ok (.iconst 1, 1) := by decide +kernel
theorem dX12_transposed_11 : decode cX12_transposed 11 = .ok (.invokestatic 215, 3) := by decide +kernel
theorem dX12_transposed_14 : decode cX12_transposed 14 = .ok (.ifCond .eq 10, 3) := by decide +kernel
theorem dX12_transposed_17 : decode cX12_transposed 17 = .ok (.aload_n 0, 1) := by decide +kernel
theorem dX12_transposed_18 : decode cX12_transposed 18 = .ok (.getfield 300, 3) := by decide +kernel
theorem dX12_transposed_21 : decode cX12_transposed 21 = .ok (.ifCond .ne 6, 3) := by decide +kernel
theorem dX12_transposed_24 : decode cX12_transposed 24 = .ok (.bipush (-100), 2) := by decide +kernel
theorem dX12_transposed_26 : decode cX12_transposed 26 = .ok (.ireturn, 1) := by decide +kernel
theorem dX12_transposed_27 : decode cX12_transposed 27 = .ok (.iconst 0, 1) := by decide +kernel
theorem dX12_transposed_28 : decode cX12_transposed 28 = .ok (.istore_n 3, 1) := by decide +kernel
theorem dX12_transposed_29 : decode cX12_transposed 29 = .ok (.ldc_w 456, 3) := by decide +kernel
theorem dX12_transposed_32 : decode cX12_transposed 32 = .ok (.istore 4, 2) := by decide +kernel
theorem dX12_transposed_34 : decode cX12_transposed 34 = .ok (.iconst 0, 1) := by decide +kernel
theorem dX12_transposed_35 : decode cX12_transposed 35 = .ok (.istore 5, 2) := by decide +kernel
theorem dX12_transposed_37 : decode cX12_transposed 37 = .ok (.iload 5, 2) := by decide +kernel
theorem dX12_transposed_39 : decode cX12_transposed 39 = .ok (.bipush 12, 2) := by decide +kernel
theorem dX12_transposed_41 : decode cX12_transposed 41 = .ok (.if_icmp .gt 92, 3) := by decide +kernel
theorem dX12_transposed_44 : decode cX12_transposed 44 = .ok (.iconst 1, 1) := by decide +kernel
theorem dX12_transposed_45 : decode cX12_transposed 45 = .ok (.istore 6, 2) := by decide +kernel
theorem dX12_transposed_47 : decode cX12_transposed 47 = .ok (.iload 6, 2) := by decide +kernel
theorem dX12_transposed_49 : decode cX12_transposed 49 = .ok (.iconst (-1), 1) := by decide +kernel
theorem dX12_transposed_50 : decode cX12_transposed 50 = .ok (.if_icmp .lt 77, 3) := by decide +kernel
theorem dX12_transposed_53 : decode cX12_transposed 53 = .ok (.iload 5, 2) := by decide +kernel
theorem dX12_transposed_55 : decode cX12_transposed 55 = .ok (.ifCond .ne 8, 3) := by decide +kernel
theorem dX12_transposed_58 : decode cX12_transposed 58 = .ok (.iload 6, 2) := by decide +kernel
theorem dX12_transposed_60 : decode cX12_transposed 60 = .ok (.ifCond .lt 58, 3) := by decide +kernel
theorem dX12_transposed_63 : decode cX12_transposed 63 = .ok (.aload_n 0, 1) := by decide +kernel
theorem dX12_transposed_64 : decode cX12_transposed 64 = .ok (.iload 6, 2) := by decide +kernel
theorem dX12_transposed_66 : decode cX12_transposed 66 = .ok (.iload 5, 2) := by decide +kernel
theorem dX12_transposed_68 : decode cX12_transposed 68 = .ok (.imul, 1) := by decide +kernel
theorem dX12_transposed_69 : decode cX12_transposed 69 = .ok (.invokevirtual 472, 3) := by decide +kernel
theorem dX12_transposed_72 : decode cX12_transposed 72 = .ok (.ifCond .ne 6, 3) := by decide +kernel
theorem dX12_transposed_75 : decode cX12_transposed 75 = .ok (.goto 43, 3) := by decide +kernel
theorem dX12_transposed_78 : decode cX12_transposed 78 = .ok (.aload_n 0, 1) := by decide +kernel
theorem dX12_transposed_79 : decode cX12_transposed 79 = .ok (.iload 6, 2) := by decide +kernel
theorem dX12_transposed_81 : decode cX12_transposed 81 = .ok (.iload 5, 2) := by decide +kernel
theorem dX12_transposed_83 : decode cX12_transposed 83 = .ok (.imul, 1) := by decide +kernel
theorem dX12_transposed_84 : decode cX12_transposed 84 = .ok (.putfield 388, 3) := by decide +kernel
theorem dX12_transposed_87 : decode cX12_transposed 87 = .ok (.aload_n 0, 1) := by decide +kernel
theorem dX12_transposed_88 : decode cX12_transposed 88 = .ok (.invokevirtual 426, 3) := by decide +kernel
theorem dX12_transposed_91 : decode cX12_transposed 91 = .ok (.aload_n 0, 1) := by decide +kernel
theorem dX12_transposed_92 : decode cX12_transposed 92 = .ok (.iload_n 1, 1) := by decide +kernel
theorem dX12_transposed_93 : decode cX12_transposed 93 = .ok (.invokevirtual 432, 3) := by decide +kernel
theorem dX12_transposed_96 : decode cX12_transposed 96 = .ok (.istore 7, 2) := by decide +kernel
theorem dX12_transposed_98 : decode cX12_transposed 98 = .ok (.iload 7, 2) := by decide +kernel
theorem dX12_transposed_100 : decode cX12_transposed 100 = .ok (.iload 4, 2) := by decide +kernel
theorem dX12_transposed_102 : decode cX12_transposed 102 = .ok (.if_icmp .lt 6, 3) := by decide +kernel
theorem dX12_transposed_105 : decode cX12_transposed 105 = .ok (.goto 13, 3) := by decide +kernel
theorem dX12_transposed_108 : decode cX12_transposed 108 = .ok (.iload 7, 2) := by decide +kernel
theorem dX12_transposed_110 : decode cX12_transposed 110 = .ok (.istore 4, 2) := by decide +kernel
theorem dX12_transposed_112 : decode cX12_transposed 112 = .ok (.iload 6, 2) := by decide +kernel
theorem dX12_transposed_114 : decode cX12_transposed 114 = .ok (.iload 5, 2) := by decide +kernel
theorem dX12_transposed_116 : decode cX12_transposed 116 = .ok (.imul, 1) := by decide +kernel
theorem dX12_transposed_117 : decode cX12_transposed 117 = .ok (.istore_n 3, 1) := by decide +kernel
theorem dX12_transposed_118 : decode cX12_transposed 118 = .ok (.iload 6, 2) := by decide +kernel
theorem dX12_transposed_120 : decode cX12_transposed 120 = .ok (.iconst 2, 1) := by decide +kernel
theorem dX12_transposed_121 : decode cX12_transposed 121 = .ok (.isub, 1) := by decide +kernel
theorem dX12_transposed_122 : decode cX12_transposed 122 = .ok (.istore 6, 2) := by decide +kernel
theorem dX12_transposed_124 : decode cX12_transposed 124 = .ok (.goto (-77), 3) := by decide +kernel
theorem dX12_transposed_127 : decode cX12_transposed 127 = .ok (.iinc 5 1, 3) := by decide +kernel
theorem dX12_transposed_130 : decode cX12_transposed 130 = .ok (.goto (-93), 3) := by decide +kernel
theorem dX12_transposed_133 : decode cX12_transposed 133 = .ok (.aload_n 0, 1) := by decide +kernel
theorem dX12_transposed_134 : decode cX12_transposed 134 = .ok (.iconst 0, 1) := by decide +kernel
theorem dX12_transposed_135 : decode cX12_transposed 135 = .ok (.putfield 388, 3) := by decide +kernel
theorem dX12_transposed_138 : decode cX12_transposed 138 = .ok (.iload_n 2, 1) := by decide +kernel
theorem dX12_transposed_139 : decode cX12_transposed 139 = .ok (.ifCond .ne 7, 3) := by decide +kernel
theorem dX12_transposed_142 : decode cX12_transposed 142 = .ok (.iload_n 3, 1) := by decide +kernel
theorem dX12_transposed_143 : decode cX12_transposed 143 = .ok (.goto 5, 3) := by decide +kernel
theorem dX12_transposed_146 : decode cX12_transposed 146 = .ok (.iload 4, 2) := by decide +kernel
theorem dX12_transposed_148 : decode cX12_transposed 148 = .ok (.ireturn, 1) := by decide +kernel
def ok_X12_transposed_37 (K : ro_K) (v1 : Int32) (v2 : Int32) : (Int32 × Int32 × ro_Mem) → Prop := fun e => ro_X K 133 [(0, .ref (ro_ad (kG K) 207)), (2, .int v2), (3, .int e.1), (4, .int e.2.1)] [] e.2.2
def ok_X12_transposed_47 (K : ro_K) (v1 : Int32) (v2 : Int32) (v5 : Int32) : (Int32 × Int32 × ro_Mem) → Prop := fun e => ro_X K 127 [(0, .ref (ro_ad (kG K) 207)), (1, .int v1), (2, .int v2), (3, .int e.1), (4, .int e.2.1), (5, .int v5)] [] e.2.2
def fj_X12_transposed_63 (rec : (Int32 × Int32 × Int32 × ro_Mem) → Option (Int32 × Int32 × ro_Mem)) (v1 : Int32) (v2 : Int32) (v3 : Int32) (v4 : Int32) (v5 : Int32) (v6 : Int32) (μ : ro_Mem) : Option (Int32 × Int32 × ro_Mem) :=
  (fn_X12_canBeSung (v6 * v5) μ).bind fun q11 =>
  if q11 = 0 then
  (ro_lt (v6 - 2) fun z27 =>
  rec (v3, v4, z27, μ))
  else
  (ro_lt (ro_set μ 207 52 (v6 * v5)) fun m14 =>
  (fn_X12_laysDrops m14).bind fun q16 =>
  (fn_X12_guestWetAll v1 q16).bind fun q18 =>
  if q18 < v4 then
  (ro_lt (v6 * v5) fun z21 =>
  ro_lt (v6 - 2) fun z23 =>
  rec (z21, q18, z23, q16))
  else
  (ro_lt (v6 - 2) fun z25 =>
  rec (v3, v4, z25, q16)))
theorem bj_X12_transposed_63 {K : ro_K} (hK : ro_C K RX12 cX12_transposed 8 6) (hR : ro_R K (some .int)) {v1 : Int32} {v2 : Int32} {v3 : Int32} {v4 : Int32} {v5 : Int32} {v6 : Int32}  {rec : (Int32 × Int32 × Int32 × ro_Mem) → Option (Int32 × Int32 × ro_Mem)} {μ : ro_Mem} (hrec : ∀ (s : Int32 × Int32 × Int32 × ro_Mem) (q : (Int32 × Int32 × ro_Mem)), rec s = some q → ok_X12_transposed_47 K v1 v2 v5 q → ro_X K 47 [(0, .ref (ro_ad (kG K) 207)), (1, .int v1), (2, .int v2), (3, .int s.1), (4, .int s.2.1), (5, .int v5), (6, .int s.2.2.1)] [] s.2.2.2) {out : (Int32 × Int32 × ro_Mem)} (hf : fj_X12_transposed_63 rec v1 v2 v3 v4 v5 v6 μ = some out) (hq : ok_X12_transposed_47 K v1 v2 v5 out) : ro_X K 63 [(0, .ref (ro_ad (kG K) 207)), (1, .int v1), (2, .int v2), (3, .int v3), (4, .int v4), (5, .int v5), (6, .int v6)] [] μ := by
  unfold fj_X12_transposed_63 at hf
  refine ro_aload_n hK 0 rfl dX12_transposed_63 rfl ?_
  refine ro_iload hK 6 rfl dX12_transposed_64 ?_
  refine ro_iload hK 5 rfl dX12_transposed_66 ?_
  refine ro_imul hK dX12_transposed_68 ?_
  obtain ⟨q11, e12, hf⟩ := ro_bd hf
  refine ro_callvi hK [.int (v6 * v5)] ml_X12_472 mv_X12_canBeSung (mt_X12_canBeSung (kl K) (kG K)  e12) sh_207 ⟨_, rfl, rfl⟩ (by decide) rfl rfl (Nat.le_of_ble_eq_true rfl) dX12_transposed_69 ?_
  refine ro_if_ne hK 78 dX12_transposed_72 (by decide) (fun c13 => ?_) (fun c13 => ?_)
  · have hf := ro_ie hf c13
    refine ro_aload_n hK 0 rfl dX12_transposed_78 rfl ?_
    refine ro_iload hK 6 rfl dX12_transposed_79 ?_
    refine ro_iload hK 5 rfl dX12_transposed_81 ?_
    refine ro_imul hK dX12_transposed_83 ?_
    obtain ⟨m14, e15, hf⟩ := ro_ld hf
    refine ro_puti hK fl_X12_388 sh_207 rfl rfl dX12_transposed_84 ?_
    refine ro_mv e15 ?_
    refine ro_aload_n hK 0 rfl dX12_transposed_87 rfl ?_
    obtain ⟨q16, e17, hf⟩ := ro_bd hf
    refine ro_callvv hK [] ml_X12_426 mv_X12_laysDrops (mt_X12_laysDrops (kl K) (kG K)  e17) sh_207 ⟨_, rfl, rfl⟩ (by decide) rfl rfl (Nat.le_of_ble_eq_true rfl) dX12_transposed_88 ?_
    refine ro_aload_n hK 0 rfl dX12_transposed_91 rfl ?_
    refine ro_iload_n hK 1 rfl dX12_transposed_92 rfl ?_
    obtain ⟨q18, e19, hf⟩ := ro_bd hf
    refine ro_callvi hK [.int v1] ml_X12_432 mv_X12_guestWetAll (mt_X12_guestWetAll (kl K) (kG K)  e19) sh_207 ⟨_, rfl, rfl⟩ (by decide) rfl rfl (Nat.le_of_ble_eq_true rfl) dX12_transposed_93 ?_
    refine ro_istore (L' := [(7, .int q18), (0, .ref (ro_ad (kG K) 207)), (1, .int v1), (2, .int v2), (3, .int v3), (4, .int v4), (5, .int v5), (6, .int v6)]) hK dX12_transposed_96 (by decide) rfl ?_
    refine ro_iload hK 0 rfl dX12_transposed_98 ?_
    refine ro_iload hK 5 rfl dX12_transposed_100 ?_
    refine ro_icmp_lt hK 108 dX12_transposed_102 (by decide) (fun c20 => ?_) (fun c20 => ?_)
    · have hf := ro_it hf c20
      refine ro_iload hK 0 rfl dX12_transposed_108 ?_
      refine ro_istore (L' := [(4, .int q18), (7, .int q18), (0, .ref (ro_ad (kG K) 207)), (1, .int v1), (2, .int v2), (3, .int v3), (5, .int v5), (6, .int v6)]) hK dX12_transposed_110 (by decide) rfl ?_
      refine ro_iload hK 7 rfl dX12_transposed_112 ?_
      refine ro_iload hK 6 rfl dX12_transposed_114 ?_
      refine ro_imul hK dX12_transposed_116 ?_
      obtain ⟨z21, e22, hf⟩ := ro_ld hf
      refine ro_iv e22 ?_
      refine ro_istore_n (L' := [(3, .int z21), (4, .int q18), (7, .int q18), (0, .ref (ro_ad (kG K) 207)), (1, .int v1), (2, .int v2), (5, .int v5), (6, .int v6)]) hK dX12_transposed_117 rfl (by decide) rfl ?_
      refine ro_iload hK 7 rfl dX12_transposed_118 ?_
      refine ro_iconst (v := 2) hK dX12_transposed_120 (by decide) ?_
      refine ro_isub hK dX12_transposed_121 ?_
      obtain ⟨z23, e24, hf⟩ := ro_ld hf
      refine ro_iv e24 ?_
      refine ro_istore (L' := [(6, .int z23), (3, .int z21), (4, .int q18), (7, .int q18), (0, .ref (ro_ad (kG K) 207)), (1, .int v1), (2, .int v2), (5, .int v5)]) hK dX12_transposed_122 (by decide) rfl ?_
      refine ro_goto hK 47 dX12_transposed_124 (by decide) ?_
      refine ro_sub (L' := [(0, .ref (ro_ad (kG K) 207)), (1, .int v1), (2, .int v2), (3, .int z21), (4, .int q18), (5, .int v5), (6, .int z23)]) [4, 5, 6, 1, 2, 7, 0] rfl ?_
      exact hrec (z21, q18, z23, q16) _ hf hq
    · have hf := ro_ie hf c20
      refine ro_goto hK 118 dX12_transposed_105 (by decide) ?_
      refine ro_iload hK 7 rfl dX12_transposed_118 ?_
      refine ro_iconst (v := 2) hK dX12_transposed_120 (by decide) ?_
      refine ro_isub hK dX12_transposed_121 ?_
      obtain ⟨z25, e26, hf⟩ := ro_ld hf
      refine ro_iv e26 ?_
      refine ro_istore (L' := [(6, .int z25), (7, .int q18), (0, .ref (ro_ad (kG K) 207)), (1, .int v1), (2, .int v2), (3, .int v3), (4, .int v4), (5, .int v5)]) hK dX12_transposed_122 (by decide) rfl ?_
      refine ro_goto hK 47 dX12_transposed_124 (by decide) ?_
      refine ro_sub (L' := [(0, .ref (ro_ad (kG K) 207)), (1, .int v1), (2, .int v2), (3, .int v3), (4, .int v4), (5, .int v5), (6, .int z25)]) [2, 3, 4, 5, 6, 7, 0] rfl ?_
      exact hrec (v3, v4, z25, q16) _ hf hq
  · have hf := ro_it hf c13
    refine ro_goto hK 118 dX12_transposed_75 (by decide) ?_
    refine ro_iload hK 6 rfl dX12_transposed_118 ?_
    refine ro_iconst (v := 2) hK dX12_transposed_120 (by decide) ?_
    refine ro_isub hK dX12_transposed_121 ?_
    obtain ⟨z27, e28, hf⟩ := ro_ld hf
    refine ro_iv e28 ?_
    refine ro_istore (L' := [(6, .int z27), (0, .ref (ro_ad (kG K) 207)), (1, .int v1), (2, .int v2), (3, .int v3), (4, .int v4), (5, .int v5)]) hK dX12_transposed_122 (by decide) rfl ?_
    refine ro_goto hK 47 dX12_transposed_124 (by decide) ?_
    refine ro_sub (L' := [(0, .ref (ro_ad (kG K) 207)), (1, .int v1), (2, .int v2), (3, .int v3), (4, .int v4), (5, .int v5), (6, .int z27)]) [1, 2, 3, 4, 5, 6, 0] rfl ?_
    exact hrec (v3, v4, z27, μ) _ hf hq
def fb_X12_transposed_47 (v1 : Int32) (v2 : Int32) (v5 : Int32) (rec : (Int32 × Int32 × Int32 × ro_Mem) → Option (Int32 × Int32 × ro_Mem)) (v3 : Int32) (v4 : Int32) (v6 : Int32) (μ : ro_Mem) : Option (Int32 × Int32 × ro_Mem) :=
  if v6 < (-1) then
  (some (v3, v4, μ))
  else
  (if v5 = 0 then
  (if v6 < 0 then
  (ro_lt (v6 - 2) fun z30 =>
  rec (v3, v4, z30, μ))
  else
  (fj_X12_transposed_63 rec v1 v2 v3 v4 v5 v6 μ))
  else
  (fj_X12_transposed_63 rec v1 v2 v3 v4 v5 v6 μ))
theorem bb_X12_transposed_47 {K : ro_K} (hK : ro_C K RX12 cX12_transposed 8 6) (hR : ro_R K (some .int)) {v1 : Int32} {v2 : Int32} {v5 : Int32}  {μ : ro_Mem} {rec : (Int32 × Int32 × Int32 × ro_Mem) → Option (Int32 × Int32 × ro_Mem)} {v3 : Int32} {v4 : Int32} {v6 : Int32} {q : (Int32 × Int32 × ro_Mem)} (hrec : ∀ (s : Int32 × Int32 × Int32 × ro_Mem) (q : (Int32 × Int32 × ro_Mem)), rec s = some q → ok_X12_transposed_47 K v1 v2 v5 q → ro_X K 47 [(0, .ref (ro_ad (kG K) 207)), (1, .int v1), (2, .int v2), (3, .int s.1), (4, .int s.2.1), (5, .int v5), (6, .int s.2.2.1)] [] s.2.2.2) (hf : fb_X12_transposed_47 v1 v2 v5 rec v3 v4 v6 μ = some q) (hq : ok_X12_transposed_47 K v1 v2 v5 q) : ro_X K 47 [(0, .ref (ro_ad (kG K) 207)), (1, .int v1), (2, .int v2), (3, .int v3), (4, .int v4), (5, .int v5), (6, .int v6)] [] μ := by
  unfold fb_X12_transposed_47 at hf
  refine ro_iload hK 6 rfl dX12_transposed_47 ?_
  refine ro_iconst (v := (-1)) hK dX12_transposed_49 (by decide) ?_
  refine ro_icmp_lt hK 127 dX12_transposed_50 (by decide) (fun c9 => ?_) (fun c9 => ?_)
  · have hf := ro_it hf c9
    refine ro_sub (L' := [(0, .ref (ro_ad (kG K) 207)), (1, .int v1), (2, .int v2), (3, .int v3), (4, .int v4), (5, .int v5)]) [0, 1, 2, 3, 4, 5] rfl ?_
    obtain rfl := Option.some.inj hf
    exact hq
  · have hf := ro_ie hf c9
    refine ro_iload hK 5 rfl dX12_transposed_53 ?_
    refine ro_if_ne hK 63 dX12_transposed_55 (by decide) (fun c10 => ?_) (fun c10 => ?_)
    · have hf := ro_ie hf c10
      exact bj_X12_transposed_63 hK hR  hrec hf hq
    · have hf := ro_it hf c10
      refine ro_iload hK 6 rfl dX12_transposed_58 ?_
      refine ro_if_lt hK 118 dX12_transposed_60 (by decide) (fun c29 => ?_) (fun c29 => ?_)
      · have hf := ro_it hf c29
        refine ro_iload hK 6 rfl dX12_transposed_118 ?_
        refine ro_iconst (v := 2) hK dX12_transposed_120 (by decide) ?_
        refine ro_isub hK dX12_transposed_121 ?_
        obtain ⟨z30, e31, hf⟩ := ro_ld hf
        refine ro_iv e31 ?_
        refine ro_istore (L' := [(6, .int z30), (0, .ref (ro_ad (kG K) 207)), (1, .int v1), (2, .int v2), (3, .int v3), (4, .int v4), (5, .int v5)]) hK dX12_transposed_122 (by decide) rfl ?_
        refine ro_goto hK 47 dX12_transposed_124 (by decide) ?_
        refine ro_sub (L' := [(0, .ref (ro_ad (kG K) 207)), (1, .int v1), (2, .int v2), (3, .int v3), (4, .int v4), (5, .int v5), (6, .int z30)]) [1, 2, 3, 4, 5, 6, 0] rfl ?_
        exact hrec (v3, v4, z30, μ) _ hf hq
      · have hf := ro_ie hf c29
        exact bj_X12_transposed_63 hK hR  hrec hf hq
def fl_X12_transposed_47 (v1 : Int32) (v2 : Int32) (v5 : Int32) : (Int32 × Int32 × Int32 × ro_Mem) → Option (Int32 × Int32 × ro_Mem) :=
  ro_loop (fun rec s => fb_X12_transposed_47 v1 v2 v5 rec s.1 s.2.1 s.2.2.1 s.2.2.2) ro_FU
theorem lp_X12_transposed_47 {K : ro_K} (hK : ro_C K RX12 cX12_transposed 8 6) (hR : ro_R K (some .int)) {v1 : Int32} {v2 : Int32} {v5 : Int32}  {s : Int32 × Int32 × Int32 × ro_Mem} {q : (Int32 × Int32 × ro_Mem)} (hf : fl_X12_transposed_47 v1 v2 v5 s = some q) (hq : ok_X12_transposed_47 K v1 v2 v5 q) : ro_X K 47 [(0, .ref (ro_ad (kG K) 207)), (1, .int v1), (2, .int v2), (3, .int s.1), (4, .int s.2.1), (5, .int v5), (6, .int s.2.2.1)] [] s.2.2.2 :=
  ro_loopX (b := fun rec s => fb_X12_transposed_47 v1 v2 v5 rec s.1 s.2.1 s.2.2.1 s.2.2.2) (X := fun s => ro_X K 47 [(0, .ref (ro_ad (kG K) 207)), (1, .int v1), (2, .int v2), (3, .int s.1), (4, .int s.2.1), (5, .int v5), (6, .int s.2.2.1)] [] s.2.2.2) (OK := ok_X12_transposed_47 K v1 v2 v5) (fun rec s q hrec hb ho => bb_X12_transposed_47 hK hR  hrec hb ho) ro_FU s q hf hq
def fb_X12_transposed_37 (v1 : Int32) (v2 : Int32) (rec : (Int32 × Int32 × Int32 × ro_Mem) → Option (Int32 × Int32 × ro_Mem)) (v3 : Int32) (v4 : Int32) (v5 : Int32) (μ : ro_Mem) : Option (Int32 × Int32 × ro_Mem) :=
  if 12 < v5 then
  (some (v3, v4, μ))
  else
  ((fl_X12_transposed_47 v1 v2 v5 (v3, v4, 1, μ)).bind fun q32 =>
  rec (q32.1, q32.2.1, v5 + 1, q32.2.2))
theorem bb_X12_transposed_37 {K : ro_K} (hK : ro_C K RX12 cX12_transposed 8 6) (hR : ro_R K (some .int)) {v1 : Int32} {v2 : Int32}  {μ : ro_Mem} {rec : (Int32 × Int32 × Int32 × ro_Mem) → Option (Int32 × Int32 × ro_Mem)} {v3 : Int32} {v4 : Int32} {v5 : Int32} {q : (Int32 × Int32 × ro_Mem)} (hrec : ∀ (s : Int32 × Int32 × Int32 × ro_Mem) (q : (Int32 × Int32 × ro_Mem)), rec s = some q → ok_X12_transposed_37 K v1 v2 q → ro_X K 37 [(0, .ref (ro_ad (kG K) 207)), (1, .int v1), (2, .int v2), (3, .int s.1), (4, .int s.2.1), (5, .int s.2.2.1)] [] s.2.2.2) (hf : fb_X12_transposed_37 v1 v2 rec v3 v4 v5 μ = some q) (hq : ok_X12_transposed_37 K v1 v2 q) : ro_X K 37 [(0, .ref (ro_ad (kG K) 207)), (1, .int v1), (2, .int v2), (3, .int v3), (4, .int v4), (5, .int v5)] [] μ := by
  unfold fb_X12_transposed_37 at hf
  refine ro_iload hK 5 rfl dX12_transposed_37 ?_
  refine ro_bipush (v := 12) hK dX12_transposed_39 (by decide) ?_
  refine ro_icmp_gt hK 133 dX12_transposed_41 (by decide) (fun c8 => ?_) (fun c8 => ?_)
  · have hf := ro_it hf c8
    refine ro_sub (L' := [(0, .ref (ro_ad (kG K) 207)), (2, .int v2), (3, .int v3), (4, .int v4)]) [0, 2, 3, 4] rfl ?_
    obtain rfl := Option.some.inj hf
    exact hq
  · have hf := ro_ie hf c8
    refine ro_iconst (v := 1) hK dX12_transposed_44 (by decide) ?_
    refine ro_istore (L' := [(6, .int 1), (0, .ref (ro_ad (kG K) 207)), (1, .int v1), (2, .int v2), (3, .int v3), (4, .int v4), (5, .int v5)]) hK dX12_transposed_45 (by decide) rfl ?_
    obtain ⟨q32, e33, hf⟩ := ro_bd hf
    refine ro_sub (L' := [(0, .ref (ro_ad (kG K) 207)), (1, .int v1), (2, .int v2), (3, .int v3), (4, .int v4), (5, .int v5), (6, .int 1)]) [1, 2, 3, 4, 5, 6, 0] rfl ?_
    refine lp_X12_transposed_47 hK hR  e33 ?_
    show ro_X K 127 [(0, .ref (ro_ad (kG K) 207)), (1, .int v1), (2, .int v2), (3, .int q32.1), (4, .int q32.2.1), (5, .int v5)] [] q32.2.2
    refine ro_iinc (v := v5 + 1) (L' := [(5, .int (v5 + 1)), (0, .ref (ro_ad (kG K) 207)), (1, .int v1), (2, .int v2), (3, .int q32.1), (4, .int q32.2.1)]) hK 5 rfl dX12_transposed_127 rfl (by decide) rfl ?_
    refine ro_goto hK 37 dX12_transposed_130 (by decide) ?_
    refine ro_sub (L' := [(0, .ref (ro_ad (kG K) 207)), (1, .int v1), (2, .int v2), (3, .int q32.1), (4, .int q32.2.1), (5, .int (v5 + 1))]) [1, 2, 3, 4, 5, 0] rfl ?_
    exact hrec (q32.1, q32.2.1, v5 + 1, q32.2.2) _ hf hq
def fl_X12_transposed_37 (v1 : Int32) (v2 : Int32) : (Int32 × Int32 × Int32 × ro_Mem) → Option (Int32 × Int32 × ro_Mem) :=
  ro_loop (fun rec s => fb_X12_transposed_37 v1 v2 rec s.1 s.2.1 s.2.2.1 s.2.2.2) ro_FU
theorem lp_X12_transposed_37 {K : ro_K} (hK : ro_C K RX12 cX12_transposed 8 6) (hR : ro_R K (some .int)) {v1 : Int32} {v2 : Int32}  {s : Int32 × Int32 × Int32 × ro_Mem} {q : (Int32 × Int32 × ro_Mem)} (hf : fl_X12_transposed_37 v1 v2 s = some q) (hq : ok_X12_transposed_37 K v1 v2 q) : ro_X K 37 [(0, .ref (ro_ad (kG K) 207)), (1, .int v1), (2, .int v2), (3, .int s.1), (4, .int s.2.1), (5, .int s.2.2.1)] [] s.2.2.2 :=
  ro_loopX (b := fun rec s => fb_X12_transposed_37 v1 v2 rec s.1 s.2.1 s.2.2.1 s.2.2.2) (X := fun s => ro_X K 37 [(0, .ref (ro_ad (kG K) 207)), (1, .int v1), (2, .int v2), (3, .int s.1), (4, .int s.2.1), (5, .int s.2.2.1)] [] s.2.2.2) (OK := ok_X12_transposed_37 K v1 v2) (fun rec s q hrec hb ho => bb_X12_transposed_37 hK hR  hrec hb ho) ro_FU s q hf hq
def fn_X12_transposed (v1 : Int32) (v2 : Int32) (μ : ro_Mem) : Option (Int32 × ro_Mem) :=
  (fn_X12_isGuest v1 μ).bind fun q1 =>
  if q1 = 0 then
  (some ((-100), μ))
  else
  ((fn_X12_in v2 0 1).bind fun q4 =>
  if q4 = 0 then
  (some ((-100), μ))
  else
  (if (μ 207 18) = 0 then
  (some ((-100), μ))
  else
  ((fl_X12_transposed_37 v1 v2 (0, 1000000000, 0, μ)).bind fun q34 =>
  ro_lt (ro_set q34.2.2 207 52 0) fun m36 =>
  if v2 = 0 then
  (some (q34.1, m36))
  else
  (some (q34.2.1, m36)))))
theorem be_X12_transposed {K : ro_K} (hK : ro_C K RX12 cX12_transposed 8 6) (hR : ro_R K (some .int)) {v1 : Int32} {v2 : Int32}  {μ : ro_Mem} {out : Int32 × ro_Mem} (hf : fn_X12_transposed v1 v2 μ = some out) (hq : kQ K (some (.int out.1)) out.2) : ro_X K 0 [(0, .ref (ro_ad (kG K) 207)), (1, .int v1), (2, .int v2)] [] μ := by
  unfold fn_X12_transposed at hf
  refine ro_aload_n hK 0 rfl dX12_transposed_0 rfl ?_
  refine ro_iload_n hK 1 rfl dX12_transposed_1 rfl ?_
  obtain ⟨q1, e2, hf⟩ := ro_bd hf
  refine ro_callvi hK [.int v1] ml_X12_235 mv_X12_isGuest (mt_X12_isGuest (kl K) (kG K)  e2) sh_207 ⟨_, rfl, rfl⟩ (by decide) rfl rfl (Nat.le_of_ble_eq_true rfl) dX12_transposed_2 ?_
  refine ro_if_eq hK 24 dX12_transposed_5 (by decide) (fun c3 => ?_) (fun c3 => ?_)
  · have hf := ro_it hf c3
    refine ro_bipush (v := (-100)) hK dX12_transposed_24 (by decide) ?_
    obtain rfl := Option.some.inj hf
    exact ro_iret hK hR dX12_transposed_26 hq
  · have hf := ro_ie hf c3
    refine ro_iload_n hK 2 rfl dX12_transposed_8 rfl ?_
    refine ro_iconst (v := 0) hK dX12_transposed_9 (by decide) ?_
    refine ro_iconst (v := 1) hK dX12_transposed_10 (by decide) ?_
    obtain ⟨q4, e5, hf⟩ := ro_bd hf
    refine ro_callsi hK [.int v2, .int 0, .int 1] ml_X12_215 ms_X12_in (mt_X12_in (kl K) (kG K)  e5) (by decide) rfl rfl (Nat.le_of_ble_eq_true rfl) dX12_transposed_11 ?_
    refine ro_if_eq hK 24 dX12_transposed_14 (by decide) (fun c6 => ?_) (fun c6 => ?_)
    · have hf := ro_it hf c6
      refine ro_bipush (v := (-100)) hK dX12_transposed_24 (by decide) ?_
      obtain rfl := Option.some.inj hf
      exact ro_iret hK hR dX12_transposed_26 hq
    · have hf := ro_ie hf c6
      refine ro_aload_n hK 0 rfl dX12_transposed_17 rfl ?_
      refine ro_geti hK fl_X12_300 sh_207 dX12_transposed_18 ?_
      refine ro_if_ne hK 27 dX12_transposed_21 (by decide) (fun c7 => ?_) (fun c7 => ?_)
      · have hf := ro_ie hf c7
        refine ro_iconst (v := 0) hK dX12_transposed_27 (by decide) ?_
        refine ro_istore_n (L' := [(3, .int 0), (0, .ref (ro_ad (kG K) 207)), (1, .int v1), (2, .int v2)]) hK dX12_transposed_28 rfl (by decide) rfl ?_
        refine ro_ldcw hK kc_X12_456 dX12_transposed_29 ?_
        refine ro_istore (L' := [(4, .int 1000000000), (3, .int 0), (0, .ref (ro_ad (kG K) 207)), (1, .int v1), (2, .int v2)]) hK dX12_transposed_32 (by decide) rfl ?_
        refine ro_iconst (v := 0) hK dX12_transposed_34 (by decide) ?_
        refine ro_istore (L' := [(5, .int 0), (4, .int 1000000000), (3, .int 0), (0, .ref (ro_ad (kG K) 207)), (1, .int v1), (2, .int v2)]) hK dX12_transposed_35 (by decide) rfl ?_
        obtain ⟨q34, e35, hf⟩ := ro_bd hf
        refine ro_sub (L' := [(0, .ref (ro_ad (kG K) 207)), (1, .int v1), (2, .int v2), (3, .int 0), (4, .int 1000000000), (5, .int 0)]) [3, 4, 5, 2, 1, 0] rfl ?_
        refine lp_X12_transposed_37 hK hR  e35 ?_
        show ro_X K 133 [(0, .ref (ro_ad (kG K) 207)), (2, .int v2), (3, .int q34.1), (4, .int q34.2.1)] [] q34.2.2
        refine ro_aload_n hK 0 rfl dX12_transposed_133 rfl ?_
        refine ro_iconst (v := 0) hK dX12_transposed_134 (by decide) ?_
        obtain ⟨m36, e37, hf⟩ := ro_ld hf
        refine ro_puti hK fl_X12_388 sh_207 rfl rfl dX12_transposed_135 ?_
        refine ro_mv e37 ?_
        refine ro_iload_n hK 1 rfl dX12_transposed_138 rfl ?_
        refine ro_if_ne hK 146 dX12_transposed_139 (by decide) (fun c38 => ?_) (fun c38 => ?_)
        · have hf := ro_ie hf c38
          refine ro_iload hK 3 rfl dX12_transposed_146 ?_
          obtain rfl := Option.some.inj hf
          exact ro_iret hK hR dX12_transposed_148 hq
        · have hf := ro_it hf c38
          refine ro_iload_n hK 2 rfl dX12_transposed_142 rfl ?_
          refine ro_goto hK 148 dX12_transposed_143 (by decide) ?_
          obtain rfl := Option.some.inj hf
          exact ro_iret hK hR dX12_transposed_148 hq
      · have hf := ro_it hf c7
        refine ro_bipush (v := (-100)) hK dX12_transposed_24 (by decide) ?_
        obtain rfl := Option.some.inj hf
        exact ro_iret hK hR dX12_transposed_26 hq
theorem mt_X12_transposed (l : Launch) (G : ro_G) {v1 : Int32} {v2 : Int32}  {μ : ro_Mem} {out : Int32 × ro_Mem} (hf : fn_X12_transposed v1 v2 μ = some out) : ro_MX l G yX12_transposed cX12_transposed 8 (some .int) 6 [.ref (ro_ad G 207), .int v1, .int v2] μ (some (.int out.1)) out.2 := by
  refine ro_MX.of (by decide +kernel) (Nat.le_of_ble_eq_true rfl) (fun K hG hl hq hK hR => ?_)
  subst hG
  exact be_X12_transposed hK hR  hf hq
-- ===== X12_mostBy =====
theorem dX12_mostBy_0 : decode cX12_mostBy 0 = .ok (.iconst 0, 1) := by decide +kernel
theorem dX12_mostBy_1 : decode cX12_mostBy 1 = .ok (.istore_n 3, 1) := by decide +kernel
theorem dX12_mostBy_2 : decode cX12_mostBy 2 = .ok (.iconst 0, 1) := by decide +kernel
theorem dX12_mostBy_3 : decode cX12_mostBy 3 = .ok (.istore 4, 2) := by decide +kernel
theorem dX12_mostBy_5 : decode cX12_mostBy 5 = .ok (.iconst 0, 1) := by decide +kernel
theorem dX12_mostBy_6 : decode cX12_mostBy 6 = .ok (.istore 5, 2) := by decide +kernel
theorem dX12_mostBy_8 : decode cX12_mostBy 8 = .ok (.iload 5, 2) := by decide +kernel
theorem dX12_mostBy_10 : decode cX12_mostBy 10 = .ok (.iload_n 2, 1) := by decide +kernel
theorem dX12_mostBy_11 : decode cX12_mostBy 11 = .ok (.if_icmp .ge 104, 3) := by decide +kernel
theorem dX12_mostBy_14 : decode cX12_mostBy 14 = .ok (.iconst (-1), 1) := by decide +kernel
theorem dX12_mostBy_15 : decode cX12_mostBy 15 = .ok (.istore 6, 2) := by decide +kernel
theorem dX12_mostBy_17 : decode cX12_mostBy 17 = .ok (.iload_n 1, 1) := by decide +kernel
theorem dX12_mostBy_18 : decode cX12_mostBy 18 = .ok (.istore 7, 2) := by decide +kernel
theorem dX12_mostBy_20 : decode cX12_mostBy 20 = .ok (.iload 7, 2) := by decide +kernel
theorem dX12_mostBy_22 : decode cX12_mostBy 22 = .ok (.aload_n 0, 1) := by decide +kernel
theorem dX12_mostBy_23 : decode cX12_mostBy 23 = .ok (.getfield 300, 3) := by decide +kernel
theorem dX12_mostBy_26 : decode cX12_mostBy 26 = .ok (.if_icmp .ge 45, 3) := by decide +kernel
theorem dX12_mostBy_29 : decode cX12_mostBy 29 = .ok (.iload_n 3, 1) := by decide +kernel
theorem dX12_mostBy_30 : decode cX12_mostBy 30 = .ok (.iload 7, 2) := by decide +kernel
theorem dX12_mostBy_32 : decode cX12_mostBy 32 = .ok (.ishr, 1) := by decide +kernel
theorem dX12_mostBy_33 : decode cX12_mostBy 33 = .ok (.iconst 1, 1) := by decide +kernel
theorem dX12_mostBy_34 : decode cX12_mostBy 34 = .ok (.iand, 1) := by decide +kernel
theorem dX12_mostBy_35 : decode cX12_mostBy 35 = .ok (.ifCond .ne 30, 3) := by decide +kernel
theorem dX12_mostBy_38 : decode cX12_mostBy 38 = .ok (.iload 6, 2) := by decide +kernel
theorem dX12_mostBy_40 : decode cX12_mostBy 40 = .ok (.iconst (-1), 1) := by decide +kernel
theorem dX12_mostBy_41 : decode cX12_mostBy 41 = .ok (.if_icmp .eq 20, 3) := by decide +kernel
theorem dX12_mostBy_44 : decode cX12_mostBy 44 = .ok (.aload_n 0, 1) := by decide +kernel
theorem dX12_mostBy_45 : decode cX12_mostBy 45 = .ok (.getfield 141, 3) := by decide +kernel
theorem dX12_mostBy_48 : decode cX12_mostBy 48 = .ok (.iload 7, 2) := by decide +kernel
theorem dX12_mostBy_50 : decode cX12_mostBy 50 = .ok (.iaload, 1) := by decide +kernel
theorem dX12_mostBy_51 : decode cX12_mostBy 51 = .ok (.aload_n 0, 1) := by decide +kernel
theorem dX12_mostBy_52 : decode cX12_mostBy 52 = .ok (.getfield 141, 3) := by decide +kernel
theorem dX12_mostBy_55 : decode cX12_mostBy 55 = .ok (.iload 6, 2) := by decide +kernel
theorem dX12_mostBy_57 : decode cX12_mostBy 57 = .ok (.iaload, 1) := by decide +kernel
theorem dX12_mostBy_58 : decode cX12_mostBy 58 = .ok (.if_icmp .le 7, 3) := by decide +kernel
theorem dX12_mostBy_61 : decode cX12_mostBy 61 = .ok (.iload 7, 2) := by decide +kernel
theorem dX12_mostBy_63 : decode cX12_mostBy 63 = .ok (.istore 6, 2) := by decide +kernel
theorem dX12_mostBy_65 : decode cX12_mostBy 65 = .ok (.iinc 7 1, 3) := by decide +kernel
theorem dX12_mostBy_68 : decode cX12_mostBy 68 = .ok (.goto (-48), 3) := by decide +kernel
theorem dX12_mostBy_71 : decode cX12_mostBy 71 = .ok (.iload 6, 2) := by decide +kernel
theorem dX12_mostBy_73 : decode cX12_mostBy 73 = .ok (.iconst (-1), 1) := by decide +kernel
theorem dX12_mostBy_74 : decode cX12_mostBy 74 = .ok (.if_icmp .eq 13, 3) := by decide +kernel
theorem dX12_mostBy_77 : decode cX12_mostBy 77 = .ok (.aload_n 0, 1) := by decide +kernel
theorem dX12_mostBy_78 : decode cX12_mostBy 78 = .ok (.getfield 141, 3) := by decide +kernel
theorem dX12_mostBy_81 : decode cX12_mostBy 81 = .ok (.iload 6, 2) := by decide +kernel
theorem dX12_mostBy_83 : decode cX12_mostBy 83 = .ok (.iaload, 1) := by decide +kernel
theorem dX12_mostBy_84 : decode cX12_mostBy 84 = .ok (.ifCond .ne 6, 3) := by decide +kernel
theorem dX12_mostBy_87 : decode cX12_mostBy 87 = .ok (.iload 4, 2) := by decide +kernel
theorem dX12_mostBy_89 : decode cX12_mostBy 89 = .ok (.ireturn, 1) := by decide +kernel
theorem dX12_mostBy_90 : decode cX12_mostBy 90 = .ok (.iload_n 3, 1) := by decide +kernel
theorem dX12_mostBy_91 : decode cX12_mostBy 91 = .ok (.iconst 1, 1) := by decide +kernel
theorem dX12_mostBy_92 : decode cX12_mostBy 92 = .ok (.iload 6, 2) := by decide +kernel
theorem dX12_mostBy_94 : decode cX12_mostBy 94 = .ok (.ishl, 1) := by decide +kernel
theorem dX12_mostBy_95 : decode cX12_mostBy 95 = .ok (.ior, 1) := by decide +kernel
theorem dX12_mostBy_96 : decode cX12_mostBy 96 = .ok (.istore_n 3, 1) := by decide +kernel
theorem dX12_mostBy_97 : decode cX12_mostBy 97 = .ok (.iload 4, 2) := by decide +kernel
theorem dX12_mostBy_99 : decode cX12_mostBy 99 = .ok (.aload_n 0, 1) := by decide +kernel
theorem dX12_mostBy_100 : decode cX12_mostBy 100 = .ok (.getfield 141, 3) := by decide +kernel
theorem dX12_mostBy_103 : decode cX12_mostBy 103 = .ok (.iload 6, 2) := by decide +kernel
theorem dX12_mostBy_105 : decode cX12_mostBy 105 = .ok (.iaload, 1) := by decide +kernel
theorem dX12_mostBy_106 : decode cX12_mostBy 106 = .ok (.iadd, 1) := by decide +kernel
theorem dX12_mostBy_107 : decode cX12_mostBy 107 = .ok (.istore 4, 2) := by decide +kernel
theorem dX12_mostBy_109 : decode cX12_mostBy 109 = .ok (.iinc 5 1, 3) := by decide +kernel
theorem dX12_mostBy_112 : decode cX12_mostBy 112 = .ok (.goto (-104), 3) := by decide +kernel
theorem dX12_mostBy_115 : decode cX12_mostBy 115 = .ok (.iload 4, 2) := by decide +kernel
theorem dX12_mostBy_117 : decode cX12_mostBy 117 = .ok (.ireturn, 1) := by decide +kernel
def ok_X12_mostBy_8 (K : ro_K) (v1 : Int32) (v2 : Int32) (μ : ro_Mem) : (Int32 ⊕ Int32) → Prop := Sum.elim (fun e => ro_X K 87 [(4, .int e)] [] μ) (fun e => ro_X K 115 [(4, .int e)] [] μ)
def ok_X12_mostBy_20 (K : ro_K) (v1 : Int32) (v2 : Int32) (v3 : Int32) (v4 : Int32) (v5 : Int32) (μ : ro_Mem) : Int32 → Prop := fun e => ro_X K 71 [(0, .ref (ro_ad (kG K) 207)), (1, .int v1), (2, .int v2), (3, .int v3), (4, .int v4), (5, .int v5), (6, .int e)] [] μ
def fb_X12_mostBy_20 (v1 : Int32) (v2 : Int32) (v3 : Int32) (v4 : Int32) (v5 : Int32) (μ : ro_Mem) (rec : (Int32 × Int32) → Option Int32) (v6 : Int32) (v7 : Int32) : Option Int32 :=
  if (μ 207 18) ≤ v7 then
  (some v6)
  else
  (if ((v3 >>> (v7 &&& 31)) &&& 1) = 0 then
  (if v6 = (-1) then
  (rec (v7, v7 + 1))
  else
  (if ro_in v7 32 then
  (if ro_in v6 32 then
  (if (μ 251 v7.toNatClampNeg) ≤ (μ 251 v6.toNatClampNeg) then
  (rec (v6, v7 + 1))
  else
  (rec (v7, v7 + 1))) else none) else none))
  else
  (rec (v6, v7 + 1)))
theorem bb_X12_mostBy_20 {K : ro_K} (hK : ro_C K RX12 cX12_mostBy 8 0) (hR : ro_R K (some .int)) {v1 : Int32} {v2 : Int32} {v3 : Int32} {v4 : Int32} {v5 : Int32}  {μ : ro_Mem} {rec : (Int32 × Int32) → Option Int32} {v6 : Int32} {v7 : Int32} {q : Int32} (hrec : ∀ (s : Int32 × Int32) (q : Int32), rec s = some q → ok_X12_mostBy_20 K v1 v2 v3 v4 v5 μ q → ro_X K 20 [(0, .ref (ro_ad (kG K) 207)), (1, .int v1), (2, .int v2), (3, .int v3), (4, .int v4), (5, .int v5), (6, .int s.1), (7, .int s.2)] [] μ) (hf : fb_X12_mostBy_20 v1 v2 v3 v4 v5 μ rec v6 v7 = some q) (hq : ok_X12_mostBy_20 K v1 v2 v3 v4 v5 μ q) : ro_X K 20 [(0, .ref (ro_ad (kG K) 207)), (1, .int v1), (2, .int v2), (3, .int v3), (4, .int v4), (5, .int v5), (6, .int v6), (7, .int v7)] [] μ := by
  unfold fb_X12_mostBy_20 at hf
  refine ro_iload hK 7 rfl dX12_mostBy_20 ?_
  refine ro_aload_n hK 0 rfl dX12_mostBy_22 rfl ?_
  refine ro_geti hK fl_X12_300 sh_207 dX12_mostBy_23 ?_
  refine ro_icmp_ge hK 71 dX12_mostBy_26 (by decide) (fun c2 => ?_) (fun c2 => ?_)
  · have hf := ro_it hf c2
    refine ro_sub (L' := [(0, .ref (ro_ad (kG K) 207)), (1, .int v1), (2, .int v2), (3, .int v3), (4, .int v4), (5, .int v5), (6, .int v6)]) [0, 1, 2, 3, 4, 5, 6] rfl ?_
    obtain rfl := Option.some.inj hf
    exact hq
  · have hf := ro_ie hf c2
    refine ro_iload_n hK 3 rfl dX12_mostBy_29 rfl ?_
    refine ro_iload hK 7 rfl dX12_mostBy_30 ?_
    refine ro_ishr hK dX12_mostBy_32 ?_
    refine ro_iconst (v := 1) hK dX12_mostBy_33 (by decide) ?_
    refine ro_iand hK dX12_mostBy_34 ?_
    refine ro_if_ne hK 65 dX12_mostBy_35 (by decide) (fun c3 => ?_) (fun c3 => ?_)
    · have hf := ro_ie hf c3
      refine ro_iinc (v := v7 + 1) (L' := [(7, .int (v7 + 1)), (0, .ref (ro_ad (kG K) 207)), (1, .int v1), (2, .int v2), (3, .int v3), (4, .int v4), (5, .int v5), (6, .int v6)]) hK 7 rfl dX12_mostBy_65 rfl (by decide) rfl ?_
      refine ro_goto hK 20 dX12_mostBy_68 (by decide) ?_
      refine ro_sub (L' := [(0, .ref (ro_ad (kG K) 207)), (1, .int v1), (2, .int v2), (3, .int v3), (4, .int v4), (5, .int v5), (6, .int v6), (7, .int (v7 + 1))]) [1, 2, 3, 4, 5, 6, 7, 0] rfl ?_
      exact hrec (v6, v7 + 1) _ hf hq
    · have hf := ro_it hf c3
      refine ro_iload hK 6 rfl dX12_mostBy_38 ?_
      refine ro_iconst (v := (-1)) hK dX12_mostBy_40 (by decide) ?_
      refine ro_icmp_eq hK 61 dX12_mostBy_41 (by decide) (fun c4 => ?_) (fun c4 => ?_)
      · have hf := ro_it hf c4
        refine ro_iload hK 7 rfl dX12_mostBy_61 ?_
        refine ro_istore (L' := [(6, .int v7), (0, .ref (ro_ad (kG K) 207)), (1, .int v1), (2, .int v2), (3, .int v3), (4, .int v4), (5, .int v5), (7, .int v7)]) hK dX12_mostBy_63 (by decide) rfl ?_
        refine ro_iinc (v := v7 + 1) (L' := [(7, .int (v7 + 1)), (6, .int v7), (0, .ref (ro_ad (kG K) 207)), (1, .int v1), (2, .int v2), (3, .int v3), (4, .int v4), (5, .int v5)]) hK 7 rfl dX12_mostBy_65 rfl (by decide) rfl ?_
        refine ro_goto hK 20 dX12_mostBy_68 (by decide) ?_
        refine ro_sub (L' := [(0, .ref (ro_ad (kG K) 207)), (1, .int v1), (2, .int v2), (3, .int v3), (4, .int v4), (5, .int v5), (6, .int v7), (7, .int (v7 + 1))]) [2, 3, 4, 5, 6, 7, 1, 0] rfl ?_
        exact hrec (v7, v7 + 1) _ hf hq
      · have hf := ro_ie hf c4
        refine ro_aload_n hK 0 rfl dX12_mostBy_44 rfl ?_
        refine ro_getr hK fl_X12_141 sh_207 dX12_mostBy_45 ?_
        refine ro_iload hK 7 rfl dX12_mostBy_48 ?_
        obtain ⟨g5, hf⟩ := ro_gd hf
        refine ro_iald hK sh_251 g5 dX12_mostBy_50 ?_
        refine ro_aload_n hK 0 rfl dX12_mostBy_51 rfl ?_
        refine ro_getr hK fl_X12_141 sh_207 dX12_mostBy_52 ?_
        refine ro_iload hK 6 rfl dX12_mostBy_55 ?_
        obtain ⟨g6, hf⟩ := ro_gd hf
        refine ro_iald hK sh_251 g6 dX12_mostBy_57 ?_
        refine ro_icmp_le hK 65 dX12_mostBy_58 (by decide) (fun c7 => ?_) (fun c7 => ?_)
        · have hf := ro_it hf c7
          refine ro_iinc (v := v7 + 1) (L' := [(7, .int (v7 + 1)), (0, .ref (ro_ad (kG K) 207)), (1, .int v1), (2, .int v2), (3, .int v3), (4, .int v4), (5, .int v5), (6, .int v6)]) hK 7 rfl dX12_mostBy_65 rfl (by decide) rfl ?_
          refine ro_goto hK 20 dX12_mostBy_68 (by decide) ?_
          refine ro_sub (L' := [(0, .ref (ro_ad (kG K) 207)), (1, .int v1), (2, .int v2), (3, .int v3), (4, .int v4), (5, .int v5), (6, .int v6), (7, .int (v7 + 1))]) [1, 2, 3, 4, 5, 6, 7, 0] rfl ?_
          exact hrec (v6, v7 + 1) _ hf hq
        · have hf := ro_ie hf c7
          refine ro_iload hK 7 rfl dX12_mostBy_61 ?_
          refine ro_istore (L' := [(6, .int v7), (0, .ref (ro_ad (kG K) 207)), (1, .int v1), (2, .int v2), (3, .int v3), (4, .int v4), (5, .int v5), (7, .int v7)]) hK dX12_mostBy_63 (by decide) rfl ?_
          refine ro_iinc (v := v7 + 1) (L' := [(7, .int (v7 + 1)), (6, .int v7), (0, .ref (ro_ad (kG K) 207)), (1, .int v1), (2, .int v2), (3, .int v3), (4, .int v4), (5, .int v5)]) hK 7 rfl dX12_mostBy_65 rfl (by decide) rfl ?_
          refine ro_goto hK 20 dX12_mostBy_68 (by decide) ?_
          refine ro_sub (L' := [(0, .ref (ro_ad (kG K) 207)), (1, .int v1), (2, .int v2), (3, .int v3), (4, .int v4), (5, .int v5), (6, .int v7), (7, .int (v7 + 1))]) [2, 3, 4, 5, 6, 7, 1, 0] rfl ?_
          exact hrec (v7, v7 + 1) _ hf hq
def fl_X12_mostBy_20 (v1 : Int32) (v2 : Int32) (v3 : Int32) (v4 : Int32) (v5 : Int32) (μ : ro_Mem) : (Int32 × Int32) → Option Int32 :=
  ro_loop (fun rec s => fb_X12_mostBy_20 v1 v2 v3 v4 v5 μ rec s.1 s.2) ro_FU
theorem lp_X12_mostBy_20 {K : ro_K} (hK : ro_C K RX12 cX12_mostBy 8 0) (hR : ro_R K (some .int)) {v1 : Int32} {v2 : Int32} {v3 : Int32} {v4 : Int32} {v5 : Int32}  {μ : ro_Mem} {s : Int32 × Int32} {q : Int32} (hf : fl_X12_mostBy_20 v1 v2 v3 v4 v5 μ s = some q) (hq : ok_X12_mostBy_20 K v1 v2 v3 v4 v5 μ q) : ro_X K 20 [(0, .ref (ro_ad (kG K) 207)), (1, .int v1), (2, .int v2), (3, .int v3), (4, .int v4), (5, .int v5), (6, .int s.1), (7, .int s.2)] [] μ :=
  ro_loopX (b := fun rec s => fb_X12_mostBy_20 v1 v2 v3 v4 v5 μ rec s.1 s.2) (X := fun s => ro_X K 20 [(0, .ref (ro_ad (kG K) 207)), (1, .int v1), (2, .int v2), (3, .int v3), (4, .int v4), (5, .int v5), (6, .int s.1), (7, .int s.2)] [] μ) (OK := ok_X12_mostBy_20 K v1 v2 v3 v4 v5 μ) (fun rec s q hrec hb ho => bb_X12_mostBy_20 hK hR  hrec hb ho) ro_FU s q hf hq
def fb_X12_mostBy_8 (v1 : Int32) (v2 : Int32) (μ : ro_Mem) (rec : (Int32 × Int32 × Int32) → Option (Int32 ⊕ Int32)) (v3 : Int32) (v4 : Int32) (v5 : Int32) : Option (Int32 ⊕ Int32) :=
  if v2 ≤ v5 then
  (some (.inr v4))
  else
  ((fl_X12_mostBy_20 v1 v2 v3 v4 v5 μ ((-1), v1)).bind fun q8 =>
  if q8 = (-1) then
  (some (.inl v4))
  else
  (if ro_in q8 32 then
  (if (μ 251 q8.toNatClampNeg) = 0 then
  (some (.inl v4))
  else
  (ro_lt (v3 ||| ((1 : Int32) <<< (q8 &&& 31))) fun z13 =>
  ro_lt (v4 + (μ 251 q8.toNatClampNeg)) fun z15 =>
  rec (z13, z15, v5 + 1))) else none))
theorem bb_X12_mostBy_8 {K : ro_K} (hK : ro_C K RX12 cX12_mostBy 8 0) (hR : ro_R K (some .int)) {v1 : Int32} {v2 : Int32}  {μ : ro_Mem} {rec : (Int32 × Int32 × Int32) → Option (Int32 ⊕ Int32)} {v3 : Int32} {v4 : Int32} {v5 : Int32} {q : (Int32 ⊕ Int32)} (hrec : ∀ (s : Int32 × Int32 × Int32) (q : (Int32 ⊕ Int32)), rec s = some q → ok_X12_mostBy_8 K v1 v2 μ q → ro_X K 8 [(0, .ref (ro_ad (kG K) 207)), (1, .int v1), (2, .int v2), (3, .int s.1), (4, .int s.2.1), (5, .int s.2.2)] [] μ) (hf : fb_X12_mostBy_8 v1 v2 μ rec v3 v4 v5 = some q) (hq : ok_X12_mostBy_8 K v1 v2 μ q) : ro_X K 8 [(0, .ref (ro_ad (kG K) 207)), (1, .int v1), (2, .int v2), (3, .int v3), (4, .int v4), (5, .int v5)] [] μ := by
  unfold fb_X12_mostBy_8 at hf
  refine ro_iload hK 5 rfl dX12_mostBy_8 ?_
  refine ro_iload_n hK 2 rfl dX12_mostBy_10 rfl ?_
  refine ro_icmp_ge hK 115 dX12_mostBy_11 (by decide) (fun c1 => ?_) (fun c1 => ?_)
  · have hf := ro_it hf c1
    refine ro_sub (L' := [(4, .int v4)]) [4] rfl ?_
    obtain rfl := Option.some.inj hf
    exact hq
  · have hf := ro_ie hf c1
    refine ro_iconst (v := (-1)) hK dX12_mostBy_14 (by decide) ?_
    refine ro_istore (L' := [(6, .int (-1)), (0, .ref (ro_ad (kG K) 207)), (1, .int v1), (2, .int v2), (3, .int v3), (4, .int v4), (5, .int v5)]) hK dX12_mostBy_15 (by decide) rfl ?_
    refine ro_iload_n hK 2 rfl dX12_mostBy_17 rfl ?_
    refine ro_istore (L' := [(7, .int v1), (6, .int (-1)), (0, .ref (ro_ad (kG K) 207)), (1, .int v1), (2, .int v2), (3, .int v3), (4, .int v4), (5, .int v5)]) hK dX12_mostBy_18 (by decide) rfl ?_
    obtain ⟨q8, e9, hf⟩ := ro_bd hf
    refine ro_sub (L' := [(0, .ref (ro_ad (kG K) 207)), (1, .int v1), (2, .int v2), (3, .int v3), (4, .int v4), (5, .int v5), (6, .int (-1)), (7, .int v1)]) [2, 3, 4, 5, 6, 7, 1, 0] rfl ?_
    refine lp_X12_mostBy_20 hK hR  e9 ?_
    show ro_X K 71 [(0, .ref (ro_ad (kG K) 207)), (1, .int v1), (2, .int v2), (3, .int v3), (4, .int v4), (5, .int v5), (6, .int q8)] [] μ
    refine ro_iload hK 6 rfl dX12_mostBy_71 ?_
    refine ro_iconst (v := (-1)) hK dX12_mostBy_73 (by decide) ?_
    refine ro_icmp_eq hK 87 dX12_mostBy_74 (by decide) (fun c10 => ?_) (fun c10 => ?_)
    · have hf := ro_it hf c10
      refine ro_sub (L' := [(4, .int v4)]) [4] rfl ?_
      obtain rfl := Option.some.inj hf
      exact hq
    · have hf := ro_ie hf c10
      refine ro_aload_n hK 0 rfl dX12_mostBy_77 rfl ?_
      refine ro_getr hK fl_X12_141 sh_207 dX12_mostBy_78 ?_
      refine ro_iload hK 6 rfl dX12_mostBy_81 ?_
      obtain ⟨g11, hf⟩ := ro_gd hf
      refine ro_iald hK sh_251 g11 dX12_mostBy_83 ?_
      refine ro_if_ne hK 90 dX12_mostBy_84 (by decide) (fun c12 => ?_) (fun c12 => ?_)
      · have hf := ro_ie hf c12
        refine ro_iload_n hK 3 rfl dX12_mostBy_90 rfl ?_
        refine ro_iconst (v := 1) hK dX12_mostBy_91 (by decide) ?_
        refine ro_iload hK 6 rfl dX12_mostBy_92 ?_
        refine ro_ishl hK dX12_mostBy_94 ?_
        refine ro_ior hK dX12_mostBy_95 ?_
        obtain ⟨z13, e14, hf⟩ := ro_ld hf
        refine ro_iv e14 ?_
        refine ro_istore_n (L' := [(3, .int z13), (0, .ref (ro_ad (kG K) 207)), (1, .int v1), (2, .int v2), (4, .int v4), (5, .int v5), (6, .int q8)]) hK dX12_mostBy_96 rfl (by decide) rfl ?_
        refine ro_iload hK 4 rfl dX12_mostBy_97 ?_
        refine ro_aload_n hK 1 rfl dX12_mostBy_99 rfl ?_
        refine ro_getr hK fl_X12_141 sh_207 dX12_mostBy_100 ?_
        refine ro_iload hK 6 rfl dX12_mostBy_103 ?_
        refine ro_iald hK sh_251 g11 dX12_mostBy_105 ?_
        refine ro_iadd hK dX12_mostBy_106 ?_
        obtain ⟨z15, e16, hf⟩ := ro_ld hf
        refine ro_iv e16 ?_
        refine ro_istore (L' := [(4, .int z15), (3, .int z13), (0, .ref (ro_ad (kG K) 207)), (1, .int v1), (2, .int v2), (5, .int v5), (6, .int q8)]) hK dX12_mostBy_107 (by decide) rfl ?_
        refine ro_iinc (v := v5 + 1) (L' := [(5, .int (v5 + 1)), (4, .int z15), (3, .int z13), (0, .ref (ro_ad (kG K) 207)), (1, .int v1), (2, .int v2), (6, .int q8)]) hK 5 rfl dX12_mostBy_109 rfl (by decide) rfl ?_
        refine ro_goto hK 8 dX12_mostBy_112 (by decide) ?_
        refine ro_sub (L' := [(0, .ref (ro_ad (kG K) 207)), (1, .int v1), (2, .int v2), (3, .int z13), (4, .int z15), (5, .int (v5 + 1))]) [3, 4, 5, 2, 1, 0] rfl ?_
        exact hrec (z13, z15, v5 + 1) _ hf hq
      · have hf := ro_it hf c12
        refine ro_sub (L' := [(4, .int v4)]) [4] rfl ?_
        obtain rfl := Option.some.inj hf
        exact hq
def fl_X12_mostBy_8 (v1 : Int32) (v2 : Int32) (μ : ro_Mem) : (Int32 × Int32 × Int32) → Option (Int32 ⊕ Int32) :=
  ro_loop (fun rec s => fb_X12_mostBy_8 v1 v2 μ rec s.1 s.2.1 s.2.2) ro_FU
theorem lp_X12_mostBy_8 {K : ro_K} (hK : ro_C K RX12 cX12_mostBy 8 0) (hR : ro_R K (some .int)) {v1 : Int32} {v2 : Int32}  {μ : ro_Mem} {s : Int32 × Int32 × Int32} {q : (Int32 ⊕ Int32)} (hf : fl_X12_mostBy_8 v1 v2 μ s = some q) (hq : ok_X12_mostBy_8 K v1 v2 μ q) : ro_X K 8 [(0, .ref (ro_ad (kG K) 207)), (1, .int v1), (2, .int v2), (3, .int s.1), (4, .int s.2.1), (5, .int s.2.2)] [] μ :=
  ro_loopX (b := fun rec s => fb_X12_mostBy_8 v1 v2 μ rec s.1 s.2.1 s.2.2) (X := fun s => ro_X K 8 [(0, .ref (ro_ad (kG K) 207)), (1, .int v1), (2, .int v2), (3, .int s.1), (4, .int s.2.1), (5, .int s.2.2)] [] μ) (OK := ok_X12_mostBy_8 K v1 v2 μ) (fun rec s q hrec hb ho => bb_X12_mostBy_8 hK hR  hrec hb ho) ro_FU s q hf hq
def fn_X12_mostBy (v1 : Int32) (v2 : Int32) (μ : ro_Mem) : Option Int32 :=
  (fl_X12_mostBy_8 v1 v2 μ (0, 0, 0)).bind fun q17 =>
  q17.elim (fun e19 => some e19) (fun e20 => some e20)
theorem be_X12_mostBy {K : ro_K} (hK : ro_C K RX12 cX12_mostBy 8 0) (hR : ro_R K (some .int)) {v1 : Int32} {v2 : Int32}  {μ : ro_Mem} {out : Int32} (hf : fn_X12_mostBy v1 v2 μ = some out) (hq : kQ K (some (.int out)) μ) : ro_X K 0 [(0, .ref (ro_ad (kG K) 207)), (1, .int v1), (2, .int v2)] [] μ := by
  unfold fn_X12_mostBy at hf
  refine ro_iconst (v := 0) hK dX12_mostBy_0 (by decide) ?_
  refine ro_istore_n (L' := [(3, .int 0), (0, .ref (ro_ad (kG K) 207)), (1, .int v1), (2, .int v2)]) hK dX12_mostBy_1 rfl (by decide) rfl ?_
  refine ro_iconst (v := 0) hK dX12_mostBy_2 (by decide) ?_
  refine ro_istore (L' := [(4, .int 0), (3, .int 0), (0, .ref (ro_ad (kG K) 207)), (1, .int v1), (2, .int v2)]) hK dX12_mostBy_3 (by decide) rfl ?_
  refine ro_iconst (v := 0) hK dX12_mostBy_5 (by decide) ?_
  refine ro_istore (L' := [(5, .int 0), (4, .int 0), (3, .int 0), (0, .ref (ro_ad (kG K) 207)), (1, .int v1), (2, .int v2)]) hK dX12_mostBy_6 (by decide) rfl ?_
  obtain ⟨q17, e18, hf⟩ := ro_bd hf
  refine ro_sub (L' := [(0, .ref (ro_ad (kG K) 207)), (1, .int v1), (2, .int v2), (3, .int 0), (4, .int 0), (5, .int 0)]) [3, 4, 5, 2, 1, 0] rfl ?_
  refine lp_X12_mostBy_8 hK hR  e18 ?_
  rcases q17 with e19 | e20
  · have hf := ro_el hf
    show ro_X K 87 [(4, .int e19)] [] μ
    refine ro_iload hK 0 rfl dX12_mostBy_87 ?_
    obtain rfl := Option.some.inj hf
    exact ro_iret hK hR dX12_mostBy_89 hq
  · have hf := ro_er hf
    show ro_X K 115 [(4, .int e20)] [] μ
    refine ro_iload hK 0 rfl dX12_mostBy_115 ?_
    obtain rfl := Option.some.inj hf
    exact ro_iret hK hR dX12_mostBy_117 hq
theorem mt_X12_mostBy (l : Launch) (G : ro_G) {v1 : Int32} {v2 : Int32}  {μ : ro_Mem} {out : Int32} (hf : fn_X12_mostBy v1 v2 μ = some out) : ro_MX l G yX12_mostBy cX12_mostBy 8 (some .int) 0 [.ref (ro_ad G 207), .int v1, .int v2] μ (some (.int out)) μ := by
  refine ro_MX.of (by decide +kernel) (Nat.le_of_ble_eq_true rfl) (fun K hG hl hq hK hR => ?_)
  subst hG
  exact be_X12_mostBy hK hR  hf hq
-- ===== X12_leftOut =====
theorem dX12_leftOut_0 : decode cX12_leftOut 0 = .ok (.aload_n 0, 1) := by decide +kernel
theorem dX12_leftOut_1 : decode cX12_leftOut 1 = .ok (.iload_n 1, 1) := by decide +kernel
theorem dX12_leftOut_2 : decode cX12_leftOut 2 = .ok (.invokevirtual 235, 3) := by decide +kernel
theorem dX12_leftOut_5 : decode cX12_leftOut 5 = .ok (.ifCond .eq 10, 3) := by decide +kernel
theorem dX12_leftOut_8 : decode cX12_leftOut 8 = .ok (.iload_n 2, 1) := by decide +kernel
theorem dX12_leftOut_9 : decode cX12_leftOut 9 = .ok (.invokestatic 229, 3) := by decide +kernel
theorem dX12_leftOut_12 : decode cX12_leftOut 12 = .ok (.ifCond .ne 5, 3) := by decide +kernel
theorem dX12_leftOut_15 : decode cX12_leftOut 15 = .ok (.iconst (-1), 1) := by decide +kernel
theorem dX12_leftOut_16 : decode cX12_leftOut 16 = .ok (.ireturn, 1) := by decide +kernel
theorem dX12_leftOut_17 : decode cX12_leftOut 17 = .ok (.iload_n 3, 1) := by decide +kernel
theorem dX12_leftOut_18 : decode cX12_leftOut 18 = .ok (.iconst (-1), 1) := by decide +kernel
theorem dX12_leftOut_19 : decode cX12_leftOut 19 = .ok (.if_icmp .ge 6, 3) := by decide +kernel
theorem dX12_leftOut_22 : decode cX12_leftOut 22 = .ok (.bipush (-2), 2) := by decide +kernel
theorem dX12_leftOut_24 : decode cX12_leftOut 24 = .ok (.ireturn, 1) := by decide +kernel
theorem dX12_leftOut_25 : decode cX12_leftOut 25 = .ok (.aload_n 0, 1) := by decide +kernel
theorem dX12_leftOut_26 : decode cX12_leftOut 26 = .ok (.invokevirtual 426, 3) := by decide +kernel
theorem dX12_leftOut_29 : decode cX12_leftOut 29 = .ok (.aload_n 0, 1) := by decide +kernel
theorem dX12_leftOut_30 : decode cX12_leftOut 30 = .ok (.getfield 35, 3) := by decide +kernel
theorem dX12_leftOut_33 : decode cX12_leftOut 33 = .ok (.bipush 10, 2) := by decide +kernel
theorem dX12_leftOut_35 : decode cX12_leftOut 35 = .ok (.iload_n 2, 1) := by decide +kernel
theorem dX12_leftOut_36 : decode cX12_leftOut 36 = .ok (.imul, 1) := by decide +kernel
theorem dX12_leftOut_37 : decode cX12_leftOut 37 = .ok (.iload_n 1, 1) := by decide +kernel
theorem dX12_leftOut_38 : decode cX12_leftOut 38 = .ok (.iadd, 1) := by decide +kernel
theorem dX12_leftOut_39 : decode cX12_leftOut 39 = .ok (.iaload, 1) := by decide +kernel
theorem dX12_leftOut_40 : decode cX12_leftOut 40 = .ok (.istore 4, 2) := by decide +kernel
theorem dX12_leftOut_42 : decode cX12_leftOut 42 = .ok (.aload_n 0, 1) := by decide +kernel
theorem dX12_leftOut_43 : decode cX12_leftOut 43 = .ok (.iload_n 2, 1) := by decide +kernel
theorem dX12_leftOut_44 : decode cX12_leftOut 44 = .ok (.iload 4, 2) := by decide +kernel
theorem dX12_leftOut_46 : decode cX12_leftOut 46 = .ok (.invokevirtual 423, 3) := by decide +kernel
theorem dX12_leftOut_49 : decode cX12_leftOut 49 = .ok (.istore 5, 2) := by decide +kernel
theorem dX12_leftOut_51 : decode cX12_leftOut 51 = .ok (.iload 5, 2) := by decide +kernel
theorem dX12_leftOut_53 : decode cX12_leftOut 53 = .ok (.ifCond .ne 15, 3) := by decide +kernel
theorem dX12_leftOut_56 : decode cX12_leftOut 56 = .ok (.iload_n 3, 1) := by decide +kernel
theorem dX12_leftOut_57 : decode cX12_leftOut 57 = .ok (.iconst (-1), 1) := by decide +kernel
theorem dX12_leftOut_58 : decode cX12_leftOut 58 = .ok (.if_icmp .ne 7, 3) := by decide +kernel
theorem dX12_leftOut_61 : decode cX12_leftOut 61 = .ok (.iconst 0, 1) := by decide +kernel
theorem dX12_leftOut_62 : decode cX12_leftOut 62 = .ok (.goto 5, 3) := by decide +kernel
theorem dX12_leftOut_65 : decode cX12_leftOut 65 = .ok (.bipush (-2), 2) := by decide +kernel
theorem dX12_leftOut_67 : decode cX12_leftOut 67 = .ok (.ireturn, 1) := by decide +kernel
theorem dX12_leftOut_68 : decode cX12_leftOut 68 = .ok (.iconst 0, 1) := by decide +kernel
theorem dX12_leftOut_69 : decode cX12_leftOut 69 = .ok (.istore 6, 2) := by decide +kernel
theorem dX12_leftOut_71 : decode cX12_leftOut 71 = .ok (.iload 6, 2) := by decide +kernel
theorem dX12_leftOut_73 : decode cX12_leftOut 73 = .ok (.aload_n 0, 1) := by decide +kernel
theorem dX12_leftOut_74 : decode cX12_leftOut 74 = .ok (.getfield 300, 3) := by decide +kernel
theorem dX12_leftOut_77 : decode cX12_leftOut 77 = .ok (.if_icmp .ge 40, 3) := by decide +kernel
theorem dX12_leftOut_80 : decode cX12_leftOut 80 = .ok (.aload_n 0, 1) := by decide +kernel
theorem dX12_leftOut_81 : decode cX12_leftOut 81 = .ok (.getfield 141, 3) := by decide +kernel
theorem dX12_leftOut_84 : decode cX12_leftOut 84 = .ok (.iload 6, 2) := by decide +kernel
theorem dX12_leftOut_86 : decode cX12_leftOut 86 = .ok (.aload_n 0, 1) := by decide +kernel
theorem dX12_leftOut_87 : decode cX12_leftOut 87 = .ok (.getfield 54, 3) := by decide +kernel
theorem dX12_leftOut_90 : decode cX12_leftOut 90 = .ok (.iload 6, 2) := by decide +kernel
theorem dX12_leftOut_92 : decode cX12_leftOut 92 = .ok (.iaload, 1) := by decide +kernel
theorem dX12_leftOut_93 : decode cX12_leftOut 93 = .ok (.iload_n 2, 1) := by decide +kernel
theorem dX12_leftOut_94 : decode cX12_leftOut 94 = .ok (.if_icmp .ne 15, 3) := by decide +kernel
theorem dX12_leftOut_97 : decode cX12_leftOut 97 = .ok (.aload_n 0, 1) := by decide +kernel
theorem dX12_leftOut_98 : decode cX12_leftOut 98 = .ok (.iload 6, 2) := by decide +kernel
theorem dX12_leftOut_100 : decode cX12_leftOut 100 = .ok (.iload_n 2, 1) := by decide +kernel
theorem dX12_leftOut_101 : decode cX12_leftOut 101 = .ok (.iload 4, 2) := by decide +kernel
theorem dX12_leftOut_103 : decode cX12_leftOut 103 = .ok (.invokevirtual 414, 3) := by decide +kernel
theorem dX12_leftOut_106 : decode cX12_leftOut 106 = .ok (.goto 4, 3) := by decide +kernel
theorem dX12_leftOut_109 : decode cX12_leftOut 109 = .ok (.iconst 0, 1) := by decide +kernel
theorem dX12_leftOut_110 : decode cX12_leftOut 110 = .ok (.iastore, 1) := by decide +kernel
theorem dX12_leftOut_111 : decode cX12_leftOut 111 = .ok (.iinc 6 1, 3) := by decide +kernel
theorem dX12_leftOut_114 : decode cX12_leftOut 114 = .ok (.goto (-43), 3) := by decide +kernel
theorem dX12_leftOut_117 : decode cX12_leftOut 117 = .ok (.aload_n 0, 1) := by decide +kernel
theorem dX12_leftOut_118 : decode cX12_leftOut 118 = .ok (.iconst 0, 1) := by decide +kernel
theorem dX12_leftOut_119 : decode cX12_leftOut 119 = .ok (.bipush 32, 2) := by decide +kernel
theorem dX12_leftOut_121 : decode cX12_leftOut 121 = .ok (.invokevirtual 475, 3) := by decide +kernel
theorem dX12_leftOut_124 : decode cX12_leftOut 124 = .ok (.iload 5, 2) := by decide +kernel
theorem dX12_leftOut_126 : decode cX12_leftOut 126 = .ok (.if_icmp .ge 6, 3) := by decide +kernel
theorem dX12_leftOut_129 : decode cX12_leftOut 129 = .ok (.bipush (-2), 2) := by decide +kernel
theorem dX12_leftOut_131 : decode cX12_leftOut 131 = .ok (.ireturn, 1) := by decide +kernel
theorem dX12_leftOut_132 : decode cX12_leftOut 132 = .ok (.iconst 1, 1) := by decide +kernel
theorem dX12_leftOut_133 : decode cX12_leftOut 133 = .ok (.istore 6, 2) := by decide +kernel
theorem dX12_leftOut_135 : decode cX12_leftOut 135 = .ok (.aload_n 0, 1) := by decide +kernel
theorem dX12_leftOut_136 : decode cX12_leftOut 136 = .ok (.iconst 0, 1) := by decide +kernel
theorem dX12_leftOut_137 : decode cX12_leftOut 137 = .ok (.iload 6, 2) := by decide +kernel
theorem dX12_leftOut_139 : decode cX12_leftOut 139 = .ok (.invokevirtual 475, 3) := by decide +kernel
theorem dX12_leftOut_142 : decode cX12_leftOut 142 = .ok (.iload 5, 2) := by decide +kernel
theorem dX12_leftOut_144 : decode cX12_leftOut 144 = .ok (.if_icmp .ge 12, 3) := by decide +kernel
theorem dX12_leftOut_147 : decode cX12_leftOut 147 = .ok (.iload 6, 2) := by decide +kernel
theorem dX12_leftOut_149 : decode cX12_leftOut 149 = .ok (.iconst 1, 1) := by decide +kernel
theorem dX12_leftOut_150 : decode cX12_leftOut 150 = .ok (.iadd, 1) := by decide +kernel
theorem dX12_leftOut_151 : decode cX12_leftOut 151 = .ok (.istore 6, 2) := by decide +kernel
theorem dX12_leftOut_153 : decode cX12_leftOut 153 = .ok (.goto (-18), 3) := by decide +kernel
theorem dX12_leftOut_156 : decode cX12_leftOut 156 = .ok (.iload_n 3, 1) := by decide +kernel
theorem dX12_leftOut_157 : decode cX12_leftOut 157 = .ok (.iconst (-1), 1) := by decide +kernel
theorem dX12_leftOut_158 : decode cX12_leftOut 158 = .ok (.if_icmp .ne 6, 3) := by decide +kernel
theorem dX12_leftOut_161 : decode cX12_leftOut 161 = .ok (.iload 6, 2) := by decide +kernel
theorem dX12_leftOut_163 : decode cX12_leftOut 163 = .ok (.ireturn, 1) := by decide +kernel
theorem dX12_leftOut_164 : decode cX12_leftOut 164 = .ok (.iload_n 3, 1) := by decide +kernel
theorem dX12_leftOut_165 : decode cX12_leftOut 165 = .ok (.iload 6, 2) := by decide +kernel
theorem dX12_leftOut_167 : decode cX12_leftOut 167 = .ok (.if_icmp .lt 6, 3) := by decide +kernel
theorem dX12_leftOut_170 : decode cX12_leftOut 170 = .ok (.bipush (-2), 2) := by decide +kernel
theorem dX12_leftOut_172 : decode cX12_leftOut 172 = .ok (.ireturn, 1) := by decide +kernel
theorem dX12_leftOut_173 : decode cX12_leftOut 173 = .ok (.iconst 0, 1) := by decide +kernel
theorem dX12_leftOut_174 : decode cX12_leftOut 174 = .ok (.istore 7, 2) := by decide +kernel
theorem dX12_leftOut_176 : decode cX12_leftOut 176 = .ok (.iload 5, 2) := by decide +kernel
theorem dX12_leftOut_178 : decode cX12_leftOut 178 = .ok (.istore 8, 2) := by decide +kernel
theorem dX12_leftOut_180 : decode cX12_leftOut 180 = .ok (.iconst 0, 1) := by decide +kernel
theorem dX12_leftOut_181 : decode cX12_leftOut 181 = .ok (.istore 9, 2) := by decide +kernel
theorem dX12_leftOut_183 : decode cX12_leftOut 183 = .ok (.iload 9, 2) := by decide +kernel
theorem dX12_leftOut_185 : decode cX12_leftOut 185 = .ok (.iload_n 3, 1) := by decide +kernel
theorem dX12_leftOut_186 : decode cX12_leftOut 186 = .ok (.if_icmp .gt 74, 3) := by decide +kernel
theorem dX12_leftOut_189 : decode cX12_leftOut 189 = .ok (.aload_n 0, 1) := by decide +kernel
theorem dX12_leftOut_190 : decode cX12_leftOut 190 = .ok (.getfield 141, 3) := by decide +kernel
theorem dX12_leftOut_193 : decode cX12_leftOut 193 = .ok (.iload 7, 2) := by decide +kernel
theorem dX12_leftOut_195 : decode cX12_leftOut 195 = .ok (.iaload, 1) := by decide +kernel
theorem dX12_leftOut_196 : decode cX12_leftOut 196 = .ok (.ifCond .eq 31, 3) := by decide +kernel
theorem dX12_leftOut_199 : decode cX12_leftOut 199 = .ok (.aload_n 0, 1) := by decide +kernel
theorem dX12_leftOut_200 : decode cX12_leftOut 200 = .ok (.getfield 141, 3) := by decide +kernel
theorem dX12_leftOut_203 : decode cX12_leftOut 203 = .ok (.iload 7, 2) := by decide +kernel
theorem dX12_leftOut_205 : decode cX12_leftOut 205 = .ok (.iaload, 1) := by decide +kernel
theorem dX12_leftOut_206 : decode cX12_leftOut 206 = .ok (.aload_n 0, 1) := by decide +kernel
theorem dX12_leftOut_207 : decode cX12_leftOut 207 = .ok (.iload 7, 2) := by decide +kernel
theorem dX12_leftOut_209 : decode cX12_leftOut 209 = .ok (.iconst 1, 1) := by decide +kernel
theorem dX12_leftOut_210 : decode cX12_leftOut 210 = .ok (.iadd, 1) := by decide +kernel
theorem dX12_leftOut_211 : decode cX12_leftOut 211 = .ok (.iload 6, 2) := by decide +kernel
theorem dX12_leftOut_213 : decode cX12_leftOut 213 = .ok (.iload 9, 2) := by decide +kernel
theorem dX12_leftOut_215 : decode cX12_leftOut 215 = .ok (.isub, 1) := by decide +kernel
theorem dX12_leftOut_216 : decode cX12_leftOut 216 = .ok (.iconst 1, 1) := by decide +kernel
theorem dX12_leftOut_217 : decode cX12_leftOut 217 = .ok (.isub, 1) := by decide +kernel
theorem dX12_leftOut_218 : decode cX12_leftOut 218 = .ok (.invokevirtual 475, 3) := by decide +kernel
theorem dX12_leftOut_221 : decode cX12_leftOut 221 = .ok (.iadd, 1) := by decide +kernel
theorem dX12_leftOut_222 : decode cX12_leftOut 222 = .ok (.iload 8, 2) := by decide +kernel
theorem dX12_leftOut_224 : decode cX12_leftOut 224 = .ok (.if_icmp .ge 12, 3) := by decide +kernel
theorem dX12_leftOut_227 : decode cX12_leftOut 227 = .ok (.iload 7, 2) := by decide +kernel
theorem dX12_leftOut_229 : decode cX12_leftOut 229 = .ok (.iconst 1, 1) := by decide +kernel
theorem dX12_leftOut_230 : decode cX12_leftOut 230 = .ok (.iadd, 1) := by decide +kernel
theorem dX12_leftOut_231 : decode cX12_leftOut 231 = .ok (.istore 7, 2) := by decide +kernel
theorem dX12_leftOut_233 : decode cX12_leftOut 233 = .ok (.goto (-44), 3) := by decide +kernel
theorem dX12_leftOut_236 : decode cX12_leftOut 236 = .ok (.iload 8, 2) := by decide +kernel
theorem dX12_leftOut_238 : decode cX12_leftOut 238 = .ok (.aload_n 0, 1) := by decide +kernel
theorem dX12_leftOut_239 : decode cX12_leftOut 239 = .ok (.getfield 141, 3) := by decide +kernel
theorem dX12_leftOut_242 : decode cX12_leftOut 242 = .ok (.iload 7, 2) := by decide +kernel
theorem dX12_leftOut_244 : decode cX12_leftOut 244 = .ok (.iaload, 1) := by decide +kernel
theorem dX12_leftOut_245 : decode cX12_leftOut 245 = .ok (.isub, 1) := by decide +kernel
theorem dX12_leftOut_246 : decode cX12_leftOut 246 = .ok (.istore 8, 2) := by decide +kernel
theorem dX12_leftOut_248 : decode cX12_leftOut 248 = .ok (.iload 7, 2) := by decide +kernel
theorem dX12_leftOut_250 : decode cX12_leftOut 250 = .ok (.iconst 1, 1) := by decide +kernel
theorem dX12_leftOut_251 : decode cX12_leftOut 251 = .ok (.iadd, 1) := by decide +kernel
theorem dX12_leftOut_252 : decode cX12_leftOut 252 = .ok (.istore 7, 2) := by decide +kernel
theorem dX12_leftOut_254 : decode cX12_leftOut 254 = .ok (.iinc 9 1, 3) := by decide +kernel
theorem dX12_leftOut_257 : decode cX12_leftOut 257 = .ok (.goto (-74), 3) := by decide +kernel
theorem dX12_leftOut_260 : decode cX12_leftOut 260 = .ok (.iload 7, 2) := by decide +kernel
theorem dX12_leftOut_262 : decode cX12_leftOut 262 = .ok (.iconst 1, 1) := by decide +kernel
theorem dX12_leftOut_263 : decode cX12_leftOut 263 = .ok (.isub, 1) := by decide +kernel
theorem dX12_leftOut_264 : decode cX12_leftOut 264 = .ok (.ireturn, 1) := by decide +kernel
def ok_X12_leftOut_71 (K : ro_K) (v2 : Int32) (v3 : Int32) (v4 : Int32) (v5 : Int32) : ro_Mem → Prop := fun e => ro_X K 117 [(0, .ref (ro_ad (kG K) 207)), (3, .int v3), (5, .int v5)] [] e
def fb_X12_leftOut_71 (v2 : Int32) (v3 : Int32) (v4 : Int32) (v5 : Int32) (rec : (Int32 × ro_Mem) → Option ro_Mem) (v6 : Int32) (μ : ro_Mem) : Option ro_Mem :=
  if (μ 207 18) ≤ v6 then
  (some μ)
  else
  (if ro_in v6 32 then
  (if (μ 222 v6.toNatClampNeg) = v2 then
  ((fn_X12_byNote v6 v2 v4 μ).bind fun q21 =>
  ro_lt (ro_set μ 251 v6.toNatClampNeg q21) fun m23 =>
  rec (v6 + 1, m23))
  else
  (ro_lt (ro_set μ 251 v6.toNatClampNeg 0) fun m19 =>
  rec (v6 + 1, m19))) else none)
theorem bb_X12_leftOut_71 {K : ro_K} (hK : ro_C K RX12 cX12_leftOut 10 5) (hR : ro_R K (some .int)) {v2 : Int32} {v3 : Int32} {v4 : Int32} {v5 : Int32}  {μ : ro_Mem} {rec : (Int32 × ro_Mem) → Option ro_Mem} {v6 : Int32} {q : ro_Mem} (hrec : ∀ (s : Int32 × ro_Mem) (q : ro_Mem), rec s = some q → ok_X12_leftOut_71 K v2 v3 v4 v5 q → ro_X K 71 [(0, .ref (ro_ad (kG K) 207)), (2, .int v2), (3, .int v3), (4, .int v4), (5, .int v5), (6, .int s.1)] [] s.2) (hf : fb_X12_leftOut_71 v2 v3 v4 v5 rec v6 μ = some q) (hq : ok_X12_leftOut_71 K v2 v3 v4 v5 q) : ro_X K 71 [(0, .ref (ro_ad (kG K) 207)), (2, .int v2), (3, .int v3), (4, .int v4), (5, .int v5), (6, .int v6)] [] μ := by
  unfold fb_X12_leftOut_71 at hf
  refine ro_iload hK 5 rfl dX12_leftOut_71 ?_
  refine ro_aload_n hK 0 rfl dX12_leftOut_73 rfl ?_
  refine ro_geti hK fl_X12_300 sh_207 dX12_leftOut_74 ?_
  refine ro_icmp_ge hK 117 dX12_leftOut_77 (by decide) (fun c16 => ?_) (fun c16 => ?_)
  · have hf := ro_it hf c16
    refine ro_sub (L' := [(0, .ref (ro_ad (kG K) 207)), (3, .int v3), (5, .int v5)]) [0, 2, 4] rfl ?_
    obtain rfl := Option.some.inj hf
    exact hq
  · have hf := ro_ie hf c16
    refine ro_aload_n hK 0 rfl dX12_leftOut_80 rfl ?_
    refine ro_getr hK fl_X12_141 sh_207 dX12_leftOut_81 ?_
    refine ro_iload hK 5 rfl dX12_leftOut_84 ?_
    refine ro_aload_n hK 0 rfl dX12_leftOut_86 rfl ?_
    refine ro_getr hK fl_X12_54 sh_207 dX12_leftOut_87 ?_
    refine ro_iload hK 5 rfl dX12_leftOut_90 ?_
    obtain ⟨g17, hf⟩ := ro_gd hf
    refine ro_iald hK sh_222 g17 dX12_leftOut_92 ?_
    refine ro_iload_n hK 1 rfl dX12_leftOut_93 rfl ?_
    refine ro_icmp_ne hK 109 dX12_leftOut_94 (by decide) (fun c18 => ?_) (fun c18 => ?_)
    · have hf := ro_ie hf c18
      refine ro_iconst (v := 0) hK dX12_leftOut_109 (by decide) ?_
      obtain ⟨m19, e20, hf⟩ := ro_ld hf
      refine ro_iast hK sh_251 g17 dX12_leftOut_110 ?_
      refine ro_mv e20 ?_
      refine ro_iinc (v := v6 + 1) (L' := [(6, .int (v6 + 1)), (0, .ref (ro_ad (kG K) 207)), (2, .int v2), (3, .int v3), (4, .int v4), (5, .int v5)]) hK 5 rfl dX12_leftOut_111 rfl (by decide) rfl ?_
      refine ro_goto hK 71 dX12_leftOut_114 (by decide) ?_
      refine ro_sub (L' := [(0, .ref (ro_ad (kG K) 207)), (2, .int v2), (3, .int v3), (4, .int v4), (5, .int v5), (6, .int (v6 + 1))]) [1, 2, 3, 4, 5, 0] rfl ?_
      exact hrec (v6 + 1, m19) _ hf hq
    · have hf := ro_it hf c18
      refine ro_aload_n hK 0 rfl dX12_leftOut_97 rfl ?_
      refine ro_iload hK 5 rfl dX12_leftOut_98 ?_
      refine ro_iload_n hK 1 rfl dX12_leftOut_100 rfl ?_
      refine ro_iload hK 3 rfl dX12_leftOut_101 ?_
      obtain ⟨q21, e22, hf⟩ := ro_bd hf
      refine ro_callvi hK [.int v6, .int v2, .int v4] ml_X12_414 mv_X12_byNote (mt_X12_byNote (kl K) (kG K)  e22) sh_207 ⟨_, rfl, rfl⟩ (by decide) rfl rfl (Nat.le_of_ble_eq_true rfl) dX12_leftOut_103 ?_
      refine ro_goto hK 110 dX12_leftOut_106 (by decide) ?_
      obtain ⟨m23, e24, hf⟩ := ro_ld hf
      refine ro_iast hK sh_251 g17 dX12_leftOut_110 ?_
      refine ro_mv e24 ?_
      refine ro_iinc (v := v6 + 1) (L' := [(6, .int (v6 + 1)), (0, .ref (ro_ad (kG K) 207)), (2, .int v2), (3, .int v3), (4, .int v4), (5, .int v5)]) hK 5 rfl dX12_leftOut_111 rfl (by decide) rfl ?_
      refine ro_goto hK 71 dX12_leftOut_114 (by decide) ?_
      refine ro_sub (L' := [(0, .ref (ro_ad (kG K) 207)), (2, .int v2), (3, .int v3), (4, .int v4), (5, .int v5), (6, .int (v6 + 1))]) [1, 2, 3, 4, 5, 0] rfl ?_
      exact hrec (v6 + 1, m23) _ hf hq
def fl_X12_leftOut_71 (v2 : Int32) (v3 : Int32) (v4 : Int32) (v5 : Int32) : (Int32 × ro_Mem) → Option ro_Mem :=
  ro_loop (fun rec s => fb_X12_leftOut_71 v2 v3 v4 v5 rec s.1 s.2) ro_FU
theorem lp_X12_leftOut_71 {K : ro_K} (hK : ro_C K RX12 cX12_leftOut 10 5) (hR : ro_R K (some .int)) {v2 : Int32} {v3 : Int32} {v4 : Int32} {v5 : Int32}  {s : Int32 × ro_Mem} {q : ro_Mem} (hf : fl_X12_leftOut_71 v2 v3 v4 v5 s = some q) (hq : ok_X12_leftOut_71 K v2 v3 v4 v5 q) : ro_X K 71 [(0, .ref (ro_ad (kG K) 207)), (2, .int v2), (3, .int v3), (4, .int v4), (5, .int v5), (6, .int s.1)] [] s.2 :=
  ro_loopX (b := fun rec s => fb_X12_leftOut_71 v2 v3 v4 v5 rec s.1 s.2) (X := fun s => ro_X K 71 [(0, .ref (ro_ad (kG K) 207)), (2, .int v2), (3, .int v3), (4, .int v4), (5, .int v5), (6, .int s.1)] [] s.2) (OK := ok_X12_leftOut_71 K v2 v3 v4 v5) (fun rec s q hrec hb ho => bb_X12_leftOut_71 hK hR  hrec hb ho) ro_FU s q hf hq
def ok_X12_leftOut_135 (K : ro_K) (v3 : Int32) (v5 : Int32) (μ : ro_Mem) : Int32 → Prop := fun e => ro_X K 156 [(0, .ref (ro_ad (kG K) 207)), (3, .int v3), (5, .int v5), (6, .int e)] [] μ
def fb_X12_leftOut_135 (v3 : Int32) (v5 : Int32) (μ : ro_Mem) (rec : Int32 → Option Int32) (v6 : Int32) : Option Int32 :=
  (fn_X12_mostBy 0 v6 μ).bind fun q30 =>
  if v5 ≤ q30 then
  (some v6)
  else
  (ro_lt (v6 + 1) fun z33 =>
  rec z33)
theorem bb_X12_leftOut_135 {K : ro_K} (hK : ro_C K RX12 cX12_leftOut 10 5) (hR : ro_R K (some .int)) {v3 : Int32} {v5 : Int32}  {μ : ro_Mem} {rec : Int32 → Option Int32} {v6 : Int32} {q : Int32} (hrec : ∀ (s : Int32) (q : Int32), rec s = some q → ok_X12_leftOut_135 K v3 v5 μ q → ro_X K 135 [(0, .ref (ro_ad (kG K) 207)), (3, .int v3), (5, .int v5), (6, .int s)] [] μ) (hf : fb_X12_leftOut_135 v3 v5 μ rec v6 = some q) (hq : ok_X12_leftOut_135 K v3 v5 μ q) : ro_X K 135 [(0, .ref (ro_ad (kG K) 207)), (3, .int v3), (5, .int v5), (6, .int v6)] [] μ := by
  unfold fb_X12_leftOut_135 at hf
  refine ro_aload_n hK 0 rfl dX12_leftOut_135 rfl ?_
  refine ro_iconst (v := 0) hK dX12_leftOut_136 (by decide) ?_
  refine ro_iload hK 3 rfl dX12_leftOut_137 ?_
  obtain ⟨q30, e31, hf⟩ := ro_bd hf
  refine ro_callvi hK [.int 0, .int v6] ml_X12_475 mv_X12_mostBy (mt_X12_mostBy (kl K) (kG K)  e31) sh_207 ⟨_, rfl, rfl⟩ (by decide) rfl rfl (Nat.le_of_ble_eq_true rfl) dX12_leftOut_139 ?_
  refine ro_iload hK 2 rfl dX12_leftOut_142 ?_
  refine ro_icmp_ge hK 156 dX12_leftOut_144 (by decide) (fun c32 => ?_) (fun c32 => ?_)
  · have hf := ro_it hf c32
    obtain rfl := Option.some.inj hf
    exact hq
  · have hf := ro_ie hf c32
    refine ro_iload hK 3 rfl dX12_leftOut_147 ?_
    refine ro_iconst (v := 1) hK dX12_leftOut_149 (by decide) ?_
    refine ro_iadd hK dX12_leftOut_150 ?_
    obtain ⟨z33, e34, hf⟩ := ro_ld hf
    refine ro_iv e34 ?_
    refine ro_istore (L' := [(6, .int z33), (0, .ref (ro_ad (kG K) 207)), (3, .int v3), (5, .int v5)]) hK dX12_leftOut_151 (by decide) rfl ?_
    refine ro_goto hK 135 dX12_leftOut_153 (by decide) ?_
    refine ro_sub (L' := [(0, .ref (ro_ad (kG K) 207)), (3, .int v3), (5, .int v5), (6, .int z33)]) [1, 2, 3, 0] rfl ?_
    exact hrec z33 _ hf hq
def fl_X12_leftOut_135 (v3 : Int32) (v5 : Int32) (μ : ro_Mem) : Int32 → Option Int32 :=
  ro_loop (fun rec s => fb_X12_leftOut_135 v3 v5 μ rec s) ro_FU
theorem lp_X12_leftOut_135 {K : ro_K} (hK : ro_C K RX12 cX12_leftOut 10 5) (hR : ro_R K (some .int)) {v3 : Int32} {v5 : Int32}  {μ : ro_Mem} {s : Int32} {q : Int32} (hf : fl_X12_leftOut_135 v3 v5 μ s = some q) (hq : ok_X12_leftOut_135 K v3 v5 μ q) : ro_X K 135 [(0, .ref (ro_ad (kG K) 207)), (3, .int v3), (5, .int v5), (6, .int s)] [] μ :=
  ro_loopX (b := fun rec s => fb_X12_leftOut_135 v3 v5 μ rec s) (X := fun s => ro_X K 135 [(0, .ref (ro_ad (kG K) 207)), (3, .int v3), (5, .int v5), (6, .int s)] [] μ) (OK := ok_X12_leftOut_135 K v3 v5 μ) (fun rec s q hrec hb ho => bb_X12_leftOut_135 hK hR  hrec hb ho) ro_FU s q hf hq
def ok_X12_leftOut_183 (K : ro_K) (v3 : Int32) (v6 : Int32) (μ : ro_Mem) : Int32 → Prop := fun e => ro_X K 260 [(7, .int e)] [] μ
def ok_X12_leftOut_189 (K : ro_K) (v3 : Int32) (v6 : Int32) (v8 : Int32) (v9 : Int32) (μ : ro_Mem) : Int32 → Prop := fun e => ro_X K 236 [(0, .ref (ro_ad (kG K) 207)), (3, .int v3), (6, .int v6), (7, .int e), (8, .int v8), (9, .int v9)] [] μ
def fb_X12_leftOut_189 (v3 : Int32) (v6 : Int32) (v8 : Int32) (v9 : Int32) (μ : ro_Mem) (rec : Int32 → Option Int32) (v7 : Int32) : Option Int32 :=
  if ro_in v7 32 then
  (if (μ 251 v7.toNatClampNeg) = 0 then
  (ro_lt (v7 + 1) fun z42 =>
  rec z42)
  else
  ((fn_X12_mostBy (v7 + 1) ((v6 - v9) - 1) μ).bind fun q44 =>
  if v8 ≤ ((μ 251 v7.toNatClampNeg) + q44) then
  (some v7)
  else
  (ro_lt (v7 + 1) fun z47 =>
  rec z47))) else none
theorem bb_X12_leftOut_189 {K : ro_K} (hK : ro_C K RX12 cX12_leftOut 10 5) (hR : ro_R K (some .int)) {v3 : Int32} {v6 : Int32} {v8 : Int32} {v9 : Int32}  {μ : ro_Mem} {rec : Int32 → Option Int32} {v7 : Int32} {q : Int32} (hrec : ∀ (s : Int32) (q : Int32), rec s = some q → ok_X12_leftOut_189 K v3 v6 v8 v9 μ q → ro_X K 189 [(0, .ref (ro_ad (kG K) 207)), (3, .int v3), (6, .int v6), (7, .int s), (8, .int v8), (9, .int v9)] [] μ) (hf : fb_X12_leftOut_189 v3 v6 v8 v9 μ rec v7 = some q) (hq : ok_X12_leftOut_189 K v3 v6 v8 v9 μ q) : ro_X K 189 [(0, .ref (ro_ad (kG K) 207)), (3, .int v3), (6, .int v6), (7, .int v7), (8, .int v8), (9, .int v9)] [] μ := by
  unfold fb_X12_leftOut_189 at hf
  refine ro_aload_n hK 0 rfl dX12_leftOut_189 rfl ?_
  refine ro_getr hK fl_X12_141 sh_207 dX12_leftOut_190 ?_
  refine ro_iload hK 3 rfl dX12_leftOut_193 ?_
  obtain ⟨g40, hf⟩ := ro_gd hf
  refine ro_iald hK sh_251 g40 dX12_leftOut_195 ?_
  refine ro_if_eq hK 227 dX12_leftOut_196 (by decide) (fun c41 => ?_) (fun c41 => ?_)
  · have hf := ro_it hf c41
    refine ro_iload hK 3 rfl dX12_leftOut_227 ?_
    refine ro_iconst (v := 1) hK dX12_leftOut_229 (by decide) ?_
    refine ro_iadd hK dX12_leftOut_230 ?_
    obtain ⟨z42, e43, hf⟩ := ro_ld hf
    refine ro_iv e43 ?_
    refine ro_istore (L' := [(7, .int z42), (0, .ref (ro_ad (kG K) 207)), (3, .int v3), (6, .int v6), (8, .int v8), (9, .int v9)]) hK dX12_leftOut_231 (by decide) rfl ?_
    refine ro_goto hK 189 dX12_leftOut_233 (by decide) ?_
    refine ro_sub (L' := [(0, .ref (ro_ad (kG K) 207)), (3, .int v3), (6, .int v6), (7, .int z42), (8, .int v8), (9, .int v9)]) [1, 2, 3, 0, 4, 5] rfl ?_
    exact hrec z42 _ hf hq
  · have hf := ro_ie hf c41
    refine ro_aload_n hK 0 rfl dX12_leftOut_199 rfl ?_
    refine ro_getr hK fl_X12_141 sh_207 dX12_leftOut_200 ?_
    refine ro_iload hK 3 rfl dX12_leftOut_203 ?_
    refine ro_iald hK sh_251 g40 dX12_leftOut_205 ?_
    refine ro_aload_n hK 0 rfl dX12_leftOut_206 rfl ?_
    refine ro_iload hK 3 rfl dX12_leftOut_207 ?_
    refine ro_iconst (v := 1) hK dX12_leftOut_209 (by decide) ?_
    refine ro_iadd hK dX12_leftOut_210 ?_
    refine ro_iload hK 2 rfl dX12_leftOut_211 ?_
    refine ro_iload hK 5 rfl dX12_leftOut_213 ?_
    refine ro_isub hK dX12_leftOut_215 ?_
    refine ro_iconst (v := 1) hK dX12_leftOut_216 (by decide) ?_
    refine ro_isub hK dX12_leftOut_217 ?_
    obtain ⟨q44, e45, hf⟩ := ro_bd hf
    refine ro_callvi hK [.int (v7 + 1), .int ((v6 - v9) - 1)] ml_X12_475 mv_X12_mostBy (mt_X12_mostBy (kl K) (kG K)  e45) sh_207 ⟨_, rfl, rfl⟩ (by decide) rfl rfl (Nat.le_of_ble_eq_true rfl) dX12_leftOut_218 ?_
    refine ro_iadd hK dX12_leftOut_221 ?_
    refine ro_iload hK 4 rfl dX12_leftOut_222 ?_
    refine ro_icmp_ge hK 236 dX12_leftOut_224 (by decide) (fun c46 => ?_) (fun c46 => ?_)
    · have hf := ro_it hf c46
      obtain rfl := Option.some.inj hf
      exact hq
    · have hf := ro_ie hf c46
      refine ro_iload hK 3 rfl dX12_leftOut_227 ?_
      refine ro_iconst (v := 1) hK dX12_leftOut_229 (by decide) ?_
      refine ro_iadd hK dX12_leftOut_230 ?_
      obtain ⟨z47, e48, hf⟩ := ro_ld hf
      refine ro_iv e48 ?_
      refine ro_istore (L' := [(7, .int z47), (0, .ref (ro_ad (kG K) 207)), (3, .int v3), (6, .int v6), (8, .int v8), (9, .int v9)]) hK dX12_leftOut_231 (by decide) rfl ?_
      refine ro_goto hK 189 dX12_leftOut_233 (by decide) ?_
      refine ro_sub (L' := [(0, .ref (ro_ad (kG K) 207)), (3, .int v3), (6, .int v6), (7, .int z47), (8, .int v8), (9, .int v9)]) [1, 2, 3, 0, 4, 5] rfl ?_
      exact hrec z47 _ hf hq
def fl_X12_leftOut_189 (v3 : Int32) (v6 : Int32) (v8 : Int32) (v9 : Int32) (μ : ro_Mem) : Int32 → Option Int32 :=
  ro_loop (fun rec s => fb_X12_leftOut_189 v3 v6 v8 v9 μ rec s) ro_FU
theorem lp_X12_leftOut_189 {K : ro_K} (hK : ro_C K RX12 cX12_leftOut 10 5) (hR : ro_R K (some .int)) {v3 : Int32} {v6 : Int32} {v8 : Int32} {v9 : Int32}  {μ : ro_Mem} {s : Int32} {q : Int32} (hf : fl_X12_leftOut_189 v3 v6 v8 v9 μ s = some q) (hq : ok_X12_leftOut_189 K v3 v6 v8 v9 μ q) : ro_X K 189 [(0, .ref (ro_ad (kG K) 207)), (3, .int v3), (6, .int v6), (7, .int s), (8, .int v8), (9, .int v9)] [] μ :=
  ro_loopX (b := fun rec s => fb_X12_leftOut_189 v3 v6 v8 v9 μ rec s) (X := fun s => ro_X K 189 [(0, .ref (ro_ad (kG K) 207)), (3, .int v3), (6, .int v6), (7, .int s), (8, .int v8), (9, .int v9)] [] μ) (OK := ok_X12_leftOut_189 K v3 v6 v8 v9 μ) (fun rec s q hrec hb ho => bb_X12_leftOut_189 hK hR  hrec hb ho) ro_FU s q hf hq
def fb_X12_leftOut_183 (v3 : Int32) (v6 : Int32) (μ : ro_Mem) (rec : (Int32 × Int32 × Int32) → Option Int32) (v7 : Int32) (v8 : Int32) (v9 : Int32) : Option Int32 :=
  if v3 < v9 then
  (some v7)
  else
  ((fl_X12_leftOut_189 v3 v6 v8 v9 μ v7).bind fun q49 =>
  if ro_in q49 32 then
  (ro_lt (v8 - (μ 251 q49.toNatClampNeg)) fun z52 =>
  ro_lt (q49 + 1) fun z54 =>
  rec (z54, z52, v9 + 1)) else none)
theorem bb_X12_leftOut_183 {K : ro_K} (hK : ro_C K RX12 cX12_leftOut 10 5) (hR : ro_R K (some .int)) {v3 : Int32} {v6 : Int32}  {μ : ro_Mem} {rec : (Int32 × Int32 × Int32) → Option Int32} {v7 : Int32} {v8 : Int32} {v9 : Int32} {q : Int32} (hrec : ∀ (s : Int32 × Int32 × Int32) (q : Int32), rec s = some q → ok_X12_leftOut_183 K v3 v6 μ q → ro_X K 183 [(0, .ref (ro_ad (kG K) 207)), (3, .int v3), (6, .int v6), (7, .int s.1), (8, .int s.2.1), (9, .int s.2.2)] [] μ) (hf : fb_X12_leftOut_183 v3 v6 μ rec v7 v8 v9 = some q) (hq : ok_X12_leftOut_183 K v3 v6 μ q) : ro_X K 183 [(0, .ref (ro_ad (kG K) 207)), (3, .int v3), (6, .int v6), (7, .int v7), (8, .int v8), (9, .int v9)] [] μ := by
  unfold fb_X12_leftOut_183 at hf
  refine ro_iload hK 5 rfl dX12_leftOut_183 ?_
  refine ro_iload_n hK 1 rfl dX12_leftOut_185 rfl ?_
  refine ro_icmp_gt hK 260 dX12_leftOut_186 (by decide) (fun c39 => ?_) (fun c39 => ?_)
  · have hf := ro_it hf c39
    refine ro_sub (L' := [(7, .int v7)]) [3] rfl ?_
    obtain rfl := Option.some.inj hf
    exact hq
  · have hf := ro_ie hf c39
    obtain ⟨q49, e50, hf⟩ := ro_bd hf
    refine lp_X12_leftOut_189 hK hR  e50 ?_
    show ro_X K 236 [(0, .ref (ro_ad (kG K) 207)), (3, .int v3), (6, .int v6), (7, .int q49), (8, .int v8), (9, .int v9)] [] μ
    refine ro_iload hK 4 rfl dX12_leftOut_236 ?_
    refine ro_aload_n hK 0 rfl dX12_leftOut_238 rfl ?_
    refine ro_getr hK fl_X12_141 sh_207 dX12_leftOut_239 ?_
    refine ro_iload hK 3 rfl dX12_leftOut_242 ?_
    obtain ⟨g51, hf⟩ := ro_gd hf
    refine ro_iald hK sh_251 g51 dX12_leftOut_244 ?_
    refine ro_isub hK dX12_leftOut_245 ?_
    obtain ⟨z52, e53, hf⟩ := ro_ld hf
    refine ro_iv e53 ?_
    refine ro_istore (L' := [(8, .int z52), (0, .ref (ro_ad (kG K) 207)), (3, .int v3), (6, .int v6), (7, .int q49), (9, .int v9)]) hK dX12_leftOut_246 (by decide) rfl ?_
    refine ro_iload hK 4 rfl dX12_leftOut_248 ?_
    refine ro_iconst (v := 1) hK dX12_leftOut_250 (by decide) ?_
    refine ro_iadd hK dX12_leftOut_251 ?_
    obtain ⟨z54, e55, hf⟩ := ro_ld hf
    refine ro_iv e55 ?_
    refine ro_istore (L' := [(7, .int z54), (8, .int z52), (0, .ref (ro_ad (kG K) 207)), (3, .int v3), (6, .int v6), (9, .int v9)]) hK dX12_leftOut_252 (by decide) rfl ?_
    refine ro_iinc (v := v9 + 1) (L' := [(9, .int (v9 + 1)), (7, .int z54), (8, .int z52), (0, .ref (ro_ad (kG K) 207)), (3, .int v3), (6, .int v6)]) hK 5 rfl dX12_leftOut_254 rfl (by decide) rfl ?_
    refine ro_goto hK 183 dX12_leftOut_257 (by decide) ?_
    refine ro_sub (L' := [(0, .ref (ro_ad (kG K) 207)), (3, .int v3), (6, .int v6), (7, .int z54), (8, .int z52), (9, .int (v9 + 1))]) [3, 4, 5, 1, 2, 0] rfl ?_
    exact hrec (z54, z52, v9 + 1) _ hf hq
def fl_X12_leftOut_183 (v3 : Int32) (v6 : Int32) (μ : ro_Mem) : (Int32 × Int32 × Int32) → Option Int32 :=
  ro_loop (fun rec s => fb_X12_leftOut_183 v3 v6 μ rec s.1 s.2.1 s.2.2) ro_FU
theorem lp_X12_leftOut_183 {K : ro_K} (hK : ro_C K RX12 cX12_leftOut 10 5) (hR : ro_R K (some .int)) {v3 : Int32} {v6 : Int32}  {μ : ro_Mem} {s : Int32 × Int32 × Int32} {q : Int32} (hf : fl_X12_leftOut_183 v3 v6 μ s = some q) (hq : ok_X12_leftOut_183 K v3 v6 μ q) : ro_X K 183 [(0, .ref (ro_ad (kG K) 207)), (3, .int v3), (6, .int v6), (7, .int s.1), (8, .int s.2.1), (9, .int s.2.2)] [] μ :=
  ro_loopX (b := fun rec s => fb_X12_leftOut_183 v3 v6 μ rec s.1 s.2.1 s.2.2) (X := fun s => ro_X K 183 [(0, .ref (ro_ad (kG K) 207)), (3, .int v3), (6, .int v6), (7, .int s.1), (8, .int s.2.1), (9, .int s.2.2)] [] μ) (OK := ok_X12_leftOut_183 K v3 v6 μ) (fun rec s q hrec hb ho => bb_X12_leftOut_183 hK hR  hrec hb ho) ro_FU s q hf hq
def fn_X12_leftOut (v1 : Int32) (v2 : Int32) (v3 : Int32) (μ : ro_Mem) : Option (Int32 × ro_Mem) :=
  (fn_X12_isGuest v1 μ).bind fun q1 =>
  if q1 = 0 then
  (some ((-1), μ))
  else
  ((fn_X12_isAct v2).bind fun q4 =>
  if q4 = 0 then
  (some ((-1), μ))
  else
  (if (-1) ≤ v3 then
  ((fn_X12_laysDrops μ).bind fun q8 =>
  if ro_in ((10 * v2) + v1) 40 then
  (ro_lt (q8 216 ((10 * v2) + v1).toNatClampNeg) fun z11 =>
  (fn_X12_wetOn v2 z11 q8).bind fun q13 =>
  if q13 = 0 then
  (if v3 = (-1) then
  (some (0, q8))
  else
  (some ((-2), q8)))
  else
  ((fl_X12_leftOut_71 v2 v3 z11 q13 (0, q8)).bind fun q25 =>
  (fn_X12_mostBy 0 32 q25).bind fun q27 =>
  if q13 ≤ q27 then
  ((fl_X12_leftOut_135 v3 q13 q25 1).bind fun q35 =>
  if v3 = (-1) then
  (some (q35, q25))
  else
  (if v3 < q35 then
  ((fl_X12_leftOut_183 v3 q35 q25 (0, q13, 0)).bind fun q56 =>
  some (q56 - 1, q25))
  else
  (some ((-2), q25))))
  else
  (some ((-2), q25)))) else none)
  else
  (some ((-2), μ))))
theorem be_X12_leftOut {K : ro_K} (hK : ro_C K RX12 cX12_leftOut 10 5) (hR : ro_R K (some .int)) {v1 : Int32} {v2 : Int32} {v3 : Int32}  {μ : ro_Mem} {out : Int32 × ro_Mem} (hf : fn_X12_leftOut v1 v2 v3 μ = some out) (hq : kQ K (some (.int out.1)) out.2) : ro_X K 0 [(0, .ref (ro_ad (kG K) 207)), (1, .int v1), (2, .int v2), (3, .int v3)] [] μ := by
  unfold fn_X12_leftOut at hf
  refine ro_aload_n hK 0 rfl dX12_leftOut_0 rfl ?_
  refine ro_iload_n hK 1 rfl dX12_leftOut_1 rfl ?_
  obtain ⟨q1, e2, hf⟩ := ro_bd hf
  refine ro_callvi hK [.int v1] ml_X12_235 mv_X12_isGuest (mt_X12_isGuest (kl K) (kG K)  e2) sh_207 ⟨_, rfl, rfl⟩ (by decide) rfl rfl (Nat.le_of_ble_eq_true rfl) dX12_leftOut_2 ?_
  refine ro_if_eq hK 15 dX12_leftOut_5 (by decide) (fun c3 => ?_) (fun c3 => ?_)
  · have hf := ro_it hf c3
    refine ro_iconst (v := (-1)) hK dX12_leftOut_15 (by decide) ?_
    obtain rfl := Option.some.inj hf
    exact ro_iret hK hR dX12_leftOut_16 hq
  · have hf := ro_ie hf c3
    refine ro_iload_n hK 2 rfl dX12_leftOut_8 rfl ?_
    obtain ⟨q4, e5, hf⟩ := ro_bd hf
    refine ro_callsi hK [.int v2] ml_X12_229 ms_X12_isAct (mt_X12_isAct (kl K) (kG K)  e5) (by decide) rfl rfl (Nat.le_of_ble_eq_true rfl) dX12_leftOut_9 ?_
    refine ro_if_ne hK 17 dX12_leftOut_12 (by decide) (fun c6 => ?_) (fun c6 => ?_)
    · have hf := ro_ie hf c6
      refine ro_iload_n hK 3 rfl dX12_leftOut_17 rfl ?_
      refine ro_iconst (v := (-1)) hK dX12_leftOut_18 (by decide) ?_
      refine ro_icmp_ge hK 25 dX12_leftOut_19 (by decide) (fun c7 => ?_) (fun c7 => ?_)
      · have hf := ro_it hf c7
        refine ro_aload_n hK 0 rfl dX12_leftOut_25 rfl ?_
        obtain ⟨q8, e9, hf⟩ := ro_bd hf
        refine ro_callvv hK [] ml_X12_426 mv_X12_laysDrops (mt_X12_laysDrops (kl K) (kG K)  e9) sh_207 ⟨_, rfl, rfl⟩ (by decide) rfl rfl (Nat.le_of_ble_eq_true rfl) dX12_leftOut_26 ?_
        refine ro_aload_n hK 0 rfl dX12_leftOut_29 rfl ?_
        refine ro_getr hK fl_X12_35 sh_207 dX12_leftOut_30 ?_
        refine ro_bipush (v := 10) hK dX12_leftOut_33 (by decide) ?_
        refine ro_iload_n hK 2 rfl dX12_leftOut_35 rfl ?_
        refine ro_imul hK dX12_leftOut_36 ?_
        refine ro_iload_n hK 1 rfl dX12_leftOut_37 rfl ?_
        refine ro_iadd hK dX12_leftOut_38 ?_
        obtain ⟨g10, hf⟩ := ro_gd hf
        refine ro_iald hK sh_216 g10 dX12_leftOut_39 ?_
        obtain ⟨z11, e12, hf⟩ := ro_ld hf
        refine ro_iv e12 ?_
        refine ro_istore (L' := [(4, .int z11), (0, .ref (ro_ad (kG K) 207)), (1, .int v1), (2, .int v2), (3, .int v3)]) hK dX12_leftOut_40 (by decide) rfl ?_
        refine ro_aload_n hK 1 rfl dX12_leftOut_42 rfl ?_
        refine ro_iload_n hK 3 rfl dX12_leftOut_43 rfl ?_
        refine ro_iload hK 0 rfl dX12_leftOut_44 ?_
        obtain ⟨q13, e14, hf⟩ := ro_bd hf
        refine ro_callvi hK [.int v2, .int z11] ml_X12_423 mv_X12_wetOn (mt_X12_wetOn (kl K) (kG K)  e14) sh_207 ⟨_, rfl, rfl⟩ (by decide) rfl rfl (Nat.le_of_ble_eq_true rfl) dX12_leftOut_46 ?_
        refine ro_istore (L' := [(5, .int q13), (4, .int z11), (0, .ref (ro_ad (kG K) 207)), (1, .int v1), (2, .int v2), (3, .int v3)]) hK dX12_leftOut_49 (by decide) rfl ?_
        refine ro_iload hK 0 rfl dX12_leftOut_51 ?_
        refine ro_if_ne hK 68 dX12_leftOut_53 (by decide) (fun c15 => ?_) (fun c15 => ?_)
        · have hf := ro_ie hf c15
          refine ro_iconst (v := 0) hK dX12_leftOut_68 (by decide) ?_
          refine ro_istore (L' := [(6, .int 0), (5, .int q13), (4, .int z11), (0, .ref (ro_ad (kG K) 207)), (1, .int v1), (2, .int v2), (3, .int v3)]) hK dX12_leftOut_69 (by decide) rfl ?_
          obtain ⟨q25, e26, hf⟩ := ro_bd hf
          refine ro_sub (L' := [(0, .ref (ro_ad (kG K) 207)), (2, .int v2), (3, .int v3), (4, .int z11), (5, .int q13), (6, .int 0)]) [3, 5, 6, 2, 1, 0] rfl ?_
          refine lp_X12_leftOut_71 hK hR  e26 ?_
          show ro_X K 117 [(0, .ref (ro_ad (kG K) 207)), (3, .int v3), (5, .int q13)] [] q25
          refine ro_aload_n hK 0 rfl dX12_leftOut_117 rfl ?_
          refine ro_iconst (v := 0) hK dX12_leftOut_118 (by decide) ?_
          refine ro_bipush (v := 32) hK dX12_leftOut_119 (by decide) ?_
          obtain ⟨q27, e28, hf⟩ := ro_bd hf
          refine ro_callvi hK [.int 0, .int 32] ml_X12_475 mv_X12_mostBy (mt_X12_mostBy (kl K) (kG K)  e28) sh_207 ⟨_, rfl, rfl⟩ (by decide) rfl rfl (Nat.le_of_ble_eq_true rfl) dX12_leftOut_121 ?_
          refine ro_iload hK 2 rfl dX12_leftOut_124 ?_
          refine ro_icmp_ge hK 132 dX12_leftOut_126 (by decide) (fun c29 => ?_) (fun c29 => ?_)
          · have hf := ro_it hf c29
            refine ro_iconst (v := 1) hK dX12_leftOut_132 (by decide) ?_
            refine ro_istore (L' := [(6, .int 1), (0, .ref (ro_ad (kG K) 207)), (3, .int v3), (5, .int q13)]) hK dX12_leftOut_133 (by decide) rfl ?_
            obtain ⟨q35, e36, hf⟩ := ro_bd hf
            refine ro_sub (L' := [(0, .ref (ro_ad (kG K) 207)), (3, .int v3), (5, .int q13), (6, .int 1)]) [1, 2, 3, 0] rfl ?_
            refine lp_X12_leftOut_135 hK hR  e36 ?_
            show ro_X K 156 [(0, .ref (ro_ad (kG K) 207)), (3, .int v3), (5, .int q13), (6, .int q35)] [] q25
            refine ro_iload_n hK 1 rfl dX12_leftOut_156 rfl ?_
            refine ro_iconst (v := (-1)) hK dX12_leftOut_157 (by decide) ?_
            refine ro_icmp_ne hK 164 dX12_leftOut_158 (by decide) (fun c37 => ?_) (fun c37 => ?_)
            · have hf := ro_ie hf c37
              refine ro_iload_n hK 1 rfl dX12_leftOut_164 rfl ?_
              refine ro_iload hK 3 rfl dX12_leftOut_165 ?_
              refine ro_icmp_lt hK 173 dX12_leftOut_167 (by decide) (fun c38 => ?_) (fun c38 => ?_)
              · have hf := ro_it hf c38
                refine ro_iconst (v := 0) hK dX12_leftOut_173 (by decide) ?_
                refine ro_istore (L' := [(7, .int 0), (0, .ref (ro_ad (kG K) 207)), (3, .int v3), (5, .int q13), (6, .int q35)]) hK dX12_leftOut_174 (by decide) rfl ?_
                refine ro_iload hK 3 rfl dX12_leftOut_176 ?_
                refine ro_istore (L' := [(8, .int q13), (7, .int 0), (0, .ref (ro_ad (kG K) 207)), (3, .int v3), (5, .int q13), (6, .int q35)]) hK dX12_leftOut_178 (by decide) rfl ?_
                refine ro_iconst (v := 0) hK dX12_leftOut_180 (by decide) ?_
                refine ro_istore (L' := [(9, .int 0), (8, .int q13), (7, .int 0), (0, .ref (ro_ad (kG K) 207)), (3, .int v3), (5, .int q13), (6, .int q35)]) hK dX12_leftOut_181 (by decide) rfl ?_
                obtain ⟨q56, e57, hf⟩ := ro_bd hf
                refine ro_sub (L' := [(0, .ref (ro_ad (kG K) 207)), (3, .int v3), (6, .int q35), (7, .int 0), (8, .int q13), (9, .int 0)]) [3, 4, 6, 2, 1, 0] rfl ?_
                refine lp_X12_leftOut_183 hK hR  e57 ?_
                show ro_X K 260 [(7, .int q56)] [] q25
                refine ro_iload hK 0 rfl dX12_leftOut_260 ?_
                refine ro_iconst (v := 1) hK dX12_leftOut_262 (by decide) ?_
                refine ro_isub hK dX12_leftOut_263 ?_
                obtain rfl := Option.some.inj hf
                exact ro_iret hK hR dX12_leftOut_264 hq
              · have hf := ro_ie hf c38
                refine ro_bipush (v := (-2)) hK dX12_leftOut_170 (by decide) ?_
                obtain rfl := Option.some.inj hf
                exact ro_iret hK hR dX12_leftOut_172 hq
            · have hf := ro_it hf c37
              refine ro_iload hK 3 rfl dX12_leftOut_161 ?_
              obtain rfl := Option.some.inj hf
              exact ro_iret hK hR dX12_leftOut_163 hq
          · have hf := ro_ie hf c29
            refine ro_bipush (v := (-2)) hK dX12_leftOut_129 (by decide) ?_
            obtain rfl := Option.some.inj hf
            exact ro_iret hK hR dX12_leftOut_131 hq
        · have hf := ro_it hf c15
          refine ro_iload_n hK 5 rfl dX12_leftOut_56 rfl ?_
          refine ro_iconst (v := (-1)) hK dX12_leftOut_57 (by decide) ?_
          refine ro_icmp_ne hK 65 dX12_leftOut_58 (by decide) (fun c58 => ?_) (fun c58 => ?_)
          · have hf := ro_ie hf c58
            refine ro_bipush (v := (-2)) hK dX12_leftOut_65 (by decide) ?_
            obtain rfl := Option.some.inj hf
            exact ro_iret hK hR dX12_leftOut_67 hq
          · have hf := ro_it hf c58
            refine ro_iconst (v := 0) hK dX12_leftOut_61 (by decide) ?_
            refine ro_goto hK 67 dX12_leftOut_62 (by decide) ?_
            obtain rfl := Option.some.inj hf
            exact ro_iret hK hR dX12_leftOut_67 hq
      · have hf := ro_ie hf c7
        refine ro_bipush (v := (-2)) hK dX12_leftOut_22 (by decide) ?_
        obtain rfl := Option.some.inj hf
        exact ro_iret hK hR dX12_leftOut_24 hq
    · have hf := ro_it hf c6
      refine ro_iconst (v := (-1)) hK dX12_leftOut_15 (by decide) ?_
      obtain rfl := Option.some.inj hf
      exact ro_iret hK hR dX12_leftOut_16 hq
theorem mt_X12_leftOut (l : Launch) (G : ro_G) {v1 : Int32} {v2 : Int32} {v3 : Int32}  {μ : ro_Mem} {out : Int32 × ro_Mem} (hf : fn_X12_leftOut v1 v2 v3 μ = some out) : ro_MX l G yX12_leftOut cX12_leftOut 10 (some .int) 5 [.ref (ro_ad G 207), .int v1, .int v2, .int v3] μ (some (.int out.1)) out.2 := by
  refine ro_MX.of (by decide +kernel) (Nat.le_of_ble_eq_true rfl) (fun K hG hl hq hK hR => ?_)
  subst hG
  exact be_X12_leftOut hK hR  hf hq
