-- ===== X3_readChain =====
theorem dX3_readChain_0 : decode cX3_readChain 0 = .ok (.iconst (-1), 1) := by decide +kernel
theorem dX3_readChain_1 : decode cX3_readChain 1 = .ok (.istore 4, 2) := by decide +kernel
theorem dX3_readChain_3 : decode cX3_readChain 3 = .ok (.iconst 0, 1) := by decide +kernel
theorem dX3_readChain_4 : decode cX3_readChain 4 = .ok (.istore 5, 2) := by decide +kernel
theorem dX3_readChain_6 : decode cX3_readChain 6 = .ok (.iload 5, 2) := by decide +kernel
theorem dX3_readChain_8 : decode cX3_readChain 8 = .ok (.sipush 200, 3) := by decide +kernel
theorem dX3_readChain_11 : decode cX3_readChain 11 = .ok (.if_icmp .ge 181, 3) := by decide +kernel
theorem dX3_readChain_14 : decode cX3_readChain 14 = .ok (.aload_n 1, 1) := by decide +kernel
theorem dX3_readChain_15 : decode cX3_readChain 15 = .ok (.getfield 25, 3) := by decide +kernel
theorem dX3_readChain_18 : decode cX3_readChain 18 = .ok (.ifCond .ne 174, 3) := by decide +kernel
theorem dX3_readChain_21 : decode cX3_readChain 21 = .ok (.iload 4, 2) := by decide +kernel
theorem dX3_readChain_23 : decode cX3_readChain 23 = .ok (.bipush 11, 2) := by decide +kernel
theorem dX3_readChain_25 : decode cX3_readChain 25 = .ok (.if_icmp .eq 10, 3) := by decide +kernel
theorem dX3_readChain_28 : decode cX3_readChain 28 = .ok (.iload 4, 2) := by decide +kernel
theorem dX3_readChain_30 : decode cX3_readChain 30 = .ok (.bipush 12, 2) := by decide +kernel
theorem dX3_readChain_32 : decode cX3_readChain 32 = .ok (.if_icmp .ne 7, 3) := by decide +kernel
theorem dX3_readChain_35 : decode cX3_readChain 35 = .ok (.iconst 1, 1) := by decide +kernel
theorem dX3_readChain_36 : decode cX3_readChain 36 = .ok (.goto 4, 3) := by decide +kernel
theorem dX3_readChain_39 : decode cX3_readChain 39 = .ok (.iconst 0, 1) := by decide +kernel
theorem dX3_readChain_40 : decode cX3_readChain 40 = .ok (.istore 6, 2) := by decide +kernel
theorem dX3_readChain_42 : decode cX3_readChain 42 = .ok (.iload 6, 2) := by decide +kernel
theorem dX3_readChain_44 : decode cX3_readChain 44 = .ok (.ifCond .eq 16, 3) := by decide +kernel
theorem dX3_readChain_47 : decode cX3_readChain 47 = .ok (.aload_n 0, 1) := by decide +kernel
theorem dX3_readChain_48 : decode cX3_readChain 48 = .ok (.getfield 12, 3) := by decide +kernel
theorem dX3_readChain_51 : decode cX3_readChain 51 = .ok (.iload 4, 2) := by decide +kernel
theorem dX3_readChain_53 : decode cX3_readChain 53 = .ok (.iconst 0, 1) := by decide +kernel
theorem dX3_readChain_54 : decode cX3_readChain 54 = .ok (.invokevirtual 72, 3) := by decide +kernel
theorem dX3_readChain_57 : decode cX3_readChain 57 = .ok (.goto 4, 3) := by decide +kernel
theorem dX3_readChain_60 : decode cX3_readChain 60 = .ok (.iconst (-1), 1) := by decide +kernel
theorem dX3_readChain_61 : decode cX3_readChain 61 = .ok (.istore 7, 2) := by decide +kernel
theorem dX3_readChain_63 : decode cX3_readChain 63 = .ok (.iload_n 2, 1) := by decide +kernel
theorem dX3_readChain_64 : decode cX3_readChain 64 = .ok (.tableswitch 57 0 2 #[28, 38, 47], 28) := by decide +kernel
theorem dX3_readChain_92 : decode cX3_readChain 92 = .ok (.aload_n 0, 1) := by decide +kernel
theorem dX3_readChain_93 : decode cX3_readChain 93 = .ok (.aload_n 1, 1) := by decide +kernel
theorem dX3_readChain_94 : decode cX3_readChain 94 = .ok (.iconst 1, 1) := by decide +kernel
theorem dX3_readChain_95 : decode cX3_readChain 95 = .ok (.iload_n 3, 1) := by decide +kernel
theorem dX3_readChain_96 : decode cX3_readChain 96 = .ok (.invokevirtual 62, 3) := by decide +kernel
theorem dX3_readChain_99 : decode cX3_readChain 99 = .ok (.goto 28, 3) := by decide +kernel
theorem dX3_readChain_102 : decode cX3_readChain 102 = .ok (.aload_n 0, 1) := by decide +kernel
theorem dX3_readChain_103 : decode cX3_readChain 103 = .ok (.aload_n 1, 1) := by decide +kernel
theorem dX3_readChain_104 : decode cX3_readChain 104 = .ok (.iload_n 3, 1) := by decide +kernel
theorem dX3_readChain_105 : decode cX3_readChain 105 = .ok (.invokevirtual 76, 3) := by decide +kernel
theorem dX3_readChain_108 : decode cX3_readChain 108 = .ok (.goto 19, 3) := by decide +kernel
theorem dX3_readChain_111 : decode cX3_readChain 111 = .ok (.aload_n 0, 1) := by decide +kernel
theorem dX3_readChain_112 : decode cX3_readChain 112 = .ok (.aload_n 1, 1) := by decide +kernel
theorem dX3_readChain_113 : decode cX3_readChain 113 = .ok (.iconst 3, 1) := by decide +kernel
theorem dX3_readChain_114 : decode cX3_readChain 114 = .ok (.iload_n 3, 1) := by decide +kernel
theorem dX3_readChain_115 : decode cX3_readChain 115 = .ok (.invokevirtual 62, 3) := by decide +kernel
theorem dX3_readChain_118 : decode cX3_readChain 118 = .ok (.goto 9, 3) := by decide +kernel
theorem dX3_readChain_121 : decode cX3_readChain 121 = .ok (.aload_n 0, 1) := by decide +kernel
theorem dX3_readChain_122 : decode cX3_readChain 122 = .ok (.aload_n 1, 1) := by decide +kernel
theorem dX3_readChain_123 : decode cX3_readChain 123 = .ok (.iload_n 3, 1) := by decide +kernel
theorem dX3_readChain_124 : decode cX3_readChain 124 = .ok (.invokevirtual 80, 3) := by decide +kernel
theorem dX3_readChain_127 : decode cX3_readChain 127 = .ok (.iload 6, 2) := by decide +kernel
theorem dX3_readChain_129 : decode cX3_readChain 129 = .ok (.ifCond .eq 15, 3) := by decide +kernel
theorem dX3_readChain_132 : decode cX3_readChain 132 = .ok (.aload_n 0, 1) := by decide +kernel
theorem dX3_readChain_133 : decode cX3_readChain 133 = .ok (.getfield 12, 3) := by decide +kernel
theorem dX3_readChain_136 : decode cX3_readChain 136 = .ok (.iload 7, 2) := by decide +kernel
theorem dX3_readChain_138 : decode cX3_readChain 138 = .ok (.invokevirtual 83, 3) := by decide +kernel
theorem dX3_readChain_141 : decode cX3_readChain 141 = .ok (.goto 20, 3) := by decide +kernel
theorem dX3_readChain_144 : decode cX3_readChain 144 = .ok (.iload 4, 2) := by decide +kernel
theorem dX3_readChain_146 : decode cX3_readChain 146 = .ok (.iconst (-1), 1) := by decide +kernel
theorem dX3_readChain_147 : decode cX3_readChain 147 = .ok (.if_icmp .eq 14, 3) := by decide +kernel
theorem dX3_readChain_150 : decode cX3_readChain 150 = .ok (.aload_n 0, 1) := by decide +kernel
theorem dX3_readChain_151 : decode cX3_readChain 151 = .ok (.getfield 12, 3) := by decide +kernel
theorem dX3_readChain_154 : decode cX3_readChain 154 = .ok (.iload 4, 2) := by decide +kernel
theorem dX3_readChain_156 : decode cX3_readChain 156 = .ok (.iconst 0, 1) := by decide +kernel
theorem dX3_readChain_157 : decode cX3_readChain 157 = .ok (.invokevirtual 72, 3) := by decide +kernel
theorem dX3_readChain_160 : decode cX3_readChain 160 = .ok (.pop, 1) := by decide +kernel
theorem dX3_readChain_161 : decode cX3_readChain 161 = .ok (.aload_n 0, 1) := by decide +kernel
theorem dX3_readChain_162 : decode cX3_readChain 162 = .ok (.aload_n 1, 1) := by decide +kernel
theorem dX3_readChain_163 : decode cX3_readChain 163 = .ok (.iload_n 2, 1) := by decide +kernel
theorem dX3_readChain_164 : decode cX3_readChain 164 = .ok (.invokevirtual 87, 3) := by decide +kernel
theorem dX3_readChain_167 : decode cX3_readChain 167 = .ok (.istore 4, 2) := by decide +kernel
theorem dX3_readChain_169 : decode cX3_readChain 169 = .ok (.iload 4, 2) := by decide +kernel
theorem dX3_readChain_171 : decode cX3_readChain 171 = .ok (.iconst (-1), 1) := by decide +kernel
theorem dX3_readChain_172 : decode cX3_readChain 172 = .ok (.if_icmp .ne 4, 3) := by decide +kernel
theorem dX3_readChain_175 : decode cX3_readChain 175 = .ok (.return_, 1) := by decide +kernel
theorem dX3_readChain_176 : decode cX3_readChain 176 = .ok (.aload_n 1, 1) := by decide +kernel
theorem dX3_readChain_177 : decode cX3_readChain 177 = .ok (.dup, 1) := by decide +kernel
theorem dX3_readChain_178 : decode cX3_readChain 178 = .ok (.getfield 48, 3) := by decide +kernel
theorem dX3_readChain_181 : decode cX3_readChain 181 = .ok (.iconst 1, 1) := by decide +kernel
theorem dX3_readChain_182 : decode cX3_readChain 182 = .ok (.iadd, 1) := by decide +kernel
theorem dX3_readChain_183 : decode cX3_readChain 183 = .ok (.putfield 48, 3) := by decide +kernel
theorem dX3_readChain_186 : decode cX3_readChain 186 = .ok (.iinc 5 1, 3) := by decide +kernel
theorem dX3_readChain_189 : decode cX3_readChain 189 = .ok (.goto (-183), 3) := by decide +kernel
theorem dX3_readChain_192 : decode cX3_readChain 192 = .ok (.return_, 1) := by decide +kernel
def ok_X3_readChain_6 (K : ro_K) (v2 : Int32) (v3 : Int32) : (ro_Mem ⊕ ro_Mem) → Prop := Sum.elim (fun e => ro_X K 175 [] [] e) (fun e => ro_X K 192 [] [] e)
def fj_X3_readChain_161 (F_X3_readChain : Int32 → Int32 → ro_Mem → Option ro_Mem) (F_X3_readPiece : Int32 → ro_Mem → Option ro_Mem) (F_X3_readFactor : Int32 → ro_Mem → Option ro_Mem) (F_X3_readComparison : Int32 → ro_Mem → Option ro_Mem) (rec : (Int32 × Int32 × ro_Mem) → Option (ro_Mem ⊕ ro_Mem)) (v2 : Int32) (v3 : Int32) (v5 : Int32) (μ : ro_Mem) : Option (ro_Mem ⊕ ro_Mem) :=
  (fn_X3_peekJoint v2 μ).bind fun q9 =>
  if q9 = (-1) then
  (some (.inl μ))
  else
  (ro_lt (ro_set μ 60 2 ((μ 60 2) + 1)) fun m12 =>
  rec (q9, v5 + 1, m12))
theorem bj_X3_readChain_161 {K : ro_K} {hd : Nat} (hhd : 6 ≤ hd) (hK : ro_C K RX3 cX3_readChain 8 (hd + 1)) (hR : ro_R K none) {F_X3_readChain : Int32 → Int32 → ro_Mem → Option ro_Mem} {F_X3_readPiece : Int32 → ro_Mem → Option ro_Mem} {F_X3_readFactor : Int32 → ro_Mem → Option ro_Mem} {F_X3_readComparison : Int32 → ro_Mem → Option ro_Mem} (H_X3_readChain : ∀ (v2 : Int32) (v3 : Int32) (μ : ro_Mem) (out : ro_Mem), F_X3_readChain v2 v3 μ = some out → ro_MX (kl K) (kG K) yX3_readChain cX3_readChain 8 none hd [.ref (ro_ad (kG K) 50), .ref (ro_ad (kG K) 60), .int v2, .int v3] μ none out) (H_X3_readPiece : ∀ (v2 : Int32) (μ : ro_Mem) (out : ro_Mem), F_X3_readPiece v2 μ = some out → ro_MX (kl K) (kG K) yX3_readPiece cX3_readPiece 4 none hd [.ref (ro_ad (kG K) 50), .ref (ro_ad (kG K) 60), .int v2] μ none out) (H_X3_readFactor : ∀ (v2 : Int32) (μ : ro_Mem) (out : ro_Mem), F_X3_readFactor v2 μ = some out → ro_MX (kl K) (kG K) yX3_readFactor cX3_readFactor 4 none hd [.ref (ro_ad (kG K) 50), .ref (ro_ad (kG K) 60), .int v2] μ none out) (H_X3_readComparison : ∀ (v2 : Int32) (μ : ro_Mem) (out : ro_Mem), F_X3_readComparison v2 μ = some out → ro_MX (kl K) (kG K) yX3_readComparison cX3_readComparison 4 none hd [.ref (ro_ad (kG K) 50), .ref (ro_ad (kG K) 60), .int v2] μ none out) {v2 : Int32} {v3 : Int32} {v5 : Int32}  {rec : (Int32 × Int32 × ro_Mem) → Option (ro_Mem ⊕ ro_Mem)} {μ : ro_Mem} (hrec : ∀ (s : Int32 × Int32 × ro_Mem) (q : (ro_Mem ⊕ ro_Mem)), rec s = some q → ok_X3_readChain_6 K v2 v3 q → ro_X K 6 [(0, .ref (ro_ad (kG K) 50)), (1, .ref (ro_ad (kG K) 60)), (2, .int v2), (3, .int v3), (4, .int s.1), (5, .int s.2.1)] [] s.2.2) {out : (ro_Mem ⊕ ro_Mem)} (hf : fj_X3_readChain_161 F_X3_readChain F_X3_readPiece F_X3_readFactor F_X3_readComparison rec v2 v3 v5 μ = some out) (hq : ok_X3_readChain_6 K v2 v3 out) : ro_X K 161 [(0, .ref (ro_ad (kG K) 50)), (1, .ref (ro_ad (kG K) 60)), (2, .int v2), (3, .int v3), (5, .int v5)] [] μ := by
  unfold fj_X3_readChain_161 at hf
  refine ro_aload_n hK 0 rfl dX3_readChain_161 rfl ?_
  refine ro_aload_n hK 1 rfl dX3_readChain_162 rfl ?_
  refine ro_iload_n hK 2 rfl dX3_readChain_163 rfl ?_
  obtain ⟨q9, e10, hf⟩ := ro_bd hf
  refine ro_callvi hK [.ref (ro_ad (kG K) 60), .int v2] ml_X3_87 mv_X3_peekJoint (mt_X3_peekJoint (kl K) (kG K)  e10) sh_50 ⟨_, rfl, rfl⟩ (by omega) rfl rfl (Nat.le_of_ble_eq_true rfl) dX3_readChain_164 ?_
  refine ro_istore (L' := [(4, .int q9), (0, .ref (ro_ad (kG K) 50)), (1, .ref (ro_ad (kG K) 60)), (2, .int v2), (3, .int v3), (5, .int v5)]) hK dX3_readChain_167 (by decide) rfl ?_
  refine ro_iload hK 0 rfl dX3_readChain_169 ?_
  refine ro_iconst (v := (-1)) hK dX3_readChain_171 (by decide) ?_
  refine ro_icmp_ne hK 176 dX3_readChain_172 (by decide) (fun c11 => ?_) (fun c11 => ?_)
  · have hf := ro_ie hf c11
    refine ro_aload_n hK 2 rfl dX3_readChain_176 rfl ?_
    refine ro_dup hK dX3_readChain_177 rfl ?_
    refine ro_geti hK fl_X3_48 sh_60 dX3_readChain_178 ?_
    refine ro_iconst (v := 1) hK dX3_readChain_181 (by decide) ?_
    refine ro_iadd hK dX3_readChain_182 ?_
    obtain ⟨m12, e13, hf⟩ := ro_ld hf
    refine ro_puti hK fl_X3_48 sh_60 rfl rfl dX3_readChain_183 ?_
    refine ro_mv e13 ?_
    refine ro_iinc (v := v5 + 1) (L' := [(5, .int (v5 + 1)), (4, .int q9), (0, .ref (ro_ad (kG K) 50)), (1, .ref (ro_ad (kG K) 60)), (2, .int v2), (3, .int v3)]) hK 5 rfl dX3_readChain_186 rfl (by decide) rfl ?_
    refine ro_goto hK 6 dX3_readChain_189 (by decide) ?_
    refine ro_sub (L' := [(0, .ref (ro_ad (kG K) 50)), (1, .ref (ro_ad (kG K) 60)), (2, .int v2), (3, .int v3), (4, .int q9), (5, .int (v5 + 1))]) [2, 3, 4, 5, 1, 0] rfl ?_
    exact hrec (q9, v5 + 1, m12) _ hf hq
  · have hf := ro_it hf c11
    refine ro_sub (L' := []) [] rfl ?_
    obtain rfl := Option.some.inj hf
    exact hq
def fj_X3_readChain_127 (F_X3_readChain : Int32 → Int32 → ro_Mem → Option ro_Mem) (F_X3_readPiece : Int32 → ro_Mem → Option ro_Mem) (F_X3_readFactor : Int32 → ro_Mem → Option ro_Mem) (F_X3_readComparison : Int32 → ro_Mem → Option ro_Mem) (rec : (Int32 × Int32 × ro_Mem) → Option (ro_Mem ⊕ ro_Mem)) (v2 : Int32) (v3 : Int32) (v4 : Int32) (v5 : Int32) (v6 : Int32) (v7 : Int32) (μ : ro_Mem) : Option (ro_Mem ⊕ ro_Mem) :=
  if v6 = 0 then
  (if v4 = (-1) then
  (fj_X3_readChain_161 F_X3_readChain F_X3_readPiece F_X3_readFactor F_X3_readComparison rec v2 v3 v5 μ)
  else
  (if ro_sh (ro_rf μ 50 0) = (0, 2) then
  ((fn_X2_emit (ro_rf μ 50 0) v4 0 μ).bind fun q15 =>
  fj_X3_readChain_161 F_X3_readChain F_X3_readPiece F_X3_readFactor F_X3_readComparison rec v2 v3 v5 q15.2) else none))
  else
  (if ro_sh (ro_rf μ 50 0) = (0, 2) then
  ((fn_X2_jumpFrom (ro_rf μ 50 0) v7 μ).bind fun q18 =>
  fj_X3_readChain_161 F_X3_readChain F_X3_readPiece F_X3_readFactor F_X3_readComparison rec v2 v3 v5 q18) else none)
theorem bj_X3_readChain_127 {K : ro_K} {hd : Nat} (hhd : 6 ≤ hd) (hK : ro_C K RX3 cX3_readChain 8 (hd + 1)) (hR : ro_R K none) {F_X3_readChain : Int32 → Int32 → ro_Mem → Option ro_Mem} {F_X3_readPiece : Int32 → ro_Mem → Option ro_Mem} {F_X3_readFactor : Int32 → ro_Mem → Option ro_Mem} {F_X3_readComparison : Int32 → ro_Mem → Option ro_Mem} (H_X3_readChain : ∀ (v2 : Int32) (v3 : Int32) (μ : ro_Mem) (out : ro_Mem), F_X3_readChain v2 v3 μ = some out → ro_MX (kl K) (kG K) yX3_readChain cX3_readChain 8 none hd [.ref (ro_ad (kG K) 50), .ref (ro_ad (kG K) 60), .int v2, .int v3] μ none out) (H_X3_readPiece : ∀ (v2 : Int32) (μ : ro_Mem) (out : ro_Mem), F_X3_readPiece v2 μ = some out → ro_MX (kl K) (kG K) yX3_readPiece cX3_readPiece 4 none hd [.ref (ro_ad (kG K) 50), .ref (ro_ad (kG K) 60), .int v2] μ none out) (H_X3_readFactor : ∀ (v2 : Int32) (μ : ro_Mem) (out : ro_Mem), F_X3_readFactor v2 μ = some out → ro_MX (kl K) (kG K) yX3_readFactor cX3_readFactor 4 none hd [.ref (ro_ad (kG K) 50), .ref (ro_ad (kG K) 60), .int v2] μ none out) (H_X3_readComparison : ∀ (v2 : Int32) (μ : ro_Mem) (out : ro_Mem), F_X3_readComparison v2 μ = some out → ro_MX (kl K) (kG K) yX3_readComparison cX3_readComparison 4 none hd [.ref (ro_ad (kG K) 50), .ref (ro_ad (kG K) 60), .int v2] μ none out) {v2 : Int32} {v3 : Int32} {v4 : Int32} {v5 : Int32} {v6 : Int32} {v7 : Int32}  {rec : (Int32 × Int32 × ro_Mem) → Option (ro_Mem ⊕ ro_Mem)} {μ : ro_Mem} (hrec : ∀ (s : Int32 × Int32 × ro_Mem) (q : (ro_Mem ⊕ ro_Mem)), rec s = some q → ok_X3_readChain_6 K v2 v3 q → ro_X K 6 [(0, .ref (ro_ad (kG K) 50)), (1, .ref (ro_ad (kG K) 60)), (2, .int v2), (3, .int v3), (4, .int s.1), (5, .int s.2.1)] [] s.2.2) {out : (ro_Mem ⊕ ro_Mem)} (hf : fj_X3_readChain_127 F_X3_readChain F_X3_readPiece F_X3_readFactor F_X3_readComparison rec v2 v3 v4 v5 v6 v7 μ = some out) (hq : ok_X3_readChain_6 K v2 v3 out) : ro_X K 127 [(0, .ref (ro_ad (kG K) 50)), (1, .ref (ro_ad (kG K) 60)), (2, .int v2), (3, .int v3), (4, .int v4), (5, .int v5), (6, .int v6), (7, .int v7)] [] μ := by
  unfold fj_X3_readChain_127 at hf
  refine ro_iload hK 6 rfl dX3_readChain_127 ?_
  refine ro_if_eq hK 144 dX3_readChain_129 (by decide) (fun c7 => ?_) (fun c7 => ?_)
  · have hf := ro_it hf c7
    refine ro_iload hK 4 rfl dX3_readChain_144 ?_
    refine ro_iconst (v := (-1)) hK dX3_readChain_146 (by decide) ?_
    refine ro_icmp_eq hK 161 dX3_readChain_147 (by decide) (fun c8 => ?_) (fun c8 => ?_)
    · have hf := ro_it hf c8
      refine ro_sub (L' := [(0, .ref (ro_ad (kG K) 50)), (1, .ref (ro_ad (kG K) 60)), (2, .int v2), (3, .int v3), (5, .int v5)]) [0, 1, 2, 3, 5] rfl ?_
      exact bj_X3_readChain_161 hhd hK hR H_X3_readChain H_X3_readPiece H_X3_readFactor H_X3_readComparison  hrec hf hq
    · have hf := ro_ie hf c8
      refine ro_aload_n hK 0 rfl dX3_readChain_150 rfl ?_
      obtain ⟨g14, hf⟩ := ro_gd hf
      refine ro_getm hK fl_X3_12 sh_50 dX3_readChain_151 ?_
      refine ro_iload hK 4 rfl dX3_readChain_154 ?_
      refine ro_iconst (v := 0) hK dX3_readChain_156 (by decide) ?_
      obtain ⟨q15, e16, hf⟩ := ro_bd hf
      refine ro_callvi hK [.int v4, .int 0] ml_X3_72 mv_X2_emit (mt_X2_emit (kl K) (kG K) g14 e16) g14 ⟨_, rfl, rfl⟩ (by omega) rfl rfl (Nat.le_of_ble_eq_true rfl) dX3_readChain_157 ?_
      refine ro_pop hK dX3_readChain_160 rfl ?_
      refine ro_sub (L' := [(0, .ref (ro_ad (kG K) 50)), (1, .ref (ro_ad (kG K) 60)), (2, .int v2), (3, .int v3), (5, .int v5)]) [0, 1, 2, 3, 5] rfl ?_
      exact bj_X3_readChain_161 hhd hK hR H_X3_readChain H_X3_readPiece H_X3_readFactor H_X3_readComparison  hrec hf hq
  · have hf := ro_ie hf c7
    refine ro_aload_n hK 0 rfl dX3_readChain_132 rfl ?_
    obtain ⟨g17, hf⟩ := ro_gd hf
    refine ro_getm hK fl_X3_12 sh_50 dX3_readChain_133 ?_
    refine ro_iload hK 7 rfl dX3_readChain_136 ?_
    obtain ⟨q18, e19, hf⟩ := ro_bd hf
    refine ro_callvv hK [.int v7] ml_X3_83 mv_X2_jumpFrom (mt_X2_jumpFrom (kl K) (kG K) g17 e19) g17 ⟨_, rfl, rfl⟩ (by omega) rfl rfl (Nat.le_of_ble_eq_true rfl) dX3_readChain_138 ?_
    refine ro_goto hK 161 dX3_readChain_141 (by decide) ?_
    refine ro_sub (L' := [(0, .ref (ro_ad (kG K) 50)), (1, .ref (ro_ad (kG K) 60)), (2, .int v2), (3, .int v3), (5, .int v5)]) [0, 1, 2, 3, 5] rfl ?_
    exact bj_X3_readChain_161 hhd hK hR H_X3_readChain H_X3_readPiece H_X3_readFactor H_X3_readComparison  hrec hf hq
def fj_X3_readChain_61 (F_X3_readChain : Int32 → Int32 → ro_Mem → Option ro_Mem) (F_X3_readPiece : Int32 → ro_Mem → Option ro_Mem) (F_X3_readFactor : Int32 → ro_Mem → Option ro_Mem) (F_X3_readComparison : Int32 → ro_Mem → Option ro_Mem) (rec : (Int32 × Int32 × ro_Mem) → Option (ro_Mem ⊕ ro_Mem)) (v2 : Int32) (v3 : Int32) (v4 : Int32) (v5 : Int32) (v6 : Int32) (t0 : Int32) (μ : ro_Mem) : Option (ro_Mem ⊕ ro_Mem) :=
  if v2 = 0 then
  ((F_X3_readChain 1 v3 μ).bind fun q5 =>
  fj_X3_readChain_127 F_X3_readChain F_X3_readPiece F_X3_readFactor F_X3_readComparison rec v2 v3 v4 v5 v6 t0 q5)
  else
  (if v2 = 1 then
  ((F_X3_readPiece v3 μ).bind fun q20 =>
  fj_X3_readChain_127 F_X3_readChain F_X3_readPiece F_X3_readFactor F_X3_readComparison rec v2 v3 v4 v5 v6 t0 q20)
  else
  (if v2 = 2 then
  ((F_X3_readChain 3 v3 μ).bind fun q22 =>
  fj_X3_readChain_127 F_X3_readChain F_X3_readPiece F_X3_readFactor F_X3_readComparison rec v2 v3 v4 v5 v6 t0 q22)
  else
  ((F_X3_readFactor v3 μ).bind fun q24 =>
  fj_X3_readChain_127 F_X3_readChain F_X3_readPiece F_X3_readFactor F_X3_readComparison rec v2 v3 v4 v5 v6 t0 q24)))
theorem bj_X3_readChain_61 {K : ro_K} {hd : Nat} (hhd : 6 ≤ hd) (hK : ro_C K RX3 cX3_readChain 8 (hd + 1)) (hR : ro_R K none) {F_X3_readChain : Int32 → Int32 → ro_Mem → Option ro_Mem} {F_X3_readPiece : Int32 → ro_Mem → Option ro_Mem} {F_X3_readFactor : Int32 → ro_Mem → Option ro_Mem} {F_X3_readComparison : Int32 → ro_Mem → Option ro_Mem} (H_X3_readChain : ∀ (v2 : Int32) (v3 : Int32) (μ : ro_Mem) (out : ro_Mem), F_X3_readChain v2 v3 μ = some out → ro_MX (kl K) (kG K) yX3_readChain cX3_readChain 8 none hd [.ref (ro_ad (kG K) 50), .ref (ro_ad (kG K) 60), .int v2, .int v3] μ none out) (H_X3_readPiece : ∀ (v2 : Int32) (μ : ro_Mem) (out : ro_Mem), F_X3_readPiece v2 μ = some out → ro_MX (kl K) (kG K) yX3_readPiece cX3_readPiece 4 none hd [.ref (ro_ad (kG K) 50), .ref (ro_ad (kG K) 60), .int v2] μ none out) (H_X3_readFactor : ∀ (v2 : Int32) (μ : ro_Mem) (out : ro_Mem), F_X3_readFactor v2 μ = some out → ro_MX (kl K) (kG K) yX3_readFactor cX3_readFactor 4 none hd [.ref (ro_ad (kG K) 50), .ref (ro_ad (kG K) 60), .int v2] μ none out) (H_X3_readComparison : ∀ (v2 : Int32) (μ : ro_Mem) (out : ro_Mem), F_X3_readComparison v2 μ = some out → ro_MX (kl K) (kG K) yX3_readComparison cX3_readComparison 4 none hd [.ref (ro_ad (kG K) 50), .ref (ro_ad (kG K) 60), .int v2] μ none out) {v2 : Int32} {v3 : Int32} {v4 : Int32} {v5 : Int32} {v6 : Int32} {t0 : Int32}  {rec : (Int32 × Int32 × ro_Mem) → Option (ro_Mem ⊕ ro_Mem)} {μ : ro_Mem} (hrec : ∀ (s : Int32 × Int32 × ro_Mem) (q : (ro_Mem ⊕ ro_Mem)), rec s = some q → ok_X3_readChain_6 K v2 v3 q → ro_X K 6 [(0, .ref (ro_ad (kG K) 50)), (1, .ref (ro_ad (kG K) 60)), (2, .int v2), (3, .int v3), (4, .int s.1), (5, .int s.2.1)] [] s.2.2) {out : (ro_Mem ⊕ ro_Mem)} (hf : fj_X3_readChain_61 F_X3_readChain F_X3_readPiece F_X3_readFactor F_X3_readComparison rec v2 v3 v4 v5 v6 t0 μ = some out) (hq : ok_X3_readChain_6 K v2 v3 out) : ro_X K 61 [(0, .ref (ro_ad (kG K) 50)), (1, .ref (ro_ad (kG K) 60)), (2, .int v2), (3, .int v3), (4, .int v4), (5, .int v5), (6, .int v6)] [.int t0] μ := by
  unfold fj_X3_readChain_61 at hf
  refine ro_istore (L' := [(7, .int t0), (0, .ref (ro_ad (kG K) 50)), (1, .ref (ro_ad (kG K) 60)), (2, .int v2), (3, .int v3), (4, .int v4), (5, .int v5), (6, .int v6)]) hK dX3_readChain_61 (by decide) rfl ?_
  refine ro_iload_n hK 3 rfl dX3_readChain_63 rfl ?_
  by_cases c_0 : v2 = 0
  · have hf := ro_it hf c_0
    refine ro_tabIn hK 0 92 dX3_readChain_64 c_0 (by decide) (by decide) rfl (by decide) ?_
    refine ro_aload_n hK 1 rfl dX3_readChain_92 rfl ?_
    refine ro_aload_n hK 2 rfl dX3_readChain_93 rfl ?_
    refine ro_iconst (v := 1) hK dX3_readChain_94 (by decide) ?_
    refine ro_iload_n hK 4 rfl dX3_readChain_95 rfl ?_
    obtain ⟨q5, e6, hf⟩ := ro_bd hf
    refine ro_callvv hK [.ref (ro_ad (kG K) 60), .int 1, .int v3] ml_X3_62 mv_X3_readChain (H_X3_readChain _ _ _ _ e6) sh_50 ⟨_, rfl, rfl⟩ (Nat.le_refl _) rfl rfl (Nat.le_of_ble_eq_true rfl) dX3_readChain_96 ?_
    refine ro_goto hK 127 dX3_readChain_99 (by decide) ?_
    refine ro_sub (L' := [(0, .ref (ro_ad (kG K) 50)), (1, .ref (ro_ad (kG K) 60)), (2, .int v2), (3, .int v3), (4, .int v4), (5, .int v5), (6, .int v6), (7, .int t0)]) [1, 2, 3, 4, 5, 6, 7, 0] rfl ?_
    exact bj_X3_readChain_127 hhd hK hR H_X3_readChain H_X3_readPiece H_X3_readFactor H_X3_readComparison  hrec hf hq
  have hf := ro_ie hf c_0
  by_cases c_1 : v2 = 1
  · have hf := ro_it hf c_1
    refine ro_tabIn hK 1 102 dX3_readChain_64 c_1 (by decide) (by decide) rfl (by decide) ?_
    refine ro_aload_n hK 1 rfl dX3_readChain_102 rfl ?_
    refine ro_aload_n hK 2 rfl dX3_readChain_103 rfl ?_
    refine ro_iload_n hK 4 rfl dX3_readChain_104 rfl ?_
    obtain ⟨q20, e21, hf⟩ := ro_bd hf
    refine ro_callvv hK [.ref (ro_ad (kG K) 60), .int v3] ml_X3_76 mv_X3_readPiece (H_X3_readPiece _ _ _ e21) sh_50 ⟨_, rfl, rfl⟩ (Nat.le_refl _) rfl rfl (Nat.le_of_ble_eq_true rfl) dX3_readChain_105 ?_
    refine ro_goto hK 127 dX3_readChain_108 (by decide) ?_
    refine ro_sub (L' := [(0, .ref (ro_ad (kG K) 50)), (1, .ref (ro_ad (kG K) 60)), (2, .int v2), (3, .int v3), (4, .int v4), (5, .int v5), (6, .int v6), (7, .int t0)]) [1, 2, 3, 4, 5, 6, 7, 0] rfl ?_
    exact bj_X3_readChain_127 hhd hK hR H_X3_readChain H_X3_readPiece H_X3_readFactor H_X3_readComparison  hrec hf hq
  have hf := ro_ie hf c_1
  by_cases c_2 : v2 = 2
  · have hf := ro_it hf c_2
    refine ro_tabIn hK 2 111 dX3_readChain_64 c_2 (by decide) (by decide) rfl (by decide) ?_
    refine ro_aload_n hK 1 rfl dX3_readChain_111 rfl ?_
    refine ro_aload_n hK 2 rfl dX3_readChain_112 rfl ?_
    refine ro_iconst (v := 3) hK dX3_readChain_113 (by decide) ?_
    refine ro_iload_n hK 4 rfl dX3_readChain_114 rfl ?_
    obtain ⟨q22, e23, hf⟩ := ro_bd hf
    refine ro_callvv hK [.ref (ro_ad (kG K) 60), .int 3, .int v3] ml_X3_62 mv_X3_readChain (H_X3_readChain _ _ _ _ e23) sh_50 ⟨_, rfl, rfl⟩ (Nat.le_refl _) rfl rfl (Nat.le_of_ble_eq_true rfl) dX3_readChain_115 ?_
    refine ro_goto hK 127 dX3_readChain_118 (by decide) ?_
    refine ro_sub (L' := [(0, .ref (ro_ad (kG K) 50)), (1, .ref (ro_ad (kG K) 60)), (2, .int v2), (3, .int v3), (4, .int v4), (5, .int v5), (6, .int v6), (7, .int t0)]) [1, 2, 3, 4, 5, 6, 7, 0] rfl ?_
    exact bj_X3_readChain_127 hhd hK hR H_X3_readChain H_X3_readPiece H_X3_readFactor H_X3_readComparison  hrec hf hq
  have hf := ro_ie hf c_2
  have tw0 : ¬ v2.toInt = 0 := lv_neT (a := 0) c_0 rfl
  have tw1 : ¬ v2.toInt = 1 := lv_neT (a := 1) c_1 rfl
  have tw2 : ¬ v2.toInt = 2 := lv_neT (a := 2) c_2 rfl
  refine ro_tabOut hK 121 dX3_readChain_64 (by omega) (by decide) ?_
  refine ro_aload_n hK 1 rfl dX3_readChain_121 rfl ?_
  refine ro_aload_n hK 2 rfl dX3_readChain_122 rfl ?_
  refine ro_iload_n hK 4 rfl dX3_readChain_123 rfl ?_
  obtain ⟨q24, e25, hf⟩ := ro_bd hf
  refine ro_callvv hK [.ref (ro_ad (kG K) 60), .int v3] ml_X3_80 mv_X3_readFactor (H_X3_readFactor _ _ _ e25) sh_50 ⟨_, rfl, rfl⟩ (Nat.le_refl _) rfl rfl (Nat.le_of_ble_eq_true rfl) dX3_readChain_124 ?_
  refine ro_sub (L' := [(0, .ref (ro_ad (kG K) 50)), (1, .ref (ro_ad (kG K) 60)), (2, .int v2), (3, .int v3), (4, .int v4), (5, .int v5), (6, .int v6), (7, .int t0)]) [1, 2, 3, 4, 5, 6, 7, 0] rfl ?_
  exact bj_X3_readChain_127 hhd hK hR H_X3_readChain H_X3_readPiece H_X3_readFactor H_X3_readComparison  hrec hf hq
def fj_X3_readChain_40 (F_X3_readChain : Int32 → Int32 → ro_Mem → Option ro_Mem) (F_X3_readPiece : Int32 → ro_Mem → Option ro_Mem) (F_X3_readFactor : Int32 → ro_Mem → Option ro_Mem) (F_X3_readComparison : Int32 → ro_Mem → Option ro_Mem) (rec : (Int32 × Int32 × ro_Mem) → Option (ro_Mem ⊕ ro_Mem)) (v2 : Int32) (v3 : Int32) (v4 : Int32) (v5 : Int32) (t0 : Int32) (μ : ro_Mem) : Option (ro_Mem ⊕ ro_Mem) :=
  if t0 = 0 then
  (fj_X3_readChain_61 F_X3_readChain F_X3_readPiece F_X3_readFactor F_X3_readComparison rec v2 v3 v4 v5 t0 (-1) μ)
  else
  (if ro_sh (ro_rf μ 50 0) = (0, 2) then
  ((fn_X2_emit (ro_rf μ 50 0) v4 0 μ).bind fun q27 =>
  fj_X3_readChain_61 F_X3_readChain F_X3_readPiece F_X3_readFactor F_X3_readComparison rec v2 v3 v4 v5 t0 q27.1 q27.2) else none)
theorem bj_X3_readChain_40 {K : ro_K} {hd : Nat} (hhd : 6 ≤ hd) (hK : ro_C K RX3 cX3_readChain 8 (hd + 1)) (hR : ro_R K none) {F_X3_readChain : Int32 → Int32 → ro_Mem → Option ro_Mem} {F_X3_readPiece : Int32 → ro_Mem → Option ro_Mem} {F_X3_readFactor : Int32 → ro_Mem → Option ro_Mem} {F_X3_readComparison : Int32 → ro_Mem → Option ro_Mem} (H_X3_readChain : ∀ (v2 : Int32) (v3 : Int32) (μ : ro_Mem) (out : ro_Mem), F_X3_readChain v2 v3 μ = some out → ro_MX (kl K) (kG K) yX3_readChain cX3_readChain 8 none hd [.ref (ro_ad (kG K) 50), .ref (ro_ad (kG K) 60), .int v2, .int v3] μ none out) (H_X3_readPiece : ∀ (v2 : Int32) (μ : ro_Mem) (out : ro_Mem), F_X3_readPiece v2 μ = some out → ro_MX (kl K) (kG K) yX3_readPiece cX3_readPiece 4 none hd [.ref (ro_ad (kG K) 50), .ref (ro_ad (kG K) 60), .int v2] μ none out) (H_X3_readFactor : ∀ (v2 : Int32) (μ : ro_Mem) (out : ro_Mem), F_X3_readFactor v2 μ = some out → ro_MX (kl K) (kG K) yX3_readFactor cX3_readFactor 4 none hd [.ref (ro_ad (kG K) 50), .ref (ro_ad (kG K) 60), .int v2] μ none out) (H_X3_readComparison : ∀ (v2 : Int32) (μ : ro_Mem) (out : ro_Mem), F_X3_readComparison v2 μ = some out → ro_MX (kl K) (kG K) yX3_readComparison cX3_readComparison 4 none hd [.ref (ro_ad (kG K) 50), .ref (ro_ad (kG K) 60), .int v2] μ none out) {v2 : Int32} {v3 : Int32} {v4 : Int32} {v5 : Int32} {t0 : Int32}  {rec : (Int32 × Int32 × ro_Mem) → Option (ro_Mem ⊕ ro_Mem)} {μ : ro_Mem} (hrec : ∀ (s : Int32 × Int32 × ro_Mem) (q : (ro_Mem ⊕ ro_Mem)), rec s = some q → ok_X3_readChain_6 K v2 v3 q → ro_X K 6 [(0, .ref (ro_ad (kG K) 50)), (1, .ref (ro_ad (kG K) 60)), (2, .int v2), (3, .int v3), (4, .int s.1), (5, .int s.2.1)] [] s.2.2) {out : (ro_Mem ⊕ ro_Mem)} (hf : fj_X3_readChain_40 F_X3_readChain F_X3_readPiece F_X3_readFactor F_X3_readComparison rec v2 v3 v4 v5 t0 μ = some out) (hq : ok_X3_readChain_6 K v2 v3 out) : ro_X K 40 [(0, .ref (ro_ad (kG K) 50)), (1, .ref (ro_ad (kG K) 60)), (2, .int v2), (3, .int v3), (4, .int v4), (5, .int v5)] [.int t0] μ := by
  unfold fj_X3_readChain_40 at hf
  refine ro_istore (L' := [(6, .int t0), (0, .ref (ro_ad (kG K) 50)), (1, .ref (ro_ad (kG K) 60)), (2, .int v2), (3, .int v3), (4, .int v4), (5, .int v5)]) hK dX3_readChain_40 (by decide) rfl ?_
  refine ro_iload hK 0 rfl dX3_readChain_42 ?_
  refine ro_if_eq hK 60 dX3_readChain_44 (by decide) (fun c4 => ?_) (fun c4 => ?_)
  · have hf := ro_it hf c4
    refine ro_iconst (v := (-1)) hK dX3_readChain_60 (by decide) ?_
    refine ro_sub (L' := [(0, .ref (ro_ad (kG K) 50)), (1, .ref (ro_ad (kG K) 60)), (2, .int v2), (3, .int v3), (4, .int v4), (5, .int v5), (6, .int t0)]) [1, 2, 3, 4, 5, 6, 0] rfl ?_
    exact bj_X3_readChain_61 hhd hK hR H_X3_readChain H_X3_readPiece H_X3_readFactor H_X3_readComparison  hrec hf hq
  · have hf := ro_ie hf c4
    refine ro_aload_n hK 1 rfl dX3_readChain_47 rfl ?_
    obtain ⟨g26, hf⟩ := ro_gd hf
    refine ro_getm hK fl_X3_12 sh_50 dX3_readChain_48 ?_
    refine ro_iload hK 5 rfl dX3_readChain_51 ?_
    refine ro_iconst (v := 0) hK dX3_readChain_53 (by decide) ?_
    obtain ⟨q27, e28, hf⟩ := ro_bd hf
    refine ro_callvi hK [.int v4, .int 0] ml_X3_72 mv_X2_emit (mt_X2_emit (kl K) (kG K) g26 e28) g26 ⟨_, rfl, rfl⟩ (by omega) rfl rfl (Nat.le_of_ble_eq_true rfl) dX3_readChain_54 ?_
    refine ro_goto hK 61 dX3_readChain_57 (by decide) ?_
    refine ro_sub (L' := [(0, .ref (ro_ad (kG K) 50)), (1, .ref (ro_ad (kG K) 60)), (2, .int v2), (3, .int v3), (4, .int v4), (5, .int v5), (6, .int t0)]) [1, 2, 3, 4, 5, 6, 0] rfl ?_
    exact bj_X3_readChain_61 hhd hK hR H_X3_readChain H_X3_readPiece H_X3_readFactor H_X3_readComparison  hrec hf hq
def fj_X3_readChain_35 (F_X3_readChain : Int32 → Int32 → ro_Mem → Option ro_Mem) (F_X3_readPiece : Int32 → ro_Mem → Option ro_Mem) (F_X3_readFactor : Int32 → ro_Mem → Option ro_Mem) (F_X3_readComparison : Int32 → ro_Mem → Option ro_Mem) (rec : (Int32 × Int32 × ro_Mem) → Option (ro_Mem ⊕ ro_Mem)) (v2 : Int32) (v3 : Int32) (v4 : Int32) (v5 : Int32) (μ : ro_Mem) : Option (ro_Mem ⊕ ro_Mem) :=
  fj_X3_readChain_40 F_X3_readChain F_X3_readPiece F_X3_readFactor F_X3_readComparison rec v2 v3 v4 v5 1 μ
theorem bj_X3_readChain_35 {K : ro_K} {hd : Nat} (hhd : 6 ≤ hd) (hK : ro_C K RX3 cX3_readChain 8 (hd + 1)) (hR : ro_R K none) {F_X3_readChain : Int32 → Int32 → ro_Mem → Option ro_Mem} {F_X3_readPiece : Int32 → ro_Mem → Option ro_Mem} {F_X3_readFactor : Int32 → ro_Mem → Option ro_Mem} {F_X3_readComparison : Int32 → ro_Mem → Option ro_Mem} (H_X3_readChain : ∀ (v2 : Int32) (v3 : Int32) (μ : ro_Mem) (out : ro_Mem), F_X3_readChain v2 v3 μ = some out → ro_MX (kl K) (kG K) yX3_readChain cX3_readChain 8 none hd [.ref (ro_ad (kG K) 50), .ref (ro_ad (kG K) 60), .int v2, .int v3] μ none out) (H_X3_readPiece : ∀ (v2 : Int32) (μ : ro_Mem) (out : ro_Mem), F_X3_readPiece v2 μ = some out → ro_MX (kl K) (kG K) yX3_readPiece cX3_readPiece 4 none hd [.ref (ro_ad (kG K) 50), .ref (ro_ad (kG K) 60), .int v2] μ none out) (H_X3_readFactor : ∀ (v2 : Int32) (μ : ro_Mem) (out : ro_Mem), F_X3_readFactor v2 μ = some out → ro_MX (kl K) (kG K) yX3_readFactor cX3_readFactor 4 none hd [.ref (ro_ad (kG K) 50), .ref (ro_ad (kG K) 60), .int v2] μ none out) (H_X3_readComparison : ∀ (v2 : Int32) (μ : ro_Mem) (out : ro_Mem), F_X3_readComparison v2 μ = some out → ro_MX (kl K) (kG K) yX3_readComparison cX3_readComparison 4 none hd [.ref (ro_ad (kG K) 50), .ref (ro_ad (kG K) 60), .int v2] μ none out) {v2 : Int32} {v3 : Int32} {v4 : Int32} {v5 : Int32}  {rec : (Int32 × Int32 × ro_Mem) → Option (ro_Mem ⊕ ro_Mem)} {μ : ro_Mem} (hrec : ∀ (s : Int32 × Int32 × ro_Mem) (q : (ro_Mem ⊕ ro_Mem)), rec s = some q → ok_X3_readChain_6 K v2 v3 q → ro_X K 6 [(0, .ref (ro_ad (kG K) 50)), (1, .ref (ro_ad (kG K) 60)), (2, .int v2), (3, .int v3), (4, .int s.1), (5, .int s.2.1)] [] s.2.2) {out : (ro_Mem ⊕ ro_Mem)} (hf : fj_X3_readChain_35 F_X3_readChain F_X3_readPiece F_X3_readFactor F_X3_readComparison rec v2 v3 v4 v5 μ = some out) (hq : ok_X3_readChain_6 K v2 v3 out) : ro_X K 35 [(0, .ref (ro_ad (kG K) 50)), (1, .ref (ro_ad (kG K) 60)), (2, .int v2), (3, .int v3), (4, .int v4), (5, .int v5)] [] μ := by
  unfold fj_X3_readChain_35 at hf
  refine ro_iconst (v := 1) hK dX3_readChain_35 (by decide) ?_
  refine ro_goto hK 40 dX3_readChain_36 (by decide) ?_
  exact bj_X3_readChain_40 hhd hK hR H_X3_readChain H_X3_readPiece H_X3_readFactor H_X3_readComparison  hrec hf hq
def fb_X3_readChain_6 (F_X3_readChain : Int32 → Int32 → ro_Mem → Option ro_Mem) (F_X3_readPiece : Int32 → ro_Mem → Option ro_Mem) (F_X3_readFactor : Int32 → ro_Mem → Option ro_Mem) (F_X3_readComparison : Int32 → ro_Mem → Option ro_Mem) (v2 : Int32) (v3 : Int32) (rec : (Int32 × Int32 × ro_Mem) → Option (ro_Mem ⊕ ro_Mem)) (v4 : Int32) (v5 : Int32) (μ : ro_Mem) : Option (ro_Mem ⊕ ro_Mem) :=
  if 200 ≤ v5 then
  (some (.inr μ))
  else
  (if (μ 60 4) = 0 then
  (if v4 = 11 then
  (fj_X3_readChain_35 F_X3_readChain F_X3_readPiece F_X3_readFactor F_X3_readComparison rec v2 v3 v4 v5 μ)
  else
  (if v4 = 12 then
  (fj_X3_readChain_35 F_X3_readChain F_X3_readPiece F_X3_readFactor F_X3_readComparison rec v2 v3 v4 v5 μ)
  else
  (fj_X3_readChain_40 F_X3_readChain F_X3_readPiece F_X3_readFactor F_X3_readComparison rec v2 v3 v4 v5 0 μ)))
  else
  (some (.inr μ)))
theorem bb_X3_readChain_6 {K : ro_K} {hd : Nat} (hhd : 6 ≤ hd) (hK : ro_C K RX3 cX3_readChain 8 (hd + 1)) (hR : ro_R K none) {F_X3_readChain : Int32 → Int32 → ro_Mem → Option ro_Mem} {F_X3_readPiece : Int32 → ro_Mem → Option ro_Mem} {F_X3_readFactor : Int32 → ro_Mem → Option ro_Mem} {F_X3_readComparison : Int32 → ro_Mem → Option ro_Mem} (H_X3_readChain : ∀ (v2 : Int32) (v3 : Int32) (μ : ro_Mem) (out : ro_Mem), F_X3_readChain v2 v3 μ = some out → ro_MX (kl K) (kG K) yX3_readChain cX3_readChain 8 none hd [.ref (ro_ad (kG K) 50), .ref (ro_ad (kG K) 60), .int v2, .int v3] μ none out) (H_X3_readPiece : ∀ (v2 : Int32) (μ : ro_Mem) (out : ro_Mem), F_X3_readPiece v2 μ = some out → ro_MX (kl K) (kG K) yX3_readPiece cX3_readPiece 4 none hd [.ref (ro_ad (kG K) 50), .ref (ro_ad (kG K) 60), .int v2] μ none out) (H_X3_readFactor : ∀ (v2 : Int32) (μ : ro_Mem) (out : ro_Mem), F_X3_readFactor v2 μ = some out → ro_MX (kl K) (kG K) yX3_readFactor cX3_readFactor 4 none hd [.ref (ro_ad (kG K) 50), .ref (ro_ad (kG K) 60), .int v2] μ none out) (H_X3_readComparison : ∀ (v2 : Int32) (μ : ro_Mem) (out : ro_Mem), F_X3_readComparison v2 μ = some out → ro_MX (kl K) (kG K) yX3_readComparison cX3_readComparison 4 none hd [.ref (ro_ad (kG K) 50), .ref (ro_ad (kG K) 60), .int v2] μ none out) {v2 : Int32} {v3 : Int32}  {μ : ro_Mem} {rec : (Int32 × Int32 × ro_Mem) → Option (ro_Mem ⊕ ro_Mem)} {v4 : Int32} {v5 : Int32} {q : (ro_Mem ⊕ ro_Mem)} (hrec : ∀ (s : Int32 × Int32 × ro_Mem) (q : (ro_Mem ⊕ ro_Mem)), rec s = some q → ok_X3_readChain_6 K v2 v3 q → ro_X K 6 [(0, .ref (ro_ad (kG K) 50)), (1, .ref (ro_ad (kG K) 60)), (2, .int v2), (3, .int v3), (4, .int s.1), (5, .int s.2.1)] [] s.2.2) (hf : fb_X3_readChain_6 F_X3_readChain F_X3_readPiece F_X3_readFactor F_X3_readComparison v2 v3 rec v4 v5 μ = some q) (hq : ok_X3_readChain_6 K v2 v3 q) : ro_X K 6 [(0, .ref (ro_ad (kG K) 50)), (1, .ref (ro_ad (kG K) 60)), (2, .int v2), (3, .int v3), (4, .int v4), (5, .int v5)] [] μ := by
  unfold fb_X3_readChain_6 at hf
  refine ro_iload hK 5 rfl dX3_readChain_6 ?_
  refine ro_sipush (v := 200) hK dX3_readChain_8 (by decide) ?_
  refine ro_icmp_ge hK 192 dX3_readChain_11 (by decide) (fun c1 => ?_) (fun c1 => ?_)
  · have hf := ro_it hf c1
    refine ro_sub (L' := []) [] rfl ?_
    obtain rfl := Option.some.inj hf
    exact hq
  · have hf := ro_ie hf c1
    refine ro_aload_n hK 1 rfl dX3_readChain_14 rfl ?_
    refine ro_geti hK fl_X3_25 sh_60 dX3_readChain_15 ?_
    refine ro_if_ne hK 192 dX3_readChain_18 (by decide) (fun c2 => ?_) (fun c2 => ?_)
    · have hf := ro_ie hf c2
      refine ro_sub (L' := []) [] rfl ?_
      obtain rfl := Option.some.inj hf
      exact hq
    · have hf := ro_it hf c2
      refine ro_iload hK 4 rfl dX3_readChain_21 ?_
      refine ro_bipush (v := 11) hK dX3_readChain_23 (by decide) ?_
      refine ro_icmp_eq hK 35 dX3_readChain_25 (by decide) (fun c3 => ?_) (fun c3 => ?_)
      · have hf := ro_it hf c3
        exact bj_X3_readChain_35 hhd hK hR H_X3_readChain H_X3_readPiece H_X3_readFactor H_X3_readComparison  hrec hf hq
      · have hf := ro_ie hf c3
        refine ro_iload hK 4 rfl dX3_readChain_28 ?_
        refine ro_bipush (v := 12) hK dX3_readChain_30 (by decide) ?_
        refine ro_icmp_ne hK 39 dX3_readChain_32 (by decide) (fun c29 => ?_) (fun c29 => ?_)
        · have hf := ro_ie hf c29
          refine ro_iconst (v := 0) hK dX3_readChain_39 (by decide) ?_
          exact bj_X3_readChain_40 hhd hK hR H_X3_readChain H_X3_readPiece H_X3_readFactor H_X3_readComparison  hrec hf hq
        · have hf := ro_it hf c29
          exact bj_X3_readChain_35 hhd hK hR H_X3_readChain H_X3_readPiece H_X3_readFactor H_X3_readComparison  hrec hf hq
def fl_X3_readChain_6 (F_X3_readChain : Int32 → Int32 → ro_Mem → Option ro_Mem) (F_X3_readPiece : Int32 → ro_Mem → Option ro_Mem) (F_X3_readFactor : Int32 → ro_Mem → Option ro_Mem) (F_X3_readComparison : Int32 → ro_Mem → Option ro_Mem) (v2 : Int32) (v3 : Int32) : (Int32 × Int32 × ro_Mem) → Option (ro_Mem ⊕ ro_Mem) :=
  ro_loop (fun rec s => fb_X3_readChain_6 F_X3_readChain F_X3_readPiece F_X3_readFactor F_X3_readComparison v2 v3 rec s.1 s.2.1 s.2.2) ro_FU
theorem lp_X3_readChain_6 {K : ro_K} {hd : Nat} (hhd : 6 ≤ hd) (hK : ro_C K RX3 cX3_readChain 8 (hd + 1)) (hR : ro_R K none) {F_X3_readChain : Int32 → Int32 → ro_Mem → Option ro_Mem} {F_X3_readPiece : Int32 → ro_Mem → Option ro_Mem} {F_X3_readFactor : Int32 → ro_Mem → Option ro_Mem} {F_X3_readComparison : Int32 → ro_Mem → Option ro_Mem} (H_X3_readChain : ∀ (v2 : Int32) (v3 : Int32) (μ : ro_Mem) (out : ro_Mem), F_X3_readChain v2 v3 μ = some out → ro_MX (kl K) (kG K) yX3_readChain cX3_readChain 8 none hd [.ref (ro_ad (kG K) 50), .ref (ro_ad (kG K) 60), .int v2, .int v3] μ none out) (H_X3_readPiece : ∀ (v2 : Int32) (μ : ro_Mem) (out : ro_Mem), F_X3_readPiece v2 μ = some out → ro_MX (kl K) (kG K) yX3_readPiece cX3_readPiece 4 none hd [.ref (ro_ad (kG K) 50), .ref (ro_ad (kG K) 60), .int v2] μ none out) (H_X3_readFactor : ∀ (v2 : Int32) (μ : ro_Mem) (out : ro_Mem), F_X3_readFactor v2 μ = some out → ro_MX (kl K) (kG K) yX3_readFactor cX3_readFactor 4 none hd [.ref (ro_ad (kG K) 50), .ref (ro_ad (kG K) 60), .int v2] μ none out) (H_X3_readComparison : ∀ (v2 : Int32) (μ : ro_Mem) (out : ro_Mem), F_X3_readComparison v2 μ = some out → ro_MX (kl K) (kG K) yX3_readComparison cX3_readComparison 4 none hd [.ref (ro_ad (kG K) 50), .ref (ro_ad (kG K) 60), .int v2] μ none out) {v2 : Int32} {v3 : Int32}  {s : Int32 × Int32 × ro_Mem} {q : (ro_Mem ⊕ ro_Mem)} (hf : fl_X3_readChain_6 F_X3_readChain F_X3_readPiece F_X3_readFactor F_X3_readComparison v2 v3 s = some q) (hq : ok_X3_readChain_6 K v2 v3 q) : ro_X K 6 [(0, .ref (ro_ad (kG K) 50)), (1, .ref (ro_ad (kG K) 60)), (2, .int v2), (3, .int v3), (4, .int s.1), (5, .int s.2.1)] [] s.2.2 :=
  ro_loopX (b := fun rec s => fb_X3_readChain_6 F_X3_readChain F_X3_readPiece F_X3_readFactor F_X3_readComparison v2 v3 rec s.1 s.2.1 s.2.2) (X := fun s => ro_X K 6 [(0, .ref (ro_ad (kG K) 50)), (1, .ref (ro_ad (kG K) 60)), (2, .int v2), (3, .int v3), (4, .int s.1), (5, .int s.2.1)] [] s.2.2) (OK := ok_X3_readChain_6 K v2 v3) (fun rec s q hrec hb ho => bb_X3_readChain_6 hhd hK hR H_X3_readChain H_X3_readPiece H_X3_readFactor H_X3_readComparison  hrec hb ho) ro_FU s q hf hq
def fo_X3_readChain (F_X3_readChain : Int32 → Int32 → ro_Mem → Option ro_Mem) (F_X3_readPiece : Int32 → ro_Mem → Option ro_Mem) (F_X3_readFactor : Int32 → ro_Mem → Option ro_Mem) (F_X3_readComparison : Int32 → ro_Mem → Option ro_Mem) (v2 : Int32) (v3 : Int32) (μ : ro_Mem) : Option ro_Mem :=
  (fl_X3_readChain_6 F_X3_readChain F_X3_readPiece F_X3_readFactor F_X3_readComparison v2 v3 ((-1), 0, μ)).bind fun q30 =>
  q30.elim (fun e32 => some e32) (fun e33 => some e33)
theorem be_X3_readChain {K : ro_K} {hd : Nat} (hhd : 6 ≤ hd) (hK : ro_C K RX3 cX3_readChain 8 (hd + 1)) (hR : ro_R K none) {F_X3_readChain : Int32 → Int32 → ro_Mem → Option ro_Mem} {F_X3_readPiece : Int32 → ro_Mem → Option ro_Mem} {F_X3_readFactor : Int32 → ro_Mem → Option ro_Mem} {F_X3_readComparison : Int32 → ro_Mem → Option ro_Mem} (H_X3_readChain : ∀ (v2 : Int32) (v3 : Int32) (μ : ro_Mem) (out : ro_Mem), F_X3_readChain v2 v3 μ = some out → ro_MX (kl K) (kG K) yX3_readChain cX3_readChain 8 none hd [.ref (ro_ad (kG K) 50), .ref (ro_ad (kG K) 60), .int v2, .int v3] μ none out) (H_X3_readPiece : ∀ (v2 : Int32) (μ : ro_Mem) (out : ro_Mem), F_X3_readPiece v2 μ = some out → ro_MX (kl K) (kG K) yX3_readPiece cX3_readPiece 4 none hd [.ref (ro_ad (kG K) 50), .ref (ro_ad (kG K) 60), .int v2] μ none out) (H_X3_readFactor : ∀ (v2 : Int32) (μ : ro_Mem) (out : ro_Mem), F_X3_readFactor v2 μ = some out → ro_MX (kl K) (kG K) yX3_readFactor cX3_readFactor 4 none hd [.ref (ro_ad (kG K) 50), .ref (ro_ad (kG K) 60), .int v2] μ none out) (H_X3_readComparison : ∀ (v2 : Int32) (μ : ro_Mem) (out : ro_Mem), F_X3_readComparison v2 μ = some out → ro_MX (kl K) (kG K) yX3_readComparison cX3_readComparison 4 none hd [.ref (ro_ad (kG K) 50), .ref (ro_ad (kG K) 60), .int v2] μ none out) {v2 : Int32} {v3 : Int32}  {μ : ro_Mem} {out : ro_Mem} (hf : fo_X3_readChain F_X3_readChain F_X3_readPiece F_X3_readFactor F_X3_readComparison v2 v3 μ = some out) (hq : kQ K none out) : ro_X K 0 [(0, .ref (ro_ad (kG K) 50)), (1, .ref (ro_ad (kG K) 60)), (2, .int v2), (3, .int v3)] [] μ := by
  unfold fo_X3_readChain at hf
  refine ro_iconst (v := (-1)) hK dX3_readChain_0 (by decide) ?_
  refine ro_istore (L' := [(4, .int (-1)), (0, .ref (ro_ad (kG K) 50)), (1, .ref (ro_ad (kG K) 60)), (2, .int v2), (3, .int v3)]) hK dX3_readChain_1 (by decide) rfl ?_
  refine ro_iconst (v := 0) hK dX3_readChain_3 (by decide) ?_
  refine ro_istore (L' := [(5, .int 0), (4, .int (-1)), (0, .ref (ro_ad (kG K) 50)), (1, .ref (ro_ad (kG K) 60)), (2, .int v2), (3, .int v3)]) hK dX3_readChain_4 (by decide) rfl ?_
  obtain ⟨q30, e31, hf⟩ := ro_bd hf
  refine ro_sub (L' := [(0, .ref (ro_ad (kG K) 50)), (1, .ref (ro_ad (kG K) 60)), (2, .int v2), (3, .int v3), (4, .int (-1)), (5, .int 0)]) [2, 3, 4, 5, 1, 0] rfl ?_
  refine lp_X3_readChain_6 hhd hK hR H_X3_readChain H_X3_readPiece H_X3_readFactor H_X3_readComparison  e31 ?_
  rcases q30 with e32 | e33
  · have hf := ro_el hf
    show ro_X K 175 [] [] e32
    obtain rfl := Option.some.inj hf
    exact ro_vret hK hR dX3_readChain_175 hq
  · have hf := ro_er hf
    show ro_X K 192 [] [] e33
    obtain rfl := Option.some.inj hf
    exact ro_vret hK hR dX3_readChain_192 hq
theorem mo_X3_readChain (l : Launch) (G : ro_G) {hd : Nat} (hhd : 6 ≤ hd) {F_X3_readChain : Int32 → Int32 → ro_Mem → Option ro_Mem} {F_X3_readPiece : Int32 → ro_Mem → Option ro_Mem} {F_X3_readFactor : Int32 → ro_Mem → Option ro_Mem} {F_X3_readComparison : Int32 → ro_Mem → Option ro_Mem} (H_X3_readChain : ∀ (v2 : Int32) (v3 : Int32) (μ : ro_Mem) (out : ro_Mem), F_X3_readChain v2 v3 μ = some out → ro_MX l G yX3_readChain cX3_readChain 8 none hd [.ref (ro_ad G 50), .ref (ro_ad G 60), .int v2, .int v3] μ none out) (H_X3_readPiece : ∀ (v2 : Int32) (μ : ro_Mem) (out : ro_Mem), F_X3_readPiece v2 μ = some out → ro_MX l G yX3_readPiece cX3_readPiece 4 none hd [.ref (ro_ad G 50), .ref (ro_ad G 60), .int v2] μ none out) (H_X3_readFactor : ∀ (v2 : Int32) (μ : ro_Mem) (out : ro_Mem), F_X3_readFactor v2 μ = some out → ro_MX l G yX3_readFactor cX3_readFactor 4 none hd [.ref (ro_ad G 50), .ref (ro_ad G 60), .int v2] μ none out) (H_X3_readComparison : ∀ (v2 : Int32) (μ : ro_Mem) (out : ro_Mem), F_X3_readComparison v2 μ = some out → ro_MX l G yX3_readComparison cX3_readComparison 4 none hd [.ref (ro_ad G 50), .ref (ro_ad G 60), .int v2] μ none out) {v2 : Int32} {v3 : Int32}  {μ : ro_Mem} {out : ro_Mem} (hf : fo_X3_readChain F_X3_readChain F_X3_readPiece F_X3_readFactor F_X3_readComparison v2 v3 μ = some out) : ro_MX l G yX3_readChain cX3_readChain 8 none (hd + 1) [.ref (ro_ad G 50), .ref (ro_ad G 60), .int v2, .int v3] μ none out := by
  refine ro_MX.of (by decide +kernel) (Nat.le_of_ble_eq_true rfl) (fun K hG hl hq hK hR => ?_)
  subst hG
  subst hl
  exact be_X3_readChain hhd hK hR H_X3_readChain H_X3_readPiece H_X3_readFactor H_X3_readComparison  hf hq
-- ===== X3_readPiece =====
theorem dX3_readPiece_0 : decode cX3_readPiece 0 = .ok (.aload_n 1, 1) := by decide +kernel
theorem dX3_readPiece_1 : decode cX3_readPiece 1 = .ok (.invokevirtual 34, 3) := by decide +kernel
theorem dX3_readPiece_4 : decode cX3_readPiece 4 = .ok (.istore_n 3, 1) := by decide +kernel
theorem dX3_readPiece_5 : decode cX3_readPiece 5 = .ok (.iload_n 3, 1) := by decide +kernel
theorem dX3_readPiece_6 : decode cX3_readPiece 6 = .ok (.bipush 33, 2) := by decide +kernel
theorem dX3_readPiece_8 : decode cX3_readPiece 8 = .ok (.if_icmp .ne 34, 3) := by decide +kernel
theorem dX3_readPiece_11 : decode cX3_readPiece 11 = .ok (.aload_n 0, 1) := by decide +kernel
theorem dX3_readPiece_12 : decode cX3_readPiece 12 = .ok (.aload_n 1, 1) := by decide +kernel
theorem dX3_readPiece_13 : decode cX3_readPiece 13 = .ok (.iload_n 2, 1) := by decide +kernel
theorem dX3_readPiece_14 : decode cX3_readPiece 14 = .ok (.invokevirtual 93, 3) := by decide +kernel
theorem dX3_readPiece_17 : decode cX3_readPiece 17 = .ok (.ifCond .eq 64, 3) := by decide +kernel
theorem dX3_readPiece_20 : decode cX3_readPiece 20 = .ok (.aload_n 0, 1) := by decide +kernel
theorem dX3_readPiece_21 : decode cX3_readPiece 21 = .ok (.aload_n 1, 1) := by decide +kernel
theorem dX3_readPiece_22 : decode cX3_readPiece 22 = .ok (.iload_n 2, 1) := by decide +kernel
theorem dX3_readPiece_23 : decode cX3_readPiece 23 = .ok (.iconst 1, 1) := by decide +kernel
theorem dX3_readPiece_24 : decode cX3_readPiece 24 = .ok (.iadd, 1) := by decide +kernel
theorem dX3_readPiece_25 : decode cX3_readPiece 25 = .ok (.invokevirtual 76, 3) := by decide +kernel
theorem dX3_readPiece_28 : decode cX3_readPiece 28 = .ok (.aload_n 0, 1) := by decide +kernel
theorem dX3_readPiece_29 : decode cX3_readPiece 29 = .ok (.getfield 12, 3) := by decide +kernel
theorem dX3_readPiece_32 : decode cX3_readPiece 32 = .ok (.bipush 10, 2) := by decide +kernel
theorem dX3_readPiece_34 : decode cX3_readPiece 34 = .ok (.iconst 0, 1) := by decide +kernel
theorem dX3_readPiece_35 : decode cX3_readPiece 35 = .ok (.invokevirtual 72, 3) := by decide +kernel
theorem dX3_readPiece_38 : decode cX3_readPiece 38 = .ok (.pop, 1) := by decide +kernel
theorem dX3_readPiece_39 : decode cX3_readPiece 39 = .ok (.goto 42, 3) := by decide +kernel
theorem dX3_readPiece_42 : decode cX3_readPiece 42 = .ok (.iload_n 3, 1) := by decide +kernel
theorem dX3_readPiece_43 : decode cX3_readPiece 43 = .ok (.bipush 40, 2) := by decide +kernel
theorem dX3_readPiece_45 : decode cX3_readPiece 45 = .ok (.if_icmp .ne 30, 3) := by decide +kernel
theorem dX3_readPiece_48 : decode cX3_readPiece 48 = .ok (.aload_n 0, 1) := by decide +kernel
theorem dX3_readPiece_49 : decode cX3_readPiece 49 = .ok (.aload_n 1, 1) := by decide +kernel
theorem dX3_readPiece_50 : decode cX3_readPiece 50 = .ok (.iload_n 2, 1) := by decide +kernel
theorem dX3_readPiece_51 : decode cX3_readPiece 51 = .ok (.invokevirtual 93, 3) := by decide +kernel
theorem dX3_readPiece_54 : decode cX3_readPiece 54 = .ok (.ifCond .eq 27, 3) := by decide +kernel
theorem dX3_readPiece_57 : decode cX3_readPiece 57 = .ok (.aload_n 0, 1) := by decide +kernel
theorem dX3_readPiece_58 : decode cX3_readPiece 58 = .ok (.aload_n 1, 1) := by decide +kernel
theorem dX3_readPiece_59 : decode cX3_readPiece 59 = .ok (.iconst 0, 1) := by decide +kernel
theorem dX3_readPiece_60 : decode cX3_readPiece 60 = .ok (.iload_n 2, 1) := by decide +kernel
theorem dX3_readPiece_61 : decode cX3_readPiece 61 = .ok (.iconst 1, 1) := by decide +kernel
theorem dX3_readPiece_62 : decode cX3_readPiece 62 = .ok (.iadd, 1) := by decide +kernel
theorem dX3_readPiece_63 : decode cX3_readPiece 63 = .ok (.invokevirtual 62, 3) := by decide +kernel
theorem dX3_readPiece_66 : decode cX3_readPiece 66 = .ok (.aload_n 1, 1) := by decide +kernel
theorem dX3_readPiece_67 : decode cX3_readPiece 67 = .ok (.bipush 41, 2) := by decide +kernel
theorem dX3_readPiece_69 : decode cX3_readPiece 69 = .ok (.invokevirtual 38, 3) := by decide +kernel
theorem dX3_readPiece_72 : decode cX3_readPiece 72 = .ok (.goto 9, 3) := by decide +kernel
theorem dX3_readPiece_75 : decode cX3_readPiece 75 = .ok (.aload_n 0, 1) := by decide +kernel
theorem dX3_readPiece_76 : decode cX3_readPiece 76 = .ok (.aload_n 1, 1) := by decide +kernel
theorem dX3_readPiece_77 : decode cX3_readPiece 77 = .ok (.iload_n 2, 1) := by decide +kernel
theorem dX3_readPiece_78 : decode cX3_readPiece 78 = .ok (.invokevirtual 97, 3) := by decide +kernel
theorem dX3_readPiece_81 : decode cX3_readPiece 81 = .ok (.return_, 1) := by decide +kernel
def fo_X3_readPiece (F_X3_readChain : Int32 → Int32 → ro_Mem → Option ro_Mem) (F_X3_readPiece : Int32 → ro_Mem → Option ro_Mem) (F_X3_readFactor : Int32 → ro_Mem → Option ro_Mem) (F_X3_readComparison : Int32 → ro_Mem → Option ro_Mem) (v2 : Int32) (μ : ro_Mem) : Option ro_Mem :=
  (fn_X8_peek μ).bind fun q1 =>
  if q1 = 33 then
  ((fn_X3_enter v2 μ).bind fun q14 =>
  if q14.1 = 0 then
  (some q14.2)
  else
  ((F_X3_readPiece (v2 + 1) q14.2).bind fun q17 =>
  if ro_sh (ro_rf q17 50 0) = (0, 2) then
  ((fn_X2_emit (ro_rf q17 50 0) 10 0 q17).bind fun q20 =>
  some q20.2) else none))
  else
  (if q1 = 40 then
  ((fn_X3_enter v2 μ).bind fun q7 =>
  if q7.1 = 0 then
  (some q7.2)
  else
  ((F_X3_readChain 0 (v2 + 1) q7.2).bind fun q10 =>
  (fn_X8_pass 41 q10).bind fun q12 =>
  some q12))
  else
  ((F_X3_readComparison v2 μ).bind fun q5 =>
  some q5))
theorem be_X3_readPiece {K : ro_K} {hd : Nat} (hhd : 6 ≤ hd) (hK : ro_C K RX3 cX3_readPiece 4 (hd + 1)) (hR : ro_R K none) {F_X3_readChain : Int32 → Int32 → ro_Mem → Option ro_Mem} {F_X3_readPiece : Int32 → ro_Mem → Option ro_Mem} {F_X3_readFactor : Int32 → ro_Mem → Option ro_Mem} {F_X3_readComparison : Int32 → ro_Mem → Option ro_Mem} (H_X3_readChain : ∀ (v2 : Int32) (v3 : Int32) (μ : ro_Mem) (out : ro_Mem), F_X3_readChain v2 v3 μ = some out → ro_MX (kl K) (kG K) yX3_readChain cX3_readChain 8 none hd [.ref (ro_ad (kG K) 50), .ref (ro_ad (kG K) 60), .int v2, .int v3] μ none out) (H_X3_readPiece : ∀ (v2 : Int32) (μ : ro_Mem) (out : ro_Mem), F_X3_readPiece v2 μ = some out → ro_MX (kl K) (kG K) yX3_readPiece cX3_readPiece 4 none hd [.ref (ro_ad (kG K) 50), .ref (ro_ad (kG K) 60), .int v2] μ none out) (H_X3_readFactor : ∀ (v2 : Int32) (μ : ro_Mem) (out : ro_Mem), F_X3_readFactor v2 μ = some out → ro_MX (kl K) (kG K) yX3_readFactor cX3_readFactor 4 none hd [.ref (ro_ad (kG K) 50), .ref (ro_ad (kG K) 60), .int v2] μ none out) (H_X3_readComparison : ∀ (v2 : Int32) (μ : ro_Mem) (out : ro_Mem), F_X3_readComparison v2 μ = some out → ro_MX (kl K) (kG K) yX3_readComparison cX3_readComparison 4 none hd [.ref (ro_ad (kG K) 50), .ref (ro_ad (kG K) 60), .int v2] μ none out) {v2 : Int32}  {μ : ro_Mem} {out : ro_Mem} (hf : fo_X3_readPiece F_X3_readChain F_X3_readPiece F_X3_readFactor F_X3_readComparison v2 μ = some out) (hq : kQ K none out) : ro_X K 0 [(0, .ref (ro_ad (kG K) 50)), (1, .ref (ro_ad (kG K) 60)), (2, .int v2)] [] μ := by
  unfold fo_X3_readPiece at hf
  refine ro_aload_n hK 1 rfl dX3_readPiece_0 rfl ?_
  obtain ⟨q1, e2, hf⟩ := ro_bd hf
  refine ro_callvi hK [] ml_X3_34 mv_X8_peek (mt_X8_peek (kl K) (kG K)  e2) sh_60 ⟨_, rfl, rfl⟩ (by omega) rfl rfl (Nat.le_of_ble_eq_true rfl) dX3_readPiece_1 ?_
  refine ro_istore_n (L' := [(3, .int q1), (0, .ref (ro_ad (kG K) 50)), (1, .ref (ro_ad (kG K) 60)), (2, .int v2)]) hK dX3_readPiece_4 rfl (by decide) rfl ?_
  refine ro_iload_n hK 0 rfl dX3_readPiece_5 rfl ?_
  refine ro_bipush (v := 33) hK dX3_readPiece_6 (by decide) ?_
  refine ro_icmp_ne hK 42 dX3_readPiece_8 (by decide) (fun c3 => ?_) (fun c3 => ?_)
  · have hf := ro_ie hf c3
    refine ro_iload_n hK 0 rfl dX3_readPiece_42 rfl ?_
    refine ro_bipush (v := 40) hK dX3_readPiece_43 (by decide) ?_
    refine ro_icmp_ne hK 75 dX3_readPiece_45 (by decide) (fun c4 => ?_) (fun c4 => ?_)
    · have hf := ro_ie hf c4
      refine ro_aload_n hK 1 rfl dX3_readPiece_75 rfl ?_
      refine ro_aload_n hK 2 rfl dX3_readPiece_76 rfl ?_
      refine ro_iload_n hK 3 rfl dX3_readPiece_77 rfl ?_
      obtain ⟨q5, e6, hf⟩ := ro_bd hf
      refine ro_callvv hK [.ref (ro_ad (kG K) 60), .int v2] ml_X3_97 mv_X3_readComparison (H_X3_readComparison _ _ _ e6) sh_50 ⟨_, rfl, rfl⟩ (Nat.le_refl _) rfl rfl (Nat.le_of_ble_eq_true rfl) dX3_readPiece_78 ?_
      obtain rfl := Option.some.inj hf
      exact ro_vret hK hR dX3_readPiece_81 hq
    · have hf := ro_it hf c4
      refine ro_aload_n hK 1 rfl dX3_readPiece_48 rfl ?_
      refine ro_aload_n hK 2 rfl dX3_readPiece_49 rfl ?_
      refine ro_iload_n hK 3 rfl dX3_readPiece_50 rfl ?_
      obtain ⟨q7, e8, hf⟩ := ro_bd hf
      refine ro_callvi hK [.ref (ro_ad (kG K) 60), .int v2] ml_X3_93 mv_X3_enter (mt_X3_enter (kl K) (kG K)  e8) sh_50 ⟨_, rfl, rfl⟩ (by omega) rfl rfl (Nat.le_of_ble_eq_true rfl) dX3_readPiece_51 ?_
      refine ro_if_eq hK 81 dX3_readPiece_54 (by decide) (fun c9 => ?_) (fun c9 => ?_)
      · have hf := ro_it hf c9
        obtain rfl := Option.some.inj hf
        exact ro_vret hK hR dX3_readPiece_81 hq
      · have hf := ro_ie hf c9
        refine ro_aload_n hK 1 rfl dX3_readPiece_57 rfl ?_
        refine ro_aload_n hK 2 rfl dX3_readPiece_58 rfl ?_
        refine ro_iconst (v := 0) hK dX3_readPiece_59 (by decide) ?_
        refine ro_iload_n hK 3 rfl dX3_readPiece_60 rfl ?_
        refine ro_iconst (v := 1) hK dX3_readPiece_61 (by decide) ?_
        refine ro_iadd hK dX3_readPiece_62 ?_
        obtain ⟨q10, e11, hf⟩ := ro_bd hf
        refine ro_callvv hK [.ref (ro_ad (kG K) 60), .int 0, .int (v2 + 1)] ml_X3_62 mv_X3_readChain (H_X3_readChain _ _ _ _ e11) sh_50 ⟨_, rfl, rfl⟩ (Nat.le_refl _) rfl rfl (Nat.le_of_ble_eq_true rfl) dX3_readPiece_63 ?_
        refine ro_aload_n hK 2 rfl dX3_readPiece_66 rfl ?_
        refine ro_bipush (v := 41) hK dX3_readPiece_67 (by decide) ?_
        obtain ⟨q12, e13, hf⟩ := ro_bd hf
        refine ro_callvv hK [.int 41] ml_X3_38 mv_X8_pass (mt_X8_pass (kl K) (kG K)  e13) sh_60 ⟨_, rfl, rfl⟩ (by omega) rfl rfl (Nat.le_of_ble_eq_true rfl) dX3_readPiece_69 ?_
        refine ro_goto hK 81 dX3_readPiece_72 (by decide) ?_
        obtain rfl := Option.some.inj hf
        exact ro_vret hK hR dX3_readPiece_81 hq
  · have hf := ro_it hf c3
    refine ro_aload_n hK 1 rfl dX3_readPiece_11 rfl ?_
    refine ro_aload_n hK 2 rfl dX3_readPiece_12 rfl ?_
    refine ro_iload_n hK 3 rfl dX3_readPiece_13 rfl ?_
    obtain ⟨q14, e15, hf⟩ := ro_bd hf
    refine ro_callvi hK [.ref (ro_ad (kG K) 60), .int v2] ml_X3_93 mv_X3_enter (mt_X3_enter (kl K) (kG K)  e15) sh_50 ⟨_, rfl, rfl⟩ (by omega) rfl rfl (Nat.le_of_ble_eq_true rfl) dX3_readPiece_14 ?_
    refine ro_if_eq hK 81 dX3_readPiece_17 (by decide) (fun c16 => ?_) (fun c16 => ?_)
    · have hf := ro_it hf c16
      obtain rfl := Option.some.inj hf
      exact ro_vret hK hR dX3_readPiece_81 hq
    · have hf := ro_ie hf c16
      refine ro_aload_n hK 1 rfl dX3_readPiece_20 rfl ?_
      refine ro_aload_n hK 2 rfl dX3_readPiece_21 rfl ?_
      refine ro_iload_n hK 3 rfl dX3_readPiece_22 rfl ?_
      refine ro_iconst (v := 1) hK dX3_readPiece_23 (by decide) ?_
      refine ro_iadd hK dX3_readPiece_24 ?_
      obtain ⟨q17, e18, hf⟩ := ro_bd hf
      refine ro_callvv hK [.ref (ro_ad (kG K) 60), .int (v2 + 1)] ml_X3_76 mv_X3_readPiece (H_X3_readPiece _ _ _ e18) sh_50 ⟨_, rfl, rfl⟩ (Nat.le_refl _) rfl rfl (Nat.le_of_ble_eq_true rfl) dX3_readPiece_25 ?_
      refine ro_aload_n hK 1 rfl dX3_readPiece_28 rfl ?_
      obtain ⟨g19, hf⟩ := ro_gd hf
      refine ro_getm hK fl_X3_12 sh_50 dX3_readPiece_29 ?_
      refine ro_bipush (v := 10) hK dX3_readPiece_32 (by decide) ?_
      refine ro_iconst (v := 0) hK dX3_readPiece_34 (by decide) ?_
      obtain ⟨q20, e21, hf⟩ := ro_bd hf
      refine ro_callvi hK [.int 10, .int 0] ml_X3_72 mv_X2_emit (mt_X2_emit (kl K) (kG K) g19 e21) g19 ⟨_, rfl, rfl⟩ (by omega) rfl rfl (Nat.le_of_ble_eq_true rfl) dX3_readPiece_35 ?_
      refine ro_pop hK dX3_readPiece_38 rfl ?_
      refine ro_goto hK 81 dX3_readPiece_39 (by decide) ?_
      obtain rfl := Option.some.inj hf
      exact ro_vret hK hR dX3_readPiece_81 hq
theorem mo_X3_readPiece (l : Launch) (G : ro_G) {hd : Nat} (hhd : 6 ≤ hd) {F_X3_readChain : Int32 → Int32 → ro_Mem → Option ro_Mem} {F_X3_readPiece : Int32 → ro_Mem → Option ro_Mem} {F_X3_readFactor : Int32 → ro_Mem → Option ro_Mem} {F_X3_readComparison : Int32 → ro_Mem → Option ro_Mem} (H_X3_readChain : ∀ (v2 : Int32) (v3 : Int32) (μ : ro_Mem) (out : ro_Mem), F_X3_readChain v2 v3 μ = some out → ro_MX l G yX3_readChain cX3_readChain 8 none hd [.ref (ro_ad G 50), .ref (ro_ad G 60), .int v2, .int v3] μ none out) (H_X3_readPiece : ∀ (v2 : Int32) (μ : ro_Mem) (out : ro_Mem), F_X3_readPiece v2 μ = some out → ro_MX l G yX3_readPiece cX3_readPiece 4 none hd [.ref (ro_ad G 50), .ref (ro_ad G 60), .int v2] μ none out) (H_X3_readFactor : ∀ (v2 : Int32) (μ : ro_Mem) (out : ro_Mem), F_X3_readFactor v2 μ = some out → ro_MX l G yX3_readFactor cX3_readFactor 4 none hd [.ref (ro_ad G 50), .ref (ro_ad G 60), .int v2] μ none out) (H_X3_readComparison : ∀ (v2 : Int32) (μ : ro_Mem) (out : ro_Mem), F_X3_readComparison v2 μ = some out → ro_MX l G yX3_readComparison cX3_readComparison 4 none hd [.ref (ro_ad G 50), .ref (ro_ad G 60), .int v2] μ none out) {v2 : Int32}  {μ : ro_Mem} {out : ro_Mem} (hf : fo_X3_readPiece F_X3_readChain F_X3_readPiece F_X3_readFactor F_X3_readComparison v2 μ = some out) : ro_MX l G yX3_readPiece cX3_readPiece 4 none (hd + 1) [.ref (ro_ad G 50), .ref (ro_ad G 60), .int v2] μ none out := by
  refine ro_MX.of (by decide +kernel) (Nat.le_of_ble_eq_true rfl) (fun K hG hl hq hK hR => ?_)
  subst hG
  subst hl
  exact be_X3_readPiece hhd hK hR H_X3_readChain H_X3_readPiece H_X3_readFactor H_X3_readComparison  hf hq
-- ===== X3_readFactor =====
theorem dX3_readFactor_0 : decode cX3_readFactor 0 = .ok (.aload_n 1, 1) := by decide +kernel
theorem dX3_readFactor_1 : decode cX3_readFactor 1 = .ok (.ldc 100, 2) := by decide +kernel
theorem dX3_readFactor_3 : decode cX3_readFactor 3 = .ok (.invokevirtual 44, 3) := by decide +kernel
theorem dX3_readFactor_6 : decode cX3_readFactor 6 = .ok (.istore_n 3, 1) := by decide +kernel
theorem dX3_readFactor_7 : decode cX3_readFactor 7 = .ok (.iload_n 3, 1) := by decide +kernel
theorem dX3_readFactor_8 : decode cX3_readFactor 8 = .ok (.ifCond .lt 27, 3) := by decide +kernel
theorem dX3_readFactor_11 : decode cX3_readFactor 11 = .ok (.aload_n 1, 1) := by decide +kernel
theorem dX3_readFactor_12 : decode cX3_readFactor 12 = .ok (.dup, 1) := by decide +kernel
theorem dX3_readFactor_13 : decode cX3_readFactor 13 = .ok (.getfield 48, 3) := by decide +kernel
theorem dX3_readFactor_16 : decode cX3_readFactor 16 = .ok (.iconst 1, 1) := by decide +kernel
theorem dX3_readFactor_17 : decode cX3_readFactor 17 = .ok (.iadd, 1) := by decide +kernel
theorem dX3_readFactor_18 : decode cX3_readFactor 18 = .ok (.putfield 48, 3) := by decide +kernel
theorem dX3_readFactor_21 : decode cX3_readFactor 21 = .ok (.aload_n 0, 1) := by decide +kernel
theorem dX3_readFactor_22 : decode cX3_readFactor 22 = .ok (.getfield 12, 3) := by decide +kernel
theorem dX3_readFactor_25 : decode cX3_readFactor 25 = .ok (.bipush 9, 2) := by decide +kernel
theorem dX3_readFactor_27 : decode cX3_readFactor 27 = .ok (.iload_n 3, 1) := by decide +kernel
theorem dX3_readFactor_28 : decode cX3_readFactor 28 = .ok (.invokevirtual 72, 3) := by decide +kernel
theorem dX3_readFactor_31 : decode cX3_readFactor 31 = .ok (.pop, 1) := by decide +kernel
theorem dX3_readFactor_32 : decode cX3_readFactor 32 = .ok (.goto 63, 3) := by decide +kernel
theorem dX3_readFactor_35 : decode cX3_readFactor 35 = .ok (.aload_n 1, 1) := by decide +kernel
theorem dX3_readFactor_36 : decode cX3_readFactor 36 = .ok (.invokevirtual 102, 3) := by decide +kernel
theorem dX3_readFactor_39 : decode cX3_readFactor 39 = .ok (.ifCond .lt 11, 3) := by decide +kernel
theorem dX3_readFactor_42 : decode cX3_readFactor 42 = .ok (.aload_n 0, 1) := by decide +kernel
theorem dX3_readFactor_43 : decode cX3_readFactor 43 = .ok (.aload_n 1, 1) := by decide +kernel
theorem dX3_readFactor_44 : decode cX3_readFactor 44 = .ok (.invokevirtual 105, 3) := by decide +kernel
theorem dX3_readFactor_47 : decode cX3_readFactor 47 = .ok (.goto 48, 3) := by decide +kernel
theorem dX3_readFactor_50 : decode cX3_readFactor 50 = .ok (.aload_n 1, 1) := by decide +kernel
theorem dX3_readFactor_51 : decode cX3_readFactor 51 = .ok (.invokevirtual 34, 3) := by decide +kernel
theorem dX3_readFactor_54 : decode cX3_readFactor 54 = .ok (.bipush 91, 2) := by decide +kernel
theorem dX3_readFactor_56 : decode cX3_readFactor 56 = .ok (.if_icmp .eq 15, 3) := by decide +kernel
theorem dX3_readFactor_59 : decode cX3_readFactor 59 = .ok (.aload_n 1, 1) := by decide +kernel
theorem dX3_readFactor_60 : decode cX3_readFactor 60 = .ok (.iconst 1, 1) := by decide +kernel
theorem dX3_readFactor_61 : decode cX3_readFactor 61 = .ok (.aload_n 1, 1) := by decide +kernel
theorem dX3_readFactor_62 : decode cX3_readFactor 62 = .ok (.getfield 48, 3) := by decide +kernel
theorem dX3_readFactor_65 : decode cX3_readFactor 65 = .ok (.invokevirtual 51, 3) := by decide +kernel
theorem dX3_readFactor_68 : decode cX3_readFactor 68 = .ok (.goto 27, 3) := by decide +kernel
theorem dX3_readFactor_71 : decode cX3_readFactor 71 = .ok (.aload_n 0, 1) := by decide +kernel
theorem dX3_readFactor_72 : decode cX3_readFactor 72 = .ok (.aload_n 1, 1) := by decide +kernel
theorem dX3_readFactor_73 : decode cX3_readFactor 73 = .ok (.iload_n 2, 1) := by decide +kernel
theorem dX3_readFactor_74 : decode cX3_readFactor 74 = .ok (.invokevirtual 93, 3) := by decide +kernel
theorem dX3_readFactor_77 : decode cX3_readFactor 77 = .ok (.ifCond .eq 18, 3) := by decide +kernel
theorem dX3_readFactor_80 : decode cX3_readFactor 80 = .ok (.aload_n 0, 1) := by decide +kernel
theorem dX3_readFactor_81 : decode cX3_readFactor 81 = .ok (.aload_n 1, 1) := by decide +kernel
theorem dX3_readFactor_82 : decode cX3_readFactor 82 = .ok (.iconst 2, 1) := by decide +kernel
theorem dX3_readFactor_83 : decode cX3_readFactor 83 = .ok (.iload_n 2, 1) := by decide +kernel
theorem dX3_readFactor_84 : decode cX3_readFactor 84 = .ok (.iconst 1, 1) := by decide +kernel
theorem dX3_readFactor_85 : decode cX3_readFactor 85 = .ok (.iadd, 1) := by decide +kernel
theorem dX3_readFactor_86 : decode cX3_readFactor 86 = .ok (.invokevirtual 62, 3) := by decide +kernel
theorem dX3_readFactor_89 : decode cX3_readFactor 89 = .ok (.aload_n 1, 1) := by decide +kernel
theorem dX3_readFactor_90 : decode cX3_readFactor 90 = .ok (.bipush 93, 2) := by decide +kernel
theorem dX3_readFactor_92 : decode cX3_readFactor 92 = .ok (.invokevirtual 38, 3) := by decide +kernel
theorem dX3_readFactor_95 : decode cX3_readFactor 95 = .ok (.return_, 1) := by decide +kernel
def fo_X3_readFactor (F_X3_readChain : Int32 → Int32 → ro_Mem → Option ro_Mem) (F_X3_readPiece : Int32 → ro_Mem → Option ro_Mem) (F_X3_readFactor : Int32 → ro_Mem → Option ro_Mem) (F_X3_readComparison : Int32 → ro_Mem → Option ro_Mem) (v2 : Int32) (μ : ro_Mem) : Option ro_Mem :=
  (fn_X8_peekAmong 3 μ).bind fun q1 =>
  if q1 < 0 then
  ((fn_X8_peekDigit μ).bind fun q4 =>
  if q4 < 0 then
  ((fn_X8_peek μ).bind fun q7 =>
  if q7 = 91 then
  ((fn_X3_enter v2 μ).bind fun q10 =>
  if q10.1 = 0 then
  (some q10.2)
  else
  ((F_X3_readChain 2 (v2 + 1) q10.2).bind fun q13 =>
  (fn_X8_pass 93 q13).bind fun q15 =>
  some q15))
  else
  ((fn_X8_fail 1 (μ 60 2) μ).bind fun q17 =>
  some q17))
  else
  ((fn_X3_readNumber μ).bind fun q19 =>
  some q19))
  else
  (ro_lt (ro_set μ 60 2 ((μ 60 2) + 1)) fun m21 =>
  if ro_sh (ro_rf m21 50 0) = (0, 2) then
  ((fn_X2_emit (ro_rf m21 50 0) 9 q1 m21).bind fun q24 =>
  some q24.2) else none)
theorem be_X3_readFactor {K : ro_K} {hd : Nat} (hhd : 6 ≤ hd) (hK : ro_C K RX3 cX3_readFactor 4 (hd + 1)) (hR : ro_R K none) {F_X3_readChain : Int32 → Int32 → ro_Mem → Option ro_Mem} {F_X3_readPiece : Int32 → ro_Mem → Option ro_Mem} {F_X3_readFactor : Int32 → ro_Mem → Option ro_Mem} {F_X3_readComparison : Int32 → ro_Mem → Option ro_Mem} (H_X3_readChain : ∀ (v2 : Int32) (v3 : Int32) (μ : ro_Mem) (out : ro_Mem), F_X3_readChain v2 v3 μ = some out → ro_MX (kl K) (kG K) yX3_readChain cX3_readChain 8 none hd [.ref (ro_ad (kG K) 50), .ref (ro_ad (kG K) 60), .int v2, .int v3] μ none out) (H_X3_readPiece : ∀ (v2 : Int32) (μ : ro_Mem) (out : ro_Mem), F_X3_readPiece v2 μ = some out → ro_MX (kl K) (kG K) yX3_readPiece cX3_readPiece 4 none hd [.ref (ro_ad (kG K) 50), .ref (ro_ad (kG K) 60), .int v2] μ none out) (H_X3_readFactor : ∀ (v2 : Int32) (μ : ro_Mem) (out : ro_Mem), F_X3_readFactor v2 μ = some out → ro_MX (kl K) (kG K) yX3_readFactor cX3_readFactor 4 none hd [.ref (ro_ad (kG K) 50), .ref (ro_ad (kG K) 60), .int v2] μ none out) (H_X3_readComparison : ∀ (v2 : Int32) (μ : ro_Mem) (out : ro_Mem), F_X3_readComparison v2 μ = some out → ro_MX (kl K) (kG K) yX3_readComparison cX3_readComparison 4 none hd [.ref (ro_ad (kG K) 50), .ref (ro_ad (kG K) 60), .int v2] μ none out) {v2 : Int32}  {μ : ro_Mem} {out : ro_Mem} (hf : fo_X3_readFactor F_X3_readChain F_X3_readPiece F_X3_readFactor F_X3_readComparison v2 μ = some out) (hq : kQ K none out) : ro_X K 0 [(0, .ref (ro_ad (kG K) 50)), (1, .ref (ro_ad (kG K) 60)), (2, .int v2)] [] μ := by
  unfold fo_X3_readFactor at hf
  refine ro_aload_n hK 1 rfl dX3_readFactor_0 rfl ?_
  refine ro_ldcs hK hK.2.2.2.2.2.2.2.1.2.2.2.1 dX3_readFactor_1 ?_
  obtain ⟨q1, e2, hf⟩ := ro_bd hf
  refine ro_callvi hK [.ref (ro_aK (kG K) 3)] ml_X3_44 mv_X8_peekAmong (mt_X8_peekAmong (kl K) (kG K) (by decide) e2) sh_60 ⟨_, rfl, rfl⟩ (by omega) rfl rfl (Nat.le_of_ble_eq_true rfl) dX3_readFactor_3 ?_
  refine ro_istore_n (L' := [(3, .int q1), (0, .ref (ro_ad (kG K) 50)), (1, .ref (ro_ad (kG K) 60)), (2, .int v2)]) hK dX3_readFactor_6 rfl (by decide) rfl ?_
  refine ro_iload_n hK 0 rfl dX3_readFactor_7 rfl ?_
  refine ro_if_lt hK 35 dX3_readFactor_8 (by decide) (fun c3 => ?_) (fun c3 => ?_)
  · have hf := ro_it hf c3
    refine ro_aload_n hK 2 rfl dX3_readFactor_35 rfl ?_
    obtain ⟨q4, e5, hf⟩ := ro_bd hf
    refine ro_callvi hK [] ml_X3_102 mv_X8_peekDigit (mt_X8_peekDigit (kl K) (kG K)  e5) sh_60 ⟨_, rfl, rfl⟩ (by omega) rfl rfl (Nat.le_of_ble_eq_true rfl) dX3_readFactor_36 ?_
    refine ro_if_lt hK 50 dX3_readFactor_39 (by decide) (fun c6 => ?_) (fun c6 => ?_)
    · have hf := ro_it hf c6
      refine ro_aload_n hK 2 rfl dX3_readFactor_50 rfl ?_
      obtain ⟨q7, e8, hf⟩ := ro_bd hf
      refine ro_callvi hK [] ml_X3_34 mv_X8_peek (mt_X8_peek (kl K) (kG K)  e8) sh_60 ⟨_, rfl, rfl⟩ (by omega) rfl rfl (Nat.le_of_ble_eq_true rfl) dX3_readFactor_51 ?_
      refine ro_bipush (v := 91) hK dX3_readFactor_54 (by decide) ?_
      refine ro_icmp_eq hK 71 dX3_readFactor_56 (by decide) (fun c9 => ?_) (fun c9 => ?_)
      · have hf := ro_it hf c9
        refine ro_aload_n hK 1 rfl dX3_readFactor_71 rfl ?_
        refine ro_aload_n hK 2 rfl dX3_readFactor_72 rfl ?_
        refine ro_iload_n hK 3 rfl dX3_readFactor_73 rfl ?_
        obtain ⟨q10, e11, hf⟩ := ro_bd hf
        refine ro_callvi hK [.ref (ro_ad (kG K) 60), .int v2] ml_X3_93 mv_X3_enter (mt_X3_enter (kl K) (kG K)  e11) sh_50 ⟨_, rfl, rfl⟩ (by omega) rfl rfl (Nat.le_of_ble_eq_true rfl) dX3_readFactor_74 ?_
        refine ro_if_eq hK 95 dX3_readFactor_77 (by decide) (fun c12 => ?_) (fun c12 => ?_)
        · have hf := ro_it hf c12
          obtain rfl := Option.some.inj hf
          exact ro_vret hK hR dX3_readFactor_95 hq
        · have hf := ro_ie hf c12
          refine ro_aload_n hK 1 rfl dX3_readFactor_80 rfl ?_
          refine ro_aload_n hK 2 rfl dX3_readFactor_81 rfl ?_
          refine ro_iconst (v := 2) hK dX3_readFactor_82 (by decide) ?_
          refine ro_iload_n hK 3 rfl dX3_readFactor_83 rfl ?_
          refine ro_iconst (v := 1) hK dX3_readFactor_84 (by decide) ?_
          refine ro_iadd hK dX3_readFactor_85 ?_
          obtain ⟨q13, e14, hf⟩ := ro_bd hf
          refine ro_callvv hK [.ref (ro_ad (kG K) 60), .int 2, .int (v2 + 1)] ml_X3_62 mv_X3_readChain (H_X3_readChain _ _ _ _ e14) sh_50 ⟨_, rfl, rfl⟩ (Nat.le_refl _) rfl rfl (Nat.le_of_ble_eq_true rfl) dX3_readFactor_86 ?_
          refine ro_aload_n hK 2 rfl dX3_readFactor_89 rfl ?_
          refine ro_bipush (v := 93) hK dX3_readFactor_90 (by decide) ?_
          obtain ⟨q15, e16, hf⟩ := ro_bd hf
          refine ro_callvv hK [.int 93] ml_X3_38 mv_X8_pass (mt_X8_pass (kl K) (kG K)  e16) sh_60 ⟨_, rfl, rfl⟩ (by omega) rfl rfl (Nat.le_of_ble_eq_true rfl) dX3_readFactor_92 ?_
          obtain rfl := Option.some.inj hf
          exact ro_vret hK hR dX3_readFactor_95 hq
      · have hf := ro_ie hf c9
        refine ro_aload_n hK 2 rfl dX3_readFactor_59 rfl ?_
        refine ro_iconst (v := 1) hK dX3_readFactor_60 (by decide) ?_
        refine ro_aload_n hK 2 rfl dX3_readFactor_61 rfl ?_
        refine ro_geti hK fl_X3_48 sh_60 dX3_readFactor_62 ?_
        obtain ⟨q17, e18, hf⟩ := ro_bd hf
        refine ro_callvv hK [.int 1, .int (μ 60 2)] ml_X3_51 mv_X8_fail (mt_X8_fail (kl K) (kG K)  e18) sh_60 ⟨_, rfl, rfl⟩ (by omega) rfl rfl (Nat.le_of_ble_eq_true rfl) dX3_readFactor_65 ?_
        refine ro_goto hK 95 dX3_readFactor_68 (by decide) ?_
        obtain rfl := Option.some.inj hf
        exact ro_vret hK hR dX3_readFactor_95 hq
    · have hf := ro_ie hf c6
      refine ro_aload_n hK 1 rfl dX3_readFactor_42 rfl ?_
      refine ro_aload_n hK 2 rfl dX3_readFactor_43 rfl ?_
      obtain ⟨q19, e20, hf⟩ := ro_bd hf
      refine ro_callvv hK [.ref (ro_ad (kG K) 60)] ml_X3_105 mv_X3_readNumber (mt_X3_readNumber (kl K) (kG K)  e20) sh_50 ⟨_, rfl, rfl⟩ (by omega) rfl rfl (Nat.le_of_ble_eq_true rfl) dX3_readFactor_44 ?_
      refine ro_goto hK 95 dX3_readFactor_47 (by decide) ?_
      obtain rfl := Option.some.inj hf
      exact ro_vret hK hR dX3_readFactor_95 hq
  · have hf := ro_ie hf c3
    refine ro_aload_n hK 2 rfl dX3_readFactor_11 rfl ?_
    refine ro_dup hK dX3_readFactor_12 rfl ?_
    refine ro_geti hK fl_X3_48 sh_60 dX3_readFactor_13 ?_
    refine ro_iconst (v := 1) hK dX3_readFactor_16 (by decide) ?_
    refine ro_iadd hK dX3_readFactor_17 ?_
    obtain ⟨m21, e22, hf⟩ := ro_ld hf
    refine ro_puti hK fl_X3_48 sh_60 rfl rfl dX3_readFactor_18 ?_
    refine ro_mv e22 ?_
    refine ro_aload_n hK 1 rfl dX3_readFactor_21 rfl ?_
    obtain ⟨g23, hf⟩ := ro_gd hf
    refine ro_getm hK fl_X3_12 sh_50 dX3_readFactor_22 ?_
    refine ro_bipush (v := 9) hK dX3_readFactor_25 (by decide) ?_
    refine ro_iload_n hK 0 rfl dX3_readFactor_27 rfl ?_
    obtain ⟨q24, e25, hf⟩ := ro_bd hf
    refine ro_callvi hK [.int 9, .int q1] ml_X3_72 mv_X2_emit (mt_X2_emit (kl K) (kG K) g23 e25) g23 ⟨_, rfl, rfl⟩ (by omega) rfl rfl (Nat.le_of_ble_eq_true rfl) dX3_readFactor_28 ?_
    refine ro_pop hK dX3_readFactor_31 rfl ?_
    refine ro_goto hK 95 dX3_readFactor_32 (by decide) ?_
    obtain rfl := Option.some.inj hf
    exact ro_vret hK hR dX3_readFactor_95 hq
theorem mo_X3_readFactor (l : Launch) (G : ro_G) {hd : Nat} (hhd : 6 ≤ hd) {F_X3_readChain : Int32 → Int32 → ro_Mem → Option ro_Mem} {F_X3_readPiece : Int32 → ro_Mem → Option ro_Mem} {F_X3_readFactor : Int32 → ro_Mem → Option ro_Mem} {F_X3_readComparison : Int32 → ro_Mem → Option ro_Mem} (H_X3_readChain : ∀ (v2 : Int32) (v3 : Int32) (μ : ro_Mem) (out : ro_Mem), F_X3_readChain v2 v3 μ = some out → ro_MX l G yX3_readChain cX3_readChain 8 none hd [.ref (ro_ad G 50), .ref (ro_ad G 60), .int v2, .int v3] μ none out) (H_X3_readPiece : ∀ (v2 : Int32) (μ : ro_Mem) (out : ro_Mem), F_X3_readPiece v2 μ = some out → ro_MX l G yX3_readPiece cX3_readPiece 4 none hd [.ref (ro_ad G 50), .ref (ro_ad G 60), .int v2] μ none out) (H_X3_readFactor : ∀ (v2 : Int32) (μ : ro_Mem) (out : ro_Mem), F_X3_readFactor v2 μ = some out → ro_MX l G yX3_readFactor cX3_readFactor 4 none hd [.ref (ro_ad G 50), .ref (ro_ad G 60), .int v2] μ none out) (H_X3_readComparison : ∀ (v2 : Int32) (μ : ro_Mem) (out : ro_Mem), F_X3_readComparison v2 μ = some out → ro_MX l G yX3_readComparison cX3_readComparison 4 none hd [.ref (ro_ad G 50), .ref (ro_ad G 60), .int v2] μ none out) {v2 : Int32}  {μ : ro_Mem} {out : ro_Mem} (hf : fo_X3_readFactor F_X3_readChain F_X3_readPiece F_X3_readFactor F_X3_readComparison v2 μ = some out) : ro_MX l G yX3_readFactor cX3_readFactor 4 none (hd + 1) [.ref (ro_ad G 50), .ref (ro_ad G 60), .int v2] μ none out := by
  refine ro_MX.of (by decide +kernel) (Nat.le_of_ble_eq_true rfl) (fun K hG hl hq hK hR => ?_)
  subst hG
  subst hl
  exact be_X3_readFactor hhd hK hR H_X3_readChain H_X3_readPiece H_X3_readFactor H_X3_readComparison  hf hq
-- ===== X3_readComparison =====
theorem dX3_readComparison_0 : decode cX3_readComparison 0 = .ok (.aload_n 0, 1) := by decide +kernel
theorem dX3_readComparison_1 : decode cX3_readComparison 1 = .ok (.aload_n 1, 1) := by decide +kernel
theorem dX3_readComparison_2 : decode cX3_readComparison 2 = .ok (.iconst 2, 1) := by decide +kernel
theorem dX3_readComparison_3 : decode cX3_readComparison 3 = .ok (.iload_n 2, 1) := by decide +kernel
theorem dX3_readComparison_4 : decode cX3_readComparison 4 = .ok (.invokevirtual 62, 3) := by decide +kernel
theorem dX3_readComparison_7 : decode cX3_readComparison 7 = .ok (.aload_n 1, 1) := by decide +kernel
theorem dX3_readComparison_8 : decode cX3_readComparison 8 = .ok (.ldc 91, 2) := by decide +kernel
theorem dX3_readComparison_10 : decode cX3_readComparison 10 = .ok (.invokevirtual 44, 3) := by decide +kernel
theorem dX3_readComparison_13 : decode cX3_readComparison 13 = .ok (.istore_n 3, 1) := by decide +kernel
theorem dX3_readComparison_14 : decode cX3_readComparison 14 = .ok (.iload_n 3, 1) := by decide +kernel
theorem dX3_readComparison_15 : decode cX3_readComparison 15 = .ok (.iconst 4, 1) := by decide +kernel
theorem dX3_readComparison_16 : decode cX3_readComparison 16 = .ok (.if_icmp .gt 13, 3) := by decide +kernel
theorem dX3_readComparison_19 : decode cX3_readComparison 19 = .ok (.aload_n 1, 1) := by decide +kernel
theorem dX3_readComparison_20 : decode cX3_readComparison 20 = .ok (.iconst 1, 1) := by decide +kernel
theorem dX3_readComparison_21 : decode cX3_readComparison 21 = .ok (.aload_n 1, 1) := by decide +kernel
theorem dX3_readComparison_22 : decode cX3_readComparison 22 = .ok (.getfield 48, 3) := by decide +kernel
theorem dX3_readComparison_25 : decode cX3_readComparison 25 = .ok (.invokevirtual 51, 3) := by decide +kernel
theorem dX3_readComparison_28 : decode cX3_readComparison 28 = .ok (.return_, 1) := by decide +kernel
theorem dX3_readComparison_29 : decode cX3_readComparison 29 = .ok (.aload_n 1, 1) := by decide +kernel
theorem dX3_readComparison_30 : decode cX3_readComparison 30 = .ok (.dup, 1) := by decide +kernel
theorem dX3_readComparison_31 : decode cX3_readComparison 31 = .ok (.getfield 48, 3) := by decide +kernel
theorem dX3_readComparison_34 : decode cX3_readComparison 34 = .ok (.iconst 1, 1) := by decide +kernel
theorem dX3_readComparison_35 : decode cX3_readComparison 35 = .ok (.iadd, 1) := by decide +kernel
theorem dX3_readComparison_36 : decode cX3_readComparison 36 = .ok (.putfield 48, 3) := by decide +kernel
theorem dX3_readComparison_39 : decode cX3_readComparison 39 = .ok (.aload_n 0, 1) := by decide +kernel
theorem dX3_readComparison_40 : decode cX3_readComparison 40 = .ok (.aload_n 1, 1) := by decide +kernel
theorem dX3_readComparison_41 : decode cX3_readComparison 41 = .ok (.iconst 2, 1) := by decide +kernel
theorem dX3_readComparison_42 : decode cX3_readComparison 42 = .ok (.iload_n 2, 1) := by decide +kernel
theorem dX3_readComparison_43 : decode cX3_readComparison 43 = .ok (.invokevirtual 62, 3) := by decide +kernel
theorem dX3_readComparison_46 : decode cX3_readComparison 46 = .ok (.aload_n 0, 1) := by decide +kernel
theorem dX3_readComparison_47 : decode cX3_readComparison 47 = .ok (.getfield 12, 3) := by decide +kernel
theorem dX3_readComparison_50 : decode cX3_readComparison 50 = .ok (.iload_n 3, 1) := by decide +kernel
theorem dX3_readComparison_51 : decode cX3_readComparison 51 = .ok (.iconst 0, 1) := by decide +kernel
theorem dX3_readComparison_52 : decode cX3_readComparison 52 = .ok (.invokevirtual 72, 3) := by decide +kernel
theorem dX3_readComparison_55 : decode cX3_readComparison 55 = .ok (.pop, 1) := by decide +kernel
theorem dX3_readComparison_56 : decode cX3_readComparison 56 = .ok (.return_, 1) := by decide +kernel
def fo_X3_readComparison (F_X3_readChain : Int32 → Int32 → ro_Mem → Option ro_Mem) (F_X3_readPiece : Int32 → ro_Mem → Option ro_Mem) (F_X3_readFactor : Int32 → ro_Mem → Option ro_Mem) (F_X3_readComparison : Int32 → ro_Mem → Option ro_Mem) (v2 : Int32) (μ : ro_Mem) : Option ro_Mem :=
  (F_X3_readChain 2 v2 μ).bind fun q1 =>
  (fn_X8_peekAmong 2 q1).bind fun q3 =>
  if 4 < q3 then
  (ro_lt (ro_set q1 60 2 ((q1 60 2) + 1)) fun m6 =>
  (F_X3_readChain 2 v2 m6).bind fun q8 =>
  if ro_sh (ro_rf q8 50 0) = (0, 2) then
  ((fn_X2_emit (ro_rf q8 50 0) q3 0 q8).bind fun q11 =>
  some q11.2) else none)
  else
  ((fn_X8_fail 1 (q1 60 2) q1).bind fun q13 =>
  some q13)
theorem be_X3_readComparison {K : ro_K} {hd : Nat} (hhd : 6 ≤ hd) (hK : ro_C K RX3 cX3_readComparison 4 (hd + 1)) (hR : ro_R K none) {F_X3_readChain : Int32 → Int32 → ro_Mem → Option ro_Mem} {F_X3_readPiece : Int32 → ro_Mem → Option ro_Mem} {F_X3_readFactor : Int32 → ro_Mem → Option ro_Mem} {F_X3_readComparison : Int32 → ro_Mem → Option ro_Mem} (H_X3_readChain : ∀ (v2 : Int32) (v3 : Int32) (μ : ro_Mem) (out : ro_Mem), F_X3_readChain v2 v3 μ = some out → ro_MX (kl K) (kG K) yX3_readChain cX3_readChain 8 none hd [.ref (ro_ad (kG K) 50), .ref (ro_ad (kG K) 60), .int v2, .int v3] μ none out) (H_X3_readPiece : ∀ (v2 : Int32) (μ : ro_Mem) (out : ro_Mem), F_X3_readPiece v2 μ = some out → ro_MX (kl K) (kG K) yX3_readPiece cX3_readPiece 4 none hd [.ref (ro_ad (kG K) 50), .ref (ro_ad (kG K) 60), .int v2] μ none out) (H_X3_readFactor : ∀ (v2 : Int32) (μ : ro_Mem) (out : ro_Mem), F_X3_readFactor v2 μ = some out → ro_MX (kl K) (kG K) yX3_readFactor cX3_readFactor 4 none hd [.ref (ro_ad (kG K) 50), .ref (ro_ad (kG K) 60), .int v2] μ none out) (H_X3_readComparison : ∀ (v2 : Int32) (μ : ro_Mem) (out : ro_Mem), F_X3_readComparison v2 μ = some out → ro_MX (kl K) (kG K) yX3_readComparison cX3_readComparison 4 none hd [.ref (ro_ad (kG K) 50), .ref (ro_ad (kG K) 60), .int v2] μ none out) {v2 : Int32}  {μ : ro_Mem} {out : ro_Mem} (hf : fo_X3_readComparison F_X3_readChain F_X3_readPiece F_X3_readFactor F_X3_readComparison v2 μ = some out) (hq : kQ K none out) : ro_X K 0 [(0, .ref (ro_ad (kG K) 50)), (1, .ref (ro_ad (kG K) 60)), (2, .int v2)] [] μ := by
  unfold fo_X3_readComparison at hf
  refine ro_aload_n hK 0 rfl dX3_readComparison_0 rfl ?_
  refine ro_aload_n hK 1 rfl dX3_readComparison_1 rfl ?_
  refine ro_iconst (v := 2) hK dX3_readComparison_2 (by decide) ?_
  refine ro_iload_n hK 2 rfl dX3_readComparison_3 rfl ?_
  obtain ⟨q1, e2, hf⟩ := ro_bd hf
  refine ro_callvv hK [.ref (ro_ad (kG K) 60), .int 2, .int v2] ml_X3_62 mv_X3_readChain (H_X3_readChain _ _ _ _ e2) sh_50 ⟨_, rfl, rfl⟩ (Nat.le_refl _) rfl rfl (Nat.le_of_ble_eq_true rfl) dX3_readComparison_4 ?_
  refine ro_aload_n hK 1 rfl dX3_readComparison_7 rfl ?_
  refine ro_ldcs hK hK.2.2.2.2.2.2.2.1.2.2.1 dX3_readComparison_8 ?_
  obtain ⟨q3, e4, hf⟩ := ro_bd hf
  refine ro_callvi hK [.ref (ro_aK (kG K) 2)] ml_X3_44 mv_X8_peekAmong (mt_X8_peekAmong (kl K) (kG K) (by decide) e4) sh_60 ⟨_, rfl, rfl⟩ (by omega) rfl rfl (Nat.le_of_ble_eq_true rfl) dX3_readComparison_10 ?_
  refine ro_istore_n (L' := [(3, .int q3), (0, .ref (ro_ad (kG K) 50)), (1, .ref (ro_ad (kG K) 60)), (2, .int v2)]) hK dX3_readComparison_13 rfl (by decide) rfl ?_
  refine ro_iload_n hK 0 rfl dX3_readComparison_14 rfl ?_
  refine ro_iconst (v := 4) hK dX3_readComparison_15 (by decide) ?_
  refine ro_icmp_gt hK 29 dX3_readComparison_16 (by decide) (fun c5 => ?_) (fun c5 => ?_)
  · have hf := ro_it hf c5
    refine ro_aload_n hK 2 rfl dX3_readComparison_29 rfl ?_
    refine ro_dup hK dX3_readComparison_30 rfl ?_
    refine ro_geti hK fl_X3_48 sh_60 dX3_readComparison_31 ?_
    refine ro_iconst (v := 1) hK dX3_readComparison_34 (by decide) ?_
    refine ro_iadd hK dX3_readComparison_35 ?_
    obtain ⟨m6, e7, hf⟩ := ro_ld hf
    refine ro_puti hK fl_X3_48 sh_60 rfl rfl dX3_readComparison_36 ?_
    refine ro_mv e7 ?_
    refine ro_aload_n hK 1 rfl dX3_readComparison_39 rfl ?_
    refine ro_aload_n hK 2 rfl dX3_readComparison_40 rfl ?_
    refine ro_iconst (v := 2) hK dX3_readComparison_41 (by decide) ?_
    refine ro_iload_n hK 3 rfl dX3_readComparison_42 rfl ?_
    obtain ⟨q8, e9, hf⟩ := ro_bd hf
    refine ro_callvv hK [.ref (ro_ad (kG K) 60), .int 2, .int v2] ml_X3_62 mv_X3_readChain (H_X3_readChain _ _ _ _ e9) sh_50 ⟨_, rfl, rfl⟩ (Nat.le_refl _) rfl rfl (Nat.le_of_ble_eq_true rfl) dX3_readComparison_43 ?_
    refine ro_aload_n hK 1 rfl dX3_readComparison_46 rfl ?_
    obtain ⟨g10, hf⟩ := ro_gd hf
    refine ro_getm hK fl_X3_12 sh_50 dX3_readComparison_47 ?_
    refine ro_iload_n hK 0 rfl dX3_readComparison_50 rfl ?_
    refine ro_iconst (v := 0) hK dX3_readComparison_51 (by decide) ?_
    obtain ⟨q11, e12, hf⟩ := ro_bd hf
    refine ro_callvi hK [.int q3, .int 0] ml_X3_72 mv_X2_emit (mt_X2_emit (kl K) (kG K) g10 e12) g10 ⟨_, rfl, rfl⟩ (by omega) rfl rfl (Nat.le_of_ble_eq_true rfl) dX3_readComparison_52 ?_
    refine ro_pop hK dX3_readComparison_55 rfl ?_
    obtain rfl := Option.some.inj hf
    exact ro_vret hK hR dX3_readComparison_56 hq
  · have hf := ro_ie hf c5
    refine ro_aload_n hK 2 rfl dX3_readComparison_19 rfl ?_
    refine ro_iconst (v := 1) hK dX3_readComparison_20 (by decide) ?_
    refine ro_aload_n hK 2 rfl dX3_readComparison_21 rfl ?_
    refine ro_geti hK fl_X3_48 sh_60 dX3_readComparison_22 ?_
    obtain ⟨q13, e14, hf⟩ := ro_bd hf
    refine ro_callvv hK [.int 1, .int (q1 60 2)] ml_X3_51 mv_X8_fail (mt_X8_fail (kl K) (kG K)  e14) sh_60 ⟨_, rfl, rfl⟩ (by omega) rfl rfl (Nat.le_of_ble_eq_true rfl) dX3_readComparison_25 ?_
    obtain rfl := Option.some.inj hf
    exact ro_vret hK hR dX3_readComparison_28 hq
theorem mo_X3_readComparison (l : Launch) (G : ro_G) {hd : Nat} (hhd : 6 ≤ hd) {F_X3_readChain : Int32 → Int32 → ro_Mem → Option ro_Mem} {F_X3_readPiece : Int32 → ro_Mem → Option ro_Mem} {F_X3_readFactor : Int32 → ro_Mem → Option ro_Mem} {F_X3_readComparison : Int32 → ro_Mem → Option ro_Mem} (H_X3_readChain : ∀ (v2 : Int32) (v3 : Int32) (μ : ro_Mem) (out : ro_Mem), F_X3_readChain v2 v3 μ = some out → ro_MX l G yX3_readChain cX3_readChain 8 none hd [.ref (ro_ad G 50), .ref (ro_ad G 60), .int v2, .int v3] μ none out) (H_X3_readPiece : ∀ (v2 : Int32) (μ : ro_Mem) (out : ro_Mem), F_X3_readPiece v2 μ = some out → ro_MX l G yX3_readPiece cX3_readPiece 4 none hd [.ref (ro_ad G 50), .ref (ro_ad G 60), .int v2] μ none out) (H_X3_readFactor : ∀ (v2 : Int32) (μ : ro_Mem) (out : ro_Mem), F_X3_readFactor v2 μ = some out → ro_MX l G yX3_readFactor cX3_readFactor 4 none hd [.ref (ro_ad G 50), .ref (ro_ad G 60), .int v2] μ none out) (H_X3_readComparison : ∀ (v2 : Int32) (μ : ro_Mem) (out : ro_Mem), F_X3_readComparison v2 μ = some out → ro_MX l G yX3_readComparison cX3_readComparison 4 none hd [.ref (ro_ad G 50), .ref (ro_ad G 60), .int v2] μ none out) {v2 : Int32}  {μ : ro_Mem} {out : ro_Mem} (hf : fo_X3_readComparison F_X3_readChain F_X3_readPiece F_X3_readFactor F_X3_readComparison v2 μ = some out) : ro_MX l G yX3_readComparison cX3_readComparison 4 none (hd + 1) [.ref (ro_ad G 50), .ref (ro_ad G 60), .int v2] μ none out := by
  refine ro_MX.of (by decide +kernel) (Nat.le_of_ble_eq_true rfl) (fun K hG hl hq hK hR => ?_)
  subst hG
  subst hl
  exact be_X3_readComparison hhd hK hR H_X3_readChain H_X3_readPiece H_X3_readFactor H_X3_readComparison  hf hq
def fr_X3 : Nat → (Int32 → Int32 → ro_Mem → Option ro_Mem) × (Int32 → ro_Mem → Option ro_Mem) × (Int32 → ro_Mem → Option ro_Mem) × (Int32 → ro_Mem → Option ro_Mem)
  | 0 => (fun _ _ _ => none, fun _ _ => none, fun _ _ => none, fun _ _ => none)
  | n + 1 => let F := fr_X3 n
    (fo_X3_readChain F.1 F.2.1 F.2.2.1 F.2.2.2, fo_X3_readPiece F.1 F.2.1 F.2.2.1 F.2.2.2, fo_X3_readFactor F.1 F.2.1 F.2.2.1 F.2.2.2, fo_X3_readComparison F.1 F.2.1 F.2.2.1 F.2.2.2)
theorem mr_X3 (l : Launch) (G : ro_G) : ∀ n : Nat, (∀ (v2 : Int32) (v3 : Int32) (μ : ro_Mem) (out : ro_Mem), (fr_X3 n).1 v2 v3 μ = some out → ro_MX l G yX3_readChain cX3_readChain 8 none (6 + n) [.ref (ro_ad G 50), .ref (ro_ad G 60), .int v2, .int v3] μ none out) ∧ (∀ (v2 : Int32) (μ : ro_Mem) (out : ro_Mem), (fr_X3 n).2.1 v2 μ = some out → ro_MX l G yX3_readPiece cX3_readPiece 4 none (6 + n) [.ref (ro_ad G 50), .ref (ro_ad G 60), .int v2] μ none out) ∧ (∀ (v2 : Int32) (μ : ro_Mem) (out : ro_Mem), (fr_X3 n).2.2.1 v2 μ = some out → ro_MX l G yX3_readFactor cX3_readFactor 4 none (6 + n) [.ref (ro_ad G 50), .ref (ro_ad G 60), .int v2] μ none out) ∧ (∀ (v2 : Int32) (μ : ro_Mem) (out : ro_Mem), (fr_X3 n).2.2.2 v2 μ = some out → ro_MX l G yX3_readComparison cX3_readComparison 4 none (6 + n) [.ref (ro_ad G 50), .ref (ro_ad G 60), .int v2] μ none out) := by
  intro n
  induction n with
  | zero => exact ⟨fun _ _ _ _ => (by intro h; cases h), fun _ _ _ => (by intro h; cases h), fun _ _ _ => (by intro h; cases h), fun _ _ _ => (by intro h; cases h)⟩
  | succ n ih => exact ⟨fun v2 v3 μ out hf => mo_X3_readChain l G (hd := 6 + n) (by omega) ih.1 ih.2.1 ih.2.2.1 ih.2.2.2  hf, fun v2 μ out hf => mo_X3_readPiece l G (hd := 6 + n) (by omega) ih.1 ih.2.1 ih.2.2.1 ih.2.2.2  hf, fun v2 μ out hf => mo_X3_readFactor l G (hd := 6 + n) (by omega) ih.1 ih.2.1 ih.2.2.1 ih.2.2.2  hf, fun v2 μ out hf => mo_X3_readComparison l G (hd := 6 + n) (by omega) ih.1 ih.2.1 ih.2.2.1 ih.2.2.2  hf⟩
def fn_X3_readChain (v2 : Int32) (v3 : Int32) (μ : ro_Mem) : Option ro_Mem := (fr_X3 194).1 v2 v3 μ
theorem mt_X3_readChain (l : Launch) (G : ro_G) {v2 : Int32} {v3 : Int32}  {μ : ro_Mem} {out : ro_Mem} (hf : fn_X3_readChain v2 v3 μ = some out) : ro_MX l G yX3_readChain cX3_readChain 8 none 200 [.ref (ro_ad G 50), .ref (ro_ad G 60), .int v2, .int v3] μ none out :=
  (mr_X3 l G 194).1 _ _ _ _ hf
def fn_X3_readPiece (v2 : Int32) (μ : ro_Mem) : Option ro_Mem := (fr_X3 194).2.1 v2 μ
theorem mt_X3_readPiece (l : Launch) (G : ro_G) {v2 : Int32}  {μ : ro_Mem} {out : ro_Mem} (hf : fn_X3_readPiece v2 μ = some out) : ro_MX l G yX3_readPiece cX3_readPiece 4 none 200 [.ref (ro_ad G 50), .ref (ro_ad G 60), .int v2] μ none out :=
  (mr_X3 l G 194).2.1 _ _ _ hf
def fn_X3_readFactor (v2 : Int32) (μ : ro_Mem) : Option ro_Mem := (fr_X3 194).2.2.1 v2 μ
theorem mt_X3_readFactor (l : Launch) (G : ro_G) {v2 : Int32}  {μ : ro_Mem} {out : ro_Mem} (hf : fn_X3_readFactor v2 μ = some out) : ro_MX l G yX3_readFactor cX3_readFactor 4 none 200 [.ref (ro_ad G 50), .ref (ro_ad G 60), .int v2] μ none out :=
  (mr_X3 l G 194).2.2.1 _ _ _ hf
def fn_X3_readComparison (v2 : Int32) (μ : ro_Mem) : Option ro_Mem := (fr_X3 194).2.2.2 v2 μ
theorem mt_X3_readComparison (l : Launch) (G : ro_G) {v2 : Int32}  {μ : ro_Mem} {out : ro_Mem} (hf : fn_X3_readComparison v2 μ = some out) : ro_MX l G yX3_readComparison cX3_readComparison 4 none 200 [.ref (ro_ad G 50), .ref (ro_ad G 60), .int v2] μ none out :=
  (mr_X3 l G 194).2.2.2 _ _ _ hf
-- ===== X3_readClause =====
theorem dX3_readClause_0 : decode cX3_readClause 0 = .ok (.aload_n 0, 1) := by decide +kernel
theorem dX3_readClause_1 : decode cX3_readClause 1 = .ok (.getfield 12, 3) := by decide +kernel
theorem dX3_readClause_4 : decode cX3_readClause 4 = .ok (.getfield 22, 3) := by decide +kernel
theorem dX3_readClause_7 : decode cX3_readClause 7 = .ok (.istore_n 2, 1) := by decide +kernel
theorem dX3_readClause_8 : decode cX3_readClause 8 = .ok (.aload_n 1, 1) := by decide +kernel
theorem dX3_readClause_9 : decode cX3_readClause 9 = .ok (.ldc 42, 2) := by decide +kernel
theorem dX3_readClause_11 : decode cX3_readClause 11 = .ok (.invokevirtual 44, 3) := by decide +kernel
theorem dX3_readClause_14 : decode cX3_readClause 14 = .ok (.istore_n 3, 1) := by decide +kernel
theorem dX3_readClause_15 : decode cX3_readClause 15 = .ok (.iload_n 3, 1) := by decide +kernel
theorem dX3_readClause_16 : decode cX3_readClause 16 = .ok (.ifCond .ge 15, 3) := by decide +kernel
theorem dX3_readClause_19 : decode cX3_readClause 19 = .ok (.aload_n 1, 1) := by decide +kernel
theorem dX3_readClause_20 : decode cX3_readClause 20 = .ok (.iconst 1, 1) := by decide +kernel
theorem dX3_readClause_21 : decode cX3_readClause 21 = .ok (.aload_n 1, 1) := by decide +kernel
theorem dX3_readClause_22 : decode cX3_readClause 22 = .ok (.getfield 48, 3) := by decide +kernel
theorem dX3_readClause_25 : decode cX3_readClause 25 = .ok (.invokevirtual 51, 3) := by decide +kernel
theorem dX3_readClause_28 : decode cX3_readClause 28 = .ok (.goto 18, 3) := by decide +kernel
theorem dX3_readClause_31 : decode cX3_readClause 31 = .ok (.iload_n 2, 1) := by decide +kernel
theorem dX3_readClause_32 : decode cX3_readClause 32 = .ok (.bipush 14, 2) := by decide +kernel
theorem dX3_readClause_34 : decode cX3_readClause 34 = .ok (.if_icmp .lt 12, 3) := by decide +kernel
theorem dX3_readClause_37 : decode cX3_readClause 37 = .ok (.aload_n 1, 1) := by decide +kernel
theorem dX3_readClause_38 : decode cX3_readClause 38 = .ok (.iconst 4, 1) := by decide +kernel
theorem dX3_readClause_39 : decode cX3_readClause 39 = .ok (.aload_n 1, 1) := by decide +kernel
theorem dX3_readClause_40 : decode cX3_readClause 40 = .ok (.getfield 48, 3) := by decide +kernel
theorem dX3_readClause_43 : decode cX3_readClause 43 = .ok (.invokevirtual 51, 3) := by decide +kernel
theorem dX3_readClause_46 : decode cX3_readClause 46 = .ok (.aload_n 1, 1) := by decide +kernel
theorem dX3_readClause_47 : decode cX3_readClause 47 = .ok (.getfield 25, 3) := by decide +kernel
theorem dX3_readClause_50 : decode cX3_readClause 50 = .ok (.ifCond .eq 4, 3) := by decide +kernel
theorem dX3_readClause_53 : decode cX3_readClause 53 = .ok (.return_, 1) := by decide +kernel
theorem dX3_readClause_54 : decode cX3_readClause 54 = .ok (.aload_n 1, 1) := by decide +kernel
theorem dX3_readClause_55 : decode cX3_readClause 55 = .ok (.dup, 1) := by decide +kernel
theorem dX3_readClause_56 : decode cX3_readClause 56 = .ok (.getfield 48, 3) := by decide +kernel
theorem dX3_readClause_59 : decode cX3_readClause 59 = .ok (.iconst 1, 1) := by decide +kernel
theorem dX3_readClause_60 : decode cX3_readClause 60 = .ok (.iadd, 1) := by decide +kernel
theorem dX3_readClause_61 : decode cX3_readClause 61 = .ok (.putfield 48, 3) := by decide +kernel
theorem dX3_readClause_64 : decode cX3_readClause 64 = .ok (.aload_n 0, 1) := by decide +kernel
theorem dX3_readClause_65 : decode cX3_readClause 65 = .ok (.getfield 12, 3) := by decide +kernel
theorem dX3_readClause_68 : decode cX3_readClause 68 = .ok (.getfield 55, 3) := by decide +kernel
theorem dX3_readClause_71 : decode cX3_readClause 71 = .ok (.iload_n 2, 1) := by decide +kernel
theorem dX3_readClause_72 : decode cX3_readClause 72 = .ok (.iload_n 3, 1) := by decide +kernel
theorem dX3_readClause_73 : decode cX3_readClause 73 = .ok (.iastore, 1) := by decide +kernel
theorem dX3_readClause_74 : decode cX3_readClause 74 = .ok (.aload_n 0, 1) := by decide +kernel
theorem dX3_readClause_75 : decode cX3_readClause 75 = .ok (.getfield 12, 3) := by decide +kernel
theorem dX3_readClause_78 : decode cX3_readClause 78 = .ok (.getfield 59, 3) := by decide +kernel
theorem dX3_readClause_81 : decode cX3_readClause 81 = .ok (.iload_n 2, 1) := by decide +kernel
theorem dX3_readClause_82 : decode cX3_readClause 82 = .ok (.aload_n 0, 1) := by decide +kernel
theorem dX3_readClause_83 : decode cX3_readClause 83 = .ok (.getfield 12, 3) := by decide +kernel
theorem dX3_readClause_86 : decode cX3_readClause 86 = .ok (.getfield 18, 3) := by decide +kernel
theorem dX3_readClause_89 : decode cX3_readClause 89 = .ok (.iastore, 1) := by decide +kernel
theorem dX3_readClause_90 : decode cX3_readClause 90 = .ok (.iload_n 3, 1) := by decide +kernel
theorem dX3_readClause_91 : decode cX3_readClause 91 = .ok (.iconst 1, 1) := by decide +kernel
theorem dX3_readClause_92 : decode cX3_readClause 92 = .ok (.if_icmp .eq 10, 3) := by decide +kernel
theorem dX3_readClause_95 : decode cX3_readClause 95 = .ok (.aload_n 0, 1) := by decide +kernel
theorem dX3_readClause_96 : decode cX3_readClause 96 = .ok (.aload_n 1, 1) := by decide +kernel
theorem dX3_readClause_97 : decode cX3_readClause 97 = .ok (.iconst 2, 1) := by decide +kernel
theorem dX3_readClause_98 : decode cX3_readClause 98 = .ok (.iconst 0, 1) := by decide +kernel
theorem dX3_readClause_99 : decode cX3_readClause 99 = .ok (.invokevirtual 62, 3) := by decide +kernel
theorem dX3_readClause_102 : decode cX3_readClause 102 = .ok (.aload_n 0, 1) := by decide +kernel
theorem dX3_readClause_103 : decode cX3_readClause 103 = .ok (.getfield 12, 3) := by decide +kernel
theorem dX3_readClause_106 : decode cX3_readClause 106 = .ok (.getfield 66, 3) := by decide +kernel
theorem dX3_readClause_109 : decode cX3_readClause 109 = .ok (.iload_n 2, 1) := by decide +kernel
theorem dX3_readClause_110 : decode cX3_readClause 110 = .ok (.aload_n 0, 1) := by decide +kernel
theorem dX3_readClause_111 : decode cX3_readClause 111 = .ok (.getfield 12, 3) := by decide +kernel
theorem dX3_readClause_114 : decode cX3_readClause 114 = .ok (.getfield 18, 3) := by decide +kernel
theorem dX3_readClause_117 : decode cX3_readClause 117 = .ok (.iastore, 1) := by decide +kernel
theorem dX3_readClause_118 : decode cX3_readClause 118 = .ok (.aload_n 1, 1) := by decide +kernel
theorem dX3_readClause_119 : decode cX3_readClause 119 = .ok (.bipush 40, 2) := by decide +kernel
theorem dX3_readClause_121 : decode cX3_readClause 121 = .ok (.invokevirtual 38, 3) := by decide +kernel
theorem dX3_readClause_124 : decode cX3_readClause 124 = .ok (.aload_n 0, 1) := by decide +kernel
theorem dX3_readClause_125 : decode cX3_readClause 125 = .ok (.aload_n 1, 1) := by decide +kernel
theorem dX3_readClause_126 : decode cX3_readClause 126 = .ok (.iconst 0, 1) := by decide +kernel
theorem dX3_readClause_127 : decode cX3_readClause 127 = .ok (.iconst 1, 1) := by decide +kernel
theorem dX3_readClause_128 : decode cX3_readClause 128 = .ok (.invokevirtual 62, 3) := by decide +kernel
theorem dX3_readClause_131 : decode cX3_readClause 131 = .ok (.aload_n 1, 1) := by decide +kernel
theorem dX3_readClause_132 : decode cX3_readClause 132 = .ok (.bipush 41, 2) := by decide +kernel
theorem dX3_readClause_134 : decode cX3_readClause 134 = .ok (.invokevirtual 38, 3) := by decide +kernel
theorem dX3_readClause_137 : decode cX3_readClause 137 = .ok (.aload_n 0, 1) := by decide +kernel
theorem dX3_readClause_138 : decode cX3_readClause 138 = .ok (.getfield 12, 3) := by decide +kernel
theorem dX3_readClause_141 : decode cX3_readClause 141 = .ok (.getfield 69, 3) := by decide +kernel
theorem dX3_readClause_144 : decode cX3_readClause 144 = .ok (.iload_n 2, 1) := by decide +kernel
theorem dX3_readClause_145 : decode cX3_readClause 145 = .ok (.aload_n 0, 1) := by decide +kernel
theorem dX3_readClause_146 : decode cX3_readClause 146 = .ok (.getfield 12, 3) := by decide +kernel
theorem dX3_readClause_149 : decode cX3_readClause 149 = .ok (.getfield 18, 3) := by decide +kernel
theorem dX3_readClause_152 : decode cX3_readClause 152 = .ok (.iastore, 1) := by decide +kernel
theorem dX3_readClause_153 : decode cX3_readClause 153 = .ok (.aload_n 0, 1) := by decide +kernel
theorem dX3_readClause_154 : decode cX3_readClause 154 = .ok (.getfield 12, 3) := by decide +kernel
theorem dX3_readClause_157 : decode cX3_readClause 157 = .ok (.dup, 1) := by decide +kernel
theorem dX3_readClause_158 : decode cX3_readClause 158 = .ok (.getfield 22, 3) := by decide +kernel
theorem dX3_readClause_161 : decode cX3_readClause 161 = .ok (.iconst 1, 1) := by decide +kernel
theorem dX3_readClause_162 : decode cX3_readClause 162 = .ok (.iadd, 1) := by decide +kernel
theorem dX3_readClause_163 : decode cX3_readClause 163 = .ok (.putfield 22, 3) := by decide +kernel
theorem dX3_readClause_166 : decode cX3_readClause 166 = .ok (.return_, 1) := by decide +kernel
def fj_X3_readClause_102 (v2 : Int32) (μ : ro_Mem) : Option ro_Mem :=
  if ro_sh (ro_rf μ 50 0) = (0, 2) then
  (if ro_in v2 14 then
  (ro_lt (ro_set μ ((ro_rf μ 50 0) + 5) v2.toNatClampNeg (μ (ro_rf μ 50 0) 2)) fun m21 =>
  (fn_X8_pass 40 m21).bind fun q23 =>
  (fn_X3_readChain 0 1 q23).bind fun q25 =>
  (fn_X8_pass 41 q25).bind fun q27 =>
  if ro_sh (ro_rf q27 50 0) = (0, 2) then
  (ro_lt (ro_set q27 ((ro_rf q27 50 0) + 6) v2.toNatClampNeg (q27 (ro_rf q27 50 0) 2)) fun m30 =>
  if ro_sh (ro_rf m30 50 0) = (0, 2) then
  (ro_lt (ro_set m30 (ro_rf m30 50 0) 3 ((m30 (ro_rf m30 50 0) 3) + 1)) fun m33 =>
  some m33) else none) else none) else none) else none
theorem bj_X3_readClause_102 {K : ro_K} (hK : ro_C K RX3 cX3_readClause 4 201) (hR : ro_R K none) {v2 : Int32}   {μ : ro_Mem}  {out : ro_Mem} (hf : fj_X3_readClause_102 v2 μ = some out) (hq : kQ K none out) : ro_X K 102 [(0, .ref (ro_ad (kG K) 50)), (1, .ref (ro_ad (kG K) 60)), (2, .int v2)] [] μ := by
  unfold fj_X3_readClause_102 at hf
  refine ro_aload_n hK 0 rfl dX3_readClause_102 rfl ?_
  obtain ⟨g19, hf⟩ := ro_gd hf
  refine ro_getm hK fl_X3_12 sh_50 dX3_readClause_103 ?_
  refine ro_getr hK fl_X3_66 g19 dX3_readClause_106 ?_
  refine ro_iload_n hK 2 rfl dX3_readClause_109 rfl ?_
  refine ro_aload_n hK 0 rfl dX3_readClause_110 rfl ?_
  refine ro_getm hK fl_X3_12 sh_50 dX3_readClause_111 ?_
  refine ro_geti hK fl_X3_18 g19 dX3_readClause_114 ?_
  obtain ⟨g20, hf⟩ := ro_gd hf
  obtain ⟨m21, e22, hf⟩ := ro_ld hf
  refine ro_iast hK (so_2_5 g19) g20 dX3_readClause_117 ?_
  refine ro_mv e22 ?_
  refine ro_aload_n hK 1 rfl dX3_readClause_118 rfl ?_
  refine ro_bipush (v := 40) hK dX3_readClause_119 (by decide) ?_
  obtain ⟨q23, e24, hf⟩ := ro_bd hf
  refine ro_callvv hK [.int 40] ml_X3_38 mv_X8_pass (mt_X8_pass (kl K) (kG K)  e24) sh_60 ⟨_, rfl, rfl⟩ (by decide) rfl rfl (Nat.le_of_ble_eq_true rfl) dX3_readClause_121 ?_
  refine ro_aload_n hK 0 rfl dX3_readClause_124 rfl ?_
  refine ro_aload_n hK 1 rfl dX3_readClause_125 rfl ?_
  refine ro_iconst (v := 0) hK dX3_readClause_126 (by decide) ?_
  refine ro_iconst (v := 1) hK dX3_readClause_127 (by decide) ?_
  obtain ⟨q25, e26, hf⟩ := ro_bd hf
  refine ro_callvv hK [.ref (ro_ad (kG K) 60), .int 0, .int 1] ml_X3_62 mv_X3_readChain (mt_X3_readChain (kl K) (kG K)  e26) sh_50 ⟨_, rfl, rfl⟩ (by decide) rfl rfl (Nat.le_of_ble_eq_true rfl) dX3_readClause_128 ?_
  refine ro_aload_n hK 1 rfl dX3_readClause_131 rfl ?_
  refine ro_bipush (v := 41) hK dX3_readClause_132 (by decide) ?_
  obtain ⟨q27, e28, hf⟩ := ro_bd hf
  refine ro_callvv hK [.int 41] ml_X3_38 mv_X8_pass (mt_X8_pass (kl K) (kG K)  e28) sh_60 ⟨_, rfl, rfl⟩ (by decide) rfl rfl (Nat.le_of_ble_eq_true rfl) dX3_readClause_134 ?_
  refine ro_aload_n hK 0 rfl dX3_readClause_137 rfl ?_
  obtain ⟨g29, hf⟩ := ro_gd hf
  refine ro_getm hK fl_X3_12 sh_50 dX3_readClause_138 ?_
  refine ro_getr hK fl_X3_69 g29 dX3_readClause_141 ?_
  refine ro_iload_n hK 2 rfl dX3_readClause_144 rfl ?_
  refine ro_aload_n hK 0 rfl dX3_readClause_145 rfl ?_
  refine ro_getm hK fl_X3_12 sh_50 dX3_readClause_146 ?_
  refine ro_geti hK fl_X3_18 g29 dX3_readClause_149 ?_
  obtain ⟨m30, e31, hf⟩ := ro_ld hf
  refine ro_iast hK (so_2_6 g29) g20 dX3_readClause_152 ?_
  refine ro_mv e31 ?_
  refine ro_aload_n hK 0 rfl dX3_readClause_153 rfl ?_
  obtain ⟨g32, hf⟩ := ro_gd hf
  refine ro_getm hK fl_X3_12 sh_50 dX3_readClause_154 ?_
  refine ro_dup hK dX3_readClause_157 rfl ?_
  refine ro_geti hK fl_X3_22 g32 dX3_readClause_158 ?_
  refine ro_iconst (v := 1) hK dX3_readClause_161 (by decide) ?_
  refine ro_iadd hK dX3_readClause_162 ?_
  obtain ⟨m33, e34, hf⟩ := ro_ld hf
  refine ro_puti hK fl_X3_22 g32 rfl rfl dX3_readClause_163 ?_
  refine ro_mv e34 ?_
  obtain rfl := Option.some.inj hf
  exact ro_vret hK hR dX3_readClause_166 hq
def fj_X3_readClause_46 (v2 : Int32) (v3 : Int32) (μ : ro_Mem) : Option ro_Mem :=
  if (μ 60 4) = 0 then
  (ro_lt (ro_set μ 60 2 ((μ 60 2) + 1)) fun m9 =>
  if ro_sh (ro_rf m9 50 0) = (0, 2) then
  (if ro_in v2 14 then
  (ro_lt (ro_set m9 ((ro_rf m9 50 0) + 3) v2.toNatClampNeg v3) fun m13 =>
  if ro_sh (ro_rf m13 50 0) = (0, 2) then
  (ro_lt (ro_set m13 ((ro_rf m13 50 0) + 4) v2.toNatClampNeg (m13 (ro_rf m13 50 0) 2)) fun m16 =>
  if v3 = 1 then
  (fj_X3_readClause_102 v2 m16)
  else
  ((fn_X3_readChain 2 0 m16).bind fun q35 =>
  fj_X3_readClause_102 v2 q35)) else none) else none) else none)
  else
  (some μ)
theorem bj_X3_readClause_46 {K : ro_K} (hK : ro_C K RX3 cX3_readClause 4 201) (hR : ro_R K none) {v2 : Int32} {v3 : Int32}   {μ : ro_Mem}  {out : ro_Mem} (hf : fj_X3_readClause_46 v2 v3 μ = some out) (hq : kQ K none out) : ro_X K 46 [(0, .ref (ro_ad (kG K) 50)), (1, .ref (ro_ad (kG K) 60)), (2, .int v2), (3, .int v3)] [] μ := by
  unfold fj_X3_readClause_46 at hf
  refine ro_aload_n hK 1 rfl dX3_readClause_46 rfl ?_
  refine ro_geti hK fl_X3_25 sh_60 dX3_readClause_47 ?_
  refine ro_if_eq hK 54 dX3_readClause_50 (by decide) (fun c8 => ?_) (fun c8 => ?_)
  · have hf := ro_it hf c8
    refine ro_aload_n hK 1 rfl dX3_readClause_54 rfl ?_
    refine ro_dup hK dX3_readClause_55 rfl ?_
    refine ro_geti hK fl_X3_48 sh_60 dX3_readClause_56 ?_
    refine ro_iconst (v := 1) hK dX3_readClause_59 (by decide) ?_
    refine ro_iadd hK dX3_readClause_60 ?_
    obtain ⟨m9, e10, hf⟩ := ro_ld hf
    refine ro_puti hK fl_X3_48 sh_60 rfl rfl dX3_readClause_61 ?_
    refine ro_mv e10 ?_
    refine ro_aload_n hK 0 rfl dX3_readClause_64 rfl ?_
    obtain ⟨g11, hf⟩ := ro_gd hf
    refine ro_getm hK fl_X3_12 sh_50 dX3_readClause_65 ?_
    refine ro_getr hK fl_X3_55 g11 dX3_readClause_68 ?_
    refine ro_iload_n hK 2 rfl dX3_readClause_71 rfl ?_
    refine ro_iload_n hK 3 rfl dX3_readClause_72 rfl ?_
    obtain ⟨g12, hf⟩ := ro_gd hf
    obtain ⟨m13, e14, hf⟩ := ro_ld hf
    refine ro_iast hK (so_2_3 g11) g12 dX3_readClause_73 ?_
    refine ro_mv e14 ?_
    refine ro_aload_n hK 0 rfl dX3_readClause_74 rfl ?_
    obtain ⟨g15, hf⟩ := ro_gd hf
    refine ro_getm hK fl_X3_12 sh_50 dX3_readClause_75 ?_
    refine ro_getr hK fl_X3_59 g15 dX3_readClause_78 ?_
    refine ro_iload_n hK 2 rfl dX3_readClause_81 rfl ?_
    refine ro_aload_n hK 0 rfl dX3_readClause_82 rfl ?_
    refine ro_getm hK fl_X3_12 sh_50 dX3_readClause_83 ?_
    refine ro_geti hK fl_X3_18 g15 dX3_readClause_86 ?_
    obtain ⟨m16, e17, hf⟩ := ro_ld hf
    refine ro_iast hK (so_2_4 g15) g12 dX3_readClause_89 ?_
    refine ro_mv e17 ?_
    refine ro_iload_n hK 3 rfl dX3_readClause_90 rfl ?_
    refine ro_iconst (v := 1) hK dX3_readClause_91 (by decide) ?_
    refine ro_icmp_eq hK 102 dX3_readClause_92 (by decide) (fun c18 => ?_) (fun c18 => ?_)
    · have hf := ro_it hf c18
      refine ro_sub (L' := [(0, .ref (ro_ad (kG K) 50)), (1, .ref (ro_ad (kG K) 60)), (2, .int v2)]) [0, 1, 2] rfl ?_
      exact bj_X3_readClause_102 hK hR  hf hq
    · have hf := ro_ie hf c18
      refine ro_aload_n hK 0 rfl dX3_readClause_95 rfl ?_
      refine ro_aload_n hK 1 rfl dX3_readClause_96 rfl ?_
      refine ro_iconst (v := 2) hK dX3_readClause_97 (by decide) ?_
      refine ro_iconst (v := 0) hK dX3_readClause_98 (by decide) ?_
      obtain ⟨q35, e36, hf⟩ := ro_bd hf
      refine ro_callvv hK [.ref (ro_ad (kG K) 60), .int 2, .int 0] ml_X3_62 mv_X3_readChain (mt_X3_readChain (kl K) (kG K)  e36) sh_50 ⟨_, rfl, rfl⟩ (by decide) rfl rfl (Nat.le_of_ble_eq_true rfl) dX3_readClause_99 ?_
      refine ro_sub (L' := [(0, .ref (ro_ad (kG K) 50)), (1, .ref (ro_ad (kG K) 60)), (2, .int v2)]) [0, 1, 2] rfl ?_
      exact bj_X3_readClause_102 hK hR  hf hq
  · have hf := ro_ie hf c8
    obtain rfl := Option.some.inj hf
    exact ro_vret hK hR dX3_readClause_53 hq
def fn_X3_readClause (μ : ro_Mem) : Option ro_Mem :=
  if ro_sh (ro_rf μ 50 0) = (0, 2) then
  (ro_lt (μ (ro_rf μ 50 0) 3) fun z2 =>
  (fn_X8_peekAmong 1 μ).bind fun q4 =>
  if 0 ≤ q4 then
  (if z2 < 14 then
  (fj_X3_readClause_46 z2 q4 μ)
  else
  ((fn_X8_fail 4 (μ 60 2) μ).bind fun q37 =>
  fj_X3_readClause_46 z2 q4 q37))
  else
  ((fn_X8_fail 1 (μ 60 2) μ).bind fun q39 =>
  fj_X3_readClause_46 z2 q4 q39)) else none
theorem be_X3_readClause {K : ro_K} (hK : ro_C K RX3 cX3_readClause 4 201) (hR : ro_R K none)   {μ : ro_Mem} {out : ro_Mem} (hf : fn_X3_readClause μ = some out) (hq : kQ K none out) : ro_X K 0 [(0, .ref (ro_ad (kG K) 50)), (1, .ref (ro_ad (kG K) 60))] [] μ := by
  unfold fn_X3_readClause at hf
  refine ro_aload_n hK 0 rfl dX3_readClause_0 rfl ?_
  obtain ⟨g1, hf⟩ := ro_gd hf
  refine ro_getm hK fl_X3_12 sh_50 dX3_readClause_1 ?_
  refine ro_geti hK fl_X3_22 g1 dX3_readClause_4 ?_
  obtain ⟨z2, e3, hf⟩ := ro_ld hf
  refine ro_iv e3 ?_
  refine ro_istore_n (L' := [(2, .int z2), (0, .ref (ro_ad (kG K) 50)), (1, .ref (ro_ad (kG K) 60))]) hK dX3_readClause_7 rfl (by decide) rfl ?_
  refine ro_aload_n hK 2 rfl dX3_readClause_8 rfl ?_
  refine ro_ldcs hK hK.2.2.2.2.2.2.2.1.2.1 dX3_readClause_9 ?_
  obtain ⟨q4, e5, hf⟩ := ro_bd hf
  refine ro_callvi hK [.ref (ro_aK (kG K) 1)] ml_X3_44 mv_X8_peekAmong (mt_X8_peekAmong (kl K) (kG K) (by decide) e5) sh_60 ⟨_, rfl, rfl⟩ (by decide) rfl rfl (Nat.le_of_ble_eq_true rfl) dX3_readClause_11 ?_
  refine ro_istore_n (L' := [(3, .int q4), (2, .int z2), (0, .ref (ro_ad (kG K) 50)), (1, .ref (ro_ad (kG K) 60))]) hK dX3_readClause_14 rfl (by decide) rfl ?_
  refine ro_iload_n hK 0 rfl dX3_readClause_15 rfl ?_
  refine ro_if_ge hK 31 dX3_readClause_16 (by decide) (fun c6 => ?_) (fun c6 => ?_)
  · have hf := ro_it hf c6
    refine ro_iload_n hK 1 rfl dX3_readClause_31 rfl ?_
    refine ro_bipush (v := 14) hK dX3_readClause_32 (by decide) ?_
    refine ro_icmp_lt hK 46 dX3_readClause_34 (by decide) (fun c7 => ?_) (fun c7 => ?_)
    · have hf := ro_it hf c7
      refine ro_sub (L' := [(0, .ref (ro_ad (kG K) 50)), (1, .ref (ro_ad (kG K) 60)), (2, .int z2), (3, .int q4)]) [2, 3, 1, 0] rfl ?_
      exact bj_X3_readClause_46 hK hR  hf hq
    · have hf := ro_ie hf c7
      refine ro_aload_n hK 3 rfl dX3_readClause_37 rfl ?_
      refine ro_iconst (v := 4) hK dX3_readClause_38 (by decide) ?_
      refine ro_aload_n hK 3 rfl dX3_readClause_39 rfl ?_
      refine ro_geti hK fl_X3_48 sh_60 dX3_readClause_40 ?_
      obtain ⟨q37, e38, hf⟩ := ro_bd hf
      refine ro_callvv hK [.int 4, .int (μ 60 2)] ml_X3_51 mv_X8_fail (mt_X8_fail (kl K) (kG K)  e38) sh_60 ⟨_, rfl, rfl⟩ (by decide) rfl rfl (Nat.le_of_ble_eq_true rfl) dX3_readClause_43 ?_
      refine ro_sub (L' := [(0, .ref (ro_ad (kG K) 50)), (1, .ref (ro_ad (kG K) 60)), (2, .int z2), (3, .int q4)]) [2, 3, 1, 0] rfl ?_
      exact bj_X3_readClause_46 hK hR  hf hq
  · have hf := ro_ie hf c6
    refine ro_aload_n hK 3 rfl dX3_readClause_19 rfl ?_
    refine ro_iconst (v := 1) hK dX3_readClause_20 (by decide) ?_
    refine ro_aload_n hK 3 rfl dX3_readClause_21 rfl ?_
    refine ro_geti hK fl_X3_48 sh_60 dX3_readClause_22 ?_
    obtain ⟨q39, e40, hf⟩ := ro_bd hf
    refine ro_callvv hK [.int 1, .int (μ 60 2)] ml_X3_51 mv_X8_fail (mt_X8_fail (kl K) (kG K)  e40) sh_60 ⟨_, rfl, rfl⟩ (by decide) rfl rfl (Nat.le_of_ble_eq_true rfl) dX3_readClause_25 ?_
    refine ro_goto hK 46 dX3_readClause_28 (by decide) ?_
    refine ro_sub (L' := [(0, .ref (ro_ad (kG K) 50)), (1, .ref (ro_ad (kG K) 60)), (2, .int z2), (3, .int q4)]) [2, 3, 1, 0] rfl ?_
    exact bj_X3_readClause_46 hK hR  hf hq
theorem mt_X3_readClause (l : Launch) (G : ro_G)   {μ : ro_Mem} {out : ro_Mem} (hf : fn_X3_readClause μ = some out) : ro_MX l G yX3_readClause cX3_readClause 4 none 201 [.ref (ro_ad G 50), .ref (ro_ad G 60)] μ none out := by
  refine ro_MX.of (by decide +kernel) (Nat.le_of_ble_eq_true rfl) (fun K hG hl hq hK hR => ?_)
  subst hG
  exact be_X3_readClause hK hR  hf hq
-- ===== X3_readLaw =====
theorem dX3_readLaw_0 : decode cX3_readLaw 0 = .ok (.aload_n 0, 1) := by decide +kernel
theorem dX3_readLaw_1 : decode cX3_readLaw 1 = .ok (.getfield 12, 3) := by decide +kernel
theorem dX3_readLaw_4 : decode cX3_readLaw 4 = .ok (.iconst 0, 1) := by decide +kernel
theorem dX3_readLaw_5 : decode cX3_readLaw 5 = .ok (.putfield 18, 3) := by decide +kernel
theorem dX3_readLaw_8 : decode cX3_readLaw 8 = .ok (.aload_n 0, 1) := by decide +kernel
theorem dX3_readLaw_9 : decode cX3_readLaw 9 = .ok (.getfield 12, 3) := by decide +kernel
theorem dX3_readLaw_12 : decode cX3_readLaw 12 = .ok (.iconst 0, 1) := by decide +kernel
theorem dX3_readLaw_13 : decode cX3_readLaw 13 = .ok (.putfield 22, 3) := by decide +kernel
theorem dX3_readLaw_16 : decode cX3_readLaw 16 = .ok (.iconst 0, 1) := by decide +kernel
theorem dX3_readLaw_17 : decode cX3_readLaw 17 = .ok (.istore_n 2, 1) := by decide +kernel
theorem dX3_readLaw_18 : decode cX3_readLaw 18 = .ok (.iload_n 2, 1) := by decide +kernel
theorem dX3_readLaw_19 : decode cX3_readLaw 19 = .ok (.bipush 14, 2) := by decide +kernel
theorem dX3_readLaw_21 : decode cX3_readLaw 21 = .ok (.if_icmp .gt 50, 3) := by decide +kernel
theorem dX3_readLaw_24 : decode cX3_readLaw 24 = .ok (.aload_n 1, 1) := by decide +kernel
theorem dX3_readLaw_25 : decode cX3_readLaw 25 = .ok (.getfield 25, 3) := by decide +kernel
theorem dX3_readLaw_28 : decode cX3_readLaw 28 = .ok (.ifCond .ne 43, 3) := by decide +kernel
theorem dX3_readLaw_31 : decode cX3_readLaw 31 = .ok (.aload_n 0, 1) := by decide +kernel
theorem dX3_readLaw_32 : decode cX3_readLaw 32 = .ok (.aload_n 1, 1) := by decide +kernel
theorem dX3_readLaw_33 : decode cX3_readLaw 33 = .ok (.invokevirtual 30, 3) := by decide +kernel
theorem dX3_readLaw_36 : decode cX3_readLaw 36 = .ok (.aload_n 1, 1) := by decide +kernel
theorem dX3_readLaw_37 : decode cX3_readLaw 37 = .ok (.getfield 25, 3) := by decide +kernel
theorem dX3_readLaw_40 : decode cX3_readLaw 40 = .ok (.ifCond .ne 19, 3) := by decide +kernel
theorem dX3_readLaw_43 : decode cX3_readLaw 43 = .ok (.aload_n 1, 1) := by decide +kernel
theorem dX3_readLaw_44 : decode cX3_readLaw 44 = .ok (.invokevirtual 34, 3) := by decide +kernel
theorem dX3_readLaw_47 : decode cX3_readLaw 47 = .ok (.iconst (-1), 1) := by decide +kernel
theorem dX3_readLaw_48 : decode cX3_readLaw 48 = .ok (.if_icmp .ne 11, 3) := by decide +kernel
theorem dX3_readLaw_51 : decode cX3_readLaw 51 = .ok (.aload_n 0, 1) := by decide +kernel
theorem dX3_readLaw_52 : decode cX3_readLaw 52 = .ok (.getfield 12, 3) := by decide +kernel
theorem dX3_readLaw_55 : decode cX3_readLaw 55 = .ok (.getfield 22, 3) := by decide +kernel
theorem dX3_readLaw_58 : decode cX3_readLaw 58 = .ok (.ireturn, 1) := by decide +kernel
theorem dX3_readLaw_59 : decode cX3_readLaw 59 = .ok (.aload_n 1, 1) := by decide +kernel
theorem dX3_readLaw_60 : decode cX3_readLaw 60 = .ok (.bipush 59, 2) := by decide +kernel
theorem dX3_readLaw_62 : decode cX3_readLaw 62 = .ok (.invokevirtual 38, 3) := by decide +kernel
theorem dX3_readLaw_65 : decode cX3_readLaw 65 = .ok (.iinc 2 1, 3) := by decide +kernel
theorem dX3_readLaw_68 : decode cX3_readLaw 68 = .ok (.goto (-50), 3) := by decide +kernel
theorem dX3_readLaw_71 : decode cX3_readLaw 71 = .ok (.aload_n 1, 1) := by decide +kernel
theorem dX3_readLaw_72 : decode cX3_readLaw 72 = .ok (.getfield 25, 3) := by decide +kernel
theorem dX3_readLaw_75 : decode cX3_readLaw 75 = .ok (.ireturn, 1) := by decide +kernel
def ok_X3_readLaw_18 (K : ro_K)  : (ro_Mem ⊕ ro_Mem) → Prop := Sum.elim (fun e => ro_X K 51 [(0, .ref (ro_ad (kG K) 50))] [] e) (fun e => ro_X K 71 [(1, .ref (ro_ad (kG K) 60))] [] e)
def fj_X3_readLaw_59 (rec : (Int32 × ro_Mem) → Option (ro_Mem ⊕ ro_Mem)) (v2 : Int32) (μ : ro_Mem) : Option (ro_Mem ⊕ ro_Mem) :=
  (fn_X8_pass 59 μ).bind fun q12 =>
  rec (v2 + 1, q12)
theorem bj_X3_readLaw_59 {K : ro_K} (hK : ro_C K RX3 cX3_readLaw 3 202) (hR : ro_R K (some .int)) {v2 : Int32}  {rec : (Int32 × ro_Mem) → Option (ro_Mem ⊕ ro_Mem)} {μ : ro_Mem} (hrec : ∀ (s : Int32 × ro_Mem) (q : (ro_Mem ⊕ ro_Mem)), rec s = some q → ok_X3_readLaw_18 K q → ro_X K 18 [(0, .ref (ro_ad (kG K) 50)), (1, .ref (ro_ad (kG K) 60)), (2, .int s.1)] [] s.2) {out : (ro_Mem ⊕ ro_Mem)} (hf : fj_X3_readLaw_59 rec v2 μ = some out) (hq : ok_X3_readLaw_18 K out) : ro_X K 59 [(0, .ref (ro_ad (kG K) 50)), (1, .ref (ro_ad (kG K) 60)), (2, .int v2)] [] μ := by
  unfold fj_X3_readLaw_59 at hf
  refine ro_aload_n hK 1 rfl dX3_readLaw_59 rfl ?_
  refine ro_bipush (v := 59) hK dX3_readLaw_60 (by decide) ?_
  obtain ⟨q12, e13, hf⟩ := ro_bd hf
  refine ro_callvv hK [.int 59] ml_X3_38 mv_X8_pass (mt_X8_pass (kl K) (kG K)  e13) sh_60 ⟨_, rfl, rfl⟩ (by decide) rfl rfl (Nat.le_of_ble_eq_true rfl) dX3_readLaw_62 ?_
  refine ro_iinc (v := v2 + 1) (L' := [(2, .int (v2 + 1)), (0, .ref (ro_ad (kG K) 50)), (1, .ref (ro_ad (kG K) 60))]) hK 2 rfl dX3_readLaw_65 rfl (by decide) rfl ?_
  refine ro_goto hK 18 dX3_readLaw_68 (by decide) ?_
  refine ro_sub (L' := [(0, .ref (ro_ad (kG K) 50)), (1, .ref (ro_ad (kG K) 60)), (2, .int (v2 + 1))]) [1, 2, 0] rfl ?_
  exact hrec (v2 + 1, q12) _ hf hq
def fb_X3_readLaw_18  (rec : (Int32 × ro_Mem) → Option (ro_Mem ⊕ ro_Mem)) (v2 : Int32) (μ : ro_Mem) : Option (ro_Mem ⊕ ro_Mem) :=
  if 14 < v2 then
  (some (.inr μ))
  else
  (if (μ 60 4) = 0 then
  ((fn_X3_readClause μ).bind fun q9 =>
  if (q9 60 4) = 0 then
  ((fn_X8_peek q9).bind fun q14 =>
  if q14 = (-1) then
  (some (.inl q9))
  else
  (fj_X3_readLaw_59 rec v2 q9))
  else
  (fj_X3_readLaw_59 rec v2 q9))
  else
  (some (.inr μ)))
theorem bb_X3_readLaw_18 {K : ro_K} (hK : ro_C K RX3 cX3_readLaw 3 202) (hR : ro_R K (some .int))   {μ : ro_Mem} {rec : (Int32 × ro_Mem) → Option (ro_Mem ⊕ ro_Mem)} {v2 : Int32} {q : (ro_Mem ⊕ ro_Mem)} (hrec : ∀ (s : Int32 × ro_Mem) (q : (ro_Mem ⊕ ro_Mem)), rec s = some q → ok_X3_readLaw_18 K q → ro_X K 18 [(0, .ref (ro_ad (kG K) 50)), (1, .ref (ro_ad (kG K) 60)), (2, .int s.1)] [] s.2) (hf : fb_X3_readLaw_18 rec v2 μ = some q) (hq : ok_X3_readLaw_18 K q) : ro_X K 18 [(0, .ref (ro_ad (kG K) 50)), (1, .ref (ro_ad (kG K) 60)), (2, .int v2)] [] μ := by
  unfold fb_X3_readLaw_18 at hf
  refine ro_iload_n hK 2 rfl dX3_readLaw_18 rfl ?_
  refine ro_bipush (v := 14) hK dX3_readLaw_19 (by decide) ?_
  refine ro_icmp_gt hK 71 dX3_readLaw_21 (by decide) (fun c7 => ?_) (fun c7 => ?_)
  · have hf := ro_it hf c7
    refine ro_sub (L' := [(1, .ref (ro_ad (kG K) 60))]) [1] rfl ?_
    obtain rfl := Option.some.inj hf
    exact hq
  · have hf := ro_ie hf c7
    refine ro_aload_n hK 1 rfl dX3_readLaw_24 rfl ?_
    refine ro_geti hK fl_X3_25 sh_60 dX3_readLaw_25 ?_
    refine ro_if_ne hK 71 dX3_readLaw_28 (by decide) (fun c8 => ?_) (fun c8 => ?_)
    · have hf := ro_ie hf c8
      refine ro_sub (L' := [(1, .ref (ro_ad (kG K) 60))]) [1] rfl ?_
      obtain rfl := Option.some.inj hf
      exact hq
    · have hf := ro_it hf c8
      refine ro_aload_n hK 0 rfl dX3_readLaw_31 rfl ?_
      refine ro_aload_n hK 1 rfl dX3_readLaw_32 rfl ?_
      obtain ⟨q9, e10, hf⟩ := ro_bd hf
      refine ro_callvv hK [.ref (ro_ad (kG K) 60)] ml_X3_30 mv_X3_readClause (mt_X3_readClause (kl K) (kG K)  e10) sh_50 ⟨_, rfl, rfl⟩ (by decide) rfl rfl (Nat.le_of_ble_eq_true rfl) dX3_readLaw_33 ?_
      refine ro_aload_n hK 1 rfl dX3_readLaw_36 rfl ?_
      refine ro_geti hK fl_X3_25 sh_60 dX3_readLaw_37 ?_
      refine ro_if_ne hK 59 dX3_readLaw_40 (by decide) (fun c11 => ?_) (fun c11 => ?_)
      · have hf := ro_ie hf c11
        exact bj_X3_readLaw_59 hK hR  hrec hf hq
      · have hf := ro_it hf c11
        refine ro_aload_n hK 1 rfl dX3_readLaw_43 rfl ?_
        obtain ⟨q14, e15, hf⟩ := ro_bd hf
        refine ro_callvi hK [] ml_X3_34 mv_X8_peek (mt_X8_peek (kl K) (kG K)  e15) sh_60 ⟨_, rfl, rfl⟩ (by decide) rfl rfl (Nat.le_of_ble_eq_true rfl) dX3_readLaw_44 ?_
        refine ro_iconst (v := (-1)) hK dX3_readLaw_47 (by decide) ?_
        refine ro_icmp_ne hK 59 dX3_readLaw_48 (by decide) (fun c16 => ?_) (fun c16 => ?_)
        · have hf := ro_ie hf c16
          exact bj_X3_readLaw_59 hK hR  hrec hf hq
        · have hf := ro_it hf c16
          refine ro_sub (L' := [(0, .ref (ro_ad (kG K) 50))]) [0] rfl ?_
          obtain rfl := Option.some.inj hf
          exact hq
def fl_X3_readLaw_18  : (Int32 × ro_Mem) → Option (ro_Mem ⊕ ro_Mem) :=
  ro_loop (fun rec s => fb_X3_readLaw_18 rec s.1 s.2) ro_FU
theorem lp_X3_readLaw_18 {K : ro_K} (hK : ro_C K RX3 cX3_readLaw 3 202) (hR : ro_R K (some .int))   {s : Int32 × ro_Mem} {q : (ro_Mem ⊕ ro_Mem)} (hf : fl_X3_readLaw_18 s = some q) (hq : ok_X3_readLaw_18 K q) : ro_X K 18 [(0, .ref (ro_ad (kG K) 50)), (1, .ref (ro_ad (kG K) 60)), (2, .int s.1)] [] s.2 :=
  ro_loopX (b := fun rec s => fb_X3_readLaw_18 rec s.1 s.2) (X := fun s => ro_X K 18 [(0, .ref (ro_ad (kG K) 50)), (1, .ref (ro_ad (kG K) 60)), (2, .int s.1)] [] s.2) (OK := ok_X3_readLaw_18 K) (fun rec s q hrec hb ho => bb_X3_readLaw_18 hK hR  hrec hb ho) ro_FU s q hf hq
def fn_X3_readLaw (μ : ro_Mem) : Option (Int32 × ro_Mem) :=
  if ro_sh (ro_rf μ 50 0) = (0, 2) then
  (ro_lt (ro_set μ (ro_rf μ 50 0) 2 0) fun m2 =>
  if ro_sh (ro_rf m2 50 0) = (0, 2) then
  (ro_lt (ro_set m2 (ro_rf m2 50 0) 3 0) fun m5 =>
  (fl_X3_readLaw_18  (0, m5)).bind fun q17 =>
  q17.elim (fun e19 => if ro_sh (ro_rf e19 50 0) = (0, 2) then
  (some (e19 (ro_rf e19 50 0) 3, e19)) else none) (fun e20 => some (e20 60 4, e20))) else none) else none
theorem be_X3_readLaw {K : ro_K} (hK : ro_C K RX3 cX3_readLaw 3 202) (hR : ro_R K (some .int))   {μ : ro_Mem} {out : Int32 × ro_Mem} (hf : fn_X3_readLaw μ = some out) (hq : kQ K (some (.int out.1)) out.2) : ro_X K 0 [(0, .ref (ro_ad (kG K) 50)), (1, .ref (ro_ad (kG K) 60))] [] μ := by
  unfold fn_X3_readLaw at hf
  refine ro_aload_n hK 0 rfl dX3_readLaw_0 rfl ?_
  obtain ⟨g1, hf⟩ := ro_gd hf
  refine ro_getm hK fl_X3_12 sh_50 dX3_readLaw_1 ?_
  refine ro_iconst (v := 0) hK dX3_readLaw_4 (by decide) ?_
  obtain ⟨m2, e3, hf⟩ := ro_ld hf
  refine ro_puti hK fl_X3_18 g1 rfl rfl dX3_readLaw_5 ?_
  refine ro_mv e3 ?_
  refine ro_aload_n hK 0 rfl dX3_readLaw_8 rfl ?_
  obtain ⟨g4, hf⟩ := ro_gd hf
  refine ro_getm hK fl_X3_12 sh_50 dX3_readLaw_9 ?_
  refine ro_iconst (v := 0) hK dX3_readLaw_12 (by decide) ?_
  obtain ⟨m5, e6, hf⟩ := ro_ld hf
  refine ro_puti hK fl_X3_22 g4 rfl rfl dX3_readLaw_13 ?_
  refine ro_mv e6 ?_
  refine ro_iconst (v := 0) hK dX3_readLaw_16 (by decide) ?_
  refine ro_istore_n (L' := [(2, .int 0), (0, .ref (ro_ad (kG K) 50)), (1, .ref (ro_ad (kG K) 60))]) hK dX3_readLaw_17 rfl (by decide) rfl ?_
  obtain ⟨q17, e18, hf⟩ := ro_bd hf
  refine ro_sub (L' := [(0, .ref (ro_ad (kG K) 50)), (1, .ref (ro_ad (kG K) 60)), (2, .int 0)]) [1, 2, 0] rfl ?_
  refine lp_X3_readLaw_18 hK hR  e18 ?_
  rcases q17 with e19 | e20
  · have hf := ro_el hf
    show ro_X K 51 [(0, .ref (ro_ad (kG K) 50))] [] e19
    refine ro_aload_n hK 0 rfl dX3_readLaw_51 rfl ?_
    obtain ⟨g21, hf⟩ := ro_gd hf
    refine ro_getm hK fl_X3_12 sh_50 dX3_readLaw_52 ?_
    refine ro_geti hK fl_X3_22 g21 dX3_readLaw_55 ?_
    obtain rfl := Option.some.inj hf
    exact ro_iret hK hR dX3_readLaw_58 hq
  · have hf := ro_er hf
    show ro_X K 71 [(1, .ref (ro_ad (kG K) 60))] [] e20
    refine ro_aload_n hK 0 rfl dX3_readLaw_71 rfl ?_
    refine ro_geti hK fl_X3_25 sh_60 dX3_readLaw_72 ?_
    obtain rfl := Option.some.inj hf
    exact ro_iret hK hR dX3_readLaw_75 hq
theorem mt_X3_readLaw (l : Launch) (G : ro_G)   {μ : ro_Mem} {out : Int32 × ro_Mem} (hf : fn_X3_readLaw μ = some out) : ro_MX l G yX3_readLaw cX3_readLaw 3 (some .int) 202 [.ref (ro_ad G 50), .ref (ro_ad G 60)] μ (some (.int out.1)) out.2 := by
  refine ro_MX.of (by decide +kernel) (Nat.le_of_ble_eq_true rfl) (fun K hG hl hq hK hR => ?_)
  subst hG
  exact be_X3_readLaw hK hR  hf hq
-- ===== X4_clear =====
theorem dX4_clear_0 : decode cX4_clear 0 = .ok (.aload_n 0, 1) := by decide +kernel
theorem dX4_clear_1 : decode cX4_clear 1 = .ok (.iconst 0, 1) := by decide +kernel
theorem dX4_clear_2 : decode cX4_clear 2 = .ok (.putfield 24, 3) := by decide +kernel
theorem dX4_clear_5 : decode cX4_clear 5 = .ok (.return_, 1) := by decide +kernel
def fn_X4_clear (μ : ro_Mem) : Option ro_Mem :=
  ro_lt (ro_set μ 76 2 0) fun m1 =>
  some m1
theorem be_X4_clear {K : ro_K} (hK : ro_C K RX4 cX4_clear 1 0) (hR : ro_R K none)   {μ : ro_Mem} {out : ro_Mem} (hf : fn_X4_clear μ = some out) (hq : kQ K none out) : ro_X K 0 [(0, .ref (ro_ad (kG K) 76))] [] μ := by
  unfold fn_X4_clear at hf
  refine ro_aload_n hK 0 rfl dX4_clear_0 rfl ?_
  refine ro_iconst (v := 0) hK dX4_clear_1 (by decide) ?_
  obtain ⟨m1, e2, hf⟩ := ro_ld hf
  refine ro_puti hK fl_X4_24 sh_76 rfl rfl dX4_clear_2 ?_
  refine ro_mv e2 ?_
  obtain rfl := Option.some.inj hf
  exact ro_vret hK hR dX4_clear_5 hq
theorem mt_X4_clear (l : Launch) (G : ro_G)   {μ : ro_Mem} {out : ro_Mem} (hf : fn_X4_clear μ = some out) : ro_MX l G yX4_clear cX4_clear 1 none 0 [.ref (ro_ad G 76)] μ none out := by
  refine ro_MX.of (by decide +kernel) (Nat.le_of_ble_eq_true rfl) (fun K hG hl hq hK hR => ?_)
  subst hG
  exact be_X4_clear hK hR  hf hq
-- ===== X10_sort =====
theorem dX10_sort_0 : decode cX10_sort 0 = .ok (.iconst 0, 1) := by decide +kernel
theorem dX10_sort_1 : decode cX10_sort 1 = .ok (.istore_n 1, 1) := by decide +kernel
theorem dX10_sort_2 : decode cX10_sort 2 = .ok (.iload_n 1, 1) := by decide +kernel
theorem dX10_sort_3 : decode cX10_sort 3 = .ok (.aload_n 0, 1) := by decide +kernel
theorem dX10_sort_4 : decode cX10_sort 4 = .ok (.getfield 21, 3) := by decide +kernel
theorem dX10_sort_7 : decode cX10_sort 7 = .ok (.arraylength, 1) := by decide +kernel
theorem dX10_sort_8 : decode cX10_sort 8 = .ok (.if_icmp .ge 64, 3) := by decide +kernel
theorem dX10_sort_11 : decode cX10_sort 11 = .ok (.iload_n 1, 1) := by decide +kernel
theorem dX10_sort_12 : decode cX10_sort 12 = .ok (.istore_n 2, 1) := by decide +kernel
theorem dX10_sort_13 : decode cX10_sort 13 = .ok (.iload_n 2, 1) := by decide +kernel
theorem dX10_sort_14 : decode cX10_sort 14 = .ok (.ifCond .le 45, 3) := by decide +kernel
theorem dX10_sort_17 : decode cX10_sort 17 = .ok (.aload_n 0, 1) := by decide +kernel
theorem dX10_sort_18 : decode cX10_sort 18 = .ok (.getfield 15, 3) := by decide +kernel
theorem dX10_sort_21 : decode cX10_sort 21 = .ok (.aload_n 0, 1) := by decide +kernel
theorem dX10_sort_22 : decode cX10_sort 22 = .ok (.getfield 21, 3) := by decide +kernel
theorem dX10_sort_25 : decode cX10_sort 25 = .ok (.iload_n 2, 1) := by decide +kernel
theorem dX10_sort_26 : decode cX10_sort 26 = .ok (.iconst 1, 1) := by decide +kernel
theorem dX10_sort_27 : decode cX10_sort 27 = .ok (.isub, 1) := by decide +kernel
theorem dX10_sort_28 : decode cX10_sort 28 = .ok (.iaload, 1) := by decide +kernel
theorem dX10_sort_29 : decode cX10_sort 29 = .ok (.iaload, 1) := by decide +kernel
theorem dX10_sort_30 : decode cX10_sort 30 = .ok (.aload_n 0, 1) := by decide +kernel
theorem dX10_sort_31 : decode cX10_sort 31 = .ok (.getfield 15, 3) := by decide +kernel
theorem dX10_sort_34 : decode cX10_sort 34 = .ok (.iload_n 1, 1) := by decide +kernel
theorem dX10_sort_35 : decode cX10_sort 35 = .ok (.iaload, 1) := by decide +kernel
theorem dX10_sort_36 : decode cX10_sort 36 = .ok (.if_icmp .ge 23, 3) := by decide +kernel
theorem dX10_sort_39 : decode cX10_sort 39 = .ok (.aload_n 0, 1) := by decide +kernel
theorem dX10_sort_40 : decode cX10_sort 40 = .ok (.getfield 21, 3) := by decide +kernel
theorem dX10_sort_43 : decode cX10_sort 43 = .ok (.iload_n 2, 1) := by decide +kernel
theorem dX10_sort_44 : decode cX10_sort 44 = .ok (.aload_n 0, 1) := by decide +kernel
theorem dX10_sort_45 : decode cX10_sort 45 = .ok (.getfield 21, 3) := by decide +kernel
theorem dX10_sort_48 : decode cX10_sort 48 = .ok (.iload_n 2, 1) := by decide +kernel
theorem dX10_sort_49 : decode cX10_sort 49 = .ok (.iconst 1, 1) := by decide +kernel
theorem dX10_sort_50 : decode cX10_sort 50 = .ok (.isub, 1) := by decide +kernel
theorem dX10_sort_51 : decode cX10_sort 51 = .ok (.iaload, 1) := by decide +kernel
theorem dX10_sort_52 : decode cX10_sort 52 = .ok (.iastore, 1) := by decide +kernel
theorem dX10_sort_53 : decode cX10_sort 53 = .ok (.iinc 2 (-1), 3) := by decide +kernel
theorem dX10_sort_56 : decode cX10_sort 56 = .ok (.goto (-43), 3) := by decide +kernel
theorem dX10_sort_59 : decode cX10_sort 59 = .ok (.aload_n 0, 1) := by decide +kernel
theorem dX10_sort_60 : decode cX10_sort 60 = .ok (.getfield 21, 3) := by decide +kernel
theorem dX10_sort_63 : decode cX10_sort 63 = .ok (.iload_n 2, 1) := by decide +kernel
theorem dX10_sort_64 : decode cX10_sort 64 = .ok (.iload_n 1, 1) := by decide +kernel
theorem dX10_sort_65 : decode cX10_sort 65 = .ok (.iastore, 1) := by decide +kernel
theorem dX10_sort_66 : decode cX10_sort 66 = .ok (.iinc 1 1, 3) := by decide +kernel
theorem dX10_sort_69 : decode cX10_sort 69 = .ok (.goto (-67), 3) := by decide +kernel
theorem dX10_sort_72 : decode cX10_sort 72 = .ok (.return_, 1) := by decide +kernel
def ok_X10_sort_2 (K : ro_K) (o0 : Nat) : ro_Mem → Prop := fun e => ro_X K 72 [] [] e
def ok_X10_sort_13 (K : ro_K) (o0 : Nat) (v1 : Int32) : (Int32 × ro_Mem) → Prop := fun e => ro_X K 59 [(0, .ref (ro_ad (kG K) o0)), (1, .int v1), (2, .int e.1)] [] e.2
def fb_X10_sort_13 (o0 : Nat) (v1 : Int32) (rec : (Int32 × ro_Mem) → Option (Int32 × ro_Mem)) (v2 : Int32) (μ : ro_Mem) : Option (Int32 × ro_Mem) :=
  if v2 ≤ 0 then
  (some (v2, μ))
  else
  (if ro_in (v2 - 1) (ro_len (o0 + 2)) then
  (if ro_in (μ (o0 + 2) (v2 - 1).toNatClampNeg) (ro_len (o0 + 1)) then
  (if ro_in v1 (ro_len (o0 + 1)) then
  (if (μ (o0 + 1) v1.toNatClampNeg) ≤ (μ (o0 + 1) (μ (o0 + 2) (v2 - 1).toNatClampNeg).toNatClampNeg) then
  (some (v2, μ))
  else
  (if ro_in v2 (ro_len (o0 + 2)) then
  (ro_lt (ro_set μ (o0 + 2) v2.toNatClampNeg (μ (o0 + 2) (v2 - 1).toNatClampNeg)) fun m8 =>
  rec (v2 + (-1), m8)) else none)) else none) else none) else none)
theorem bb_X10_sort_13 {K : ro_K} (hK : ro_C K RX10 cX10_sort 3 0) (hR : ro_R K none) {o0 : Nat} {v1 : Int32} (h0 : ro_sh o0 = (0, 10)) {μ : ro_Mem} {rec : (Int32 × ro_Mem) → Option (Int32 × ro_Mem)} {v2 : Int32} {q : (Int32 × ro_Mem)} (hrec : ∀ (s : Int32 × ro_Mem) (q : (Int32 × ro_Mem)), rec s = some q → ok_X10_sort_13 K o0 v1 q → ro_X K 13 [(0, .ref (ro_ad (kG K) o0)), (1, .int v1), (2, .int s.1)] [] s.2) (hf : fb_X10_sort_13 o0 v1 rec v2 μ = some q) (hq : ok_X10_sort_13 K o0 v1 q) : ro_X K 13 [(0, .ref (ro_ad (kG K) o0)), (1, .int v1), (2, .int v2)] [] μ := by
  unfold fb_X10_sort_13 at hf
  refine ro_iload_n hK 2 rfl dX10_sort_13 rfl ?_
  refine ro_if_le hK 59 dX10_sort_14 (by decide) (fun c2 => ?_) (fun c2 => ?_)
  · have hf := ro_it hf c2
    obtain rfl := Option.some.inj hf
    exact hq
  · have hf := ro_ie hf c2
    refine ro_aload_n hK 0 rfl dX10_sort_17 rfl ?_
    refine ro_getr hK fl_X10_15 h0 dX10_sort_18 ?_
    refine ro_aload_n hK 0 rfl dX10_sort_21 rfl ?_
    refine ro_getr hK fl_X10_21 h0 dX10_sort_22 ?_
    refine ro_iload_n hK 2 rfl dX10_sort_25 rfl ?_
    refine ro_iconst (v := 1) hK dX10_sort_26 (by decide) ?_
    refine ro_isub hK dX10_sort_27 ?_
    obtain ⟨g3, hf⟩ := ro_gd hf
    refine ro_iald hK (so_10_2 h0) g3 dX10_sort_28 ?_
    obtain ⟨g4, hf⟩ := ro_gd hf
    refine ro_iald hK (so_10_1 h0) g4 dX10_sort_29 ?_
    refine ro_aload_n hK 0 rfl dX10_sort_30 rfl ?_
    refine ro_getr hK fl_X10_15 h0 dX10_sort_31 ?_
    refine ro_iload_n hK 1 rfl dX10_sort_34 rfl ?_
    obtain ⟨g5, hf⟩ := ro_gd hf
    refine ro_iald hK (so_10_1 h0) g5 dX10_sort_35 ?_
    refine ro_icmp_ge hK 59 dX10_sort_36 (by decide) (fun c6 => ?_) (fun c6 => ?_)
    · have hf := ro_it hf c6
      obtain rfl := Option.some.inj hf
      exact hq
    · have hf := ro_ie hf c6
      refine ro_aload_n hK 0 rfl dX10_sort_39 rfl ?_
      refine ro_getr hK fl_X10_21 h0 dX10_sort_40 ?_
      refine ro_iload_n hK 2 rfl dX10_sort_43 rfl ?_
      refine ro_aload_n hK 0 rfl dX10_sort_44 rfl ?_
      refine ro_getr hK fl_X10_21 h0 dX10_sort_45 ?_
      refine ro_iload_n hK 2 rfl dX10_sort_48 rfl ?_
      refine ro_iconst (v := 1) hK dX10_sort_49 (by decide) ?_
      refine ro_isub hK dX10_sort_50 ?_
      refine ro_iald hK (so_10_2 h0) g3 dX10_sort_51 ?_
      obtain ⟨g7, hf⟩ := ro_gd hf
      obtain ⟨m8, e9, hf⟩ := ro_ld hf
      refine ro_iast hK (so_10_2 h0) g7 dX10_sort_52 ?_
      refine ro_mv e9 ?_
      refine ro_iinc (v := v2 + (-1)) (L' := [(2, .int (v2 + (-1))), (0, .ref (ro_ad (kG K) o0)), (1, .int v1)]) hK 2 rfl dX10_sort_53 rfl (by decide) rfl ?_
      refine ro_goto hK 13 dX10_sort_56 (by decide) ?_
      refine ro_sub (L' := [(0, .ref (ro_ad (kG K) o0)), (1, .int v1), (2, .int (v2 + (-1)))]) [1, 2, 0] rfl ?_
      exact hrec (v2 + (-1), m8) _ hf hq
def fl_X10_sort_13 (o0 : Nat) (v1 : Int32) : (Int32 × ro_Mem) → Option (Int32 × ro_Mem) :=
  ro_loop (fun rec s => fb_X10_sort_13 o0 v1 rec s.1 s.2) ro_FU
theorem lp_X10_sort_13 {K : ro_K} (hK : ro_C K RX10 cX10_sort 3 0) (hR : ro_R K none) {o0 : Nat} {v1 : Int32} (h0 : ro_sh o0 = (0, 10)) {s : Int32 × ro_Mem} {q : (Int32 × ro_Mem)} (hf : fl_X10_sort_13 o0 v1 s = some q) (hq : ok_X10_sort_13 K o0 v1 q) : ro_X K 13 [(0, .ref (ro_ad (kG K) o0)), (1, .int v1), (2, .int s.1)] [] s.2 :=
  ro_loopX (b := fun rec s => fb_X10_sort_13 o0 v1 rec s.1 s.2) (X := fun s => ro_X K 13 [(0, .ref (ro_ad (kG K) o0)), (1, .int v1), (2, .int s.1)] [] s.2) (OK := ok_X10_sort_13 K o0 v1) (fun rec s q hrec hb ho => bb_X10_sort_13 hK hR h0 hrec hb ho) ro_FU s q hf hq
def fj_X10_sort_59 (rec : (Int32 × ro_Mem) → Option ro_Mem) (o0 : Nat) (v1 : Int32) (v2 : Int32) (μ : ro_Mem) : Option ro_Mem :=
  if ro_in v2 (ro_len (o0 + 2)) then
  (ro_lt (ro_set μ (o0 + 2) v2.toNatClampNeg v1) fun m13 =>
  rec (v1 + 1, m13)) else none
theorem bj_X10_sort_59 {K : ro_K} (hK : ro_C K RX10 cX10_sort 3 0) (hR : ro_R K none) {o0 : Nat} {v1 : Int32} {v2 : Int32} (h0 : ro_sh o0 = (0, 10)) {rec : (Int32 × ro_Mem) → Option ro_Mem} {μ : ro_Mem} (hrec : ∀ (s : Int32 × ro_Mem) (q : ro_Mem), rec s = some q → ok_X10_sort_2 K o0 q → ro_X K 2 [(0, .ref (ro_ad (kG K) o0)), (1, .int s.1)] [] s.2) {out : ro_Mem} (hf : fj_X10_sort_59 rec o0 v1 v2 μ = some out) (hq : ok_X10_sort_2 K o0 out) : ro_X K 59 [(0, .ref (ro_ad (kG K) o0)), (1, .int v1), (2, .int v2)] [] μ := by
  unfold fj_X10_sort_59 at hf
  refine ro_aload_n hK 0 rfl dX10_sort_59 rfl ?_
  refine ro_getr hK fl_X10_21 h0 dX10_sort_60 ?_
  refine ro_iload_n hK 2 rfl dX10_sort_63 rfl ?_
  refine ro_iload_n hK 1 rfl dX10_sort_64 rfl ?_
  obtain ⟨g12, hf⟩ := ro_gd hf
  obtain ⟨m13, e14, hf⟩ := ro_ld hf
  refine ro_iast hK (so_10_2 h0) g12 dX10_sort_65 ?_
  refine ro_mv e14 ?_
  refine ro_iinc (v := v1 + 1) (L' := [(1, .int (v1 + 1)), (0, .ref (ro_ad (kG K) o0)), (2, .int v2)]) hK 1 rfl dX10_sort_66 rfl (by decide) rfl ?_
  refine ro_goto hK 2 dX10_sort_69 (by decide) ?_
  refine ro_sub (L' := [(0, .ref (ro_ad (kG K) o0)), (1, .int (v1 + 1))]) [1, 0] rfl ?_
  exact hrec (v1 + 1, m13) _ hf hq
def fb_X10_sort_2 (o0 : Nat) (rec : (Int32 × ro_Mem) → Option ro_Mem) (v1 : Int32) (μ : ro_Mem) : Option ro_Mem :=
  if (nI (ro_len (o0 + 2))) ≤ v1 then
  (some μ)
  else
  ((fl_X10_sort_13 o0 v1 (v1, μ)).bind fun q10 =>
  fj_X10_sort_59 rec o0 v1 q10.1 q10.2)
theorem bb_X10_sort_2 {K : ro_K} (hK : ro_C K RX10 cX10_sort 3 0) (hR : ro_R K none) {o0 : Nat} (h0 : ro_sh o0 = (0, 10)) {μ : ro_Mem} {rec : (Int32 × ro_Mem) → Option ro_Mem} {v1 : Int32} {q : ro_Mem} (hrec : ∀ (s : Int32 × ro_Mem) (q : ro_Mem), rec s = some q → ok_X10_sort_2 K o0 q → ro_X K 2 [(0, .ref (ro_ad (kG K) o0)), (1, .int s.1)] [] s.2) (hf : fb_X10_sort_2 o0 rec v1 μ = some q) (hq : ok_X10_sort_2 K o0 q) : ro_X K 2 [(0, .ref (ro_ad (kG K) o0)), (1, .int v1)] [] μ := by
  unfold fb_X10_sort_2 at hf
  refine ro_iload_n hK 1 rfl dX10_sort_2 rfl ?_
  refine ro_aload_n hK 0 rfl dX10_sort_3 rfl ?_
  refine ro_getr hK fl_X10_21 h0 dX10_sort_4 ?_
  refine ro_alen hK (so_10_2 h0) dX10_sort_7 ?_
  refine ro_icmp_ge hK 72 dX10_sort_8 (by decide) (fun c1 => ?_) (fun c1 => ?_)
  · have hf := ro_it hf c1
    refine ro_sub (L' := []) [] rfl ?_
    obtain rfl := Option.some.inj hf
    exact hq
  · have hf := ro_ie hf c1
    refine ro_iload_n hK 1 rfl dX10_sort_11 rfl ?_
    refine ro_istore_n (L' := [(2, .int v1), (0, .ref (ro_ad (kG K) o0)), (1, .int v1)]) hK dX10_sort_12 rfl (by decide) rfl ?_
    obtain ⟨q10, e11, hf⟩ := ro_bd hf
    refine ro_sub (L' := [(0, .ref (ro_ad (kG K) o0)), (1, .int v1), (2, .int v1)]) [1, 2, 0] rfl ?_
    refine lp_X10_sort_13 hK hR h0 e11 ?_
    show ro_X K 59 [(0, .ref (ro_ad (kG K) o0)), (1, .int v1), (2, .int q10.1)] [] q10.2
    exact bj_X10_sort_59 hK hR h0 hrec hf hq
def fl_X10_sort_2 (o0 : Nat) : (Int32 × ro_Mem) → Option ro_Mem :=
  ro_loop (fun rec s => fb_X10_sort_2 o0 rec s.1 s.2) ro_FU
theorem lp_X10_sort_2 {K : ro_K} (hK : ro_C K RX10 cX10_sort 3 0) (hR : ro_R K none) {o0 : Nat} (h0 : ro_sh o0 = (0, 10)) {s : Int32 × ro_Mem} {q : ro_Mem} (hf : fl_X10_sort_2 o0 s = some q) (hq : ok_X10_sort_2 K o0 q) : ro_X K 2 [(0, .ref (ro_ad (kG K) o0)), (1, .int s.1)] [] s.2 :=
  ro_loopX (b := fun rec s => fb_X10_sort_2 o0 rec s.1 s.2) (X := fun s => ro_X K 2 [(0, .ref (ro_ad (kG K) o0)), (1, .int s.1)] [] s.2) (OK := ok_X10_sort_2 K o0) (fun rec s q hrec hb ho => bb_X10_sort_2 hK hR h0 hrec hb ho) ro_FU s q hf hq
def fn_X10_sort (o0 : Nat) (μ : ro_Mem) : Option ro_Mem :=
  (fl_X10_sort_2 o0 (0, μ)).bind fun q15 =>
  some q15
theorem be_X10_sort {K : ro_K} (hK : ro_C K RX10 cX10_sort 3 0) (hR : ro_R K none) {o0 : Nat} (h0 : ro_sh o0 = (0, 10)) {μ : ro_Mem} {out : ro_Mem} (hf : fn_X10_sort o0 μ = some out) (hq : kQ K none out) : ro_X K 0 [(0, .ref (ro_ad (kG K) o0))] [] μ := by
  unfold fn_X10_sort at hf
  refine ro_iconst (v := 0) hK dX10_sort_0 (by decide) ?_
  refine ro_istore_n (L' := [(1, .int 0), (0, .ref (ro_ad (kG K) o0))]) hK dX10_sort_1 rfl (by decide) rfl ?_
  obtain ⟨q15, e16, hf⟩ := ro_bd hf
  refine ro_sub (L' := [(0, .ref (ro_ad (kG K) o0)), (1, .int 0)]) [1, 0] rfl ?_
  refine lp_X10_sort_2 hK hR h0 e16 ?_
  show ro_X K 72 [] [] q15
  obtain rfl := Option.some.inj hf
  exact ro_vret hK hR dX10_sort_72 hq
theorem mt_X10_sort (l : Launch) (G : ro_G) {o0 : Nat} (h0 : ro_sh o0 = (0, 10)) {μ : ro_Mem} {out : ro_Mem} (hf : fn_X10_sort o0 μ = some out) : ro_MX l G yX10_sort cX10_sort 3 none 0 [.ref (ro_ad G o0)] μ none out := by
  refine ro_MX.of (by decide +kernel) (Nat.le_of_ble_eq_true rfl) (fun K hG hl hq hK hR => ?_)
  subst hG
  exact be_X10_sort hK hR h0 hf hq
-- ===== X4_add =====
theorem dX4_add_0 : decode cX4_add 0 = .ok (.aload_n 0, 1) := by decide +kernel
theorem dX4_add_1 : decode cX4_add 1 = .ok (.getfield 24, 3) := by decide +kernel
theorem dX4_add_4 : decode cX4_add 4 = .ok (.aload_n 0, 1) := by decide +kernel
theorem dX4_add_5 : decode cX4_add 5 = .ok (.getfield 17, 3) := by decide +kernel
theorem dX4_add_8 : decode cX4_add 8 = .ok (.arraylength, 1) := by decide +kernel
theorem dX4_add_9 : decode cX4_add 9 = .ok (.if_icmp .lt 4, 3) := by decide +kernel
theorem dX4_add_12 : decode cX4_add 12 = .ok (.return_, 1) := by decide +kernel
theorem dX4_add_13 : decode cX4_add 13 = .ok (.aload_n 0, 1) := by decide +kernel
theorem dX4_add_14 : decode cX4_add 14 = .ok (.getfield 17, 3) := by decide +kernel
theorem dX4_add_17 : decode cX4_add 17 = .ok (.aload_n 0, 1) := by decide +kernel
theorem dX4_add_18 : decode cX4_add 18 = .ok (.getfield 24, 3) := by decide +kernel
theorem dX4_add_21 : decode cX4_add 21 = .ok (.iload_n 1, 1) := by decide +kernel
theorem dX4_add_22 : decode cX4_add 22 = .ok (.iastore, 1) := by decide +kernel
theorem dX4_add_23 : decode cX4_add 23 = .ok (.iconst 0, 1) := by decide +kernel
theorem dX4_add_24 : decode cX4_add 24 = .ok (.istore 6, 2) := by decide +kernel
theorem dX4_add_26 : decode cX4_add 26 = .ok (.iload 6, 2) := by decide +kernel
theorem dX4_add_28 : decode cX4_add 28 = .ok (.bipush 16, 2) := by decide +kernel
theorem dX4_add_30 : decode cX4_add 30 = .ok (.if_icmp .ge 35, 3) := by decide +kernel
theorem dX4_add_33 : decode cX4_add 33 = .ok (.aload_n 0, 1) := by decide +kernel
theorem dX4_add_34 : decode cX4_add 34 = .ok (.getfield 11, 3) := by decide +kernel
theorem dX4_add_37 : decode cX4_add 37 = .ok (.aload_n 0, 1) := by decide +kernel
theorem dX4_add_38 : decode cX4_add 38 = .ok (.getfield 24, 3) := by decide +kernel
theorem dX4_add_41 : decode cX4_add 41 = .ok (.aaload, 1) := by decide +kernel
theorem dX4_add_42 : decode cX4_add 42 = .ok (.getfield 28, 3) := by decide +kernel
theorem dX4_add_45 : decode cX4_add 45 = .ok (.iload 6, 2) := by decide +kernel
theorem dX4_add_47 : decode cX4_add 47 = .ok (.aload_n 3, 1) := by decide +kernel
theorem dX4_add_48 : decode cX4_add 48 = .ok (.iload 6, 2) := by decide +kernel
theorem dX4_add_50 : decode cX4_add 50 = .ok (.iload 4, 2) := by decide +kernel
theorem dX4_add_52 : decode cX4_add 52 = .ok (.iload 5, 2) := by decide +kernel
theorem dX4_add_54 : decode cX4_add 54 = .ok (.aload_n 2, 1) := by decide +kernel
theorem dX4_add_55 : decode cX4_add 55 = .ok (.invokevirtual 31, 3) := by decide +kernel
theorem dX4_add_58 : decode cX4_add 58 = .ok (.iastore, 1) := by decide +kernel
theorem dX4_add_59 : decode cX4_add 59 = .ok (.iinc 6 1, 3) := by decide +kernel
theorem dX4_add_62 : decode cX4_add 62 = .ok (.goto (-36), 3) := by decide +kernel
theorem dX4_add_65 : decode cX4_add 65 = .ok (.aload_n 0, 1) := by decide +kernel
theorem dX4_add_66 : decode cX4_add 66 = .ok (.getfield 11, 3) := by decide +kernel
theorem dX4_add_69 : decode cX4_add 69 = .ok (.aload_n 0, 1) := by decide +kernel
theorem dX4_add_70 : decode cX4_add 70 = .ok (.getfield 24, 3) := by decide +kernel
theorem dX4_add_73 : decode cX4_add 73 = .ok (.aaload, 1) := by decide +kernel
theorem dX4_add_74 : decode cX4_add 74 = .ok (.invokevirtual 37, 3) := by decide +kernel
theorem dX4_add_77 : decode cX4_add 77 = .ok (.aload_n 0, 1) := by decide +kernel
theorem dX4_add_78 : decode cX4_add 78 = .ok (.dup, 1) := by decide +kernel
theorem dX4_add_79 : decode cX4_add 79 = .ok (.getfield 24, 3) := by decide +kernel
theorem dX4_add_82 : decode cX4_add 82 = .ok (.iconst 1, 1) := by decide +kernel
theorem dX4_add_83 : decode cX4_add 83 = .ok (.iadd, 1) := by decide +kernel
theorem dX4_add_84 : decode cX4_add 84 = .ok (.putfield 24, 3) := by decide +kernel
theorem dX4_add_87 : decode cX4_add 87 = .ok (.return_, 1) := by decide +kernel
def ok_X4_add_26 (K : ro_K) (v4 : Int32) (v5 : Int32) : ro_Mem → Prop := fun e => ro_X K 65 [(0, .ref (ro_ad (kG K) 76))] [] e
def fb_X4_add_26 (v4 : Int32) (v5 : Int32) (rec : (Int32 × ro_Mem) → Option ro_Mem) (v6 : Int32) (μ : ro_Mem) : Option ro_Mem :=
  if 16 ≤ v6 then
  (some μ)
  else
  (if ro_in (μ 76 2) 40 then
  ((fn_X0_fromSlate v6 v4 v5 μ).bind fun q7 =>
  if ro_in v6 (ro_len (77 + 2 + 3 * (μ 76 2).toNatClampNeg + 1)) then
  (ro_lt (ro_set μ ((77 + 2 + 3 * (μ 76 2).toNatClampNeg) + 1) v6.toNatClampNeg q7) fun m10 =>
  rec (v6 + 1, m10)) else none) else none)
theorem bb_X4_add_26 {K : ro_K} (hK : ro_C K RX4 cX4_add 7 4) (hR : ro_R K none) {v4 : Int32} {v5 : Int32}  {μ : ro_Mem} {rec : (Int32 × ro_Mem) → Option ro_Mem} {v6 : Int32} {q : ro_Mem} (hrec : ∀ (s : Int32 × ro_Mem) (q : ro_Mem), rec s = some q → ok_X4_add_26 K v4 v5 q → ro_X K 26 [(0, .ref (ro_ad (kG K) 76)), (2, .ref (ro_ad (kG K) 1)), (3, .ref (ro_ad (kG K) 62)), (4, .int v4), (5, .int v5), (6, .int s.1)] [] s.2) (hf : fb_X4_add_26 v4 v5 rec v6 μ = some q) (hq : ok_X4_add_26 K v4 v5 q) : ro_X K 26 [(0, .ref (ro_ad (kG K) 76)), (2, .ref (ro_ad (kG K) 1)), (3, .ref (ro_ad (kG K) 62)), (4, .int v4), (5, .int v5), (6, .int v6)] [] μ := by
  unfold fb_X4_add_26 at hf
  refine ro_iload hK 5 rfl dX4_add_26 ?_
  refine ro_bipush (v := 16) hK dX4_add_28 (by decide) ?_
  refine ro_icmp_ge hK 65 dX4_add_30 (by decide) (fun c5 => ?_) (fun c5 => ?_)
  · have hf := ro_it hf c5
    refine ro_sub (L' := [(0, .ref (ro_ad (kG K) 76))]) [0] rfl ?_
    obtain rfl := Option.some.inj hf
    exact hq
  · have hf := ro_ie hf c5
    refine ro_aload_n hK 0 rfl dX4_add_33 rfl ?_
    refine ro_getr hK fl_X4_11 sh_76 dX4_add_34 ?_
    refine ro_aload_n hK 0 rfl dX4_add_37 rfl ?_
    refine ro_geti hK fl_X4_24 sh_76 dX4_add_38 ?_
    obtain ⟨g6, hf⟩ := ro_gd hf
    refine ro_aald hK sh_77 g6 dX4_add_41 ?_
    refine ro_getr hK fl_X4_28 (sh_rows g6.2) dX4_add_42 ?_
    refine ro_iload hK 5 rfl dX4_add_45 ?_
    refine ro_aload_n hK 2 rfl dX4_add_47 rfl ?_
    refine ro_iload hK 5 rfl dX4_add_48 ?_
    refine ro_iload hK 3 rfl dX4_add_50 ?_
    refine ro_iload hK 4 rfl dX4_add_52 ?_
    refine ro_aload_n hK 1 rfl dX4_add_54 rfl ?_
    obtain ⟨q7, e8, hf⟩ := ro_bd hf
    refine ro_callvi hK [.int v6, .int v4, .int v5, .ref (ro_ad (kG K) 1)] ml_X4_31 mv_X0_fromSlate (mt_X0_fromSlate (kl K) (kG K)  e8) sh_62 ⟨_, rfl, rfl⟩ (by decide) rfl rfl (Nat.le_of_ble_eq_true rfl) dX4_add_55 ?_
    obtain ⟨g9, hf⟩ := ro_gd hf
    obtain ⟨m10, e11, hf⟩ := ro_ld hf
    refine ro_iast hK (so_10_1 (sh_rows g6.2)) g9 dX4_add_58 ?_
    refine ro_mv e11 ?_
    refine ro_iinc (v := v6 + 1) (L' := [(6, .int (v6 + 1)), (0, .ref (ro_ad (kG K) 76)), (2, .ref (ro_ad (kG K) 1)), (3, .ref (ro_ad (kG K) 62)), (4, .int v4), (5, .int v5)]) hK 5 rfl dX4_add_59 rfl (by decide) rfl ?_
    refine ro_goto hK 26 dX4_add_62 (by decide) ?_
    refine ro_sub (L' := [(0, .ref (ro_ad (kG K) 76)), (2, .ref (ro_ad (kG K) 1)), (3, .ref (ro_ad (kG K) 62)), (4, .int v4), (5, .int v5), (6, .int (v6 + 1))]) [1, 2, 3, 4, 5, 0] rfl ?_
    exact hrec (v6 + 1, m10) _ hf hq
def fl_X4_add_26 (v4 : Int32) (v5 : Int32) : (Int32 × ro_Mem) → Option ro_Mem :=
  ro_loop (fun rec s => fb_X4_add_26 v4 v5 rec s.1 s.2) ro_FU
theorem lp_X4_add_26 {K : ro_K} (hK : ro_C K RX4 cX4_add 7 4) (hR : ro_R K none) {v4 : Int32} {v5 : Int32}  {s : Int32 × ro_Mem} {q : ro_Mem} (hf : fl_X4_add_26 v4 v5 s = some q) (hq : ok_X4_add_26 K v4 v5 q) : ro_X K 26 [(0, .ref (ro_ad (kG K) 76)), (2, .ref (ro_ad (kG K) 1)), (3, .ref (ro_ad (kG K) 62)), (4, .int v4), (5, .int v5), (6, .int s.1)] [] s.2 :=
  ro_loopX (b := fun rec s => fb_X4_add_26 v4 v5 rec s.1 s.2) (X := fun s => ro_X K 26 [(0, .ref (ro_ad (kG K) 76)), (2, .ref (ro_ad (kG K) 1)), (3, .ref (ro_ad (kG K) 62)), (4, .int v4), (5, .int v5), (6, .int s.1)] [] s.2) (OK := ok_X4_add_26 K v4 v5) (fun rec s q hrec hb ho => bb_X4_add_26 hK hR  hrec hb ho) ro_FU s q hf hq
def fn_X4_add (v1 : Int32) (v4 : Int32) (v5 : Int32) (μ : ro_Mem) : Option ro_Mem :=
  if (μ 76 2) < (nI 40) then
  (if ro_in (μ 76 2) 40 then
  (ro_lt (ro_set μ 78 (μ 76 2).toNatClampNeg v1) fun m3 =>
  (fl_X4_add_26 v4 v5 (0, m3)).bind fun q12 =>
  if ro_in (q12 76 2) 40 then
  ((fn_X10_sort (77 + 2 + 3 * (q12 76 2).toNatClampNeg) q12).bind fun q15 =>
  ro_lt (ro_set q15 76 2 ((q15 76 2) + 1)) fun m17 =>
  some m17) else none) else none)
  else
  (some μ)
theorem be_X4_add {K : ro_K} (hK : ro_C K RX4 cX4_add 7 4) (hR : ro_R K none) {v1 : Int32} {v4 : Int32} {v5 : Int32}  {μ : ro_Mem} {out : ro_Mem} (hf : fn_X4_add v1 v4 v5 μ = some out) (hq : kQ K none out) : ro_X K 0 [(0, .ref (ro_ad (kG K) 76)), (1, .int v1), (2, .ref (ro_ad (kG K) 1)), (3, .ref (ro_ad (kG K) 62)), (4, .int v4), (5, .int v5)] [] μ := by
  unfold fn_X4_add at hf
  refine ro_aload_n hK 0 rfl dX4_add_0 rfl ?_
  refine ro_geti hK fl_X4_24 sh_76 dX4_add_1 ?_
  refine ro_aload_n hK 0 rfl dX4_add_4 rfl ?_
  refine ro_getr hK fl_X4_17 sh_76 dX4_add_5 ?_
  refine ro_alen hK sh_78 dX4_add_8 ?_
  refine ro_icmp_lt hK 13 dX4_add_9 (by decide) (fun c1 => ?_) (fun c1 => ?_)
  · have hf := ro_it hf c1
    refine ro_aload_n hK 0 rfl dX4_add_13 rfl ?_
    refine ro_getr hK fl_X4_17 sh_76 dX4_add_14 ?_
    refine ro_aload_n hK 0 rfl dX4_add_17 rfl ?_
    refine ro_geti hK fl_X4_24 sh_76 dX4_add_18 ?_
    refine ro_iload_n hK 1 rfl dX4_add_21 rfl ?_
    obtain ⟨g2, hf⟩ := ro_gd hf
    obtain ⟨m3, e4, hf⟩ := ro_ld hf
    refine ro_iast hK sh_78 g2 dX4_add_22 ?_
    refine ro_mv e4 ?_
    refine ro_iconst (v := 0) hK dX4_add_23 (by decide) ?_
    refine ro_istore (L' := [(6, .int 0), (0, .ref (ro_ad (kG K) 76)), (1, .int v1), (2, .ref (ro_ad (kG K) 1)), (3, .ref (ro_ad (kG K) 62)), (4, .int v4), (5, .int v5)]) hK dX4_add_24 (by decide) rfl ?_
    obtain ⟨q12, e13, hf⟩ := ro_bd hf
    refine ro_sub (L' := [(0, .ref (ro_ad (kG K) 76)), (2, .ref (ro_ad (kG K) 1)), (3, .ref (ro_ad (kG K) 62)), (4, .int v4), (5, .int v5), (6, .int 0)]) [1, 3, 4, 5, 6, 0] rfl ?_
    refine lp_X4_add_26 hK hR  e13 ?_
    show ro_X K 65 [(0, .ref (ro_ad (kG K) 76))] [] q12
    refine ro_aload_n hK 0 rfl dX4_add_65 rfl ?_
    refine ro_getr hK fl_X4_11 sh_76 dX4_add_66 ?_
    refine ro_aload_n hK 0 rfl dX4_add_69 rfl ?_
    refine ro_geti hK fl_X4_24 sh_76 dX4_add_70 ?_
    obtain ⟨g14, hf⟩ := ro_gd hf
    refine ro_aald hK sh_77 g14 dX4_add_73 ?_
    obtain ⟨q15, e16, hf⟩ := ro_bd hf
    refine ro_callvv hK [] ml_X4_37 mv_X10_sort (mt_X10_sort (kl K) (kG K) (sh_rows g14.2) e16) (sh_rows g14.2) ⟨_, rfl, rfl⟩ (by decide) rfl rfl (Nat.le_of_ble_eq_true rfl) dX4_add_74 ?_
    refine ro_aload_n hK 0 rfl dX4_add_77 rfl ?_
    refine ro_dup hK dX4_add_78 rfl ?_
    refine ro_geti hK fl_X4_24 sh_76 dX4_add_79 ?_
    refine ro_iconst (v := 1) hK dX4_add_82 (by decide) ?_
    refine ro_iadd hK dX4_add_83 ?_
    obtain ⟨m17, e18, hf⟩ := ro_ld hf
    refine ro_puti hK fl_X4_24 sh_76 rfl rfl dX4_add_84 ?_
    refine ro_mv e18 ?_
    obtain rfl := Option.some.inj hf
    exact ro_vret hK hR dX4_add_87 hq
  · have hf := ro_ie hf c1
    obtain rfl := Option.some.inj hf
    exact ro_vret hK hR dX4_add_12 hq
theorem mt_X4_add (l : Launch) (G : ro_G) {v1 : Int32} {v4 : Int32} {v5 : Int32}  {μ : ro_Mem} {out : ro_Mem} (hf : fn_X4_add v1 v4 v5 μ = some out) : ro_MX l G yX4_add cX4_add 7 none 4 [.ref (ro_ad G 76), .int v1, .ref (ro_ad G 1), .ref (ro_ad G 62), .int v4, .int v5] μ none out := by
  refine ro_MX.of (by decide +kernel) (Nat.le_of_ble_eq_true rfl) (fun K hG hl hq hK hR => ?_)
  subst hG
  exact be_X4_add hK hR  hf hq
-- ===== X10_heaviest =====
theorem dX10_heaviest_0 : decode cX10_heaviest 0 = .ok (.iconst 0, 1) := by decide +kernel
theorem dX10_heaviest_1 : decode cX10_heaviest 1 = .ok (.istore 4, 2) := by decide +kernel
theorem dX10_heaviest_3 : decode cX10_heaviest 3 = .ok (.iconst 0, 1) := by decide +kernel
theorem dX10_heaviest_4 : decode cX10_heaviest 4 = .ok (.istore 5, 2) := by decide +kernel
theorem dX10_heaviest_6 : decode cX10_heaviest 6 = .ok (.iconst 0, 1) := by decide +kernel
theorem dX10_heaviest_7 : decode cX10_heaviest 7 = .ok (.istore 6, 2) := by decide +kernel
theorem dX10_heaviest_9 : decode cX10_heaviest 9 = .ok (.iload 6, 2) := by decide +kernel
theorem dX10_heaviest_11 : decode cX10_heaviest 11 = .ok (.aload_n 0, 1) := by decide +kernel
theorem dX10_heaviest_12 : decode cX10_heaviest 12 = .ok (.getfield 21, 3) := by decide +kernel
theorem dX10_heaviest_15 : decode cX10_heaviest 15 = .ok (.arraylength, 1) := by decide +kernel
theorem dX10_heaviest_16 : decode cX10_heaviest 16 = .ok (.if_icmp .ge 57, 3) := by decide +kernel
theorem dX10_heaviest_19 : decode cX10_heaviest 19 = .ok (.iload 5, 2) := by decide +kernel
theorem dX10_heaviest_21 : decode cX10_heaviest 21 = .ok (.iload_n 3, 1) := by decide +kernel
theorem dX10_heaviest_22 : decode cX10_heaviest 22 = .ok (.if_icmp .ge 51, 3) := by decide +kernel
theorem dX10_heaviest_25 : decode cX10_heaviest 25 = .ok (.aload_n 0, 1) := by decide +kernel
theorem dX10_heaviest_26 : decode cX10_heaviest 26 = .ok (.getfield 21, 3) := by decide +kernel
theorem dX10_heaviest_29 : decode cX10_heaviest 29 = .ok (.iload 6, 2) := by decide +kernel
theorem dX10_heaviest_31 : decode cX10_heaviest 31 = .ok (.iaload, 1) := by decide +kernel
theorem dX10_heaviest_32 : decode cX10_heaviest 32 = .ok (.iload_n 1, 1) := by decide +kernel
theorem dX10_heaviest_33 : decode cX10_heaviest 33 = .ok (.if_icmp .lt 34, 3) := by decide +kernel
theorem dX10_heaviest_36 : decode cX10_heaviest 36 = .ok (.aload_n 0, 1) := by decide +kernel
theorem dX10_heaviest_37 : decode cX10_heaviest 37 = .ok (.getfield 21, 3) := by decide +kernel
theorem dX10_heaviest_40 : decode cX10_heaviest 40 = .ok (.iload 6, 2) := by decide +kernel
theorem dX10_heaviest_42 : decode cX10_heaviest 42 = .ok (.iaload, 1) := by decide +kernel
theorem dX10_heaviest_43 : decode cX10_heaviest 43 = .ok (.iload_n 2, 1) := by decide +kernel
theorem dX10_heaviest_44 : decode cX10_heaviest 44 = .ok (.if_icmp .ge 23, 3) := by decide +kernel
theorem dX10_heaviest_47 : decode cX10_heaviest 47 = .ok (.iload 4, 2) := by decide +kernel
theorem dX10_heaviest_49 : decode cX10_heaviest 49 = .ok (.aload_n 0, 1) := by decide +kernel
theorem dX10_heaviest_50 : decode cX10_heaviest 50 = .ok (.getfield 15, 3) := by decide +kernel
theorem dX10_heaviest_53 : decode cX10_heaviest 53 = .ok (.aload_n 0, 1) := by decide +kernel
theorem dX10_heaviest_54 : decode cX10_heaviest 54 = .ok (.getfield 21, 3) := by decide +kernel
theorem dX10_heaviest_57 : decode cX10_heaviest 57 = .ok (.iload 6, 2) := by decide +kernel
theorem dX10_heaviest_59 : decode cX10_heaviest 59 = .ok (.iaload, 1) := by decide +kernel
theorem dX10_heaviest_60 : decode cX10_heaviest 60 = .ok (.iaload, 1) := by decide +kernel
theorem dX10_heaviest_61 : decode cX10_heaviest 61 = .ok (.iadd, 1) := by decide +kernel
theorem dX10_heaviest_62 : decode cX10_heaviest 62 = .ok (.istore 4, 2) := by decide +kernel
theorem dX10_heaviest_64 : decode cX10_heaviest 64 = .ok (.iinc 5 1, 3) := by decide +kernel
theorem dX10_heaviest_67 : decode cX10_heaviest 67 = .ok (.iinc 6 1, 3) := by decide +kernel
theorem dX10_heaviest_70 : decode cX10_heaviest 70 = .ok (.goto (-61), 3) := by decide +kernel
theorem dX10_heaviest_73 : decode cX10_heaviest 73 = .ok (.iload 4, 2) := by decide +kernel
theorem dX10_heaviest_75 : decode cX10_heaviest 75 = .ok (.ireturn, 1) := by decide +kernel
def ok_X10_heaviest_9 (K : ro_K) (o0 : Nat) (v1 : Int32) (v2 : Int32) (v3 : Int32) (μ : ro_Mem) : Int32 → Prop := fun e => ro_X K 73 [(4, .int e)] [] μ
def fb_X10_heaviest_9 (o0 : Nat) (v1 : Int32) (v2 : Int32) (v3 : Int32) (μ : ro_Mem) (rec : (Int32 × Int32 × Int32) → Option Int32) (v4 : Int32) (v5 : Int32) (v6 : Int32) : Option Int32 :=
  if (nI (ro_len (o0 + 2))) ≤ v6 then
  (some v4)
  else
  (if v3 ≤ v5 then
  (some v4)
  else
  (if ro_in v6 (ro_len (o0 + 2)) then
  (if (μ (o0 + 2) v6.toNatClampNeg) < v1 then
  (rec (v4, v5, v6 + 1))
  else
  (if v2 ≤ (μ (o0 + 2) v6.toNatClampNeg) then
  (rec (v4, v5, v6 + 1))
  else
  (if ro_in (μ (o0 + 2) v6.toNatClampNeg) (ro_len (o0 + 1)) then
  (ro_lt (v4 + (μ (o0 + 1) (μ (o0 + 2) v6.toNatClampNeg).toNatClampNeg)) fun z7 =>
  rec (z7, v5 + 1, v6 + 1)) else none))) else none))
theorem bb_X10_heaviest_9 {K : ro_K} (hK : ro_C K RX10 cX10_heaviest 7 0) (hR : ro_R K (some .int)) {o0 : Nat} {v1 : Int32} {v2 : Int32} {v3 : Int32} (h0 : ro_sh o0 = (0, 10)) {μ : ro_Mem} {rec : (Int32 × Int32 × Int32) → Option Int32} {v4 : Int32} {v5 : Int32} {v6 : Int32} {q : Int32} (hrec : ∀ (s : Int32 × Int32 × Int32) (q : Int32), rec s = some q → ok_X10_heaviest_9 K o0 v1 v2 v3 μ q → ro_X K 9 [(0, .ref (ro_ad (kG K) o0)), (1, .int v1), (2, .int v2), (3, .int v3), (4, .int s.1), (5, .int s.2.1), (6, .int s.2.2)] [] μ) (hf : fb_X10_heaviest_9 o0 v1 v2 v3 μ rec v4 v5 v6 = some q) (hq : ok_X10_heaviest_9 K o0 v1 v2 v3 μ q) : ro_X K 9 [(0, .ref (ro_ad (kG K) o0)), (1, .int v1), (2, .int v2), (3, .int v3), (4, .int v4), (5, .int v5), (6, .int v6)] [] μ := by
  unfold fb_X10_heaviest_9 at hf
  refine ro_iload hK 6 rfl dX10_heaviest_9 ?_
  refine ro_aload_n hK 0 rfl dX10_heaviest_11 rfl ?_
  refine ro_getr hK fl_X10_21 h0 dX10_heaviest_12 ?_
  refine ro_alen hK (so_10_2 h0) dX10_heaviest_15 ?_
  refine ro_icmp_ge hK 73 dX10_heaviest_16 (by decide) (fun c1 => ?_) (fun c1 => ?_)
  · have hf := ro_it hf c1
    refine ro_sub (L' := [(4, .int v4)]) [4] rfl ?_
    obtain rfl := Option.some.inj hf
    exact hq
  · have hf := ro_ie hf c1
    refine ro_iload hK 5 rfl dX10_heaviest_19 ?_
    refine ro_iload_n hK 3 rfl dX10_heaviest_21 rfl ?_
    refine ro_icmp_ge hK 73 dX10_heaviest_22 (by decide) (fun c2 => ?_) (fun c2 => ?_)
    · have hf := ro_it hf c2
      refine ro_sub (L' := [(4, .int v4)]) [4] rfl ?_
      obtain rfl := Option.some.inj hf
      exact hq
    · have hf := ro_ie hf c2
      refine ro_aload_n hK 0 rfl dX10_heaviest_25 rfl ?_
      refine ro_getr hK fl_X10_21 h0 dX10_heaviest_26 ?_
      refine ro_iload hK 6 rfl dX10_heaviest_29 ?_
      obtain ⟨g3, hf⟩ := ro_gd hf
      refine ro_iald hK (so_10_2 h0) g3 dX10_heaviest_31 ?_
      refine ro_iload_n hK 1 rfl dX10_heaviest_32 rfl ?_
      refine ro_icmp_lt hK 67 dX10_heaviest_33 (by decide) (fun c4 => ?_) (fun c4 => ?_)
      · have hf := ro_it hf c4
        refine ro_iinc (v := v6 + 1) (L' := [(6, .int (v6 + 1)), (0, .ref (ro_ad (kG K) o0)), (1, .int v1), (2, .int v2), (3, .int v3), (4, .int v4), (5, .int v5)]) hK 6 rfl dX10_heaviest_67 rfl (by decide) rfl ?_
        refine ro_goto hK 9 dX10_heaviest_70 (by decide) ?_
        refine ro_sub (L' := [(0, .ref (ro_ad (kG K) o0)), (1, .int v1), (2, .int v2), (3, .int v3), (4, .int v4), (5, .int v5), (6, .int (v6 + 1))]) [1, 2, 3, 4, 5, 6, 0] rfl ?_
        exact hrec (v4, v5, v6 + 1) _ hf hq
      · have hf := ro_ie hf c4
        refine ro_aload_n hK 0 rfl dX10_heaviest_36 rfl ?_
        refine ro_getr hK fl_X10_21 h0 dX10_heaviest_37 ?_
        refine ro_iload hK 6 rfl dX10_heaviest_40 ?_
        refine ro_iald hK (so_10_2 h0) g3 dX10_heaviest_42 ?_
        refine ro_iload_n hK 2 rfl dX10_heaviest_43 rfl ?_
        refine ro_icmp_ge hK 67 dX10_heaviest_44 (by decide) (fun c5 => ?_) (fun c5 => ?_)
        · have hf := ro_it hf c5
          refine ro_iinc (v := v6 + 1) (L' := [(6, .int (v6 + 1)), (0, .ref (ro_ad (kG K) o0)), (1, .int v1), (2, .int v2), (3, .int v3), (4, .int v4), (5, .int v5)]) hK 6 rfl dX10_heaviest_67 rfl (by decide) rfl ?_
          refine ro_goto hK 9 dX10_heaviest_70 (by decide) ?_
          refine ro_sub (L' := [(0, .ref (ro_ad (kG K) o0)), (1, .int v1), (2, .int v2), (3, .int v3), (4, .int v4), (5, .int v5), (6, .int (v6 + 1))]) [1, 2, 3, 4, 5, 6, 0] rfl ?_
          exact hrec (v4, v5, v6 + 1) _ hf hq
        · have hf := ro_ie hf c5
          refine ro_iload hK 4 rfl dX10_heaviest_47 ?_
          refine ro_aload_n hK 0 rfl dX10_heaviest_49 rfl ?_
          refine ro_getr hK fl_X10_15 h0 dX10_heaviest_50 ?_
          refine ro_aload_n hK 0 rfl dX10_heaviest_53 rfl ?_
          refine ro_getr hK fl_X10_21 h0 dX10_heaviest_54 ?_
          refine ro_iload hK 6 rfl dX10_heaviest_57 ?_
          refine ro_iald hK (so_10_2 h0) g3 dX10_heaviest_59 ?_
          obtain ⟨g6, hf⟩ := ro_gd hf
          refine ro_iald hK (so_10_1 h0) g6 dX10_heaviest_60 ?_
          refine ro_iadd hK dX10_heaviest_61 ?_
          obtain ⟨z7, e8, hf⟩ := ro_ld hf
          refine ro_iv e8 ?_
          refine ro_istore (L' := [(4, .int z7), (0, .ref (ro_ad (kG K) o0)), (1, .int v1), (2, .int v2), (3, .int v3), (5, .int v5), (6, .int v6)]) hK dX10_heaviest_62 (by decide) rfl ?_
          refine ro_iinc (v := v5 + 1) (L' := [(5, .int (v5 + 1)), (4, .int z7), (0, .ref (ro_ad (kG K) o0)), (1, .int v1), (2, .int v2), (3, .int v3), (6, .int v6)]) hK 5 rfl dX10_heaviest_64 rfl (by decide) rfl ?_
          refine ro_iinc (v := v6 + 1) (L' := [(6, .int (v6 + 1)), (5, .int (v5 + 1)), (4, .int z7), (0, .ref (ro_ad (kG K) o0)), (1, .int v1), (2, .int v2), (3, .int v3)]) hK 6 rfl dX10_heaviest_67 rfl (by decide) rfl ?_
          refine ro_goto hK 9 dX10_heaviest_70 (by decide) ?_
          refine ro_sub (L' := [(0, .ref (ro_ad (kG K) o0)), (1, .int v1), (2, .int v2), (3, .int v3), (4, .int z7), (5, .int (v5 + 1)), (6, .int (v6 + 1))]) [3, 4, 5, 6, 2, 1, 0] rfl ?_
          exact hrec (z7, v5 + 1, v6 + 1) _ hf hq
def fl_X10_heaviest_9 (o0 : Nat) (v1 : Int32) (v2 : Int32) (v3 : Int32) (μ : ro_Mem) : (Int32 × Int32 × Int32) → Option Int32 :=
  ro_loop (fun rec s => fb_X10_heaviest_9 o0 v1 v2 v3 μ rec s.1 s.2.1 s.2.2) ro_FU
theorem lp_X10_heaviest_9 {K : ro_K} (hK : ro_C K RX10 cX10_heaviest 7 0) (hR : ro_R K (some .int)) {o0 : Nat} {v1 : Int32} {v2 : Int32} {v3 : Int32} (h0 : ro_sh o0 = (0, 10)) {μ : ro_Mem} {s : Int32 × Int32 × Int32} {q : Int32} (hf : fl_X10_heaviest_9 o0 v1 v2 v3 μ s = some q) (hq : ok_X10_heaviest_9 K o0 v1 v2 v3 μ q) : ro_X K 9 [(0, .ref (ro_ad (kG K) o0)), (1, .int v1), (2, .int v2), (3, .int v3), (4, .int s.1), (5, .int s.2.1), (6, .int s.2.2)] [] μ :=
  ro_loopX (b := fun rec s => fb_X10_heaviest_9 o0 v1 v2 v3 μ rec s.1 s.2.1 s.2.2) (X := fun s => ro_X K 9 [(0, .ref (ro_ad (kG K) o0)), (1, .int v1), (2, .int v2), (3, .int v3), (4, .int s.1), (5, .int s.2.1), (6, .int s.2.2)] [] μ) (OK := ok_X10_heaviest_9 K o0 v1 v2 v3 μ) (fun rec s q hrec hb ho => bb_X10_heaviest_9 hK hR h0 hrec hb ho) ro_FU s q hf hq
def fn_X10_heaviest (o0 : Nat) (v1 : Int32) (v2 : Int32) (v3 : Int32) (μ : ro_Mem) : Option Int32 :=
  (fl_X10_heaviest_9 o0 v1 v2 v3 μ (0, 0, 0)).bind fun q9 =>
  some q9
theorem be_X10_heaviest {K : ro_K} (hK : ro_C K RX10 cX10_heaviest 7 0) (hR : ro_R K (some .int)) {o0 : Nat} {v1 : Int32} {v2 : Int32} {v3 : Int32} (h0 : ro_sh o0 = (0, 10)) {μ : ro_Mem} {out : Int32} (hf : fn_X10_heaviest o0 v1 v2 v3 μ = some out) (hq : kQ K (some (.int out)) μ) : ro_X K 0 [(0, .ref (ro_ad (kG K) o0)), (1, .int v1), (2, .int v2), (3, .int v3)] [] μ := by
  unfold fn_X10_heaviest at hf
  refine ro_iconst (v := 0) hK dX10_heaviest_0 (by decide) ?_
  refine ro_istore (L' := [(4, .int 0), (0, .ref (ro_ad (kG K) o0)), (1, .int v1), (2, .int v2), (3, .int v3)]) hK dX10_heaviest_1 (by decide) rfl ?_
  refine ro_iconst (v := 0) hK dX10_heaviest_3 (by decide) ?_
  refine ro_istore (L' := [(5, .int 0), (4, .int 0), (0, .ref (ro_ad (kG K) o0)), (1, .int v1), (2, .int v2), (3, .int v3)]) hK dX10_heaviest_4 (by decide) rfl ?_
  refine ro_iconst (v := 0) hK dX10_heaviest_6 (by decide) ?_
  refine ro_istore (L' := [(6, .int 0), (5, .int 0), (4, .int 0), (0, .ref (ro_ad (kG K) o0)), (1, .int v1), (2, .int v2), (3, .int v3)]) hK dX10_heaviest_7 (by decide) rfl ?_
  obtain ⟨q9, e10, hf⟩ := ro_bd hf
  refine ro_sub (L' := [(0, .ref (ro_ad (kG K) o0)), (1, .int v1), (2, .int v2), (3, .int v3), (4, .int 0), (5, .int 0), (6, .int 0)]) [3, 4, 5, 6, 2, 1, 0] rfl ?_
  refine lp_X10_heaviest_9 hK hR h0 e10 ?_
  show ro_X K 73 [(4, .int q9)] [] μ
  refine ro_iload hK 0 rfl dX10_heaviest_73 ?_
  obtain rfl := Option.some.inj hf
  exact ro_iret hK hR dX10_heaviest_75 hq
theorem mt_X10_heaviest (l : Launch) (G : ro_G) {o0 : Nat} {v1 : Int32} {v2 : Int32} {v3 : Int32} (h0 : ro_sh o0 = (0, 10)) {μ : ro_Mem} {out : Int32} (hf : fn_X10_heaviest o0 v1 v2 v3 μ = some out) : ro_MX l G yX10_heaviest cX10_heaviest 7 (some .int) 0 [.ref (ro_ad G o0), .int v1, .int v2, .int v3] μ (some (.int out)) μ := by
  refine ro_MX.of (by decide +kernel) (Nat.le_of_ble_eq_true rfl) (fun K hG hl hq hK hR => ?_)
  subst hG
  exact be_X10_heaviest hK hR h0 hf hq
-- ===== X4_isInReach =====
theorem dX4_isInReach_0 : decode cX4_isInReach 0 = .ok (.iconst 0, 1) := by decide +kernel
theorem dX4_isInReach_1 : decode cX4_isInReach 1 = .ok (.istore_n 3, 1) := by decide +kernel
theorem dX4_isInReach_2 : decode cX4_isInReach 2 = .ok (.iload_n 3, 1) := by decide +kernel
theorem dX4_isInReach_3 : decode cX4_isInReach 3 = .ok (.aload_n 0, 1) := by decide +kernel
theorem dX4_isInReach_4 : decode cX4_isInReach 4 = .ok (.getfield 24, 3) := by decide +kernel
theorem dX4_isInReach_7 : decode cX4_isInReach 7 = .ok (.if_icmp .ge 41, 3) := by decide +kernel
theorem dX4_isInReach_10 : decode cX4_isInReach 10 = .ok (.aload_n 0, 1) := by decide +kernel
theorem dX4_isInReach_11 : decode cX4_isInReach 11 = .ok (.getfield 17, 3) := by decide +kernel
theorem dX4_isInReach_14 : decode cX4_isInReach 14 = .ok (.iload_n 3, 1) := by decide +kernel
theorem dX4_isInReach_15 : decode cX4_isInReach 15 = .ok (.iaload, 1) := by decide +kernel
theorem dX4_isInReach_16 : decode cX4_isInReach 16 = .ok (.ifCond .le 26, 3) := by decide +kernel
theorem dX4_isInReach_19 : decode cX4_isInReach 19 = .ok (.aload_n 0, 1) := by decide +kernel
theorem dX4_isInReach_20 : decode cX4_isInReach 20 = .ok (.getfield 11, 3) := by decide +kernel
theorem dX4_isInReach_23 : decode cX4_isInReach 23 = .ok (.iload_n 3, 1) := by decide +kernel
theorem dX4_isInReach_24 : decode cX4_isInReach 24 = .ok (.aaload, 1) := by decide +kernel
theorem dX4_isInReach_25 : decode cX4_isInReach 25 = .ok (.iconst 0, 1) := by decide +kernel
theorem dX4_isInReach_26 : decode cX4_isInReach 26 = .ok (.iload_n 1, 1) := by decide +kernel
theorem dX4_isInReach_27 : decode cX4_isInReach 27 = .ok (.iload_n 2, 1) := by decide +kernel
theorem dX4_isInReach_28 : decode cX4_isInReach 28 = .ok (.invokevirtual 51, 3) := by decide +kernel
theorem dX4_isInReach_31 : decode cX4_isInReach 31 = .ok (.aload_n 0, 1) := by decide +kernel
theorem dX4_isInReach_32 : decode cX4_isInReach 32 = .ok (.getfield 17, 3) := by decide +kernel
theorem dX4_isInReach_35 : decode cX4_isInReach 35 = .ok (.iload_n 3, 1) := by decide +kernel
theorem dX4_isInReach_36 : decode cX4_isInReach 36 = .ok (.iaload, 1) := by decide +kernel
theorem dX4_isInReach_37 : decode cX4_isInReach 37 = .ok (.if_icmp .ge 5, 3) := by decide +kernel
theorem dX4_isInReach_40 : decode cX4_isInReach 40 = .ok (.iconst 0, 1) := by decide +kernel
theorem dX4_isInReach_41 : decode cX4_isInReach 41 = .ok (.ireturn, 1) := by decide +kernel
theorem dX4_isInReach_42 : decode cX4_isInReach 42 = .ok (.iinc 3 1, 3) := by decide +kernel
theorem dX4_isInReach_45 : decode cX4_isInReach 45 = .ok (.goto (-43), 3) := by decide +kernel
theorem dX4_isInReach_48 : decode cX4_isInReach 48 = .ok (.iconst 1, 1) := by decide +kernel
theorem dX4_isInReach_49 : decode cX4_isInReach 49 = .ok (.ireturn, 1) := by decide +kernel
def ok_X4_isInReach_2 (K : ro_K) (v1 : Int32) (v2 : Int32) (μ : ro_Mem) : (Unit ⊕ Unit) → Prop := Sum.elim (fun e => ro_X K 40 [] [] μ) (fun e => ro_X K 48 [] [] μ)
def fb_X4_isInReach_2 (v1 : Int32) (v2 : Int32) (μ : ro_Mem) (rec : Int32 → Option (Unit ⊕ Unit)) (v3 : Int32) : Option (Unit ⊕ Unit) :=
  if (μ 76 2) ≤ v3 then
  (some (.inr ()))
  else
  (if ro_in v3 40 then
  (if (μ 78 v3.toNatClampNeg) ≤ 0 then
  (rec (v3 + 1))
  else
  ((fn_X10_heaviest (77 + 2 + 3 * v3.toNatClampNeg) 0 v1 v2 μ).bind fun q4 =>
  if (μ 78 v3.toNatClampNeg) ≤ q4 then
  (rec (v3 + 1))
  else
  (some (.inl ())))) else none)
theorem bb_X4_isInReach_2 {K : ro_K} (hK : ro_C K RX4 cX4_isInReach 4 1) (hR : ro_R K (some .boolean)) {v1 : Int32} {v2 : Int32}  {μ : ro_Mem} {rec : Int32 → Option (Unit ⊕ Unit)} {v3 : Int32} {q : (Unit ⊕ Unit)} (hrec : ∀ (s : Int32) (q : (Unit ⊕ Unit)), rec s = some q → ok_X4_isInReach_2 K v1 v2 μ q → ro_X K 2 [(0, .ref (ro_ad (kG K) 76)), (1, .int v1), (2, .int v2), (3, .int s)] [] μ) (hf : fb_X4_isInReach_2 v1 v2 μ rec v3 = some q) (hq : ok_X4_isInReach_2 K v1 v2 μ q) : ro_X K 2 [(0, .ref (ro_ad (kG K) 76)), (1, .int v1), (2, .int v2), (3, .int v3)] [] μ := by
  unfold fb_X4_isInReach_2 at hf
  refine ro_iload_n hK 3 rfl dX4_isInReach_2 rfl ?_
  refine ro_aload_n hK 0 rfl dX4_isInReach_3 rfl ?_
  refine ro_geti hK fl_X4_24 sh_76 dX4_isInReach_4 ?_
  refine ro_icmp_ge hK 48 dX4_isInReach_7 (by decide) (fun c1 => ?_) (fun c1 => ?_)
  · have hf := ro_it hf c1
    refine ro_sub (L' := []) [] rfl ?_
    obtain rfl := Option.some.inj hf
    exact hq
  · have hf := ro_ie hf c1
    refine ro_aload_n hK 0 rfl dX4_isInReach_10 rfl ?_
    refine ro_getr hK fl_X4_17 sh_76 dX4_isInReach_11 ?_
    refine ro_iload_n hK 3 rfl dX4_isInReach_14 rfl ?_
    obtain ⟨g2, hf⟩ := ro_gd hf
    refine ro_iald hK sh_78 g2 dX4_isInReach_15 ?_
    refine ro_if_le hK 42 dX4_isInReach_16 (by decide) (fun c3 => ?_) (fun c3 => ?_)
    · have hf := ro_it hf c3
      refine ro_iinc (v := v3 + 1) (L' := [(3, .int (v3 + 1)), (0, .ref (ro_ad (kG K) 76)), (1, .int v1), (2, .int v2)]) hK 3 rfl dX4_isInReach_42 rfl (by decide) rfl ?_
      refine ro_goto hK 2 dX4_isInReach_45 (by decide) ?_
      refine ro_sub (L' := [(0, .ref (ro_ad (kG K) 76)), (1, .int v1), (2, .int v2), (3, .int (v3 + 1))]) [1, 2, 3, 0] rfl ?_
      exact hrec (v3 + 1) _ hf hq
    · have hf := ro_ie hf c3
      refine ro_aload_n hK 0 rfl dX4_isInReach_19 rfl ?_
      refine ro_getr hK fl_X4_11 sh_76 dX4_isInReach_20 ?_
      refine ro_iload_n hK 3 rfl dX4_isInReach_23 rfl ?_
      refine ro_aald hK sh_77 g2 dX4_isInReach_24 ?_
      refine ro_iconst (v := 0) hK dX4_isInReach_25 (by decide) ?_
      refine ro_iload_n hK 1 rfl dX4_isInReach_26 rfl ?_
      refine ro_iload_n hK 2 rfl dX4_isInReach_27 rfl ?_
      obtain ⟨q4, e5, hf⟩ := ro_bd hf
      refine ro_callvi hK [.int 0, .int v1, .int v2] ml_X4_51 mv_X10_heaviest (mt_X10_heaviest (kl K) (kG K) (sh_rows g2.2) e5) (sh_rows g2.2) ⟨_, rfl, rfl⟩ (by decide) rfl rfl (Nat.le_of_ble_eq_true rfl) dX4_isInReach_28 ?_
      refine ro_aload_n hK 0 rfl dX4_isInReach_31 rfl ?_
      refine ro_getr hK fl_X4_17 sh_76 dX4_isInReach_32 ?_
      refine ro_iload_n hK 3 rfl dX4_isInReach_35 rfl ?_
      refine ro_iald hK sh_78 g2 dX4_isInReach_36 ?_
      refine ro_icmp_ge hK 42 dX4_isInReach_37 (by decide) (fun c6 => ?_) (fun c6 => ?_)
      · have hf := ro_it hf c6
        refine ro_iinc (v := v3 + 1) (L' := [(3, .int (v3 + 1)), (0, .ref (ro_ad (kG K) 76)), (1, .int v1), (2, .int v2)]) hK 3 rfl dX4_isInReach_42 rfl (by decide) rfl ?_
        refine ro_goto hK 2 dX4_isInReach_45 (by decide) ?_
        refine ro_sub (L' := [(0, .ref (ro_ad (kG K) 76)), (1, .int v1), (2, .int v2), (3, .int (v3 + 1))]) [1, 2, 3, 0] rfl ?_
        exact hrec (v3 + 1) _ hf hq
      · have hf := ro_ie hf c6
        refine ro_sub (L' := []) [] rfl ?_
        obtain rfl := Option.some.inj hf
        exact hq
def fl_X4_isInReach_2 (v1 : Int32) (v2 : Int32) (μ : ro_Mem) : Int32 → Option (Unit ⊕ Unit) :=
  ro_loop (fun rec s => fb_X4_isInReach_2 v1 v2 μ rec s) ro_FU
theorem lp_X4_isInReach_2 {K : ro_K} (hK : ro_C K RX4 cX4_isInReach 4 1) (hR : ro_R K (some .boolean)) {v1 : Int32} {v2 : Int32}  {μ : ro_Mem} {s : Int32} {q : (Unit ⊕ Unit)} (hf : fl_X4_isInReach_2 v1 v2 μ s = some q) (hq : ok_X4_isInReach_2 K v1 v2 μ q) : ro_X K 2 [(0, .ref (ro_ad (kG K) 76)), (1, .int v1), (2, .int v2), (3, .int s)] [] μ :=
  ro_loopX (b := fun rec s => fb_X4_isInReach_2 v1 v2 μ rec s) (X := fun s => ro_X K 2 [(0, .ref (ro_ad (kG K) 76)), (1, .int v1), (2, .int v2), (3, .int s)] [] μ) (OK := ok_X4_isInReach_2 K v1 v2 μ) (fun rec s q hrec hb ho => bb_X4_isInReach_2 hK hR  hrec hb ho) ro_FU s q hf hq
def fn_X4_isInReach (v1 : Int32) (v2 : Int32) (μ : ro_Mem) : Option Int32 :=
  (fl_X4_isInReach_2 v1 v2 μ 0).bind fun q7 =>
  q7.elim (fun e9 => some 0) (fun e10 => some 1)
theorem be_X4_isInReach {K : ro_K} (hK : ro_C K RX4 cX4_isInReach 4 1) (hR : ro_R K (some .boolean)) {v1 : Int32} {v2 : Int32}  {μ : ro_Mem} {out : Int32} (hf : fn_X4_isInReach v1 v2 μ = some out) (hq : kQ K (some (.int out)) μ) : ro_X K 0 [(0, .ref (ro_ad (kG K) 76)), (1, .int v1), (2, .int v2)] [] μ := by
  unfold fn_X4_isInReach at hf
  refine ro_iconst (v := 0) hK dX4_isInReach_0 (by decide) ?_
  refine ro_istore_n (L' := [(3, .int 0), (0, .ref (ro_ad (kG K) 76)), (1, .int v1), (2, .int v2)]) hK dX4_isInReach_1 rfl (by decide) rfl ?_
  obtain ⟨q7, e8, hf⟩ := ro_bd hf
  refine ro_sub (L' := [(0, .ref (ro_ad (kG K) 76)), (1, .int v1), (2, .int v2), (3, .int 0)]) [1, 2, 3, 0] rfl ?_
  refine lp_X4_isInReach_2 hK hR  e8 ?_
  rcases q7 with e9 | e10
  · have hf := ro_el hf
    show ro_X K 40 [] [] μ
    refine ro_iconst (v := 0) hK dX4_isInReach_40 (by decide) ?_
    obtain rfl := Option.some.inj hf
    exact ro_zret hK hR dX4_isInReach_41 (by decide) hq
  · have hf := ro_er hf
    show ro_X K 48 [] [] μ
    refine ro_iconst (v := 1) hK dX4_isInReach_48 (by decide) ?_
    obtain rfl := Option.some.inj hf
    exact ro_zret hK hR dX4_isInReach_49 (by decide) hq
theorem mt_X4_isInReach (l : Launch) (G : ro_G) {v1 : Int32} {v2 : Int32}  {μ : ro_Mem} {out : Int32} (hf : fn_X4_isInReach v1 v2 μ = some out) : ro_MX l G yX4_isInReach cX4_isInReach 4 (some .boolean) 1 [.ref (ro_ad G 76), .int v1, .int v2] μ (some (.int out)) μ := by
  refine ro_MX.of (by decide +kernel) (Nat.le_of_ble_eq_true rfl) (fun K hG hl hq hK hR => ?_)
  subst hG
  exact be_X4_isInReach hK hR  hf hq
